theorem q_10_15 : Cond.methodLink RL 150 yX6_carryOut ∈ wsL_law := seg_10 _ (List.mem_of_getElem? (i := 15) rfl)
theorem q_10_16 : Cond.instanceMethod yX6_carryOut ∈ wsL_law := seg_10 _ (List.mem_of_getElem? (i := 16) rfl)
theorem q_10_17 : Cond.selects RX6 yX6_carryOut yX6_carryOut ∈ wsL_law := seg_10 _ (List.mem_of_getElem? (i := 17) rfl)
theorem q_10_18 : Cond.code yX6_carryOut cX6_carryOut 3 (some .int) ∈ wsL_law := seg_10 _ (List.mem_of_getElem? (i := 18) rfl)
theorem q_16_19 : Cond.methodLink RL 153 yL_refused ∈ wsL_law := seg_16 _ (List.mem_of_getElem? (i := 19) rfl)
theorem q_16_20 : Cond.static yL_refused ∈ wsL_law := seg_16 _ (List.mem_of_getElem? (i := 20) rfl)
theorem q_16_21 : Cond.code yL_refused cL_refused 6 (some .boolean) ∈ wsL_law := seg_16 _ (List.mem_of_getElem? (i := 21) rfl)
theorem q_23_12 : Cond.methodLink RL 157 yL_cell ∈ wsL_law := seg_23 _ (List.mem_of_getElem? (i := 12) rfl)
theorem q_23_13 : Cond.static yL_cell ∈ wsL_law := seg_23 _ (List.mem_of_getElem? (i := 13) rfl)
theorem q_23_14 : Cond.code yL_cell cL_cell 2 (some .int) ∈ wsL_law := seg_23 _ (List.mem_of_getElem? (i := 14) rfl)
theorem q_23_15 : Cond.constant RL 7 (1779033703) ∈ wsL_law := seg_23 _ (List.mem_of_getElem? (i := 15) rfl)
theorem q_23_16 : Cond.methodLink RL 161 yL_low ∈ wsL_law := seg_23 _ (List.mem_of_getElem? (i := 16) rfl)
theorem q_23_17 : Cond.static yL_low ∈ wsL_law := seg_23 _ (List.mem_of_getElem? (i := 17) rfl)
theorem q_23_18 : Cond.code yL_low cL_low 2 (some .int) ∈ wsL_law := seg_23 _ (List.mem_of_getElem? (i := 18) rfl)
theorem q_24_0 : Cond.methodLink RL 164 yL_areHeld ∈ wsL_law := seg_24 _ (List.mem_of_getElem? (i := 0) rfl)
theorem q_24_1 : Cond.static yL_areHeld ∈ wsL_law := seg_24 _ (List.mem_of_getElem? (i := 1) rfl)
theorem q_24_2 : Cond.code yL_areHeld cL_areHeld 16 (some .boolean) ∈ wsL_law := seg_24 _ (List.mem_of_getElem? (i := 2) rfl)
theorem q_24_3 : Cond.methodLink RL 167 yL_isPath ∈ wsL_law := seg_24 _ (List.mem_of_getElem? (i := 3) rfl)
theorem q_24_4 : Cond.static yL_isPath ∈ wsL_law := seg_24 _ (List.mem_of_getElem? (i := 4) rfl)
theorem q_24_5 : Cond.code yL_isPath cL_isPath 9 (some .boolean) ∈ wsL_law := seg_24 _ (List.mem_of_getElem? (i := 5) rfl)
theorem q_24_6 : Cond.methodLink RL 171 yL_isDense ∈ wsL_law := seg_24 _ (List.mem_of_getElem? (i := 6) rfl)
theorem q_24_7 : Cond.static yL_isDense ∈ wsL_law := seg_24 _ (List.mem_of_getElem? (i := 7) rfl)
theorem q_24_8 : Cond.code yL_isDense cL_isDense 8 (some .boolean) ∈ wsL_law := seg_24 _ (List.mem_of_getElem? (i := 8) rfl)
theorem q_24_22 : Cond.methodLink RL 175 yL_isAhead ∈ wsL_law := seg_24 _ (List.mem_of_getElem? (i := 22) rfl)
theorem q_24_23 : Cond.static yL_isAhead ∈ wsL_law := seg_24 _ (List.mem_of_getElem? (i := 23) rfl)
theorem q_25_0 : Cond.code yL_isAhead cL_isAhead 14 (some .boolean) ∈ wsL_law := seg_25 _ (List.mem_of_getElem? (i := 0) rfl)
theorem cal_L_areHeld : CalS yL_areHeld cL_areHeld 16 (some .boolean) 1 := ⟨q_24_2, q_24_1, q_4_22, by decide +kernel⟩
theorem cal_L_cell : CalS yL_cell cL_cell 2 (some .int) 2 := ⟨q_23_14, q_23_13, q_4_22, by decide +kernel⟩
theorem cal_L_isAhead : CalS yL_isAhead cL_isAhead 14 (some .boolean) 3 := ⟨q_25_0, q_24_23, q_4_22, by decide +kernel⟩
theorem cal_L_isDense : CalS yL_isDense cL_isDense 8 (some .boolean) 2 := ⟨q_24_8, q_24_7, q_4_22, by decide +kernel⟩
theorem cal_L_isPath : CalS yL_isPath cL_isPath 9 (some .boolean) 3 := ⟨q_24_5, q_24_4, q_4_22, by decide +kernel⟩
theorem cal_L_low : CalS yL_low cL_low 2 (some .int) 2 := ⟨q_23_18, q_23_17, q_4_22, by decide +kernel⟩
theorem cal_L_refused : CalS yL_refused cL_refused 6 (some .boolean) 1 := ⟨q_16_21, q_16_20, q_4_22, by decide +kernel⟩
theorem cal_X6_carryOut : Cal yX6_carryOut RX6 cX6_carryOut 3 (some .int) 0 := ⟨q_10_18, q_10_16, q_10_17, q_1_2, by decide +kernel⟩
/-! ===== the law: its script, its own array ===== -/
def isLaw (G : Lay) : Prop := lk G = kCt () ∧ ll G = lCt () ∧ gN G = 108
def isLaw2 (G : Lay) : Prop := lk G = kCt () ∧ ll G = lCt () ∧ gN G = 109
abbrev Gd (D : va_G) (cI cG cL : ClassId) (a : Nat → Nat) : Lay := (D, 109, a, kCt (), lCt (), cI, cG, cL)
abbrev upG (G : Lay) (a : Nat) : Lay := (lD G, 109, fun k => if k = 108 then a else la G k, lk G, ll G, lcI G, lcG G, lcL G)
abbrev lowG (G : Lay) : Lay := (lD G, 108, la G, lk G, ll G, lcI G, lcG G, lcL G)
set_option maxHeartbeats 4000000 in
set_option maxRecDepth 100000 in
theorem isEH_law {G : Lay} (h : isLaw G) : isEH G 107 := by
  obtain ⟨D, n, a, k, l, c1, c2, c3⟩ := G
  obtain ⟨h1, h2, h3⟩ := h
  have h1 : k = kCt () := h1
  have h2 : l = lCt () := h2
  have h3 : n = 108 := h3
  subst h1
  subst h2
  subst h3
  exact isEHc D c1 c2 c3 a
set_option maxHeartbeats 4000000 in
set_option maxRecDepth 100000 in
theorem isRow_m {G G' : Lay} (f : ∀ k c, Ob G k c → Ob G' k c) {k : Nat} (h : isRow G k) : isRow G' k := ⟨f _ _ h.1, f _ _ h.2⟩
set_option maxHeartbeats 4000000 in
set_option maxRecDepth 100000 in
theorem isGraph_m {G G' : Lay} (f : ∀ k c, Ob G k c → Ob G' k c) {k : Nat} (h : isGraph G k) : isGraph G' k := ⟨f _ _ h.1, isRow_m f h.2.1, isRow_m f h.2.2.1, isRow_m f h.2.2.2.1, isRow_m f h.2.2.2.2.1, isRow_m f h.2.2.2.2.2.1, isRow_m f h.2.2.2.2.2.2.1, isRow_m f h.2.2.2.2.2.2.2⟩
set_option maxHeartbeats 4000000 in
set_option maxRecDepth 100000 in
theorem isEH_m {G G' : Lay} (f : ∀ k c, Ob G k c → Ob G' k c) {k : Nat} (h : isEH G k) : isEH G' k := by
  obtain ⟨h1, h2, h3, ⟨a1, a2, a3, a4⟩, ⟨b1, b2, b3, b4⟩, ⟨c1, c2⟩, d1, d2, d3⟩ := h
  exact ⟨f _ _ h1, isGraph_m f h2, isGraph_m f h3, ⟨f _ _ a1, isRow_m f a2, isRow_m f a3, isRow_m f a4⟩, ⟨f _ _ b1, f _ _ b2, f _ _ b3, isRow_m f b4⟩, ⟨f _ _ c1, isRow_m f c2⟩, f _ _ d1, f _ _ d2, fun i hi => isGraph_m f (d3 i hi)⟩
set_option maxHeartbeats 4000000 in
set_option maxRecDepth 100000 in
theorem isLaw_low {G : Lay} (h : isLaw2 G) : isLaw (lowG G) := ⟨h.1, h.2.1, rfl⟩
set_option maxHeartbeats 4000000 in
set_option maxRecDepth 100000 in
theorem isLaw_up {G : Lay} (h : isLaw G) (a : Nat) : isLaw2 (upG G a) := ⟨h.1, h.2.1, rfl⟩
set_option maxHeartbeats 4000000 in
set_option maxRecDepth 100000 in
theorem isEH_law2 {G : Lay} (h : isLaw2 G) : isEH G 107 := isEH_m (G := lowG G) (G' := G) (fun k c (o : Ob (lowG G) k c) => (⟨by have h1 : k < 108 := o.1; have h2 := h.2.2; omega, o.2⟩ : Ob G k c)) (isEH_law (isLaw_low h))
set_option maxHeartbeats 4000000 in
set_option maxRecDepth 100000 in
theorem ob_law2 {G : Lay} (h : isLaw2 G) : Ob G 108 8 := ⟨by rw [h.2.2]; decide, by rw [h.1]; rfl⟩
set_option maxHeartbeats 4000000 in
set_option maxRecDepth 100000 in
theorem kC_in : ∀ k, k < 108 → (kCt () k = 0 → k + 13 < 108) ∧ (kCt () k = 1 → k + 1 < 108) ∧ (kCt () k = 2 → k + 1 < 108) ∧ (kCt () k = 3 → k + 3 < 108) ∧ (kCt () k = 4 → k + 1 < 108) ∧ (kCt () k = 5 → k + 5 < 108) ∧ kCt () k ≠ 7 ∧ kCt () k ≤ 9 := by decide +kernel
def z12 (σ : cS) : cS := fun a b => if a = 108 then 0 else σ a b
set_option maxHeartbeats 4000000 in
set_option maxRecDepth 100000 in
theorem z12_o {σ : cS} {k : Nat} (h : k ≠ 108) : z12 σ k = σ k := by
  funext b
  exact if_neg h
set_option maxHeartbeats 4000000 in
set_option maxRecDepth 100000 in
theorem ce_up {G : Lay} (hl : isLaw G) (a : Nat) (h : Int64) (σ : cS) {k : Nat} (hk : k < 108) : ce (upG G a) h (z12 σ) k = ce G h σ k := by
  have la' : ∀ j, j < 108 → la (upG G a) j = la G j := fun j hj => if_neg (by omega)
  have eσ : z12 σ k = σ k := z12_o (by omega)
  have e1 : lk G = kCt () := hl.1
  have e2 : lk (upG G a) = kCt () := hl.1
  obtain ⟨k0, k1, k2, k3, k4, k5, k7, k9⟩ := kC_in k hk
  unfold ce
  first | rw [e1, e2, eσ] | rw [e1, eσ]
  rcases (show kCt () k = 0 ∨ kCt () k = 1 ∨ kCt () k = 2 ∨ kCt () k = 3 ∨ kCt () k = 4 ∨ kCt () k = 5 ∨ kCt () k = 6 ∨ kCt () k = 8 ∨ kCt () k = 9 by omega) with e | e | e | e | e | e | e | e | e
  · have z := k0 e
    rw [e]
    simp only [la' (k + 1) (by omega), la' (k + 3) (by omega), la' (k + 5) (by omega), la' (k + 7) (by omega), la' (k + 9) (by omega), la' (k + 11) (by omega), la' (k + 13) (by omega)]
  · have z := k1 e
    rw [e]
    simp only [la' (k + 1) (by omega)]
  · have z := k2 e
    rw [e]
    simp only [la' (k + 1) (by omega)]
  · have z := k3 e
    rw [e]
    simp only [la' (k + 1) (by omega), la' (k + 2) (by omega), la' (k + 3) (by omega)]
  · have z := k4 e
    rw [e]
    simp only [la' (k + 1) (by omega)]
  · have z := k5 e
    rw [e]
    simp only [la' (k + 1) (by omega), la' (k + 3) (by omega), la' (k + 5) (by omega)]
  · rw [e]
    simp only [la' 0 (by omega), la' 15 (by omega), la' 90 (by omega), la' 97 (by omega), la' 102 (by omega), la' 105 (by omega)]
  · rw [e]
    rfl
  · rw [e]
    have e9 : (fun i => some (la (upG G a) (30 + 15 * i))) = fun i => some (la G (30 + 15 * i)) := by
      funext i
      exact congrArg some (if_neg (by omega))
    show (Sum.inl (lcG G, 4, Sum.inr (Sum.inr (Sum.inr (Sum.inr (fun i => some (la (upG G a) (30 + 15 * i)))))) ) : va_E) = _
    rw [e9]
    rfl
abbrev Scr (K : MCx) (Z : State → Prop) (b Ln : Nat) (xs : Nat → Int32) : Prop := va_X b Ln xs (ks K) (ks K).heap ∧ b < (ks K).heap.size ∧ (∀ q, kA K q ↔ (ks K).heap.size ≤ q) ∧ ∀ (H : Heap) (locs : List Loc) (ls : Array Slot) (cn sn : Nat), va_S (kA K) (ks K).heap H locs → cn ≤ (kR K).cells → sn ≤ (kR K).slots → W (kp K) (kl K) (ke K) (kR K) (ks K) (km K) (ka K) (kb K) (kme K) (kc K) H locs cn sn Z (F0 (km K) 924 ls [.int 1])
abbrev YL (K : MCx) (G : Lay) (Z : State → Prop) (b Ln : Nat) (xs : Nat → Int32) : Prop := isLaw G ∧ Scr K Z b Ln xs
abbrev YL2 (K : MCx) (G : Lay) (Z : State → Prop) (b Ln : Nat) (xs : Nat → Int32) : Prop := isLaw2 G ∧ Scr K Z b Ln xs
def PL (K : MCx) : (Int32 × cS) × Nat → Prop := fun r => PN K r ∧ r.1.1 = 1
def QL (Z : State → Prop) : (Int32 × cS) × Nat → State → Prop := fun _ => Z
set_option maxHeartbeats 4000000 in
set_option maxRecDepth 100000 in
theorem pq_L (Z : State → Prop) : PQok (fun K => PL K) (fun _ => QL Z) := ⟨fun _ _ h => h.1, fun K n b m h => ⟨⟨⟨by have h1 : ku K + (n + m) ≤ (kR K).cells := h.1.1; show ku K + n + m ≤ (kR K).cells; omega, by have h1 : 12 * (ku K + (n + m)) ≤ (kR K).slots := h.1.2.1; show 12 * (ku K + n + m) ≤ (kR K).slots; omega, h.1.2.2⟩, h.2⟩, fun _ q => q⟩⟩
set_option maxHeartbeats 4000000 in
set_option maxRecDepth 100000 in
theorem z_lawret {K : MCx} {G : Lay} {cc : ByteArray} {nL : Nat} {rf rl : Nat} {Z : State → Prop} {b Ln : Nat} {xs : Nat → Int32} {lv : List (Nat × Value)} {h : Int64} {σ : cS} (X : Cx K G RL cc nL (some .boolean) rf rl) (Y : YL K G Z b Ln xs) {v : Int32} : Sm K G (PL K) (QL Z) nL 924 lv [.int v] h σ (grd (isb v) (some ((v, σ), 0))) := by
  refine z_grd (fun q => ?_)
  intro r hr hp H locs ls hP hS hl
  cases hr
  have e : v = 1 := hp.2
  subst e
  exact Y.2.2.2.2 H locs ls _ _ hS X.2.2.2.2.2.2.2.2.2.2.2.2.2.1 X.2.2.2.2.2.2.2.2.2.2.2.2.2.2
set_option maxHeartbeats 4000000 in
set_option maxRecDepth 100000 in
theorem z_drop {K : MCx} {G : Lay} {own : String} {cc : ByteArray} {nL : Nat} {ret : Option FieldType} {rf rl : Nat} {ρ : Type} {P : ρ → Prop} {Q : ρ → State → Prop} {pc : Nat} {lv : List (Nat × Value)} {st : List Value} {h : Int64} {σ : cS} {E : Option ρ} {Z : State → Prop} {b Ln : Nat} {xs : Nat → Int32} (X : Cx K G own cc nL ret rf rl) (Y : YL2 K G Z b Ln xs) (k : Cx K (lowG G) own cc nL ret rf rl → YL K (lowG G) Z b Ln xs → Sm K (lowG G) P Q nL pc lv st h σ E) : Sm K G P Q nL pc lv st h σ E := by
  intro r hr hp H locs ls hP hS hl
  have hn : gN G = 109 := Y.1.2.2
  have hi : Inj (lowG G) := fun i j hi hj e => X.2.2.2.2.2.2.2.1 i j (by have : i < 108 := hi; omega) (by have : j < 108 := hj; omega) e
  have hA : ∀ q, FA (lowG G) q → kA K q := fun q ⟨k, hk, e⟩ => X.2.2.2.2.2.2.2.2.2.2.2.2.1 q ⟨k, by have : k < 108 := hk; omega, e⟩
  refine k ⟨X.1, X.2.1, X.2.2.1, X.2.2.2.1, X.2.2.2.2.1, X.2.2.2.2.2.1, X.2.2.2.2.2.2.1, hi, X.2.2.2.2.2.2.2.2.1, X.2.2.2.2.2.2.2.2.2.1, X.2.2.2.2.2.2.2.2.2.2.1, X.2.2.2.2.2.2.2.2.2.2.2.1, hA, X.2.2.2.2.2.2.2.2.2.2.2.2.2⟩ ⟨isLaw_low Y.1, Y.2⟩ r hr hp H locs ls (fun k q hq => ?_) hS hl
  obtain ⟨z, rfl⟩ := fw_of hq
  have z : k < 108 := z
  exact hP k (la G k, ce G h σ k) (fw_get (by omega))
set_option maxHeartbeats 4000000 in
set_option maxRecDepth 100000 in
theorem z_new12 {K : MCx} {G : Lay} {own : String} {cc : ByteArray} {nL : Nat} {ret : Option FieldType} {rf rl : Nat} {β : Type} {P : MCx → β × Nat → Prop} {Q : MCx → β × Nat → State → Prop} (hpq : PQok P Q) {pc : Nat} {lv : List (Nat × Value)} {st : List Value} {h : Int64} {σ : cS} {Z : State → Prop} {b Ln : Nat} {xs : Nat → Int32} (X : Cx K G own cc nL ret rf rl) (Y : YL K G Z b Ln xs) (harr : Cond.arrayClass .int ∈ wsL_law) (hdg : decode cc pc = .ok (.newarray .int, 2)) {f : cS → Option (β × Nat)} (k : ∀ (a : Nat) (σ1 : cS), Cx (kad K 1) (upG G a) own cc nL ret rf rl → YL2 (kad K 1) (upG G a) Z b Ln xs → Sm (kad K 1) (upG G a) (P (kad K 1)) (Q (kad K 1)) nL (pc + 2) lv (.ref a :: st) h σ1 (f σ1)) : Sm K G (P K) (Q K) nL pc lv (.int 12 :: st) h σ (wbn (some (z12 σ, 1)) f) := by
  intro r hr hp H locs ls hP hS hl
  obtain ⟨σ1, n1, b1, m, h1, h2, rfl⟩ := wbn_some hr
  cases h1
  obtain ⟨p1, p2, hsx, hfl⟩ := hpq.1 K _ hp
  obtain ⟨hp', hq'⟩ := hpq.2 K 1 b1 m hp
  have p1' : ku K + (1 + m) ≤ (kR K).cells := p1
  have p2' : 12 * (ku K + (1 + m)) ≤ (kR K).slots := p2
  have hK := X.2.2.2.2.2.1
  have hn : gN G = 108 := Y.1.2.2
  refine va_newa (atype := .int) (ty := .int) (a0 := (12, .inl (fun _ => 0))) X.1 X.2.1 (X.2.2.2.2.1 _ harr) rfl hK hP (fw_DA X.2.2.2.2.2.2.2.1 X.2.2.2.2.2.2.2.2.2.2.2.2.1 _) hS (fun q hq => (Y.2.2.2.1 q).mpr hq) (fun _ => rfl) (by decide) rfl (by decide) (by omega) (by omega) hdg (fun q cA H1 hK1 hP1 hD1 hS1 => ?_)
  have e1 := (hK1.2 2 _ rfl).2
  have e2 := (hK.2 0 _ rfl).2
  have e3 : cA = lcI G := Option.some.inj (e1.symm.trans e2)
  subst e3
  have len : (wd G h σ).length = 108 := by rw [← hn]; simp [fw]
  have hq0 : ∀ k, k < 108 → (wd G h σ ++ [(q, (.inl (lcI G, (12, .inl (fun _ => 0))) : va_E))])[k]? = some (la G k, ce G h σ k) := fun k hk => by
    rw [List.getElem?_append_left (by rw [len]; exact hk), fw_get (by omega)]
  have hql : (wd G h σ ++ [(q, (.inl (lcI G, (12, .inl (fun _ => 0))) : va_E))])[108]? = some (q, .inl (lcI G, (12, .inl (fun _ => 0)))) := by
    rw [List.getElem?_append_right (by rw [len]; exact Nat.le_refl _), len]
    rfl
  have hi : Inj (upG G q) := fun i j hi hj e => by
    have hi : i < 109 := hi
    have hj : j < 109 := hj
    have e : (if i = 108 then q else la G i) = (if j = 108 then q else la G j) := e
    by_cases z1 : i = 108
    · by_cases z2 : j = 108
      · omega
      · rw [if_pos z1, if_neg z2] at e
        have := hD1.1 108 j _ _ hql (hq0 j (by omega)) e
        omega
    · by_cases z2 : j = 108
      · rw [if_neg z1, if_pos z2] at e
        have := hD1.1 i 108 _ _ (hq0 i (by omega)) hql e
        omega
      · rw [if_neg z1, if_neg z2] at e
        exact X.2.2.2.2.2.2.2.1 i j (by omega) (by omega) e
  have hA : ∀ z, FA (upG G q) z → kA K z := fun z ⟨k, hk, e⟩ => by
    have hk : k < 109 := hk
    have e : z = (if k = 108 then q else la G k) := e
    by_cases z1 : k = 108
    · rw [if_pos z1] at e
      rw [e]
      exact hD1.2 108 _ hql
    · rw [if_neg z1] at e
      exact X.2.2.2.2.2.2.2.2.2.2.2.2.1 z ⟨k, by omega, e⟩
  have X1 : Cx (kad K 1) (upG G q) own cc nL ret rf rl := ⟨X.1, X.2.1, X.2.2.1, X.2.2.2.1, X.2.2.2.2.1, hK, X.2.2.2.2.2.2.1, hi, X.2.2.2.2.2.2.2.2.1, X.2.2.2.2.2.2.2.2.2.1, X.2.2.2.2.2.2.2.2.2.2.1, X.2.2.2.2.2.2.2.2.2.2.2.1, hA, by show ku K + 1 ≤ (kR K).cells; omega, by show 12 * (ku K + 1) ≤ (kR K).slots; omega⟩
  have w0 := k q (z12 σ) X1 ⟨isLaw_up Y.1 q, Y.2⟩ (b1, m) h2 hp' H1 locs ls (fun k x hx => by
    obtain ⟨z, rfl⟩ := fw_of hx
    have z : k < 109 := z
    by_cases z1 : k = 108
    · subst z1
      have e8 : ce (upG G q) h (z12 σ) 108 = .inl (lcI G, 12, .inl (fun _ => 0)) := by
        rw [ce8 (ob_law2 (isLaw_up Y.1 q))]
        have e9 : ll (upG G q) 108 = 12 := by
          show ll G 108 = 12
          rw [Y.1.2.1]
          rfl
        have e10 : z12 σ 108 = fun _ => 0 := by funext j; rfl
        rw [e9, e10]
      rw [e8]
      exact hP1 108 _ hql
    · rw [ce_up Y.1 q h σ (by omega)]
      have e9 : la (upG G q) k = la G k := if_neg z1
      rw [e9]
      exact hP1 k _ (hq0 k (by omega))) hS1 hl
  have w1 := W.widen (cells := ku K + 1) (slots := 12 * ku K + 12) (Nat.le_refl _) (by show 12 * ku K + 12 ≤ 12 * (ku K + 1); omega) w0
  intro T hT XX
  obtain ⟨t2, a1, b2⟩ := w1 T hT XX
  exact ⟨t2, a1, hq' _ b2⟩
def fL_cell (xs : Nat → Int32) (Ln : Nat) (t : Int32) : Option Int32 := if Int32.ofNat Ln ≤ t then some ((1779033703 : Int32) * (t + 1)) else grd (inb t Ln) (some (xs t.toNatClampNeg))
set_option maxHeartbeats 4000000 in
set_option maxRecDepth 100000 in
theorem ctL_cell (l : Launch) (b Ln : Nat) (xs : Nat → Int32) (t v : Int32) (hv : fL_cell xs Ln t = some v) : Met l yL_cell (mws yL_cell cL_cell 2 (some .int)) (rmP 0 0) (va_Pc [.ref b, .int t] (fun U => va_X b Ln xs U U.heap ∧ b < U.heap.size)) (fun _ st oc t' => oc = .returned (some (.int v)) ∧ va_F (fun _ => False) st t') 0 0 (fun _ => False) := by
  refine Met.ofW (cc := cL_cell) (maxL := 2) (ret := some .int) (by decide) rfl ?_
  intro p e s m args below meth c s₁ B hml hq
  obtain ⟨rfl, hX, hb⟩ := hq
  have hts := atoms_spec (ws := mws yL_cell cL_cell 2 (some .int)) B.pre
  have hl := lv_entry [.ref b, .int t] (n := 2) (Nat.le_of_ble_eq_true rfl)
  rw [lg_entry_eq]
  generalize hls : (lg_sl ([.ref b, .int t]) ++ List.replicate (2 - (lg_sl ([.ref b, .int t])).length) Slot.unset).toArray = ls at hl ⊢
  have hl : lv_has ls 2 [(0, .ref b), (1, .int t)] := hl
  have hS : va_S (fun _ => False) s.heap s.heap [] := va_S.rf
  have hown := findClass_of_methodNamed B.named
  refine lv_iload_n B.exec B.bytes dL_cell_0 rfl (lv_at hl 1 rfl) ?_
  refine lv_aload_n B.exec B.bytes dL_cell_1 rfl (lv_at hl 0 rfl) ?_
  refine va_slen B.exec B.bytes hX hb id hS dL_cell_2 ?_
  unfold fL_cell at hv
  refine lv_icmp_ge (tgt := 12) B.exec B.bytes dL_cell_3 (by decide) (fun q => ?_) (fun q => ?_)
  · rw [if_pos q] at hv
    cases hv
    refine lv_ldc (own := RL) B.exec B.bytes hown (hts _ (List.mem_cons_of_mem _ q_23_15)) dL_cell_12 ?_
    refine lv_iload_n B.exec B.bytes dL_cell_14 rfl (lv_at hl 1 rfl) ?_
    refine lv_iconst (v := (1 : Int32)) B.exec B.bytes dL_cell_15 (by decide) ?_
    refine lv_iadd B.exec B.bytes dL_cell_16 ?_
    refine lv_imul B.exec B.bytes dL_cell_17 ?_
    exact W.iret B.exec B.bytes B.returns (fun t ht hW => ⟨rfl, hS.F ht⟩) hS.2.2 dL_cell_18 B.notSynchronized
  · rw [if_neg q] at hv
    unfold grd at hv
    split at hv
    · next hin =>
      cases hv
      refine lv_aload_n B.exec B.bytes dL_cell_6 rfl (lv_at hl 0 rfl) ?_
      refine lv_iload_n B.exec B.bytes dL_cell_7 rfl (lv_at hl 1 rfl) ?_
      refine va_sld B.exec B.bytes hX hb id hS (inb_in hin) dL_cell_8 ?_
      refine lv_goto (tgt := 18) B.exec B.bytes dL_cell_9 (by decide) ?_
      exact W.iret B.exec B.bytes B.returns (fun t ht hW => ⟨rfl, hS.F ht⟩) hS.2.2 dL_cell_18 B.notSynchronized
    · cases hv
set_option maxHeartbeats 4000000 in
set_option maxRecDepth 100000 in
theorem z_callCell {K : MCx} {G : Lay} {cc : ByteArray} {nL : Nat} {ret : Option FieldType} {rf rl : Nat} {ρ : Type} {P : ρ → Prop} {Q : ρ → State → Prop} {pc : Nat} {lv : List (Nat × Value)} {st : List Value} {h : Int64} {σ : cS} {Z : State → Prop} {b Ln : Nat} {xs : Nat → Int32} (X : Cx K G RL cc nL ret rf rl) (Y : Scr K Z b Ln xs) {t : Int32} {f : Int32 → Option ρ} {index : Nat} (hlink : Cond.methodLink RL index yL_cell ∈ wsL_law) (hy : CalS yL_cell cL_cell 2 (some .int) 2) (hR : 1 ≤ rf ∧ 21 ≤ rl) (hcat : (st.map fun v => v.category).sum ≤ 8) (hdg : decode cc pc = .ok (.invokestatic index, 3)) (k : ∀ v, Sm K G P Q nL (pc + 3) lv (.int v :: st) h σ (f v)) : Sm K G P Q nL pc lv (.int t :: .ref b :: st) h σ ((fL_cell xs Ln t).bind f) := by
  intro r hr hp H locs ls hP hS hl
  obtain ⟨v, hr1, hr2⟩ := Option.bind_eq_some_iff.mp hr
  obtain ⟨y1, y2, y3, -⟩ := Y
  have hbA : ¬ kA K b := fun q => by have := (y3 b).mp q; omega
  have hbH : H[b]? = (ks K).heap[b]? := hS.2.1 b y2 hbA
  have bl : FrameBlind (va_Pc [.ref b, .int t] (fun U => va_X b Ln xs U U.heap ∧ b < U.heap.size)) := fun a U g mk q => ⟨q.1, va_X.moved (u := U) (U := U.calling g mk a) (Vm.Alike.refl U.vm) q.2.1, q.2.2⟩
  have hrun := va_runS (cells := ku K) (slots := 12 * ku K) (R := kR K) (locs := locs) (H := H) (p := kp K) (l := kl K) (e := ke K) (below := kb K) (meth := kme K) (g := F0 (km K) pc ls (.int t :: .ref b :: st)) (As := [.ref b, .int t]) (rest := st) ⟨X.1, X.2.1, X.2.2.1, X.2.2.2.1, X.2.2.2.2.1⟩ (ctL_cell (kl K) b Ln xs t v hr1) (cal_S (fr := 0) (lo := 0) X.2.2.2.2.1 hy hlink (rm := rmP 0 0) rfl rfl (by rw [X.2.2.2.2.2.2.2.2.2.1, X.2.2.2.2.2.2.2.2.2.2.1]; exact hR)) ⟨bl, fun U hU hW => ⟨rfl, by rw [hU]; exact (va_X.moved hW.alike y1).kept hbH, by rw [hU]; exact Nat.lt_of_lt_of_le y2 hS.1⟩⟩ rfl rfl hl.1 rfl (lv_room hcat) hdg X.2.2.2.2.2.2.2.2.2.2.2.2.2
  intro T0 hT XX
  obtain ⟨v1, sa, t1, T', L, h0, X', hL, e1, e2, ⟨hv, hF⟩, stp⟩ := hrun T0 hT XX
  cases hv
  obtain ⟨k1, k2, k3⟩ := vx_keep h0 e1 hS (fun q _ (z : False) => z.elim) (fun q (z : False) => z.elim) hL hF
  obtain ⟨t2, a1, b1⟩ := k v r hr2 hp T'.heap (locs ++ L) ls (va_P_later hP (fun q hq => k2 q hq id)) k3 hl T' rfl X'
  exact ⟨t2, stp t2 a1, b1⟩
