/-! ===== the numbers told of nodes and edges hang together ===== -/
def EY {β : Type} (E : Option β) (P : β → Prop) : Prop := ∃ r, E = some r ∧ P r
theorem y_i {α γ β : Type} {x : Option (α ⊕ γ)} {f : α → Option β} {P : β → Prop} {a : α} (e : x = some (.inl a)) (h : EY (f a) P) : EY (ibn x f) P := by
  rw [e]; exact h
theorem y_b {α β : Type} {x : Option α} {f : α → Option β} {P : β → Prop} {a : α} (e : x = some a) (h : EY (f a) P) : EY (Option.bind x f) P := by
  rw [e]; exact h
theorem y_t {β : Type} {c : Prop} {dc : Decidable c} {x y : Option β} {P : β → Prop} (e : c) (h : EY x P) : EY (@ite _ c dc x y) P := by
  rw [if_pos e]; exact h
theorem y_f {β : Type} {c : Prop} {dc : Decidable c} {x y : Option β} {P : β → Prop} (e : ¬ c) (h : EY y P) : EY (@ite _ c dc x y) P := by
  rw [if_neg e]; exact h
theorem y_g {β : Type} {b : Bool} {x : Option β} {P : β → Prop} (e : b = true) (h : EY x P) : EY (grd b x) P := by
  rw [e]; exact h
theorem y_n {α β : Type} {y : α} {f : α → Option β} {P : β → Prop} (h : EY (f y) P) : EY (bnd y f) P := h
theorem y_r {β : Type} {r : β} {P : β → Prop} (h : P r) : EY (some r) P := ⟨r, rfl, h⟩
def sN (f : Nat → Nat) : Nat → Nat
  | 0 => 0
  | n + 1 => sN f n + f n
theorem sN_ext {f g : Nat → Nat} {n : Nat} (h : ∀ k, k < n → f k = g k) : sN f n = sN g n := by
  induction n with
  | zero => rfl
  | succ n ih => simp only [sN]; rw [ih (fun k hk => h k (by omega)), h n (by omega)]
theorem sN_add (f g : Nat → Nat) (n : Nat) : sN (fun v => f v + g v) n = sN f n + sN g n := by
  induction n with
  | zero => rfl
  | succ n ih => simp only [sN]; rw [ih]; omega
theorem sN_0 (n : Nat) : sN (fun _ => 0) n = 0 := by
  induction n with
  | zero => rfl
  | succ n ih => simp only [sN]; rw [ih]
theorem sN_one {g n : Nat} (h : g < n) : sN (fun v => b1 (g == v)) n = 1 := by
  have z : ∀ m, m ≤ g → sN (fun v => b1 (g == v)) m = 0 := by
    intro m
    induction m with
    | zero => intro _; rfl
    | succ m ih =>
      intro hm
      simp only [sN]
      rw [ih (by omega)]
      have e : (g == m) = false := beq_false_of_ne (by omega)
      rw [e]
      rfl
  have s : ∀ d, sN (fun v => b1 (g == v)) (g + 1 + d) = 1 := by
    intro d
    induction d with
    | zero =>
      show sN (fun v => b1 (g == v)) g + b1 (g == g) = 1
      rw [z g (Nat.le_refl _), beq_self_eq_true]
      rfl
    | succ d ih =>
      show sN (fun v => b1 (g == v)) (g + 1 + d) + b1 (g == (g + 1 + d)) = 1
      have e : (g == (g + 1 + d)) = false := beq_false_of_ne (by omega)
      rw [ih, e]
      rfl
  have := s (n - (g + 1))
  rw [show g + 1 + (n - (g + 1)) = n by omega] at this
  exact this
theorem cnt_b1 (p : Nat → Bool) (n : Nat) : cnt p (n + 1) = cnt p n + b1 (p n) := rfl
theorem sN_cnt {g : Nat → Nat} {N : Nat} : ∀ E, (∀ k, k < E → g k < N) → sN (fun v => cnt (fun k => g k == v) E) N = E := by
  intro E
  induction E with
  | zero => intro _; exact sN_0 N
  | succ E ih =>
    intro h
    have e : sN (fun v => cnt (fun k => g k == v) (E + 1)) N = sN (fun v => cnt (fun k => g k == v) E + b1 (g E == v)) N := sN_ext (fun v _ => cnt_b1 _ _)
    rw [e, sN_add, ih (fun k hk => h k (by omega)), sN_one (h E (by omega))]
theorem sN_deg {A : Nat → Nat} {B : Nat} (w : WF A B) : sN (fun v => cnt (dgP A v) (A 3)) (A 0) = 2 * A 3 := by
  have gen : ∀ E, E ≤ A 3 → sN (fun v => cnt (dgP A v) E) (A 0) = 2 * E := by
    intro E
    induction E with
    | zero => intro _; exact sN_0 _
    | succ E ih =>
      intro h
      obtain ⟨h1, h2, h3, -⟩ := w.2.2.2.2.1 E (by omega)
      have e : sN (fun v => cnt (dgP A v) (E + 1)) (A 0) = sN (fun v => cnt (dgP A v) E + (b1 (A (56 + E) == v) + b1 (A (96 + E) == v))) (A 0) := sN_ext (fun v _ => by
        rw [cnt_b1]
        unfold dgP
        by_cases q1 : A (56 + E) = v
        · have q2 : A (96 + E) ≠ v := fun q => h3 (q1.trans q.symm)
          simp [q1, q2, b1]
        · by_cases q2 : A (96 + E) = v
          · simp [q1, q2, b1]
          · simp [q1, q2, b1])
      rw [e, sN_add, sN_add, ih (by omega), sN_one h1, sN_one h2]
      omega
  exact gen (A 3) (Nat.le_refl _)
theorem sN_ld {A : Nat → Nat} {B : Nat} (w : WF A B) : sN (ld A) (A 0) = A 3 := sN_cnt (A 3) (fun k hk => hd_lt w hk)
theorem ngb_N {A : Nat → Nat} {B v : Nat} (w : WF A B) : ∀ k, k ≤ A 3 → ngb A v k < 2 ^ A 0 := by
  intro k
  induction k with
  | zero => intro _; exact Nat.two_pow_pos _
  | succ k ih =>
    intro h
    obtain ⟨h1, h2, h3, -⟩ := w.2.2.2.2.1 k (by omega)
    simp only [ngb]
    refine Nat.or_lt_two_pow (ih (by omega)) ?_
    split
    · exact Nat.pow_lt_pow_right (by omega) h2
    · split
      · exact Nat.pow_lt_pow_right (by omega) h1
      · exact Nat.two_pow_pos _
theorem cnt_hi {p : Nat → Bool} {n : Nat} : ∀ d, (∀ k, n ≤ k → k < n + d → p k = false) → cnt p (n + d) = cnt p n := by
  intro d
  induction d with
  | zero => intro _; rfl
  | succ d ih =>
    intro h
    show cnt p (n + d) + (if p (n + d) = true then 1 else 0) = _
    rw [ih (fun k h1 h2 => h k h1 (by omega)), if_neg (by rw [h (n + d) (by omega) (by omega)]; decide)]
    rfl
theorem pct_N {s n : Nat} (hs : s < 2 ^ n) (hn : n ≤ 12) : pct s = cnt (fun v => s.testBit v) n := by
  obtain ⟨d, hd⟩ : ∃ d, 12 = n + d := ⟨12 - n, by omega⟩
  unfold pct
  rw [hd]
  exact cnt_hi d (fun k h1 _ => Nat.testBit_lt_two_pow (Nat.lt_of_lt_of_le hs (Nat.pow_le_pow_right (by omega) h1)))
def mn9 (f : Nat → Nat) : Nat → Nat
  | 0 => 99
  | n + 1 => if mn9 f n ≤ f n then mn9 f n else f n
theorem mn9_le (f : Nat → Nat) : ∀ n, mn9 f n ≤ 99 := by
  intro n
  induction n with
  | zero => exact Nat.le_refl _
  | succ n ih => simp only [mn9]; split <;> omega
theorem mn9_mn {f : Nat → Nat} (h : ∀ k, f k ≤ 40) : ∀ n, 1 ≤ n → mn9 f n = mn f n := by
  intro n
  induction n with
  | zero => intro q; omega
  | succ n ih =>
    intro _
    have h0 := h n
    simp only [mn9, mn]
    by_cases e : n = 0
    · subst e
      show (if 99 ≤ f 0 then 99 else f 0) = if f 0 < 40 then f 0 else 40
      rw [if_neg (by omega)]
      by_cases q : f 0 < 40
      · rw [if_pos q]
      · rw [if_neg q]; omega
    · rw [ih (by omega)]
      by_cases q : f n < mn f n
      · rw [if_pos q, if_neg (by omega)]
      · rw [if_neg q, if_pos (by omega)]
/-- one node's edges, gone through -/
theorem h_52 {σ : cS} {A : Nat → Nat} {B u Nf : Nat} {self29 : Int32 → Int32 → Int32 → Int32 → Int32 → Int32 → Int32 → Int32 → Int32 → cS → Option (Int32 × cS)} {P : Int32 × cS → Prop} {x1 x2 x3 x4 x5 x6 x7 : Int32} (v : ST σ A B) (hB : B ≤ 1000) (hu : u < A 0) (hF : 300000 < Nf) (go : EY (fL_areHeld_197 (lCt ()) Nf 107 self29 Nf x1 x2 x3 x4 x5 x6 x7 (nI u) (nI (ld A u)) (nI (cnt (dgP A u) (A 3))) (nI (ngb A u (A 3))) (0 : Int32) (0 : Int32) σ) P) : ∀ (d i n : Nat), i + d = A 3 → d < n → EY (fL_areHeld_52 (lCt ()) Nf 107 self29 n x1 x2 x3 x4 x5 x6 x7 (nI u) (nI (cnt (fun k => hd A k == u) i)) (nI (cnt (dgP A u) i)) (nI (ngb A u i)) (nI i) σ) P := by
  obtain ⟨g, w, p, ga⟩ := ST_g v
  have w2 := w.2.1
  have w3 := w.2.2.1
  intro d
  induction d with
  | zero =>
    intro i n h1 h2
    obtain ⟨n, rfl⟩ : ∃ z, n = z + 1 := ⟨n - 1, by omega⟩
    obtain rfl : i = A 3 := by omega
    unfold fL_areHeld_52
    refine y_i (r_value v (k := 1) (by omega) (by omega)) ?_
    exact y_t ((nI_leI (by omega) (by omega)).mpr (Nat.le_refl _)) go
  | succ d ih =>
    intro i n h1 h2
    obtain ⟨n, rfl⟩ : ∃ z, n = z + 1 := ⟨n - 1, by omega⟩
    have hi : i < A 3 := by omega
    obtain ⟨w4, w5, w6, -⟩ := w.2.2.2.2.1 i hi
    have hh := hd_lt w hi
    have ed : ∀ j, j ≤ 3 → fX6_edge (lCt ()) Nf σ 107 (nI (A (16 + i))) (nI j) = some (.inl (eI A i (nI j))) := fun j hj => r_edge v (by omega) hi hj (by omega)
    have e0 := ed 0 (by omega)
    have e1 := ed 1 (by omega)
    have e2 := ed 2 (by omega)
    rw [eI_0] at e0
    rw [eI_1] at e1
    rw [eI_2] at e2
    have next := ih (i + 1) n (by omega) (by omega)
    have go182 : ∀ (y1 : Int32), y1 = nI (if A (56 + i) = u then 2 ^ A (96 + i) else if A (96 + i) = u then 2 ^ A (56 + i) else 0) → EY (fL_areHeld_182 (lCt ()) Nf 107 self29 (fL_areHeld_52 (lCt ()) Nf 107 self29 n) x1 x2 x3 x4 x5 x6 x7 (nI u) (nI (cnt (fun k => hd A k == u) (i + 1))) (nI (cnt (dgP A u) (i + 1))) (nI i) (nI (ngb A u i)) y1 σ) P := fun y1 hy => by
      unfold fL_areHeld_182
      rw [hy, nI_or, n1, nI_add]
      exact next
    have go135 : ∀ (x15 y1 : Int32), x15 = (if A (56 + i) = u then 1 else 0) → nI (cnt (dgP A u) i) + y1 = nI (cnt (dgP A u) (i + 1)) → EY (fL_areHeld_135 (lCt ()) Nf 107 self29 (fL_areHeld_52 (lCt ()) Nf 107 self29 n) x1 x2 x3 x4 x5 x6 x7 (nI u) (nI (cnt (fun k => hd A k == u) (i + 1))) (nI (ngb A u i)) (nI i) (nI (A (16 + i))) x15 (nI (cnt (dgP A u) i)) y1 σ) P := fun x15 y1 hx hy => by
      unfold fL_areHeld_135
      rw [hy, bnd_e, hx]
      by_cases q : A (56 + i) = u
      · rw [if_pos q]
        refine y_f (by decide) ?_
        refine y_i e1 (go182 _ ?_)
        rw [if_pos q]
        exact sh1 _ (by omega)
      · rw [if_neg q]
        refine y_t rfl ?_
        refine y_i e1 ?_
        by_cases q2 : A (96 + i) = u
        · refine y_t (by rw [q2]) ?_
          refine y_i e0 (go182 _ ?_)
          rw [if_neg q, if_pos q2]
          exact sh1 _ (by omega)
        · refine y_f (by rw [eq_n (by omega) (by omega)]; exact q2) ?_
          refine go182 _ ?_
          rw [if_neg q, if_neg q2]
          rfl
    have dgT : dgP A u i = true → nI (cnt (dgP A u) i) + (1 : Int32) = nI (cnt (dgP A u) (i + 1)) := fun q => by
      rw [n1, nI_add, cnt_b1, q]
      rfl
    have dgF : dgP A u i = false → nI (cnt (dgP A u) i) + (0 : Int32) = nI (cnt (dgP A u) (i + 1)) := fun q => by
      rw [n0, nI_add, cnt_b1, q]
      rfl
    have go108 : ∀ (x15 y1 : Int32), x15 = (if A (56 + i) = u then 1 else 0) → nI (cnt (fun k => hd A k == u) i) + y1 = nI (cnt (fun k => hd A k == u) (i + 1)) → EY (fL_areHeld_108 (lCt ()) Nf 107 self29 (fL_areHeld_52 (lCt ()) Nf 107 self29 n) x1 x2 x3 x4 x5 x6 x7 (nI u) (nI (cnt (dgP A u) i)) (nI (ngb A u i)) (nI i) (nI (A (16 + i))) x15 (nI (cnt (fun k => hd A k == u) i)) y1 σ) P := fun x15 y1 hx hy => by
      unfold fL_areHeld_108
      rw [hy, bnd_e]
      by_cases q : A (56 + i) = u
      · refine y_f (by rw [hx, if_pos q]; decide) ?_
        unfold fL_areHeld_130
        exact go135 _ _ hx (dgT (by unfold dgP; rw [q]; simp))
      · refine y_t (by rw [hx, if_neg q]) ?_
        refine y_i e1 ?_
        by_cases q2 : A (96 + i) = u
        · refine y_t (by rw [q2]) ?_
          unfold fL_areHeld_130
          exact go135 _ _ hx (dgT (by unfold dgP; rw [q2]; simp))
        · refine y_f (by rw [eq_n (by omega) (by omega)]; exact q2) ?_
          exact go135 _ _ hx (dgF (by unfold dgP; simp [q, q2]))
    have go87 : ∀ (y0 : Int32), y0 = (if A (56 + i) = u then 1 else 0) → EY (fL_areHeld_87 (lCt ()) Nf 107 self29 (fL_areHeld_52 (lCt ()) Nf 107 self29 n) x1 x2 x3 x4 x5 x6 x7 (nI u) (nI (cnt (fun k => hd A k == u) i)) (nI (cnt (dgP A u) i)) (nI (ngb A u i)) (nI i) (nI (A (16 + i))) y0 σ) P := fun y0 hy => by
      unfold fL_areHeld_87
      refine y_i e2 ?_
      by_cases q : hd A i = u
      · refine y_t (by rw [q]) ?_
        refine go108 _ _ hy ?_
        rw [n1, nI_add, cnt_b1, q, beq_self_eq_true]
        rfl
      · refine y_f (by rw [eq_n (by omega) (by omega)]; exact q) ?_
        refine go108 _ _ hy ?_
        rw [n0, nI_add, cnt_b1, beq_false_of_ne q]
        rfl
    unfold fL_areHeld_52
    refine y_i (r_value v (k := 1) (by omega) (by omega)) ?_
    refine y_f (fun q => absurd ((nI_leI (by omega) (by omega)).mp q) (by omega)) ?_
    refine y_i (r_edgeAt v hi) ?_
    refine y_i e0 ?_
    by_cases q : A (56 + i) = u
    · exact y_t (by rw [q]) (go87 _ (if_pos q).symm)
    · exact y_f (by rw [eq_n (by omega) (by omega)]; exact q) (go87 _ (if_neg q).symm)
/-- a node's numbers beside what is told of it -/
theorem h_197 {A : Nat → Nat} {B u Nf : Nat} {self29 : Int32 → Int32 → Int32 → Int32 → Int32 → Int32 → Int32 → Int32 → Int32 → cS → Option (Int32 × cS)} {P : Int32 × cS → Prop} {x2 x3 x4 x5 x6 x7 : Int32} (hu : u < A 0) (hF : 300000 < Nf) : ∀ (d k n : Nat) (σ : cS), k + d = A 0 → d < n → ST σ A B → (∀ σ', RD A σ σ' → EY (fL_areHeld_262 (lCt ()) Nf 107 self29 (nI (A 0)) x2 x3 x4 x5 x6 x7 (nI u) (nI (ld A u)) (nI (cnt (dgP A u) (A 3))) (1 : Int32) σ') P) → EY (fL_areHeld_197 (lCt ()) Nf 107 self29 n (nI (A 0)) x2 x3 x4 x5 x6 x7 (nI u) (nI (ld A u)) (nI (cnt (dgP A u) (A 3))) (nI (ngb A u (A 3))) (nI (cnt (fun v => (ngb A u (A 3)).testBit v) k)) (nI k) σ) P := by
  intro d
  induction d with
  | zero =>
    intro k n σ h1 h2 v go
    obtain ⟨g, w, p, ga⟩ := ST_g v
    have w2 := w.2.1
    obtain ⟨n, rfl⟩ : ∃ z, n = z + 1 := ⟨n - 1, by omega⟩
    obtain rfl : k = A 0 := by omega
    obtain ⟨σ1, a1, a2⟩ := r_node (Nf := Nf) (j := 0) v hu (by omega) (by omega)
    have v1 := ST_RD v a2
    obtain ⟨σ2, b1', b2⟩ := r_node (Nf := Nf) (j := 1) v1 hu (by omega) (by omega)
    have v2 := ST_RD v1 b2
    obtain ⟨σ3, c1, c2⟩ := r_node (Nf := Nf) (j := 3) v2 hu (by omega) (by omega)
    unfold fL_areHeld_197
    refine y_t ((nI_leI (by omega) (by omega)).mpr (Nat.le_refl _)) ?_
    refine y_i a1 (y_t rfl ?_)
    refine y_i b1' (y_t rfl ?_)
    refine y_i c1 (y_t ?_ ?_)
    · show nI (cnt (fun v => (ngb A u (A 3)).testBit v) (A 0)) = nI (pct (ngb A u (A 3)))
      rw [pct_N (ngb_N w (A 3) (Nat.le_refl _)) w2]
    · exact go σ3 (RD_tr (RD_tr a2 b2) c2)
  | succ d ih =>
    intro k n σ h1 h2 v go
    obtain ⟨g, w, p, ga⟩ := ST_g v
    have w2 := w.2.1
    obtain ⟨n, rfl⟩ : ∃ z, n = z + 1 := ⟨n - 1, by omega⟩
    unfold fL_areHeld_197
    refine y_f (fun q => absurd ((nI_leI (by omega) (by omega)).mp q) (by omega)) ?_
    refine y_n ?_
    have hb := shr (s := ngb A u (A 3)) (v := k) (ngb_lt w (A 3) (Nat.le_refl _)) (by omega)
    rw [show ((nI (ngb A u (A 3)) >>> (nI k &&& 31)) &&& (1 : Int32)) = _ from hb, nI_add]
    refine y_n ?_
    rw [n1, nI_add]
    exact ih (k + 1) n σ (by omega) (by omega) v go
/-- the nodes, one by one -/
theorem h_29 {A : Nat → Nat} {B Nf : Nat} {P : Int32 × cS → Prop} (hB : B ≤ 1000) (hF : 300000 < Nf) : ∀ (d i n : Nat) (σ : cS), i + d = A 0 → d < n → ST σ A B → (∀ σ', RD A σ σ' → EY (fL_areHeld_344 (lCt ()) Nf 107 (nI (sN (ld A) (A 0))) (nI (sN (fun v => cnt (dgP A v) (A 3)) (A 0))) (nI (sqs (ld A) (A 0))) (nI (mx (ld A) (A 0))) (nI (mn9 (ld A) (A 0))) (nI (ovr A (A 0))) (1 : Int32) σ') P) → EY (fL_areHeld_29 (lCt ()) Nf 107 n (nI (A 0)) (nI (sN (ld A) i)) (nI (sN (fun v => cnt (dgP A v) (A 3)) i)) (nI (sqs (ld A) i)) (nI (mx (ld A) i)) (nI (mn9 (ld A) i)) (nI (ovr A i)) (1 : Int32) (nI i) σ) P := by
  intro d
  induction d with
  | zero =>
    intro i n σ h1 h2 v go
    have w2 := (ST_g v).2.1.2.1
    obtain ⟨n, rfl⟩ : ∃ z, n = z + 1 := ⟨n - 1, by omega⟩
    obtain rfl : i = A 0 := by omega
    unfold fL_areHeld_29
    exact y_t ((nI_leI (by omega) (by omega)).mpr (Nat.le_refl _)) (go σ RD_rf)
  | succ d ih =>
    intro i n σ h1 h2 v go
    obtain ⟨g, w, p, ga⟩ := ST_g v
    have w2 := w.2.1
    have hi : i < A 0 := by omega
    have hl := ld_le w i
    obtain ⟨n, rfl⟩ : ∃ z, n = z + 1 := ⟨n - 1, by omega⟩
    unfold fL_areHeld_29
    refine y_f (fun q => absurd ((nI_leI (by omega) (by omega)).mp q) (by omega)) ?_
    refine y_f (by decide) ?_
    refine h_52 v hB hi hF ?_ (A 3) 0 Nf (by omega) (by have := w.2.2.1; omega)
    refine h_197 hi hF (A 0) 0 Nf σ (by omega) (by omega) v (fun σ1 r1 => ?_)
    have v1 := ST_RD v r1
    obtain ⟨σ2, a1, a2⟩ := r_node (Nf := Nf) (j := 2) v1 hi (by omega) (by omega)
    have v2 := ST_RD v1 a2
    have cap := w.2.2.2.2.2.2 i (by omega)
    have next := ih (i + 1) n σ2 (by omega) (by omega) v2 (fun σ' r' => go σ' (RD_tr (RD_tr r1 a2) r'))
    have go335 : ∀ (y1 : Int32), nI (ovr A i) + y1 = nI (ovr A (i + 1)) → EY (fL_areHeld_335 (lCt ()) Nf 107 (fL_areHeld_29 (lCt ()) Nf 107 n) (nI (A 0)) (nI (sN (ld A) (i + 1))) (nI (sN (fun v => cnt (dgP A v) (A 3)) (i + 1))) (nI (sqs (ld A) (i + 1))) (nI (mx (ld A) (i + 1))) (nI (mn9 (ld A) (i + 1))) (1 : Int32) (nI i) (nI (ovr A i)) y1 σ2) P := fun y1 hy => by
      unfold fL_areHeld_335
      rw [hy, bnd_e, n1, nI_add, bnd_e]
      exact next
    have go314 : EY (fL_areHeld_314 (lCt ()) Nf 107 (fL_areHeld_29 (lCt ()) Nf 107 n) (nI (A 0)) (nI (sN (ld A) (i + 1))) (nI (sN (fun v => cnt (dgP A v) (A 3)) (i + 1))) (nI (sqs (ld A) (i + 1))) (nI (mx (ld A) (i + 1))) (nI (ovr A i)) (1 : Int32) (nI i) (nI (ld A i)) (nI (mn9 (ld A) (i + 1))) σ1) P := by
      unfold fL_areHeld_314
      refine y_i a1 ?_
      by_cases q : A (4 + i) < ld A i
      · refine y_f (fun z => absurd ((nI_leI (by omega) (by omega)).mp z) (by omega)) ?_
        refine go335 _ ?_
        have e : ovr A (i + 1) = ovr A i + 1 := by
          show cnt _ i + (if decide (A (4 + i) < ld A i) = true then 1 else 0) = _
          rw [if_pos (decide_eq_true q)]
          rfl
        rw [n1, nI_add, e]
      · refine y_t ((nI_leI (by omega) (by omega)).mpr (by omega)) ?_
        refine go335 _ ?_
        have e : ovr A (i + 1) = ovr A i + 0 := by
          show cnt _ i + (if decide (A (4 + i) < ld A i) = true then 1 else 0) = _
          rw [if_neg (by rw [decide_eq_false q]; decide)]
          rfl
        rw [n0, nI_add, e]
    have m9 := mn9_le (ld A) i
    have go298 : EY (fL_areHeld_298 (lCt ()) Nf 107 (fL_areHeld_29 (lCt ()) Nf 107 n) (nI (A 0)) (nI (sN (ld A) (i + 1))) (nI (sN (fun v => cnt (dgP A v) (A 3)) (i + 1))) (nI (sqs (ld A) (i + 1))) (nI (mn9 (ld A) i)) (nI (ovr A i)) (1 : Int32) (nI i) (nI (ld A i)) (nI (mx (ld A) (i + 1))) σ1) P := by
      unfold fL_areHeld_298
      by_cases q : mn9 (ld A) i ≤ ld A i
      · refine y_t ((nI_leI (by omega) (by omega)).mpr q) ?_
        have e : mn9 (ld A) (i + 1) = mn9 (ld A) i := if_pos q
        rw [e] at go314
        exact go314
      · refine y_f (fun z => q ((nI_leI (by omega) (by omega)).mp z)) ?_
        have e : mn9 (ld A) (i + 1) = ld A i := if_neg q
        rw [e] at go314
        exact go314
    have hmx : mx (ld A) i ≤ 40 := mx_le (fun k _ => ld_le w k)
    unfold fL_areHeld_262
    rw [nI_add, bnd_e, nI_add, bnd_e, nI_mul, nI_add, bnd_e]
    by_cases q : mx (ld A) i < ld A i
    · refine y_f (fun z => absurd ((nI_leI (by omega) (by omega)).mp z) (by omega)) ?_
      have e : mx (ld A) (i + 1) = ld A i := if_pos q
      rw [e] at go298
      exact go298
    · refine y_t ((nI_leI (by omega) (by omega)).mpr (by omega)) ?_
      have e : mx (ld A) (i + 1) = mx (ld A) i := if_neg q
      rw [e] at go298
      exact go298
/-- the edges, one by one -/
theorem h_350 {σ : cS} {A : Nat → Nat} {B Nf : Nat} {P : Int32 × cS → Prop} {x2 x3 x4 x5 x6 x7 : Int32} (v : ST σ A B) (hB : B ≤ 1000) (hF : 300000 < Nf) (go : EY (fL_areHeld_478 (lCt ()) Nf 107 x2 x3 x4 x5 x6 x7 (1 : Int32) (nI (tsm A (A 3))) σ) P) : ∀ (d i n : Nat), i + d = A 3 → d < n → EY (fL_areHeld_350 (lCt ()) Nf 107 n x2 x3 x4 x5 x6 x7 (1 : Int32) (nI (tsm A i)) (nI i) σ) P := by
  obtain ⟨g, w, p, ga⟩ := ST_g v
  have w2 := w.2.1
  have w3 := w.2.2.1
  have w4 := w.2.2.2.1
  intro d
  induction d with
  | zero =>
    intro i n h1 h2
    obtain ⟨n, rfl⟩ : ∃ z, n = z + 1 := ⟨n - 1, by omega⟩
    obtain rfl : i = A 3 := by omega
    unfold fL_areHeld_350
    refine y_i (r_value v (k := 1) (by omega) (by omega)) ?_
    exact y_t ((nI_leI (by omega) (by omega)).mpr (Nat.le_refl _)) go
  | succ d ih =>
    intro i n h1 h2
    obtain ⟨n, rfl⟩ : ∃ z, n = z + 1 := ⟨n - 1, by omega⟩
    have hi : i < A 3 := by omega
    obtain ⟨u1, u2, u3, u4, u5⟩ := w.2.2.2.2.1 i hi
    have ed : ∀ j, j ≤ 3 → fX6_edge (lCt ()) Nf σ 107 (nI (A (16 + i))) (nI j) = some (.inl (eI A i (nI j))) := fun j hj => r_edge v (by omega) hi hj (by omega)
    have e0 := ed 0 (by omega)
    have e1 := ed 1 (by omega)
    have e2 := ed 2 (by omega)
    have e3 := ed 3 (by omega)
    rw [eI_0] at e0
    rw [eI_1] at e1
    rw [eI_2] at e2
    rw [eI_3] at e3
    have next := ih (i + 1) n (by omega) (by omega)
    have go465 : EY (fL_areHeld_465 (lCt ()) Nf 107 (fL_areHeld_350 (lCt ()) Nf 107 n) x2 x3 x4 x5 x6 x7 (nI (tsm A (i + 1))) (nI i) σ) P := by
      unfold fL_areHeld_465 fL_areHeld_470
      rw [n1, nI_add, bnd_e]
      exact next
    have go436 : EY (fL_areHeld_436 (lCt ()) Nf 107 (fL_areHeld_350 (lCt ()) Nf 107 n) x2 x3 x4 x5 x6 x7 (nI (tsm A (i + 1))) (nI i) (nI (A (16 + i))) σ) P := by
      unfold fL_areHeld_436
      refine y_i (r_value v (k := 6) (by omega) (by omega)) ?_
      refine y_f (fun q => absurd ((nI_leI (by omega) (by omega)).mp q) (by omega)) ?_
      by_cases q : i = 0
      · exact y_t (by rw [q]; rfl) go465
      · refine y_f (nI_ne0 (by omega) (by omega)) ?_
        rw [n1, nI_sub (by omega)]
        refine y_i (r_edgeAt v (k := i - 1) (by omega)) ?_
        have h6 := w.2.2.2.2.2.1 (i - 1) i (by omega) hi
        exact y_f (fun q => absurd ((nI_leI (by omega) (by omega)).mp q) (by omega)) go465
    unfold fL_areHeld_350
    refine y_i (r_value v (k := 1) (by omega) (by omega)) ?_
    refine y_f (fun q => absurd ((nI_leI (by omega) (by omega)).mp q) (by omega)) ?_
    refine y_f (by decide) ?_
    refine y_i (r_edgeAt v hi) ?_
    refine y_i e3 ?_
    rw [nI_add, bnd_e]
    refine y_i e0 ?_
    refine y_i e1 ?_
    refine y_f (by rw [eq_n (by omega) (by omega)]; exact u3) ?_
    refine y_i e2 ?_
    refine y_i e0 ?_
    by_cases q : A (136 + i) = 0
    · have e : hd A i = A (56 + i) := if_pos q
      exact y_t (by rw [e]) go436
    · have e : hd A i = A (96 + i) := if_neg q
      refine y_f (by rw [e, eq_n (by omega) (by omega)]; exact fun z => u3 z.symm) ?_
      refine y_i e2 ?_
      refine y_i e1 ?_
      exact y_t (by rw [e]) go436
theorem f_areHeld {σ : cS} {A : Nat → Nat} {B Nf : Nat} (v : ST σ A B) (hB : B ≤ 1000) (hF : 300000 < Nf) : EY (fL_areHeld (lCt ()) Nf σ 107) (fun r => r.1 = 1 ∧ RD A σ r.2) := by
  obtain ⟨g, w, p, ga⟩ := ST_g v
  have w1 := w.1
  have w2 := w.2.1
  have w3 := w.2.2.1
  have ga2 := ga.2.1
  have ga3 := ga.2.2.1
  unfold fL_areHeld fL_areHeld_0
  refine y_i (r_value v (k := 0) (by omega) (by omega)) ?_
  refine h_29 hB hF (A 0) 0 Nf σ (by omega) (by omega) v (fun σ1 r1 => ?_)
  have v1 := ST_RD v r1
  unfold fL_areHeld_344
  refine h_350 v1 hB hF ?_ (A 3) 0 Nf (by omega) (by omega)
  rw [sN_ld w, sN_deg w, mn9_mn (fun k => ld_le w k) (A 0) (by omega)]
  unfold fL_areHeld_478
  refine y_f (by decide) ?_
  refine y_i (r_value v1 (k := 1) (by omega) (by omega)) (y_t rfl ?_)
  refine y_t (by rw [n2, nI_mul]) ?_
  refine y_i (r_value v1 (k := 2) (by omega) (by omega)) (y_t rfl ?_)
  refine y_i (r_value v1 (k := 3) (by omega) (by omega)) (y_t rfl ?_)
  refine y_i (r_value v1 (k := 4) (by omega) (by omega)) (y_t rfl ?_)
  refine y_i (r_value v1 (k := 7) (by omega) (by omega)) (y_t rfl ?_)
  refine y_i (r_value v1 (k := 5) (by omega) (by omega)) ?_
  refine y_f (fun q => absurd ((nI_ltI (by omega) (by omega)).mp q) (by omega)) ?_
  exact y_g (by decide) (y_r ⟨rfl, r1⟩)
