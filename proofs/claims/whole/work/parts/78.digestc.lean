/-! ===== digest: what is mixed in, and the class's way ===== -/
def hx (h : Int64) (v : Int32) : Int64 := (31 : Int64) * h + v.toInt64
def hvs (A : Nat → Nat) : Nat → Nat → Int64 → Int64
  | 0, _, h => h
  | d + 1, i, h => hvs A d (i + 1) (hx h (vI A i))
def hns (A : Nat → Nat) (s : Nat) : Nat → Nat → Int64 → Int64
  | 0, _, h => h
  | d + 1, j, h => hns A s d (j + 1) (hx h (ndI A s j))
def hnn (A : Nat → Nat) : Nat → Nat → Int64 → Int64
  | 0, _, h => h
  | d + 1, s, h => hnn A d (s + 1) (hns A s 5 0 h)
def hes (A : Nat → Nat) (k : Nat) : Nat → Nat → Int64 → Int64
  | 0, _, h => h
  | d + 1, j, h => hes A k d (j + 1) (hx h (eI A k (nI j)))
def hee (A : Nat → Nat) : Nat → Nat → Int64 → Int64
  | 0, _, h => h
  | d + 1, k, h => hee A d (k + 1) (hes A k 4 0 (hx h (nI (A (16 + k)))))
theorem mix_e (σ : cS) (h : Int64) (v : Int32) : fX6_mix σ h v.toInt64 = some (hx h v) := rfl
theorem hsh_e (h : Int64) (τ : cS) (v : Int32) : fX7_hashes h τ 0 v.toInt64 = some (hx h v, τ) := rfl
theorem ibn_l {α β γ : Type} {a : α} {f : α → Option γ} : ibn (some (.inl a) : Option (α ⊕ β)) f = f a := rfl
theorem c_dg17 {σ : cS} {A : Nat → Nat} {B Nf : Nat} (hg : GR σ 0 A) (w : WF A B) (hF : 5000 < Nf) : ∀ (d i n : Nat) (h : Int64), i + d = 8 → d < n → fX6_digest_17 (lCt ()) Nf 107 n h (nI i) σ = fX6_digest_42 (lCt ()) Nf 107 Nf (hvs A d i h) (nI 0) σ := by
  intro d
  induction d with
  | zero =>
    intro i n h h1 hn
    obtain ⟨n, rfl⟩ : ∃ z, n = z + 1 := ⟨n - 1, by omega⟩
    unfold fX6_digest_17
    rw [n8, if_pos ((nI_leI (by omega) (by omega)).mpr (by omega))]
    rfl
  | succ d ih =>
    intro i n h h1 hn
    obtain ⟨n, rfl⟩ : ∃ z, n = z + 1 := ⟨n - 1, by omega⟩
    unfold fX6_digest_17
    rw [n8, if_neg (fun q => absurd ((nI_leI (by omega) (by omega)).mp q) (by omega)), c_value hg w (by omega) (by omega), ibn_l, mix_e, Option.bind_some, n1, nI_add, bnd_e, ih (i + 1) n _ (by omega) (by omega)]
    rfl
theorem isN_y {A : Nat → Nat} {B s : Nat} (w : WF A B) (hs : s < A 0) : isN A (nI s) = true := by
  have w2 := w.2.1
  exact inI_y (by omega) (by omega) (by omega) (by omega) (by omega)
theorem c_dg56 {A : Nat → Nat} {B s Nf : Nat} {self : Int64 → Int32 → cS → Option (Int64 × cS)} {P : Int64 × cS → Prop} (w : WF A B) (hs : s < A 0) (hF : 5000 < Nf) : ∀ (d j n : Nat) (h : Int64) (σ : cS), j + d = 5 → d < n → GR σ 0 A → (∀ σ', FS σ σ' → GR σ' 0 A → ∃ r, self (hns A s d j h) (nI (s + 1)) σ' = some r ∧ P r) → ∃ r, fX6_digest_56 (lCt ()) Nf 107 self n h (nI s) (nI j) σ = some r ∧ P r := by
  intro d
  induction d with
  | zero =>
    intro j n h σ h1 hn hg go
    obtain ⟨n, rfl⟩ : ∃ z, n = z + 1 := ⟨n - 1, by omega⟩
    unfold fX6_digest_56
    rw [n5, if_pos ((nI_leI (by omega) (by omega)).mpr (by omega)), n1, nI_add, bnd_e]
    exact go σ (fun _ _ => rfl) hg
  | succ d ih =>
    intro j n h σ h1 hn hg go
    obtain ⟨n, rfl⟩ : ∃ z, n = z + 1 := ⟨n - 1, by omega⟩
    obtain ⟨σ1, g1, g2⟩ := c_node (Nf := Nf) hg w hs (isN_y w hs) (show j ≤ 4 by omega) (by omega)
    unfold fX6_digest_56
    rw [n5, if_neg (fun q => absurd ((nI_leI (by omega) (by omega)).mp q) (by omega)), g1, ibn_l]
    show ∃ r, Option.bind (fX6_mix σ1 h (ndI A s j).toInt64) (fun r3 => bnd (nI j + (1 : Int32)) (fun t4 => fX6_digest_56 (lCt ()) Nf 107 self n r3 (nI s) t4 σ1)) = some r ∧ P r
    rw [mix_e, Option.bind_some, n1, nI_add, bnd_e]
    have hg1 : GR σ1 0 A := GR_keep hg (fun c _ _ => g2 c (by omega))
    exact ih (j + 1) n _ σ1 (by omega) (by omega) hg1 (fun σ' f' g' => go σ' (FS_tr g2 f') g')
theorem c_dg42 {A : Nat → Nat} {B Nf : Nat} {P : Int64 × cS → Prop} (w : WF A B) (hF : 5000 < Nf) : ∀ (d s n : Nat) (h : Int64) (σ : cS), s + d = A 0 → d < n → GR σ 0 A → (∀ σ', FS σ σ' → GR σ' 0 A → ∃ r, fX6_digest_89 (lCt ()) Nf 107 Nf (hnn A d s h) (nI 0) σ' = some r ∧ P r) → ∃ r, fX6_digest_42 (lCt ()) Nf 107 n h (nI s) σ = some r ∧ P r := by
  have w2 := w.2.1
  intro d
  induction d with
  | zero =>
    intro s n h σ h1 hn hg go
    obtain ⟨n, rfl⟩ : ∃ z, n = z + 1 := ⟨n - 1, by omega⟩
    unfold fX6_digest_42
    rw [hg.1, if_pos ((nI_leI (by omega) (by omega)).mpr (by omega))]
    exact go σ (fun _ _ => rfl) hg
  | succ d ih =>
    intro s n h σ h1 hn hg go
    obtain ⟨n, rfl⟩ : ∃ z, n = z + 1 := ⟨n - 1, by omega⟩
    unfold fX6_digest_42
    rw [hg.1, if_neg (fun q => absurd ((nI_leI (by omega) (by omega)).mp q) (by omega)), n0]
    exact c_dg56 (s := s) w (by omega) hF 5 0 Nf h σ (by omega) (by omega) hg (fun σ1 f1 g1 => ih (s + 1) n _ σ1 (by omega) (by omega) g1 (fun σ' f' g' => go σ' (FS_tr f1 f') g'))
theorem fnd_at {p : Nat → Bool} {k : Nat} : ∀ (d i : Nat), i ≤ k → k < i + d → (∀ j, i ≤ j → j < k → p j = false) → p k = true → fnd p i d = some k := by
  intro d
  induction d with
  | zero => intro i h1 h2; omega
  | succ d ih =>
    intro i h1 h2 h3 h4
    simp only [fnd]
    by_cases e : i = k
    · subst e; rw [if_pos h4]
    · rw [h3 i (Nat.le_refl _) (by omega), if_neg (by decide)]
      exact ih (i + 1) (by omega) (by omega) (fun j j1 j2 => h3 j (by omega) j2) h4
theorem plc_own {A : Nat → Nat} {B k : Nat} (w : WF A B) (hB : B < 2 ^ 30) (hk : k < A 3) : plc A (nI (A (16 + k))) = some k := by
  obtain ⟨w1, w2, w3, w4, w5, w6, w7⟩ := w
  have hkk := (w5 k hk).2.2.2.2
  refine fnd_at (A 3) 0 (by omega) (by omega) (fun j _ hj => ?_) (decide_eq_true rfl)
  have h1 := w6 j k hj hk
  exact decide_eq_false (fun q => by
    have := (nI_eq (by omega) (by omega)).mp q
    omega)
theorem c_dg124 {A : Nat → Nat} {B k Nf : Nat} {σ : cS} {self : Int64 → Int32 → cS → Option (Int64 × cS)} (w : WF A B) (hB : B < 2 ^ 30) (hg : GR σ 0 A) (hk : k < A 3) (hF : 5000 < Nf) : ∀ (d j n : Nat) (h : Int64), j + d = 4 → d < n → fX6_digest_124 (lCt ()) Nf 107 self n h (nI k) (nI (A (16 + k))) (nI j) σ = self (hes A k d j h) (nI (k + 1)) σ := by
  intro d
  induction d with
  | zero =>
    intro j n h h1 hn
    obtain ⟨n, rfl⟩ : ∃ z, n = z + 1 := ⟨n - 1, by omega⟩
    unfold fX6_digest_124
    rw [n4, if_pos ((nI_leI (by omega) (by omega)).mpr (by omega)), n1, nI_add, bnd_e]
    rfl
  | succ d ih =>
    intro j n h h1 hn
    obtain ⟨n, rfl⟩ : ∃ z, n = z + 1 := ⟨n - 1, by omega⟩
    unfold fX6_digest_124
    rw [n4, if_neg (fun q => absurd ((nI_leI (by omega) (by omega)).mp q) (by omega)), c_edge_y hg w (by omega) (plc_own w hB hk) (nI j) (inI_y (by omega) (by omega) (by omega) (by omega) (by omega)), ibn_l, mix_e, Option.bind_some, n1, nI_add, bnd_e, ih (j + 1) n _ (by omega) (by omega)]
    rfl
/-- the four last values -/
def dnI (A : Nat → Nat) : Int32 := nI (dns (inn A) (2 ^ A 0 - 1)).1
def ltI (A : Nat → Nat) : Int32 := nI (lst A (inn A))
def tdI (A : Nat → Nat) : Int32 := (tds (inn A) (cps A) (2 ^ A 0 - 1)).1
theorem c_densest {A : Nat → Nat} {B Nf : Nat} {σ : cS} (w : WF A B) (hF : 5000 < Nf) (hg : GR σ 0 A) (hp : PT σ A) : ∃ σ', fX6_densest (lCt ()) Nf σ 107 = some (dnI A, σ') ∧ TB σ' A ∧ σ' 97 6 = nI 1 ∧ ∀ c, c ≠ 97 → c ≠ 98 → c ≠ 99 → c ≠ 100 + 1 → σ' c = σ c := by
  obtain ⟨σ', g1, g2, g3, g4⟩ := c_learn (Nf := Nf) w hF hg hp
  refine ⟨σ', ?_, g2, g3, fun c h1 h2 _ h4 => g4 c h1 h2 h4⟩
  unfold fX6_densest fX6_densest_0
  rw [g1, Option.bind_some, g2.2.2.1]
  rfl
theorem c_leastL {A : Nat → Nat} {B Nf : Nat} {σ : cS} (w : WF A B) (hF : 5000 < Nf) (hg : GR σ 0 A) (hp : PT σ A) : ∃ σ', fX6_least (lCt ()) Nf σ 107 = some (ltI A, σ') ∧ TB σ' A ∧ σ' 97 6 = nI 1 ∧ ∀ c, c ≠ 97 → c ≠ 98 → c ≠ 99 → c ≠ 100 + 1 → σ' c = σ c := by
  obtain ⟨σ', g1, g2, g3, g4⟩ := c_learn (Nf := Nf) w hF hg hp
  refine ⟨σ', ?_, g2, g3, fun c h1 h2 _ h4 => g4 c h1 h2 h4⟩
  unfold fX6_least fX6_least_0
  rw [g1, Option.bind_some, g2.2.2.2]
  rfl
theorem c_tooD {A : Nat → Nat} {B Nf : Nat} {σ : cS} (w : WF A B) (hF : 5000 < Nf) (hg : GR σ 0 A) (hp : PT σ A) : ∃ σ', fX6_tooDense (lCt ()) Nf σ 107 = some (tdI A, σ') ∧ TB σ' A ∧ σ' 97 6 = nI 1 ∧ ∀ c, c ≠ 97 → c ≠ 98 → c ≠ 99 → c ≠ 100 + 1 → σ' c = σ c := by
  have w2 := w.2.1
  have hpw : 2 ^ A 0 ≤ 4096 := Nat.pow_le_pow_right (by omega) w2 (n := 2)
  have hp1 : 1 ≤ 2 ^ A 0 := Nat.one_le_two_pow
  obtain ⟨σ', g1, g2, g3, g4⟩ := c_learn (Nf := Nf) w hF hg hp
  have hg' : GR σ' 0 A := GR_keep hg (fun c _ _ => g4 c (by omega) (by omega) (by omega))
  obtain ⟨σ2, k1, k2, k3, k4⟩ := c_sums (k0 := 97 + 2) (k2 := 13) (fr := 0) (nd := A 0) (Nf := Nf) (σ := σ') (W := fun v => A (4 + v)) (by omega) rfl rfl w2 (by omega) hF hg'.2.2.2.2.2.2.2.2.2.2
  have m1 := c_full_loop (σ := σ2) (Nf := Nf) (g := inn A) (h := cps A) (by rw [k3 97 (by omega)]; exact g2.1) w (fun s hs => by rw [k3 (97 + 1) (by omega)]; exact g2.2.1 s hs) (fun s hs => by have := k2 s hs; rw [Nat.zero_add] at this; exact this) (inn_le w) (cps_le w) (2 ^ A 0 - 1) 0 Nf (by omega) (by omega)
  refine ⟨σ2, ?_, TB_keep g2 (k3 97 (by omega)) (k3 98 (by omega)) rfl (fun _ => rfl), by rw [k3 97 (by omega)]; exact g3, fun c h1 h2 h5 h4 => by rw [k3 c h5, g4 c h1 h2 h4]⟩
  unfold fX6_tooDense fX6_tooDense_0 fX3_mostOverfull fX3_mostOverfull_0
  rw [g1, Option.bind_some, hg'.1, n0, k1, Option.bind_some]
  show Option.bind (fX3_mostOverfull_18 (lCt ()) Nf 97 13 Nf (tds (inn A) (cps A) 0).1 (nI (tds (inn A) (cps A) 0).2) (nI (0 + 1)) σ2) _ = _
  rw [m1]; rfl
theorem c_dg89 {A : Nat → Nat} {B Nf : Nat} {σ : cS} {x : Int32} (w : WF A B) (hB : B < 2 ^ 30) (hg : GR σ 0 A) (hp : PT σ A) (hx105 : σ 105 2 = x) (hF : 5000 < Nf) : ∀ (d k n : Nat) (h : Int64), k + d = A 3 → d < n → ∃ σ', fX6_digest_89 (lCt ()) Nf 107 n h (nI k) σ = some (hx (hx (hx (hx (hee A d k h) (dnI A)) (ltI A)) (tdI A)) x, σ') ∧ TB σ' A ∧ σ' 97 6 = nI 1 ∧ ∀ c, c ≠ 97 → c ≠ 98 → c ≠ 99 → c ≠ 100 + 1 → σ' c = σ c := by
  have w3 := w.2.2.1
  intro d
  induction d with
  | zero =>
    intro k n h h1 hn
    obtain ⟨n, rfl⟩ : ∃ z, n = z + 1 := ⟨n - 1, by omega⟩
    have gk : ∀ σ', (∀ c, c ≠ 97 → c ≠ 98 → c ≠ 99 → c ≠ 100 + 1 → σ' c = σ c) → GR σ' 0 A := fun σ' o => GR_keep hg (fun c _ _ => o c (by omega) (by omega) (by omega) (by omega))
    obtain ⟨s1, a1, a2, a3, a4⟩ := c_densest (Nf := Nf) w hF hg hp
    obtain ⟨s2, b1, b2, b3, b4⟩ := c_leastL (Nf := Nf) w hF (gk s1 a4) (Or.inr ⟨a3, a2⟩)
    have o2 : ∀ c, c ≠ 97 → c ≠ 98 → c ≠ 99 → c ≠ 100 + 1 → s2 c = σ c := fun c h1 h2 h3 h4 => (b4 c h1 h2 h3 h4).trans (a4 c h1 h2 h3 h4)
    obtain ⟨s3, c1, c2, c3, c4⟩ := c_tooD (Nf := Nf) w hF (gk s2 o2) (Or.inr ⟨b3, b2⟩)
    have o3 : ∀ c, c ≠ 97 → c ≠ 98 → c ≠ 99 → c ≠ 100 + 1 → s3 c = σ c := fun c h1 h2 h3 h4 => (c4 c h1 h2 h3 h4).trans (o2 c h1 h2 h3 h4)
    refine ⟨s3, ?_, c2, c3, o3⟩
    unfold fX6_digest_89
    rw [hg.2.1, if_pos ((nI_leI (by omega) (by omega)).mpr (by omega)), a1, Option.bind_some, mix_e, Option.bind_some, b1, Option.bind_some, mix_e, Option.bind_some, c1, Option.bind_some, mix_e, Option.bind_some, mix_e, Option.bind_some]
    show some (hx _ (s3 105 2), s3) = _
    rw [o3 105 (by omega) (by omega) (by omega) (by omega), hx105]
    rfl
  | succ d ih =>
    intro k n h h1 hn
    obtain ⟨n, rfl⟩ : ∃ z, n = z + 1 := ⟨n - 1, by omega⟩
    unfold fX6_digest_89
    rw [hg.2.1, if_neg (fun q => absurd ((nI_leI (by omega) (by omega)).mp q) (by omega)), row_get (show lCt () (1 + 1) = 40 from rfl) (show k < 40 by omega) (by omega), show σ (1 + 1) k = nI (A (16 + k)) from hg.2.2.2.2.1 k (by omega), Option.bind_some, mix_e, Option.bind_some, n0, c_dg124 w hB hg (by omega) hF 4 0 Nf _ (by omega) (by omega)]
    exact ih (k + 1) n _ (by omega) (by omega)
theorem c_digest {A : Nat → Nat} {B Nf len : Nat} {σ : cS} {x : Int32} {P : Int64 × cS → Prop} (w : WF A B) (hB : B < 2 ^ 30) (hg : GR σ 0 A) (hp : PT σ A) (hx105 : σ 105 2 = x) (hl : σ 102 1 = nI len) (hF : 5000 < Nf) (go : ∀ σ1 σ', FS σ σ1 → TB σ' A → σ' 97 6 = nI 1 → (∀ c, c ≠ 97 → c ≠ 98 → c ≠ 99 → c ≠ 100 + 1 → σ' c = σ1 c) → P (hx (hx (hx (hx (hee A (A 3) 0 (hnn A (A 0) 0 (hvs A 8 0 (hx 3779 (nI len))))) (dnI A)) (ltI A)) (tdI A)) x, σ')) : ∃ r, fX6_digest (lCt ()) Nf σ 107 = some r ∧ P r := by
  have w2 := w.2.1
  have w3 := w.2.2.1
  unfold fX6_digest fX6_digest_0
  rw [hl, mix_e, Option.bind_some, n0, c_dg17 hg w hF 8 0 Nf _ (by omega) (by omega)]
  refine c_dg42 w hF (A 0) 0 Nf _ σ (by omega) (by omega) hg (fun σ1 f1 g1 => ?_)
  obtain ⟨σ', k1, k2, k3, k4⟩ := c_dg89 (Nf := Nf) (x := x) w hB g1 (PT_keep hp (f1 97 (by omega)) (f1 98 (by omega)) rfl (fun _ => rfl)) (by rw [f1 105 (by omega)]; exact hx105) hF (A 3) 0 Nf (hnn A (A 0) 0 (hvs A 8 0 (hx 3779 (nI len)))) (by omega) (by omega)
  exact ⟨_, k1, go σ1 σ' f1 k2 k3 k4⟩
