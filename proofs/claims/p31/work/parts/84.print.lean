/-! ===== print(): all that is told but the text and the saved states ===== -/
theorem p_6 {σ : cS} {A : Nat → Nat} {B Nf : Nat} (v : ST σ A B) (hF : 5000 < Nf) : ∀ (d i n : Nat) (h : Int64), i + d = 8 → d < n → fL_print_6 (lCt ()) Nf 107 n h (nI i) σ = fL_print_33 (lCt ()) Nf 107 Nf (hvs A d i h) (nI 0) σ := by
  intro d
  induction d with
  | zero =>
    intro i n h h1 hn
    obtain ⟨n, rfl⟩ : ∃ z, n = z + 1 := ⟨n - 1, by omega⟩
    unfold fL_print_6
    rw [n8, if_pos ((nI_leI (by omega) (by omega)).mpr (by omega))]
    rfl
  | succ d ih =>
    intro i n h h1 hn
    obtain ⟨n, rfl⟩ : ∃ z, n = z + 1 := ⟨n - 1, by omega⟩
    unfold fL_print_6
    rw [n8, if_neg (fun q => absurd ((nI_leI (by omega) (by omega)).mp q) (by omega)), r_value v (by omega) (by omega), ibn_l, bnd_e, n1, nI_add, bnd_e]
    show fL_print_6 (lCt ()) Nf 107 n (hx h (vI A i)) (nI (i + 1)) σ = _
    rw [ih (i + 1) n _ (by omega) (by omega)]
    rfl
theorem p_45 {A : Nat → Nat} {B s Nf : Nat} {self : Int64 → Int32 → cS → Option (Int64 × cS)} {P : Int64 × cS → Prop} (hs : s < A 0) (hF : 5000 < Nf) : ∀ (d j n : Nat) (h : Int64) (σ : cS), j + d = 5 → d < n → ST σ A B → (∀ σ', RD A σ σ' → ∃ r, self (hns A s d j h) (nI (s + 1)) σ' = some r ∧ P r) → ∃ r, fL_print_45 (lCt ()) Nf 107 self n h (nI s) (nI j) σ = some r ∧ P r := by
  intro d
  induction d with
  | zero =>
    intro j n h σ h1 hn v go
    obtain ⟨n, rfl⟩ : ∃ z, n = z + 1 := ⟨n - 1, by omega⟩
    unfold fL_print_45
    rw [n5, if_pos ((nI_leI (by omega) (by omega)).mpr (by omega)), n1, nI_add, bnd_e]
    exact go σ RD_rf
  | succ d ih =>
    intro j n h σ h1 hn v go
    obtain ⟨n, rfl⟩ : ∃ z, n = z + 1 := ⟨n - 1, by omega⟩
    obtain ⟨σ1, g1, g2⟩ := r_node (Nf := Nf) v hs (show j ≤ 4 by omega) (by omega)
    unfold fL_print_45
    rw [n5, if_neg (fun q => absurd ((nI_leI (by omega) (by omega)).mp q) (by omega)), g1, ibn_l, bnd_e, n1, nI_add, bnd_e]
    exact ih (j + 1) n _ σ1 (by omega) (by omega) (ST_RD v g2) (fun σ' f' => go σ' (RD_tr g2 f'))
theorem p_33 {A : Nat → Nat} {B Nf : Nat} {P : Int64 × cS → Prop} (hF : 5000 < Nf) : ∀ (d s n : Nat) (h : Int64) (σ : cS), s + d = A 0 → d < n → ST σ A B → (∀ σ', RD A σ σ' → ∃ r, fL_print_80 (lCt ()) Nf 107 Nf (hnn A d s h) (nI 0) σ' = some r ∧ P r) → ∃ r, fL_print_33 (lCt ()) Nf 107 n h (nI s) σ = some r ∧ P r := by
  intro d
  induction d with
  | zero =>
    intro s n h σ h1 hn v go
    have w2 := (ST_g v).2.1.2.1
    obtain ⟨n, rfl⟩ : ∃ z, n = z + 1 := ⟨n - 1, by omega⟩
    unfold fL_print_33
    rw [n0, r_value v (by omega) (by omega), ibn_l]
    show ∃ r, (if nI (A 0) ≤ nI s then _ else _) = some r ∧ P r
    rw [if_pos ((nI_leI (by omega) (by omega)).mpr (by omega))]
    exact go σ RD_rf
  | succ d ih =>
    intro s n h σ h1 hn v go
    have w2 := (ST_g v).2.1.2.1
    obtain ⟨n, rfl⟩ : ∃ z, n = z + 1 := ⟨n - 1, by omega⟩
    unfold fL_print_33
    rw [n0, r_value v (by omega) (by omega), ibn_l]
    show ∃ r, (if nI (A 0) ≤ nI s then _ else _) = some r ∧ P r
    rw [if_neg (fun q => absurd ((nI_leI (by omega) (by omega)).mp q) (by omega))]
    exact p_45 (B := B) (s := s) (by omega) hF 5 0 Nf h σ (by omega) (by omega) v (fun σ1 f1 => ih (s + 1) n _ σ1 (by omega) (by omega) (ST_RD v f1) (fun σ' f' => go σ' (RD_tr f1 f')))
theorem p_109 {σ : cS} {A : Nat → Nat} {B k Nf : Nat} {self : Int64 → Int32 → cS → Option (Int64 × cS)} (v : ST σ A B) (hB : B < 2 ^ 30) (hk : k < A 3) (hF : 5000 < Nf) : ∀ (d j n : Nat) (h : Int64), j + d = 4 → d < n → fL_print_109 (lCt ()) Nf 107 self n h (nI k) (nI (A (16 + k))) (nI j) σ = self (hes A k d j h) (nI (k + 1)) σ := by
  intro d
  induction d with
  | zero =>
    intro j n h h1 hn
    obtain ⟨n, rfl⟩ : ∃ z, n = z + 1 := ⟨n - 1, by omega⟩
    unfold fL_print_109
    rw [n4, if_pos ((nI_leI (by omega) (by omega)).mpr (by omega)), n1, nI_add, bnd_e]
    rfl
  | succ d ih =>
    intro j n h h1 hn
    obtain ⟨n, rfl⟩ : ∃ z, n = z + 1 := ⟨n - 1, by omega⟩
    unfold fL_print_109
    rw [n4, if_neg (fun q => absurd ((nI_leI (by omega) (by omega)).mp q) (by omega)), r_edge v hB hk (by omega) (by omega), ibn_l, bnd_e, n1, nI_add, bnd_e]
    show fL_print_109 (lCt ()) Nf 107 self n (hx h (eI A k (nI j))) (nI k) (nI (A (16 + k))) (nI (j + 1)) σ = _
    rw [ih (j + 1) n _ (by omega) (by omega)]
    rfl
theorem p_80 {σ : cS} {A : Nat → Nat} {B Nf : Nat} (v : ST σ A B) (hB : B < 2 ^ 30) (hF : 5000 < Nf) : ∀ (d k n : Nat) (h : Int64), k + d = A 3 → d < n → fL_print_80 (lCt ()) Nf 107 n h (nI k) σ = some (hee A d k h, σ) := by
  have w3 := (ST_g v).2.1.2.2.1
  intro d
  induction d with
  | zero =>
    intro k n h h1 hn
    obtain ⟨n, rfl⟩ : ∃ z, n = z + 1 := ⟨n - 1, by omega⟩
    unfold fL_print_80
    rw [n1, r_value v (by omega) (by omega), ibn_l]
    show (if nI (A 3) ≤ nI k then _ else _) = _
    rw [if_pos ((nI_leI (by omega) (by omega)).mpr (by omega))]
    rfl
  | succ d ih =>
    intro k n h h1 hn
    obtain ⟨n, rfl⟩ : ∃ z, n = z + 1 := ⟨n - 1, by omega⟩
    unfold fL_print_80
    rw [n1, r_value v (by omega) (by omega), ibn_l]
    show (if nI (A 3) ≤ nI k then _ else _) = _
    rw [if_neg (fun q => absurd ((nI_leI (by omega) (by omega)).mp q) (by omega)), r_edgeAt v (by omega), ibn_l, bnd_e, n0]
    show fL_print_109 (lCt ()) Nf 107 _ Nf (hx h (nI (A (16 + k)))) (nI k) (nI (A (16 + k))) (nI 0) σ = _
    rw [p_109 v hB (by omega) hF 4 0 Nf _ (by omega) (by omega), ih (k + 1) n _ (by omega) (by omega)]
    rfl
def prA (A : Nat → Nat) : Int64 := hee A (A 3) 0 (hnn A (A 0) 0 (hvs A 8 0 7))
theorem p_print {σ : cS} {A : Nat → Nat} {B Nf : Nat} (v : ST σ A B) (hB : B < 2 ^ 30) (hF : 5000 < Nf) : ∃ σ', fL_print (lCt ()) Nf σ 107 = some (prA A, σ') ∧ RD A σ σ' := by
  have w2 := (ST_g v).2.1.2.1
  have w3 := (ST_g v).2.1.2.2.1
  unfold fL_print fL_print_0
  rw [n0, p_6 v hF 8 0 Nf _ (by omega) (by omega)]
  obtain ⟨r, h1, h2, h3⟩ := p_33 (P := fun r => r.1 = prA A ∧ RD A σ r.2) hF (A 0) 0 Nf _ σ (by omega) (by omega) v (fun σ' f => by
    rw [p_80 (ST_RD v f) hB hF (A 3) 0 Nf _ (by omega) (by omega)]
    exact ⟨_, rfl, rfl, f⟩)
  exact ⟨r.2, by rw [h1, ← h2], h3⟩
/-! what a run makes and answers -/
def EX {β : Type} (E : Option (β × Nat)) (N : Nat) (P : β → Prop) : Prop := ∃ r n, E = some (r, n) ∧ n ≤ N ∧ P r
theorem e_w {β : Type} {x : Option (Int32 × cS)} {f : Int32 × cS → Option (β × Nat)} {N : Nat} {P : β → Prop} {a : Int32 × cS} (e : x = some a) (h : EX (f a) N P) : EX (wbn (w1n x) f) (N + 1) P := by
  obtain ⟨r, n, h1, h2, h3⟩ := h
  subst e
  refine ⟨r, 1 + n, ?_, by omega, h3⟩
  show Option.map _ (f a) = _
  rw [h1]
  rfl
theorem e_a {γ β : Type} {x : Option (γ × Nat)} {f : γ → Option (β × Nat)} {N M : Nat} {P : β → Prop} {Q : γ → Prop} (e : EX x M Q) (h : ∀ a, Q a → EX (f a) N P) : EX (wbn x f) (N + M) P := by
  obtain ⟨a, m, e1, e2, e3⟩ := e
  obtain ⟨r, n, h1, h2, h3⟩ := h a e3
  subst e1
  refine ⟨r, m + n, ?_, by omega, h3⟩
  show Option.map _ (f a) = _
  rw [h1]
  rfl
theorem e_i {α γ β : Type} {x : Option (α ⊕ γ)} {f : α → Option (β × Nat)} {N : Nat} {P : β → Prop} {a : α} (e : x = some (.inl a)) (h : EX (f a) N P) : EX (ibn x f) N P := by
  rw [e]; exact h
theorem e_b {α β : Type} {x : Option α} {f : α → Option (β × Nat)} {N : Nat} {P : β → Prop} {a : α} (e : x = some a) (h : EX (f a) N P) : EX (Option.bind x f) N P := by
  rw [e]; exact h
theorem e_t {β : Type} {c : Prop} {dc : Decidable c} {x y : Option (β × Nat)} {N : Nat} {P : β → Prop} (e : c) (h : EX x N P) : EX (@ite _ c dc x y) N P := by
  rw [if_pos e]; exact h
theorem e_f {β : Type} {c : Prop} {dc : Decidable c} {x y : Option (β × Nat)} {N : Nat} {P : β → Prop} (e : ¬ c) (h : EX y N P) : EX (@ite _ c dc x y) N P := by
  rw [if_neg e]; exact h
theorem e_g {β : Type} {b : Bool} {x : Option (β × Nat)} {N : Nat} {P : β → Prop} (e : b = true) (h : EX x N P) : EX (grd b x) N P := by
  rw [e]; exact h
theorem e_n {α β : Type} {y : α} {f : α → Option (β × Nat)} {N : Nat} {P : β → Prop} (h : EX (f y) N P) : EX (bnd y f) N P := h
theorem e_r {β : Type} {r : β} {N : Nat} {P : β → Prop} (h : P r) : EX (some (r, 0)) N P := ⟨r, 0, rfl, Nat.zero_le _, h⟩
theorem e_le {β : Type} {E : Option (β × Nat)} {N M : Nat} {P Q : β → Prop} (h : EX E N P) (hN : N ≤ M) (hP : ∀ r, P r → Q r) : EX E M Q := by
  obtain ⟨r, n, h1, h2, h3⟩ := h
  exact ⟨r, n, h1, by omega, hP r h3⟩
