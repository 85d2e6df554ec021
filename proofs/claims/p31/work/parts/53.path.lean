/-! ===== paths ===== -/
def pln (A : Nat → Nat) (t : bst) (s : Nat) : Nat → Nat → Nat
  | 0, _ => 0
  | f + 1, v => if v = s then 0 else pln A t s f (hd A (t.2.2.1 v)) + 1
theorem pln_fuel {A : Nat → Nat} {t : bst} {s : Nat} (b : BI A s t) : ∀ (m i f f' : Nat), i ≤ m → i < t.1 → i ≤ f → i ≤ f' → pln A t s f (t.2.1 i) = pln A t s f' (t.2.1 i) := by
  intro m
  induction m with
  | zero =>
    intro i f f' hm hi hf hf'
    have : i = 0 := by omega
    subst this
    have e : ∀ f, pln A t s f (t.2.1 0) = 0 := fun f => by
      cases f with
      | zero => rfl
      | succ f => simp only [pln]; rw [if_pos b.2.1]
    rw [e, e]
  | succ m ih =>
    intro i f f' hm hi hf hf'
    by_cases e : i = 0
    · subst e
      have e : ∀ f, pln A t s f (t.2.1 0) = 0 := fun f => by
        cases f with
        | zero => rfl
        | succ f => simp only [pln]; rw [if_pos b.2.1]
      rw [e, e]
    · obtain ⟨f, rfl⟩ : ∃ z, f = z + 1 := ⟨f - 1, by omega⟩
      obtain ⟨f', rfl⟩ : ∃ z, f' = z + 1 := ⟨f' - 1, by omega⟩
      have hne : t.2.1 i ≠ s := fun q => b.2.2.2.2.2.2.1 0 i (by omega) hi (by rw [q]; exact b.2.1)
      obtain ⟨z1, z2, p, z3, z4⟩ := b.2.2.2.2.2.2.2 i (by omega) hi
      simp only [pln]
      rw [if_neg hne, if_neg hne, z4, ih p f f' (by omega) (by omega) (by omega) (by omega)]
/-- what a step back along the path is -/
theorem BI_back {A : Nat → Nat} {t : bst} {s i : Nat} (b : BI A s t) (hi : i < t.1) (h1 : 1 ≤ i) : t.2.1 i ≠ s ∧ t.2.2.1 (t.2.1 i) < A 3 ∧ ∃ p, p < i ∧ hd A (t.2.2.1 (t.2.1 i)) = t.2.1 p ∧ pln A t s 12 (t.2.1 i) = pln A t s 12 (t.2.1 p) + 1 := by
  have hn := BI_n b
  have hne : t.2.1 i ≠ s := fun q => b.2.2.2.2.2.2.1 0 i (by omega) hi (by rw [q]; exact b.2.1)
  obtain ⟨z1, z2, p, z3, z4⟩ := b.2.2.2.2.2.2.2 i h1 hi
  refine ⟨hne, z1, p, z3, z4, ?_⟩
  have e : pln A t s 12 (t.2.1 i) = pln A t s 11 (hd A (t.2.2.1 (t.2.1 i))) + 1 := by
    show (if t.2.1 i = s then 0 else pln A t s 11 (hd A (t.2.2.1 (t.2.1 i))) + 1) = _
    rw [if_neg hne]
  rw [e, z4, pln_fuel b 12 p 11 12 (by omega) (by omega) (by omega) (by omega)]
theorem pln_0 {A : Nat → Nat} {t : bst} {s : Nat} : pln A t s 12 s = 0 := by
  show (if s = s then 0 else _) = 0
  rw [if_pos rfl]
theorem pln_i {A : Nat → Nat} {t : bst} {s : Nat} (b : BI A s t) : ∀ (m i : Nat), i ≤ m → i < t.1 → pln A t s 12 (t.2.1 i) ≤ i := by
  intro m
  induction m with
  | zero =>
    intro i hm hi
    rw [show i = 0 by omega, b.2.1, pln_0]
    exact Nat.le_refl _
  | succ m ih =>
    intro i hm hi
    by_cases e : i = 0
    · rw [e, b.2.1, pln_0]; exact Nat.le_refl _
    · obtain ⟨-, -, p, h1, -, h2⟩ := BI_back b hi (by omega)
      have := ih p (by omega) (by omega)
      omega
theorem c_len_loop {σ : cS} {A : Nat → Nat} {t : bst} {s Nf B : Nat} (w : WF A B) (b : BI A s t) (c : CB σ A t s) : ∀ (m i a n : Nat), i ≤ m → i < t.1 → a + i ≤ 12 → i < n → fX5_lengthTo_14 (lCt ()) Nf σ 90 n (nI a) (nI (t.2.1 i)) = some (nI (a + pln A t s 12 (t.2.1 i))) := by
  have w2 := w.2.1
  have hs : s < A 0 := by rw [← b.2.1]; exact (b.2.2.2.2.1 0 b.1).1
  intro m
  induction m with
  | zero =>
    intro i a n hm hi ha hn
    obtain ⟨n, rfl⟩ : ∃ z, n = z + 1 := ⟨n - 1, by omega⟩
    unfold fX5_lengthTo_14 fX5_lengthTo_43
    rw [show i = 0 by omega, b.2.1, c.1, if_pos rfl, pln_0]; rfl
  | succ m ih =>
    intro i a n hm hi ha hn
    obtain ⟨n, rfl⟩ : ∃ z, n = z + 1 := ⟨n - 1, by omega⟩
    have hv := (b.2.2.2.2.1 i hi).1
    by_cases e : i = 0
    · unfold fX5_lengthTo_14 fX5_lengthTo_43
      rw [e, b.2.1, c.1, if_pos rfl, pln_0]; rfl
    · obtain ⟨g1, g2, p, g3, g4, g5⟩ := BI_back b hi (by omega)
      unfold fX5_lengthTo_14 fX5_lengthTo_43
      rw [c.1, if_neg (fun q => g1 ((nI_eq (by omega) (by omega)).mp q)), n12, if_neg (fun q => absurd ((nI_leI (by omega) (by omega)).mp q) (by omega)), n1, nI_add, bnd_e, row_get (show lCt () (90 + 5 + 1) = 12 from rfl) (by omega) (by omega), (c.2.2.2.2 i (by omega) hi).2, g4, Option.bind_some, ih p (a + 1) n (by omega) (by omega) (by omega) (by omega), g5]
      congr 2
      omega
theorem c_lengthTo {σ : cS} {A : Nat → Nat} {t : bst} {s v Nf B : Nat} (w : WF A B) (b : BI A s t) (c : CB σ A t s) (hv : v < 12) (hf : 100 < Nf) : fX5_lengthTo (lCt ()) Nf σ 90 (nI v) = some (if t.2.2.2.testBit v = true then nI (pln A t s 12 v) else -1) := by
  unfold fX5_lengthTo fX5_lengthTo_0
  rw [c_isV c.2.2.1 b.2.2.1 hv, Option.bind_some]
  cases e : t.2.2.2.testBit v with
  | false => rw [if_pos (by decide), if_neg (by decide)]
  | true =>
    obtain ⟨i, hi, rfl⟩ := b.2.2.2.2.2.1 v hv e
    have hn := BI_n b
    rw [if_neg (by decide), if_pos rfl, n0, c_len_loop w b c 12 i 0 Nf (by omega) hi (by omega) (by omega), Nat.zero_add]
