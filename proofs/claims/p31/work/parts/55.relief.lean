/-! ===== relieving a node ===== -/
theorem cmp2 {a b : Nat} (ha : a ≤ 40) (hb : b ≤ 40) : (nI a - nI 2 < nI b) ↔ ¬ b + 2 ≤ a := by
  rcases Nat.lt_or_ge a 2 with h | h
  · refine ⟨fun _ => by omega, fun _ => ?_⟩
    rw [Int32.lt_iff_toInt_lt, nI_toInt (n := b) (by omega)]
    rcases (show a = 0 ∨ a = 1 by omega) with rfl | rfl
    · exact Int.lt_of_lt_of_le (show (nI 0 - nI 2).toInt < 0 by decide) (Int.natCast_nonneg b)
    · exact Int.lt_of_lt_of_le (show (nI 1 - nI 2).toInt < 0 by decide) (Int.natCast_nonneg b)
  · rw [nI_sub h, nI_ltI (by omega) (by omega)]
    omega
def lgt (A : Nat → Nat) (t : bst) (s : Nat) : Nat → Bool := fun i => decide (ld A (t.2.1 i) + 2 ≤ ld A s)
def qI (t : bst) (o : Option Nat) : Int32 := match o with
  | some j => nI (t.2.1 j)
  | none => -1
theorem c_light_loop {σ : cS} {A : Nat → Nat} {t : bst} {s g B Nf : Nat} (hL : LG g) (hg : GR σ g A) (w : WF A B) (b : BI A s t) (c : CB σ A t s) : ∀ (d i n : Nat), i + d = t.1 → d < n → fX5_firstLighter_16 (lCt ()) Nf σ 90 g n (nI (ld A s) - nI 2) (nI i) = some (qI t (fnd (lgt A t s) i d)) := by
  have hn12 := BI_n b
  have w2 := w.2.1
  intro d
  induction d with
  | zero =>
    intro i n h1 hn
    obtain ⟨n, rfl⟩ : ∃ z, n = z + 1 := ⟨n - 1, by omega⟩
    unfold fX5_firstLighter_16
    rw [c.2.1, if_pos ((nI_leI (by omega) (by omega)).mpr (by omega))]
    rfl
  | succ d ih =>
    intro i n h1 hn
    obtain ⟨n, rfl⟩ : ∃ z, n = z + 1 := ⟨n - 1, by omega⟩
    have hi : i < t.1 := by omega
    have hv := (b.2.2.2.2.1 i hi).1
    unfold fX5_firstLighter_16
    rw [c.2.1, if_neg (fun q => absurd ((nI_leI (by omega) (by omega)).mp q) (by omega)), row_get (show lCt () (90 + 1 + 1) = 12 from rfl) (by omega) (by omega), c.2.2.2.1 i hi, Option.bind_some, row_get hL.2.2.2.2.2.1 (show t.2.1 i < 12 by omega) (by omega), hg.2.2.2.2.2.2.2.2.2.1 _ (by omega), Option.bind_some]
    simp only [fnd]
    by_cases e : ld A (t.2.1 i) + 2 ≤ ld A s
    · rw [if_neg (fun q => (cmp2 (ld_le w s) (ld_le w _)).mp q e), Option.bind_some, if_pos (show lgt A t s i = true from decide_eq_true e)]
      rfl
    · rw [if_pos ((cmp2 (ld_le w s) (ld_le w _)).mpr e), n1, nI_add, bnd_e, ih (i + 1) n (by omega) (by omega), if_neg (show ¬ lgt A t s i = true by unfold lgt; rw [decide_eq_false e]; decide)]
theorem c_lighter {σ : cS} {A : Nat → Nat} {t : bst} {s g B Nf : Nat} (hL : LG g) (hg : GR σ g A) (w : WF A B) (b : BI A s t) (c : CB σ A t s) (hf : 100 < Nf) : fX5_firstLighter (lCt ()) Nf σ 90 g = some (qI t (fnd (lgt A t s) 1 (t.1 - 1))) := by
  have hn12 := BI_n b
  have w2 := w.2.1
  have hs : s < A 0 := by rw [← b.2.1]; exact (b.2.2.2.2.1 0 b.1).1
  unfold fX5_firstLighter fX5_firstLighter_0
  rw [c.1, row_get hL.2.2.2.2.2.1 (show s < 12 by omega) (by omega), hg.2.2.2.2.2.2.2.2.2.1 _ (by omega), Option.bind_some, bnd_e, n2, n0, c_light_loop hL hg w b c t.1 0 Nf (by omega) (by omega)]
  obtain ⟨m, hm⟩ : ∃ m, t.1 = m + 1 := ⟨t.1 - 1, by have := b.1; omega⟩
  rw [hm]
  simp only [fnd]
  rw [if_neg (by unfold lgt; rw [b.2.1, decide_eq_false (by omega)]; decide)]
  rfl
def rel (A : Nat → Nat) (s : Nat) : Option Nat := fnd (lgt A (bfs A s) s) 1 ((bfs A s).1 - 1)
theorem rel_i {A : Nat → Nat} {s j : Nat} (h : rel A s = some j) : 1 ≤ j ∧ j < (bfs A s).1 ∧ ld A ((bfs A s).2.1 j) + 2 ≤ ld A s := by
  obtain ⟨h1, h2, h3⟩ := fnd_some _ _ _ h
  exact ⟨h1, by omega, of_decide_eq_true h3⟩
/-! turning the edges of a path -/
def flA (A0 : Nat → Nat) (t : bst) (s : Nat) : Nat → Nat → (Nat → Nat) → (Nat → Nat)
  | 0, _, A => A
  | f + 1, v, A => if v = s then A else flA A0 t s f (hd A0 (t.2.2.1 v)) (trnA A (t.2.2.1 v))
/-- while the edges of a path are turned: the rest of the path stands as it was -/
def FI (A0 A : Nat → Nat) (t : bst) (B i : Nat) : Prop := WF A B ∧ A 0 = A0 0 ∧ A 3 = A0 3 ∧ (∀ x, inn A x = inn A0 x) ∧ ∀ j, 1 ≤ j → j ≤ i → hd A (t.2.2.1 (t.2.1 j)) = hd A0 (t.2.2.1 (t.2.1 j))
theorem FI_0 {A0 : Nat → Nat} {t : bst} {B i : Nat} (w : WF A0 B) : FI A0 A0 t B i := ⟨w, rfl, rfl, fun _ => rfl, fun _ _ _ => rfl⟩
theorem FI_step {A0 A : Nat → Nat} {t : bst} {s B i p : Nat} (b : BI A0 s t) (f : FI A0 A t B i) (hi : i < t.1) (h1 : 1 ≤ i) (hp : p < i) : FI A0 (trnA A (t.2.2.1 (t.2.1 i))) t B p := by
  obtain ⟨f1, f2, f3, f4, f5⟩ := f
  have w3 := f1.2.2.1
  obtain ⟨g1, g2, g3⟩ := b.2.2.2.2.2.2.2 i h1 hi
  have hk : t.2.2.1 (t.2.1 i) < A 3 := by rw [f3]; exact g1
  refine ⟨trn_WF f1 hk, by rw [trn_o (by omega) (by omega) (by omega)]; exact f2, by rw [trn_o (by omega) (by omega) (by omega)]; exact f3, fun x => by rw [inn_trn f1 hk]; exact f4 x, fun j hj hj2 => ?_⟩
  obtain ⟨y1, y2, y3⟩ := b.2.2.2.2.2.2.2 j hj (by omega)
  rw [hd_trn f1 hk (by rw [f3]; exact y1), if_neg]
  · exact f5 j hj (by omega)
  · intro z
    have : t.2.1 j = t.2.1 i := by rw [← y2, ← g2, z]
    exact b.2.2.2.2.2.2.1 j i (by omega) hi this
theorem flA_s {A0 A : Nat → Nat} {t : bst} {s f : Nat} : flA A0 t s f s A = A := by
  cases f with
  | zero => rfl
  | succ f => simp only [flA]; rw [if_pos trivial]
theorem flA_fuel {A0 : Nat → Nat} {t : bst} {s : Nat} (b : BI A0 s t) : ∀ (m i f f' : Nat) (A : Nat → Nat), i ≤ m → i < t.1 → i ≤ f → i ≤ f' → flA A0 t s f (t.2.1 i) A = flA A0 t s f' (t.2.1 i) A := by
  intro m
  induction m with
  | zero =>
    intro i f f' A hm hi hf hf'
    rw [show i = 0 by omega, b.2.1, flA_s, flA_s]
  | succ m ih =>
    intro i f f' A hm hi hf hf'
    by_cases e : i = 0
    · rw [e, b.2.1, flA_s, flA_s]
    · obtain ⟨f, rfl⟩ : ∃ z, f = z + 1 := ⟨f - 1, by omega⟩
      obtain ⟨f', rfl⟩ : ∃ z, f' = z + 1 := ⟨f' - 1, by omega⟩
      obtain ⟨g1, g2, p, g3, g4, g5⟩ := BI_back b hi (by omega)
      simp only [flA]
      rw [if_neg g1, if_neg g1, g4, ih p f f' _ (by omega) (by omega) (by omega) (by omega)]
theorem flA_step {A0 A : Nat → Nat} {t : bst} {s i p : Nat} (b : BI A0 s t) (hi : i < t.1) (hp : p < i) (hne : t.2.1 i ≠ s) (h4 : hd A0 (t.2.2.1 (t.2.1 i)) = t.2.1 p) : flA A0 t s 12 (t.2.1 i) A = flA A0 t s 12 (t.2.1 p) (trnA A (t.2.2.1 (t.2.1 i))) := by
  have hn := BI_n b
  have e : flA A0 t s 12 (t.2.1 i) A = flA A0 t s 11 (hd A0 (t.2.2.1 (t.2.1 i))) (trnA A (t.2.2.1 (t.2.1 i))) := by
    show (if t.2.1 i = s then A else flA A0 t s 11 (hd A0 (t.2.2.1 (t.2.1 i))) (trnA A (t.2.2.1 (t.2.1 i)))) = _
    rw [if_neg hne]
  rw [e, h4, flA_fuel b 12 p 11 12 _ (by omega) (by omega) (by omega) (by omega)]
