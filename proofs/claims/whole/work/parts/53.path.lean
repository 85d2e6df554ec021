/-! ===== paths ===== -/
def pln (A : Nat → Nat) (t : bst) (s : Nat) : Nat → Nat → Nat
  | 0, _ => 0
  | f + 1, v => if v = s then 0 else pln A t s f (hd A (t.2.2.1 v)) + 1
theorem pln_fuel {A : Nat → Nat} {t : bst} {s : Nat} (b : BI A s t) : ∀ (m i f f' : Nat), i ≤ m → i < t.1 → i ≤ f → i ≤ f' → pln A t s f (t.2.1 i) = pln A t s f' (t.2.1 i) := by
  intro m
  induction m with
  | zero =>
    intro i f f' hm hi hf hf'
    have : i = 0 := by omega
    subst this
    have e : ∀ f, pln A t s f (t.2.1 0) = 0 := fun f => by
      cases f with
      | zero => rfl
      | succ f => simp only [pln]; rw [if_pos b.2.1]
    rw [e, e]
  | succ m ih =>
    intro i f f' hm hi hf hf'
    by_cases e : i = 0
    · subst e
      have e : ∀ f, pln A t s f (t.2.1 0) = 0 := fun f => by
        cases f with
        | zero => rfl
        | succ f => simp only [pln]; rw [if_pos b.2.1]
      rw [e, e]
    · obtain ⟨f, rfl⟩ : ∃ z, f = z + 1 := ⟨f - 1, by omega⟩
      obtain ⟨f', rfl⟩ : ∃ z, f' = z + 1 := ⟨f' - 1, by omega⟩
      have hne : t.2.1 i ≠ s := fun q => b.2.2.2.2.2.2.1 0 i (by omega) hi (by rw [q]; exact b.2.1)
      obtain ⟨z1, z2, p, z3, z4⟩ := b.2.2.2.2.2.2.2 i (by omega) hi
      simp only [pln]
      rw [if_neg hne, if_neg hne, z4, ih p f f' (by omega) (by omega) (by omega) (by omega)]
/-- what a step back along the path is -/
theorem BI_back {A : Nat → Nat} {t : bst} {s i : Nat} (b : BI A s t) (hi : i < t.1) (h1 : 1 ≤ i) : t.2.1 i ≠ s ∧ t.2.2.1 (t.2.1 i) < A 3 ∧ ∃ p, p < i ∧ hd A (t.2.2.1 (t.2.1 i)) = t.2.1 p ∧ pln A t s 12 (t.2.1 i) = pln A t s 12 (t.2.1 p) + 1 := by
  have hn := BI_n b
  have hne : t.2.1 i ≠ s := fun q => b.2.2.2.2.2.2.1 0 i (by omega) hi (by rw [q]; exact b.2.1)
  obtain ⟨z1, z2, p, z3, z4⟩ := b.2.2.2.2.2.2.2 i h1 hi
  refine ⟨hne, z1, p, z3, z4, ?_⟩
  have e : pln A t s 12 (t.2.1 i) = pln A t s 11 (hd A (t.2.2.1 (t.2.1 i))) + 1 := by
    show (if t.2.1 i = s then 0 else pln A t s 11 (hd A (t.2.2.1 (t.2.1 i))) + 1) = _
    rw [if_neg hne]
  rw [e, z4, pln_fuel b 12 p 11 12 (by omega) (by omega) (by omega) (by omega)]
theorem pln_0 {A : Nat → Nat} {t : bst} {s : Nat} : pln A t s 12 s = 0 := by
  show (if s = s then 0 else _) = 0
  rw [if_pos rfl]
theorem pln_i {A : Nat → Nat} {t : bst} {s : Nat} (b : BI A s t) : ∀ (m i : Nat), i ≤ m → i < t.1 → pln A t s 12 (t.2.1 i) ≤ i := by
  intro m
  induction m with
  | zero =>
    intro i hm hi
    rw [show i = 0 by omega, b.2.1, pln_0]
    exact Nat.le_refl _
  | succ m ih =>
    intro i hm hi
    by_cases e : i = 0
    · rw [e, b.2.1, pln_0]; exact Nat.le_refl _
    · obtain ⟨-, -, p, h1, -, h2⟩ := BI_back b hi (by omega)
      have := ih p (by omega) (by omega)
      omega
theorem c_len_loop {σ : cS} {A : Nat → Nat} {t : bst} {s Nf B : Nat} (w : WF A B) (b : BI A s t) (c : CB σ A t s) : ∀ (m i a n : Nat), i ≤ m → i < t.1 → a + i ≤ 12 → i < n → fX5_lengthTo_14 (lCt ()) Nf σ 90 n (nI a) (nI (t.2.1 i)) = some (nI (a + pln A t s 12 (t.2.1 i))) := by
  have w2 := w.2.1
  have hs : s < A 0 := by rw [← b.2.1]; exact (b.2.2.2.2.1 0 b.1).1
  intro m
  induction m with
  | zero =>
    intro i a n hm hi ha hn
    obtain ⟨n, rfl⟩ : ∃ z, n = z + 1 := ⟨n - 1, by omega⟩
    unfold fX5_lengthTo_14 fX5_lengthTo_43
    rw [show i = 0 by omega, b.2.1, c.1, if_pos rfl, pln_0]; rfl
  | succ m ih =>
    intro i a n hm hi ha hn
    obtain ⟨n, rfl⟩ : ∃ z, n = z + 1 := ⟨n - 1, by omega⟩
    have hv := (b.2.2.2.2.1 i hi).1
    by_cases e : i = 0
    · unfold fX5_lengthTo_14 fX5_lengthTo_43
      rw [e, b.2.1, c.1, if_pos rfl, pln_0]; rfl
    · obtain ⟨g1, g2, p, g3, g4, g5⟩ := BI_back b hi (by omega)
      unfold fX5_lengthTo_14 fX5_lengthTo_43
      rw [c.1, if_neg (fun q => g1 ((nI_eq (by omega) (by omega)).mp q)), n12, if_neg (fun q => absurd ((nI_leI (by omega) (by omega)).mp q) (by omega)), n1, nI_add, bnd_e, row_get (show lCt () (90 + 5 + 1) = 12 from rfl) (by omega) (by omega), (c.2.2.2.2 i (by omega) hi).2, g4, Option.bind_some, ih p (a + 1) n (by omega) (by omega) (by omega) (by omega), g5]
      congr 2
      omega
theorem c_lengthTo {σ : cS} {A : Nat → Nat} {t : bst} {s v Nf B : Nat} (w : WF A B) (b : BI A s t) (c : CB σ A t s) (hv : v < 12) (hf : 100 < Nf) : fX5_lengthTo (lCt ()) Nf σ 90 (nI v) = some (if t.2.2.2.testBit v = true then nI (pln A t s 12 v) else -1) := by
  unfold fX5_lengthTo fX5_lengthTo_0
  rw [c_isV c.2.2.1 b.2.2.1 hv, Option.bind_some]
  cases e : t.2.2.2.testBit v with
  | false => rw [if_pos (by decide), if_neg (by decide)]
  | true =>
    obtain ⟨i, hi, rfl⟩ := b.2.2.2.2.2.1 v hv e
    have hn := BI_n b
    rw [if_neg (by decide), if_pos rfl, n0, c_len_loop w b c 12 i 0 Nf (by omega) hi (by omega) (by omega), Nat.zero_add]
theorem m_len_loop {τ : cS} {A : Nat → Nat} {t : bst} {s B : Nat} {Nf : Nat} (hm : MR τ A) (w : WF A B) (b : BI A s t) (c : MB τ t s) : ∀ (m i a n : Nat), i ≤ m → i < t.1 → i < n → fX7_lengthTo_4 (lMt ()) Nf τ 0 n (nI a) (nI (t.2.1 i)) = some (nI (a + pln A t s 12 (t.2.1 i))) := by
  have w2 := w.2.1
  have w3 := w.2.2.1
  have hs : s < A 0 := by rw [← b.2.1]; exact (b.2.2.2.2.1 0 b.1).1
  have base : ∀ a n, fX7_lengthTo_4 (lMt ()) Nf τ 0 (n + 1) (nI a) (nI s) = some (nI (a + pln A t s 12 s)) := fun a n => by
    unfold fX7_lengthTo_4
    rw [show inb (nI s) (lMt () (0 + 6)) = true from (inb_n (n := 12) (by omega) (by omega) : inb (nI s) 12 = true), grd_t, nI_clamp (by omega), show τ (0 + 6) s = -1 from c.2.2.2.2, if_pos (by decide), pln_0]; rfl
  intro m
  induction m with
  | zero =>
    intro i a n hmm hi hn
    obtain ⟨n, rfl⟩ : ∃ z, n = z + 1 := ⟨n - 1, by omega⟩
    rw [show i = 0 by omega, b.2.1]
    exact base a n
  | succ m ih =>
    intro i a n hmm hi hn
    obtain ⟨n, rfl⟩ : ∃ z, n = z + 1 := ⟨n - 1, by omega⟩
    have hv := (b.2.2.2.2.1 i hi).1
    by_cases e : i = 0
    · rw [e, b.2.1]; exact base a n
    · obtain ⟨g1, g2, p, g3, g4, g5⟩ := BI_back b hi (by omega)
      unfold fX7_lengthTo_4
      rw [show inb (nI (t.2.1 i)) (lMt () (0 + 6)) = true from (inb_n (n := 12) (by omega) (by omega) : inb (nI (t.2.1 i)) 12 = true), grd_t, grd_t, nI_clamp (by omega), show τ (0 + 6) (t.2.1 i) = nI (t.2.2.1 (t.2.1 i)) from c.2.2.2.1 i (by omega) hi, if_neg (show ¬ nI (t.2.2.1 (t.2.1 i)) < 0 from nI_pos (by omega)), m_holder hm w g2, g4, Option.bind_some, n1, nI_add, bnd_e, ih p (a + 1) n (by omega) (by omega) (by omega), g5]
      congr 2
      omega
theorem m_pathOf {τ : cS} {A : Nat → Nat} {B s v Nf : Nat} (hm : MR τ A) (w : WF A B) (hs : s < A 0) (hv : v < A 0) (hf : 100 < Nf) : ∃ τ', fX7_pathOf (lMt ()) Nf τ 0 (nI s) (nI v) = some (if (bfs A s).2.2.2.testBit v = true then nI (pln A (bfs A s) s 12 v) else -1, τ') ∧ MB τ' (bfs A s) s ∧ FM τ τ' := by
  have w2 := w.2.1
  have b := BI_bfs w hs
  obtain ⟨τ', z1, z2, z3⟩ := m_visits (Nf := Nf) hm w hs hf
  refine ⟨τ', ?_, z2, z3⟩
  unfold fX7_pathOf fX7_pathOf_0 fX7_pathOf_25
  rw [z1, Option.bind_some, z2.1, n1, n31, shr b.2.2.1 (by omega)]
  cases e : (bfs A s).2.2.2.testBit v with
  | false => rw [if_neg (show ¬ (false = true) by decide), if_pos (show (nI 0 : Int32) = 0 from rfl), if_neg (show ¬ (false = true) by decide)]
  | true =>
    obtain ⟨i, hi, rfl⟩ := b.2.2.2.2.2.1 v (by omega) e
    have hn := BI_n b
    rw [if_pos rfl, if_neg (by decide), if_pos rfl]
    unfold fX7_lengthTo fX7_lengthTo_0
    rw [n0, m_len_loop (MR_ext hm (z3.1 1 (by omega) (by omega) (by omega))) w b z2 12 i 0 Nf (by omega) hi (by omega), Nat.zero_add]
    rfl
theorem IV_look {σ τ σ' τ' : cS} {B B' : Nat} (h : IV σ τ B) (hB : B ≤ B') (f : FS σ σ') (g : FM τ τ') : IV σ' τ' B' := by
  obtain ⟨A, Hs, q, c, len, hm, hg, w, hh, ht, hp⟩ := h
  exact ⟨A, Hs, q, c, len, MR_ext hm (g.1 1 (by omega) (by omega) (by omega)), GR_keep hg (fun x hx hx2 => f x (by omega)), WF_up w hB, HS_keep hh hB (fun x hx hx2 => f x (by omega)) (f 105 (by omega)) (g.2 4 (by omega) (by omega)) (g.2 5 (by omega) (by omega)) (g.1 3 (by omega) (by omega) (by omega)), TX_keep ht (f 102 (by omega)) (f (102 + 1 + 1) (by omega)) (g.2 6 (by omega) (by omega)) (g.1 4 (by omega) (by omega) (by omega)), PT_keep hp (f 97 (by omega)) (f 98 (by omega)) rfl (fun _ => rfl)⟩
theorem op_path {σ τ : cS} {B Nf : Nat} (hf : 1000 < Nf) (x1 x2 x3 : Int32) (h hm0 : Int64) (iv : IV σ τ B) : ∃ r, gL_c11 Nf x1 x2 x3 h σ hm0 τ = some r ∧ PI4 B r := by
  have iv0 := iv
  obtain ⟨A, Hs, q, c, len, hm, hg, w, hh, ht, hp⟩ := iv
  unfold gL_c11
  have bad : fX7_path_17 (lMt ()) Nf 0 x1 x2 τ = some (0, st2 τ 0 7 (nI 1)) := by
    unfold fX7_path_17 fX7_path_22
    rw [n1, mref_1]; rfl
  cases h1 : isN A x1 with
  | false =>
    refine try_no (k := 1) (σ' := σ) (h := h) (v := 0) (τ' := st2 τ 0 7 (nI 1)) (by omega) (by omega) ?_ ?_ st2_ss (IV_code iv0 _)
    · unfold fL_path fX6_path fX6_path_0
      rw [chk_n hg w h1]; rfl
    · unfold fX7_path fX7_path_0
      rw [mno_n hm w h1, Option.bind_some, if_pos (by decide), bad]
  | true =>
    cases h2 : isN A x2 with
    | false =>
      refine try_no (k := 1) (σ' := σ) (h := h) (v := 0) (τ' := st2 τ 0 7 (nI 1)) (by omega) (by omega) ?_ ?_ st2_ss (IV_code iv0 _)
      · unfold fL_path fX6_path fX6_path_0
        rw [chk_y hg w h1, chk_n hg w h2]; rfl
      · unfold fX7_path fX7_path_0
        rw [mno_y hm w h1, Option.bind_some, if_neg (by decide), mno_n hm w h2, Option.bind_some, if_pos (by decide), bad]
    | true =>
      have w2 := w.2.1
      have k1 := chk_y hg w h1
      have k2 := chk_y hg w h2
      have k3 := mno_y hm w h1
      have k4 := mno_y hm w h2
      obtain ⟨s, hs, rfl⟩ := isN_n w h1
      obtain ⟨v, hv, rfl⟩ := isN_n w h2
      obtain ⟨σ', r1, r2, r3⟩ := c_visitFrom (Nf := Nf) LG_0 (by omega) hg w hs (by omega)
      obtain ⟨τ', s1, s2, s3⟩ := m_pathOf (τ := st2 τ 0 7 (nI 0)) (Nf := Nf) (MR_out hm (by omega)) w hs hv (by omega)
      have b := BI_bfs w hs
      refine try_ok (v := if (bfs A s).2.2.2.testBit v = true then nI (pln A (bfs A s) s 12 v) else -1) (σ' := σ') (τ' := τ') ?_ ?_ ?_ ?_
      · unfold fL_path fX6_path fX6_path_0
        rw [k1, k2]
        show Option.bind (Option.bind (fX5_visitFrom (lCt ()) Nf σ 90 0 (nI s)) _) _ = _
        rw [r1, Option.bind_some, c_lengthTo w b r2 (by omega) (by omega)]
        rfl
      · unfold fX7_path fX7_path_0
        rw [k3, Option.bind_some, if_neg (by decide), k4, Option.bind_some, if_neg (by decide)]
        unfold fX7_path_22 fX7_path_40
        rw [n0, mref_0]
        simp only [Option.bind_some]
        rw [if_pos trivial, s1]
        rfl
      · rw [s3.2 7 (by omega) (by omega), st2_ss]
      · exact IV_look (IV_code iv0 (nI 0)) (Nat.le_refl _) r3 s3
