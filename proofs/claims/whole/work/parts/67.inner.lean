/-! ===== inner: the model's count, and the call, answered alike ===== -/
theorem m_inner_loop {τ : cS} {A : Nat → Nat} {B s Nf : Nat} {m1 : Int32} (h : MR τ A) (w : WF A B) (hs : s < 4096) (hm1 : ∀ k, k < 40 → ¬ nI k = m1) : ∀ (d i n : Nat), i + d = A 3 → d < n → fX7_innerOf_21 (lMt ()) Nf τ 0 n (nI s) m1 (nI (cnt (inP A s) i)) (nI i) = some (nI (cnt (inP A s) (A 3))) := by
  have w2 := w.2.1
  have w3 := w.2.2.1
  intro d
  induction d with
  | zero =>
    intro i n h1 hn
    obtain ⟨n, rfl⟩ : ∃ z, n = z + 1 := ⟨n - 1, by omega⟩
    unfold fX7_innerOf_21
    simp (disch := omega) only [Nat.zero_add, lm1, grd_t, bnd_e, n0, n1, n2, n3, n4, n5, n6, n7, n8, n9, n10, n11, n12, n16, n20, n31, n40, n48, n56, n57, n61, n96, n97, n98, n99, n100, n108, n114, n116, n120, n127, n128, n136, n176, n215, n216, n255, n864, n999, n4096, n1000000, inb_n, nI_clamp, le_n, lt_n, eq_n, nI_add, Option.bind_some, Option.bind, h _]
    rw [if_pos (by omega), show i = A 3 by omega]
  | succ d ih =>
    intro i n h1 hn
    obtain ⟨n, rfl⟩ : ∃ z, n = z + 1 := ⟨n - 1, by omega⟩
    have wk := w.2.2.2.2.1 i (by omega)
    have h2 := ih (i + 1) n (by omega) (by omega)
    simp only [cnt] at h2
    have s1 : ((nI s >>> (nI (A (56 + i)) &&& nI 31)) &&& nI 1) = nI (if s.testBit (A (56 + i)) = true then 1 else 0) := shr hs (by omega)
    have s2 : ((nI s >>> (nI (A (96 + i)) &&& nI 31)) &&& nI 1) = nI (if s.testBit (A (96 + i)) = true then 1 else 0) := shr hs (by omega)
    have hc := Nat.le_trans (cnt_le (inP A s) i) (show i ≤ 40 by omega)
    unfold fX7_innerOf_21 fX7_innerOf_80 fX7_innerOf_81
    simp (disch := omega) only [Nat.zero_add, lm1, grd_t, bnd_e, n0, n1, n2, n3, n4, n5, n6, n7, n8, n9, n10, n11, n12, n16, n20, n31, n40, n48, n56, n57, n61, n96, n97, n98, n99, n100, n108, n114, n116, n120, n127, n128, n136, n176, n215, n216, n255, n864, n999, n4096, n1000000, inb_n, nI_clamp, le_n, lt_n, eq_n, nI_add, Option.bind_some, Option.bind, h _, s1, s2]
    rw [if_neg (show ¬ A 3 ≤ i by omega), if_neg (hm1 i (by omega))]
    cases e1 : s.testBit (A (56 + i)) with
    | false =>
      rw [if_neg (by decide)]
      rw [if_neg (show ¬ inP A s i = true by unfold inP; rw [e1, Bool.false_and]; decide)] at h2
      exact h2
    | true =>
      rw [if_pos (by decide)]
      cases e2 : s.testBit (A (96 + i)) with
      | false =>
        rw [if_neg (by decide)]
        rw [if_neg (show ¬ inP A s i = true by unfold inP; rw [e1, e2]; decide)] at h2
        exact h2
      | true =>
        rw [if_pos (by decide)]
        rw [if_pos (show inP A s i = true by unfold inP; rw [e1, e2]; decide)] at h2
        exact h2
theorem m_innerOf {τ : cS} {A : Nat → Nat} {B s Nf : Nat} (h : MR τ A) (w : WF A B) (hs : s < 4096) (hf : 40 < Nf) : fX7_innerOf (lMt ()) Nf τ 0 (nI s) (-1 : Int32) (0 : Int32) = some (nI (inn A s)) := by
  have w3 := w.2.2.1
  unfold fX7_innerOf fX7_innerOf_0
  rw [if_pos rfl]
  unfold fX7_innerOf_15 fX7_innerOf_16
  rw [n0]
  exact m_inner_loop h w hs (fun k hk => nI_ne1 (by omega)) (A 3) 0 Nf (by omega) (by omega)
