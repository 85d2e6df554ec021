/-! ===== node, answered alike ===== -/
def ndI (A : Nat → Nat) (s : Nat) (j : Nat) : Int32 := match j with
  | 0 => nI (ld A s)
  | 1 => nI (cnt (dgP A s) (A 3))
  | 2 => nI (A (4 + s))
  | 3 => nI (pct (ngb A s (A 3)))
  | _ => nI (bfs A s).2.2.2
theorem xbn_l {α β β' γ : Type} {a : α} {cv : β → β'} {f : α → Option (γ ⊕ β')} : xbn (some (.inl a)) cv f = f a := rfl
theorem c_node {σ : cS} {A : Nat → Nat} {B s j Nf : Nat} (hg : GR σ 0 A) (w : WF A B) (hs : s < A 0) (h1 : isN A (nI s) = true) (hj : j ≤ 4) (hf : 100 < Nf) : ∃ σ', fX6_node (lCt ()) Nf σ 107 (nI s) (nI j) = some (.inl (ndI A s j, σ')) ∧ FS σ σ' := by
  have w2 := w.2.1
  have hn := ngb_lt (v := s) w (A 3) (Nat.le_refl _)
  unfold fX6_node fX6_node_0
  rw [chk_y hg w h1, xbn_l]
  rcases (show j = 0 ∨ j = 1 ∨ j = 2 ∨ j = 3 ∨ j = 4 by omega) with rfl | rfl | rfl | rfl | rfl
  · refine ⟨σ, ?_, fun _ _ => rfl⟩
    rw [if_pos (show nI 0 = (0 : Int32) from rfl), row_get (show lCt () (11 + 1) = 12 from rfl) (show s < 12 by omega) (by omega), hg.2.2.2.2.2.2.2.2.2.1 _ (by omega)]
    rfl
  · refine ⟨σ, ?_, fun _ _ => rfl⟩
    rw [if_neg (show ¬ nI 1 = (0 : Int32) by decide), if_pos (show nI 1 = (1 : Int32) from rfl), c_deg LG_0 hg w (by omega) (by omega)]
    rfl
  · refine ⟨σ, ?_, fun _ _ => rfl⟩
    rw [if_neg (show ¬ nI 2 = (0 : Int32) by decide), if_neg (show ¬ nI 2 = (1 : Int32) by decide), if_pos (show nI 2 = (2 : Int32) from rfl), row_get (show lCt () (13 + 1) = 12 from rfl) (show s < 12 by omega) (by omega), hg.2.2.2.2.2.2.2.2.2.2 _ (by omega)]
    rfl
  · refine ⟨σ, ?_, fun _ _ => rfl⟩
    rw [if_neg (show ¬ nI 3 = (0 : Int32) by decide), if_neg (show ¬ nI 3 = (1 : Int32) by decide), if_neg (show ¬ nI 3 = (2 : Int32) by decide), if_pos (show nI 3 = (3 : Int32) from rfl), c_ngb LG_0 hg w (by omega) (by omega), Option.bind_some, c_bitCount (by omega)]
    rfl
  · obtain ⟨σ1, r1, r2, r3⟩ := c_visitFrom (Nf := Nf) LG_0 (by omega) hg w hs hf
    refine ⟨σ1, ?_, r3⟩
    rw [if_neg (show ¬ nI 4 = (0 : Int32) by decide), if_neg (show ¬ nI 4 = (1 : Int32) by decide), if_neg (show ¬ nI 4 = (2 : Int32) by decide), if_neg (show ¬ nI 4 = (3 : Int32) by decide), if_pos (show nI 4 = (4 : Int32) from rfl), r1, Option.bind_some, r2.2.2.1]
    rfl
theorem m_nodeOf {τ : cS} {A : Nat → Nat} {B s j Nf : Nat} (hm : MR τ A) (w : WF A B) (hs : s < A 0) (hj : j ≤ 4) (hf : 100 < Nf) : ∃ τ', fX7_nodeOf (lMt ()) Nf τ 0 (nI s) (nI j) = some (ndI A s j, τ') ∧ FM τ τ' := by
  have w2 := w.2.1
  have hn := ngb_lt (v := s) w (A 3) (Nat.le_refl _)
  unfold fX7_nodeOf fX7_nodeOf_0
  rcases (show j = 0 ∨ j = 1 ∨ j = 2 ∨ j = 3 ∨ j = 4 by omega) with rfl | rfl | rfl | rfl | rfl
  · refine ⟨τ, ?_, FM_rf⟩
    rw [if_pos (show nI 0 = (0 : Int32) from rfl), m_load hm w (by omega) (by omega)]
    rfl
  · refine ⟨τ, ?_, FM_rf⟩
    rw [if_neg (show ¬ nI 1 = (0 : Int32) by decide), if_pos (show nI 1 = (1 : Int32) from rfl), m_deg hm w (by omega) (by omega)]
    rfl
  · refine ⟨τ, ?_, FM_rf⟩
    rw [if_neg (show ¬ nI 2 = (0 : Int32) by decide), if_neg (show ¬ nI 2 = (1 : Int32) by decide), if_pos (show nI 2 = (2 : Int32) from rfl)]
    simp (disch := omega) only [Nat.zero_add, lm1, grd_t, bnd_e, n0, n1, n2, n3, n4, n5, n6, n7, n8, n9, n10, n11, n12, n16, n20, n31, n40, n48, n56, n57, n61, n96, n97, n98, n99, n100, n108, n114, n116, n120, n127, n128, n136, n176, n215, n216, n255, n864, n999, n4096, n1000000, inb_n, nI_clamp, le_n, lt_n, eq_n, nI_add, Option.bind_some, Option.bind, hm _]
    rfl
  · refine ⟨τ, ?_, FM_rf⟩
    rw [if_neg (show ¬ nI 3 = (0 : Int32) by decide), if_neg (show ¬ nI 3 = (1 : Int32) by decide), if_neg (show ¬ nI 3 = (2 : Int32) by decide), if_pos (show nI 3 = (3 : Int32) from rfl), m_ngb hm w (by omega) (by omega), Option.bind_some, m_bits (by omega) (by omega)]
    rfl
  · obtain ⟨τ1, s1, s2, s3⟩ := m_visits (Nf := Nf) hm w hs hf
    refine ⟨τ1, ?_, s3⟩
    rw [if_neg (show ¬ nI 4 = (0 : Int32) by decide), if_neg (show ¬ nI 4 = (1 : Int32) by decide), if_neg (show ¬ nI 4 = (2 : Int32) by decide), if_neg (show ¬ nI 4 = (3 : Int32) by decide), s1, Option.bind_some, s2.1]
    rfl
theorem op_node {σ τ : cS} {B Nf : Nat} (hf : 1000 < Nf) (x1 x2 x3 : Int32) (h hm0 : Int64) (iv : IV σ τ B) : ∃ r, gL_c7 Nf x1 x2 x3 h σ hm0 τ = some r ∧ PI4 B r := by
  have iv0 := iv
  obtain ⟨A, Hs, q, c, len, hm, hg, w, hh, ht, hp⟩ := iv
  have w2 := w.2.1
  unfold gL_c7
  have e28 : ∀ y, fX7_node_28 (lMt ()) Nf 0 x1 x2 (nI 1) y τ = some (0, st2 τ 0 7 (nI 1)) := fun y => by
    unfold fX7_node_28; rw [mref_1]; rfl
  cases h1 : isN A x1 with
  | false =>
    refine try_no (k := 1) (σ' := σ) (h := h) (v := 0) (τ' := st2 τ 0 7 (nI 1)) (by omega) (by omega) ?_ ?_ st2_ss (IV_code iv0 _)
    · unfold fL_node fX6_node fX6_node_0
      rw [chk_n hg w h1]; rfl
    · unfold fX7_node fX7_node_0
      rw [mno_n hm w h1, Option.bind_some, if_pos (by decide)]
      unfold fX7_node_14
      rw [m_in, Option.bind_some, n1, e28, e28]
      split <;> rfl
  | true =>
    obtain ⟨s, hs, rfl⟩ := isN_n w h1
    have em : fX7_node (lMt ()) Nf τ 0 (nI s) x2 = if inI x2 (nI 0) (nI 4) = true then fX7_node_28 (lMt ()) Nf 0 (nI s) x2 (nI 0) (nI 0) τ else fX7_node_28 (lMt ()) Nf 0 (nI s) x2 (nI 0) (nI 1) τ := by
      unfold fX7_node fX7_node_0
      rw [mno_y hm w h1, Option.bind_some, if_neg (by decide)]
      unfold fX7_node_14
      rw [m_in, Option.bind_some, n0, n1, n4]
      cases inI x2 (nI 0) (nI 4) <;> rfl
    cases h2 : inI x2 (nI 0) (nI 4) with
    | false =>
      rw [h2] at em
      refine try_no (k := 2) (σ' := σ) (h := h) (v := 0) (τ' := st2 τ 0 7 (nI 2)) (by omega) (by omega) ?_ ?_ st2_ss (IV_code iv0 _)
      · have no : ∀ j, j ≤ 4 → ¬ x2 = nI j := fun j hj z => by
          rw [z, inI_y (by omega) (by omega) (by omega) (by omega) hj] at h2
          cases h2
        unfold fL_node fX6_node fX6_node_0
        rw [chk_y hg w h1]
        show Option.bind (if x2 = (0 : Int32) then _ else if x2 = (1 : Int32) then _ else if x2 = (2 : Int32) then _ else if x2 = (3 : Int32) then _ else if x2 = (4 : Int32) then _ else _) _ = _
        rw [if_neg (show ¬ x2 = (0 : Int32) from no 0 (by omega)), if_neg (show ¬ x2 = (1 : Int32) from no 1 (by omega)), if_neg (show ¬ x2 = (2 : Int32) from no 2 (by omega)), if_neg (show ¬ x2 = (3 : Int32) from no 3 (by omega)), if_neg (show ¬ x2 = (4 : Int32) from no 4 (by omega))]
        rfl
      · rw [em, if_neg (by decide)]
        unfold fX7_node_28
        rw [mref_2]; rfl
    | true =>
      rw [h2, if_pos rfl] at em
      obtain ⟨j, j1, j2, rfl⟩ := inI_n (by omega) (by omega) h2
      obtain ⟨σ1, r1, r2⟩ := c_node (Nf := Nf) hg w hs h1 j2 (by omega)
      obtain ⟨τ1, s1, s2⟩ := m_nodeOf (Nf := Nf) (τ := st2 τ 0 7 (nI 0)) (MR_out hm (by omega)) w hs j2 (by omega)
      refine try_ok (v := ndI A s j) (σ' := σ1) (τ' := τ1) ?_ ?_ (by rw [s2.2 7 (by omega) (by omega), st2_ss]) (IV_look (IV_code iv0 _) (Nat.le_refl _) r2 s2)
      · unfold fL_node
        rw [r1]; rfl
      · rw [em]
        unfold fX7_node_28
        rw [n0, mref_0]
        simp only [Option.bind_some]
        rw [if_pos trivial, s1]
        rfl
