/-! ===== node, answered alike ===== -/
def ndI (A : Nat → Nat) (s : Nat) (j : Nat) : Int32 := match j with
  | 0 => nI (ld A s)
  | 1 => nI (cnt (dgP A s) (A 3))
  | 2 => nI (A (4 + s))
  | 3 => nI (pct (ngb A s (A 3)))
  | _ => nI (bfs A s).2.2.2
theorem xbn_l {α β β' γ : Type} {a : α} {cv : β → β'} {f : α → Option (γ ⊕ β')} : xbn (some (.inl a)) cv f = f a := rfl
theorem c_node {σ : cS} {A : Nat → Nat} {B s j Nf : Nat} (hg : GR σ 0 A) (w : WF A B) (hs : s < A 0) (h1 : isN A (nI s) = true) (hj : j ≤ 4) (hf : 100 < Nf) : ∃ σ', fX6_node (lCt ()) Nf σ 107 (nI s) (nI j) = some (.inl (ndI A s j, σ')) ∧ FS σ σ' := by
  have w2 := w.2.1
  have hn := ngb_lt (v := s) w (A 3) (Nat.le_refl _)
  unfold fX6_node fX6_node_0
  rw [chk_y hg w h1, xbn_l]
  rcases (show j = 0 ∨ j = 1 ∨ j = 2 ∨ j = 3 ∨ j = 4 by omega) with rfl | rfl | rfl | rfl | rfl
  · refine ⟨σ, ?_, fun _ _ => rfl⟩
    rw [if_pos (show nI 0 = (0 : Int32) from rfl), row_get (show lCt () (11 + 1) = 12 from rfl) (show s < 12 by omega) (by omega), hg.2.2.2.2.2.2.2.2.2.1 _ (by omega)]
    rfl
  · refine ⟨σ, ?_, fun _ _ => rfl⟩
    rw [if_neg (show ¬ nI 1 = (0 : Int32) by decide), if_pos (show nI 1 = (1 : Int32) from rfl), c_deg LG_0 hg w (by omega) (by omega)]
    rfl
  · refine ⟨σ, ?_, fun _ _ => rfl⟩
    rw [if_neg (show ¬ nI 2 = (0 : Int32) by decide), if_neg (show ¬ nI 2 = (1 : Int32) by decide), if_pos (show nI 2 = (2 : Int32) from rfl), row_get (show lCt () (13 + 1) = 12 from rfl) (show s < 12 by omega) (by omega), hg.2.2.2.2.2.2.2.2.2.2 _ (by omega)]
    rfl
  · refine ⟨σ, ?_, fun _ _ => rfl⟩
    rw [if_neg (show ¬ nI 3 = (0 : Int32) by decide), if_neg (show ¬ nI 3 = (1 : Int32) by decide), if_neg (show ¬ nI 3 = (2 : Int32) by decide), if_pos (show nI 3 = (3 : Int32) from rfl), c_ngb LG_0 hg w (by omega) (by omega), Option.bind_some, c_bitCount (by omega)]
    rfl
  · obtain ⟨σ1, r1, r2, r3⟩ := c_visitFrom (Nf := Nf) LG_0 (by omega) hg w hs hf
    refine ⟨σ1, ?_, r3⟩
    rw [if_neg (show ¬ nI 4 = (0 : Int32) by decide), if_neg (show ¬ nI 4 = (1 : Int32) by decide), if_neg (show ¬ nI 4 = (2 : Int32) by decide), if_neg (show ¬ nI 4 = (3 : Int32) by decide), if_pos (show nI 4 = (4 : Int32) from rfl), r1, Option.bind_some, r2.2.2.1]
    rfl
