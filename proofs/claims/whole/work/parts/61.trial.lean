/-! ===== turnsToBalance: the trial's turns, answered alike ===== -/
theorem op_turnsToBalance {σ τ : cS} {B Nf : Nat} (hf : 300000 < Nf) (x1 x2 x3 : Int32) (h hm0 : Int64) (iv : IV σ τ B) : ∃ r, gL_c20 Nf x1 x2 x3 h σ hm0 τ = some r ∧ PI4 B r := by
  obtain ⟨A, Hs, q, c, len, hm, hg, w, hh, ht, hp⟩ := iv
  have w2 := w.2.1
  have hq : sqs (ld A) (A 0) ≤ 19200 := Nat.le_trans (sqs_le (fun k => ld_le w k)) (by omega)
  obtain ⟨σ1, k1, k2, k3⟩ := c_copyFrom (Nf := Nf) LG_15 LG_0 (by omega) hg w (by omega)
  obtain ⟨σ3, a1, a2, a3, a4, a5, a6, a7⟩ := c_evens (Nf := Nf) LG_15 (by omega) (by omega) 19200 A σ1 0 Nf hq w k2 (by omega) (by omega)
  have hf3 : ∀ x, (x < 15 ∨ 30 ≤ x) → (x < 90 ∨ 97 ≤ x) → σ3 x = σ x := fun x h1 h2 => (a3 x (by omega) h2).trans (k3 x (by omega))
  generalize e0 : st2 τ 0 7 (nI 0) = τ0
  have hm0' : MR τ0 A := by rw [← e0]; exact MR_out hm (by omega)
  generalize e1 : rowF τ0 2 0 216 (τ0 1) = τ1
  have hm1 : MR τ1 A := MR_ext hm0' (by rw [← e1]; exact funext fun _ => rowF_nk (by omega))
  have r1 : ∀ j, j < 216 → τ1 2 j = nI (A j) := fun j hj => by rw [← e1, rowF_in (by omega) (by omega)]; exact hm0' j hj
  obtain ⟨τ3, b1, b2, b3⟩ := m_evens (Nf := Nf) (by omega) 19200 A τ1 0 Nf hq w hm1 (by omega)
  have r3 : ∀ j, j < 216 → τ3 2 j = nI (A j) := fun j hj => by rw [b3.1 2 (by omega) (by omega) (by omega) (by omega)]; exact r1 j hj
  generalize e4 : rowF τ3 1 0 216 (τ3 2) = τ4
  have hm4 : MR τ4 A := fun j hj => by rw [← e4, rowF_in (by omega) (by omega)]; exact r3 j hj
  have o4 : ∀ x, x ≠ 1 → τ4 x = τ3 x := fun x hx => by rw [← e4]; exact funext fun _ => rowF_nk hx
  have o1 : ∀ x, x ≠ 2 → τ1 x = τ0 x := fun x hx => by rw [← e1]; exact funext fun _ => rowF_nk hx
  have f0 : ∀ j, j ≠ 7 → j ≠ 10 → j ≠ 11 → τ4 0 j = τ 0 j := fun j h7 h10 h11 => by
    rw [o4 0 (by omega), b3.2 j h10 h11, o1 0 (by omega), ← e0, st2_nj h7]
  have fx : ∀ x, x ≠ 0 → x ≠ 1 → x ≠ 2 → x ≠ 5 → x ≠ 6 → τ4 x = τ x := fun x h0 h1 h2 h5 h6 => by
    rw [o4 x h1, b3.1 x h0 h1 h5 h6, o1 x h2, ← e0, st2_out h0]
  have ec : fX6_turnsToBalance (lCt ()) Nf σ 107 = some (nI ((bal 19200 A 0).2 2) - nI (A 2), σ3) := by
    unfold fX6_turnsToBalance fX6_turnsToBalance_0
    rw [k1, Option.bind_some]
    unfold fX5_evenOut fX5_evenOut_0
    rw [c_greatest LG_15 k2 w (by omega), Option.bind_some, n0, a1, Option.bind_some]
    simp only []
    rw [a2.2.2.2.1, hf3 0 (by omega) (by omega), hg.2.2.2.1]
  have em : fX7_turnsToBalance (lMt ()) Nf τ 0 = some (nI ((bal 19200 A 0).2 2) - nI (A 2), τ4) := by
    unfold fX7_turnsToBalance fX7_turnsToBalance_0
    rw [n0, bnd_e, e0, m_copy (by omega), e1, Option.bind_some]
    unfold fX7_balances fX7_balances_0
    rw [n0, n1, b1, Option.bind_some, show inb (2 : Int32) (lMt () (0 + 1)) = true from rfl, grd_t, show inb (2 : Int32) (lMt () (0 + 2)) = true from rfl, grd_t]
    simp only []
    rw [m_back (by omega), e4, bnd_e, Option.bind_some, show τ3 (0 + 1) (2 : Int32).toNatClampNeg = nI ((bal 19200 A 0).2 2) from b2 2 (by omega), show τ3 (0 + 2) (2 : Int32).toNatClampNeg = nI (A 2) from r3 2 (by omega)]
  unfold gL_c20
  refine bind_x ec (bind_x em ?_)
  refine grd_x (decide_eq_true rfl) ⟨_, rfl, ?_⟩
  show IV σ3 τ4 (B + 100)
  refine ⟨A, Hs, q, c, len, hm4, GR_keep hg (fun x hx hx2 => hf3 x (by omega) (by omega)), WF_up w (by omega), ?_, ?_, ?_⟩
  · exact HS_keep hh (by omega) (fun x hx hx2 => hf3 x (by omega) (by omega)) (hf3 105 (by omega) (by omega)) (f0 4 (by omega) (by omega) (by omega)) (f0 5 (by omega) (by omega) (by omega)) (fx 3 (by omega) (by omega) (by omega) (by omega) (by omega))
  · exact TX_keep ht (hf3 102 (by omega) (by omega)) (hf3 (102 + 1 + 1) (by omega) (by omega)) (f0 6 (by omega) (by omega) (by omega)) (fx 4 (by omega) (by omega) (by omega) (by omega) (by omega))
  · exact PT_keep hp (hf3 97 (by omega) (by omega)) (hf3 98 (by omega) (by omega)) rfl (fun _ => rfl)
