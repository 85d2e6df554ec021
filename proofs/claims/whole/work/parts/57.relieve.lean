/-! ===== relieve, answered alike ===== -/
theorem IV_step2 {σ τ σ1 τ1 σ3 τ2 : cS} {A' : Nat → Nat} {Hs1 : Nat → Nat → Nat} {q1 c1 len B : Nat} {v : Int32} (ht : TX σ τ len) (k5 : HS σ1 τ1 Hs1 q1 c1 B) (k6 : ∀ x, (x < 30 ∨ 90 ≤ x) → x ≠ 105 → σ1 x = σ x) (k7 : ∀ j, j ≠ 4 → j ≠ 5 → τ1 0 j = st2 τ 0 7 v 0 j) (k8 : ∀ x, x ≠ 0 → x ≠ 3 → τ1 x = st2 τ 0 7 v x) (f : ∀ x, (30 ≤ x ∧ x < 90) ∨ 102 ≤ x → σ3 x = σ1 x) (fr : ∀ c, c ≠ 0 → c ≠ 1 → c ≠ 5 → c ≠ 6 → τ2 c = τ1 c) (fr0 : ∀ j, j ≠ 10 → j ≠ 11 → τ2 0 j = τ1 0 j) (m : MR τ2 A') (g : GR σ3 0 A') (w : WF A' (B + 100)) (p : PT σ3 A') : IV σ3 τ2 (B + 100) := by
  refine ⟨A', Hs1, q1, c1, len, m, g, w, ?_, ?_, p⟩
  · exact HS_keep k5 (by omega) (fun x hx hx2 => f x (by omega)) (f 105 (by omega)) (fr0 4 (by omega) (by omega)) (fr0 5 (by omega) (by omega)) (fr 3 (by omega) (by omega) (by omega) (by omega))
  · refine TX_keep ht (by rw [f 102 (by omega), k6 102 (by omega) (by omega)]) (by rw [f (102 + 1 + 1) (by omega), k6 (102 + 1 + 1) (by omega) (by omega)]) ?_ ?_
    · rw [fr0 6 (by omega) (by omega), k7 6 (by omega) (by omega), st2_nj (by omega)]
    · rw [fr 4 (by omega) (by omega) (by omega) (by omega), k8 4 (by omega) (by omega), st2_out (by omega)]
theorem op_relieve {σ τ : cS} {B Nf : Nat} (hf : 1000 < Nf) (x1 x2 x3 : Int32) (h hm0 : Int64) (iv : IV σ τ B) : ∃ r, gL_c4 Nf x1 x2 x3 h σ hm0 τ = some r ∧ PI4 B r := by
  have iv0 := iv
  obtain ⟨A, Hs, q, c, len, hm, hg, w, hh, ht, hp⟩ := iv
  unfold gL_c4
  cases h1 : isN A x1 with
  | false =>
    refine try_no (k := 1) (σ' := σ) (h := h) (v := 0) (τ' := st2 τ 0 7 (nI 1)) (by omega) (by omega) ?_ ?_ st2_ss (IV_code iv0 _)
    · unfold fL_relieve fX6_relieve fX6_relieve_0
      rw [chk_n hg w h1]; rfl
    · unfold fX7_relieve fX7_relieve_0 fX7_refusesRelief fX7_refusesRelief_0
      rw [mno_n hm w h1, Option.bind_some, if_pos (by decide)]
      unfold fX7_refusesRelief_14
      rw [mno_n hm w h1, Option.bind_some, if_pos (by decide)]
      unfold fX7_refusesRelief_34 fX7_refusesRelief_35
      rw [n1, mref_1]; rfl
  | true =>
    have w2 := w.2.1
    have kc := chk_y hg w h1
    have km := mno_y hm w h1
    obtain ⟨s, hs, rfl⟩ := isN_n w h1
    have b := BI_bfs w hs
    have hn := BI_n b
    obtain ⟨σ1, r1, r2, r3⟩ := c_visitFrom (Nf := Nf) LG_0 (by omega) hg w hs (by omega)
    obtain ⟨τ1, s1, s2, s3⟩ := m_reliefOf (Nf := Nf) hm w hs (by omega)
    have hm1 : MR τ1 A := MR_ext hm (s3.1 1 (by omega) (by omega) (by omega))
    have hg1 : GR σ1 0 A := GR_keep hg (fun x hx hx2 => r3 x (by omega))
    have hh1 : HS σ1 τ1 Hs q c B := HS_keep hh (Nat.le_refl _) (fun x hx hx2 => r3 x (by omega)) (r3 105 (by omega)) (s3.2 4 (by omega) (by omega)) (s3.2 5 (by omega) (by omega)) (s3.1 3 (by omega) (by omega) (by omega))
    have ht1 : TX σ1 τ1 len := TX_keep ht (r3 102 (by omega)) (r3 (102 + 1 + 1) (by omega)) (s3.2 6 (by omega) (by omega)) (s3.1 4 (by omega) (by omega) (by omega))
    have hp1 : PT σ1 A := PT_keep hp (r3 97 (by omega)) (r3 98 (by omega)) rfl (fun _ => rfl)
    have cl := c_lighter (Nf := Nf) LG_0 hg1 w b r2 (by omega)
    have er : fnd (lgt A (bfs A s) s) 1 ((bfs A s).1 - 1) = rel A s := rfl
    rw [er] at cl
    have ec : fX6_relieve (lCt ()) Nf σ 107 (nI s) = if qI (bfs A s) (rel A s) = -1 then some (.inr (2, σ1)) else (fX1_save (lCt ()) Nf σ1 105 0).bind (fun r4 => (fX5_flipPathTo (lCt ()) Nf r4 90 0 (qI (bfs A s) (rel A s))).bind (fun r5 => some (.inl (r5.1, r5.2)))) := by
      unfold fX6_relieve fX6_relieve_0
      rw [kc]
      show Option.bind (fX5_visitFrom (lCt ()) Nf σ 90 0 (nI s)) _ = _
      rw [r1, Option.bind_some, cl]
      rfl
    have em : fX7_refusesRelief (lMt ()) Nf τ 0 (nI s) = if 0 ≤ qI (bfs A s) (rel A s) then fX7_refusesRelief_34 (lMt ()) Nf 0 0 τ1 else fX7_refusesRelief_35 (lMt ()) Nf 0 0 1 τ1 := by
      unfold fX7_refusesRelief fX7_refusesRelief_0
      rw [km, Option.bind_some, if_neg (by decide)]
      unfold fX7_refusesRelief_14
      rw [km, Option.bind_some, if_neg (by decide), s1, Option.bind_some]
    cases e : rel A s with
    | none =>
      rw [e] at ec em
      have em : fX7_refusesRelief (lMt ()) Nf τ 0 (nI s) = if (0 : Int32) ≤ -1 then fX7_refusesRelief_34 (lMt ()) Nf 0 0 τ1 else fX7_refusesRelief_35 (lMt ()) Nf 0 0 1 τ1 := em
      refine try_no (k := 2) (σ' := σ1) (h := h) (v := 0) (τ' := st2 τ1 0 7 (nI 2)) (by omega) (by omega) ?_ ?_ st2_ss (IV_code (IV_look iv0 (Nat.le_refl _) r3 s3) _)
      · unfold fL_relieve
        rw [ec, if_pos (show qI (bfs A s) none = -1 from rfl)]; rfl
      · unfold fX7_relieve fX7_relieve_0
        rw [em, if_neg (show ¬ (0 : Int32) ≤ -1 by decide)]
        unfold fX7_refusesRelief_35
        rw [n0, n1, mref_2]; rfl
    | some j =>
      rw [e] at ec em
      obtain ⟨j1, j2, j3⟩ := rel_i e
      have hv := b.2.2.2.2.1 j j2
      have eq0 : qI (bfs A s) (some j) = nI ((bfs A s).2.1 j) := rfl
      rw [eq0] at ec em
      obtain ⟨σ2, τ2, k1, k2, k3, k4, ⟨Hs1, q1, c1, k5⟩, k6, k7, k8⟩ := both_save (MR_out hm1 (k := 0) (j := 7) (v := nI 0) (by omega)) hg1 w (HS_code hh1 (nI 0)) (show 216 < Nf by omega)
      obtain ⟨σ3, y1, y2, y3⟩ := c_flipPath (Nf := Nf) LG_0 (by omega) k4 w hs (CB_keep r2 (fun x hx hx2 => k6 x (by omega) (by omega))) j2 (by omega)
      obtain ⟨τ3, z1, z2, z3, z4⟩ := m_relieves (Nf := Nf) k3 w hs (by omega)
      rw [e] at z1 z2
      obtain ⟨u1, u2, u3⟩ := rel_WF w hs j2
      refine try_ok (v := nI (pln A (bfs A s) s 12 ((bfs A s).2.1 j))) (σ' := σ3) (τ' := τ3) ?_ ?_ ?_ ?_
      · unfold fL_relieve
        rw [ec, if_neg (nI_ne1 (by omega)), k1, Option.bind_some, y1]
        rfl
      · unfold fX7_relieve fX7_relieve_0
        rw [em, if_pos (show (0 : Int32) ≤ nI ((bfs A s).2.1 j) from nI_pos' (by omega))]
        unfold fX7_refusesRelief_34 fX7_refusesRelief_35
        rw [n0, mref_0]
        simp only [Option.bind_some]
        rw [isb0, grd_t, Option.bind_some]
        simp only []
        rw [if_pos trivial, k2, Option.bind_some, z1]
        rfl
      · rw [z4 7 (by omega) (by omega), k7 7 (by omega) (by omega), st2_ss]
      · show IV σ3 τ3 (B + 100)
        refine IV_step2 ht1 k5 k6 k7 k8 (fun x hx => y3 x (by omega)) z3 z4 z2 y2 (WF_up u1 (by omega)) (PT_keep hp1 ?_ ?_ u2 u3)
        · rw [y3 97 (by omega), k6 97 (by omega) (by omega)]
        · rw [y3 98 (by omega), k6 98 (by omega) (by omega)]
