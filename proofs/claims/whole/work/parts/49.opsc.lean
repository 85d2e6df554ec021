/-! ===== orders: capacity, edges, text, undo ===== -/
theorem in_pred {x : Int32} {M : Nat} (hM : M < 2 ^ 31) : inI x (nI 0) (nI M - nI 1) = decide (¬ x < nI 0 ∧ x < nI M) := by
  unfold inI
  cases M with
  | zero =>
    by_cases h : x < nI 0
    · rw [decide_eq_false (fun q => q.1 h), decide_eq_false (fun q => q.1 h)]
    · rw [show decide (¬ x < nI 0 ∧ x < nI 0) = false from decide_eq_false (fun q => h q.2)]
      refine decide_eq_false (fun q => q.2 ?_)
      have e : (nI 0 - nI 1 : Int32).toInt = -1 := by decide
      have e0 : (nI 0 : Int32).toInt = 0 := by decide
      rw [Int32.lt_iff_toInt_lt, e0] at h
      rw [Int32.lt_iff_toInt_lt, e]
      omega
  | succ m =>
    rw [show nI (m + 1) - nI 1 = nI m from nI_pred m]
    have e : (nI m < x) = ¬ (x < nI (m + 1)) := by
      have h1 := ge_pred (x := x) (n := m + 1) (by omega) hM
      rw [Nat.add_sub_cancel] at h1
      rw [← h1]
      exact propext Int32.not_lt.symm
    by_cases h : x < nI 0
    · rw [decide_eq_false (fun q => q.1 h), decide_eq_false (fun q => q.1 h)]
    · by_cases h2 : x < nI (m + 1)
      · rw [decide_eq_true ⟨h, fun q => by rw [e] at q; exact q h2⟩, decide_eq_true ⟨h, h2⟩]
      · rw [decide_eq_false (fun q => q.2 (by rw [e]; exact h2)), decide_eq_false (fun q => h2 q.2)]
theorem cap_o {A : Nat → Nat} {v c j : Nat} (hv : v < 12) (hj : j < 4 ∨ 16 ≤ j) : up A (4 + v) c j = A j := up_o (by omega)
theorem cap_hd {A : Nat → Nat} {v c k : Nat} (hv : v < 12) : hd (up A (4 + v) c) k = hd A k := by
  unfold hd
  rw [cap_o hv (by omega), cap_o hv (by omega), cap_o hv (by omega)]
theorem cap_ld {A : Nat → Nat} {v c u : Nat} (hv : v < 12) : ld (up A (4 + v) c) u = ld A u := by
  unfold ld
  rw [cap_o hv (by omega)]
  exact cnt_ext (fun k _ => by rw [cap_hd hv])
theorem cap_inn {A : Nat → Nat} {v c s : Nat} (hv : v < 12) : inn (up A (4 + v) c) s = inn A s := by
  unfold inn
  rw [cap_o hv (by omega)]
  exact cnt_ext (fun k _ => by rw [cap_o hv (by omega), cap_o hv (by omega)])
theorem cap_WF {A : Nat → Nat} {B v c : Nat} (w : WF A B) (hv : v < 12) (hc : c ≤ 40) : WF (up A (4 + v) c) B := by
  obtain ⟨w1, w2, w3, w4, w5, w6, w7⟩ := w
  refine ⟨?_, ?_, ?_, ?_, fun k hk => ?_, fun j k hj hk => ?_, fun u hu => ?_⟩
  · rw [cap_o hv (by omega)]; exact w1
  · rw [cap_o hv (by omega)]; exact w2
  · rw [cap_o hv (by omega)]; exact w3
  · rw [cap_o hv (by omega)]; exact w4
  · rw [cap_o hv (by omega)] at hk
    rw [cap_o hv (by omega), cap_o hv (by omega), cap_o hv (by omega), cap_o hv (by omega), cap_o hv (by omega), cap_o hv (by omega)]
    exact w5 k hk
  · rw [cap_o hv (by omega)] at hk
    rw [cap_o hv (by omega), cap_o hv (by omega)]
    exact w6 j k hj hk
  · by_cases e : u = v
    · subst e; rw [up_s]; exact hc
    · rw [up_o (by omega)]; exact w7 u hu
theorem cap_GR {σ : cS} {A : Nat → Nat} {v c : Nat} (h : GR σ 0 A) (hv : v < 12) : GR (st2 σ (0 + 13 + 1) v (nI c)) 0 (up A (4 + v) c) := by
  obtain ⟨a1, a2, a3, a4, a5, a6, a7, a8, a9, a10, a11⟩ := h
  refine ⟨?_, ?_, ?_, ?_, fun k hk => ?_, fun k hk => ?_, fun k hk => ?_, fun k hk => ?_, fun k hk => ?_, fun u hu => ?_, fun u hu => ?_⟩
  · rw [st2_nk (by omega), cap_o hv (by omega)]; exact a1
  · rw [st2_nk (by omega), cap_o hv (by omega)]; exact a2
  · rw [st2_nk (by omega), cap_o hv (by omega)]; exact a3
  · rw [st2_nk (by omega), cap_o hv (by omega)]; exact a4
  · rw [cap_o hv (by omega)] at hk; rw [st2_nk (by omega), cap_o hv (by omega)]; exact a5 k hk
  · rw [cap_o hv (by omega)] at hk; rw [st2_nk (by omega), cap_o hv (by omega)]; exact a6 k hk
  · rw [cap_o hv (by omega)] at hk; rw [st2_nk (by omega), cap_o hv (by omega)]; exact a7 k hk
  · rw [cap_o hv (by omega)] at hk; rw [st2_nk (by omega), cap_hd hv]; exact a8 k hk
  · rw [cap_o hv (by omega)] at hk; rw [st2_nk (by omega), cap_o hv (by omega)]; exact a9 k hk
  · rw [st2_nk (by omega), cap_ld hv]; exact a10 u hu
  · by_cases e : u = v
    · subst e; rw [st2_ss, up_s]
    · rw [st2_nj e, up_o (by omega)]; exact a11 u hu
theorem mcap_1 {τ : cS} {A : Nat → Nat} {B : Nat} {x1 x2 : Int32} (hm : MR τ A) (w : WF A B) (h : isN A x1 = false) : fX7_refusesCapacity (lMt ()) τ 0 x1 x2 = some (nI 1, st2 τ 0 7 (nI 1)) := by
  have e : ∀ z, fX7_refusesCapacity_29 (lMt ()) 0 (nI 1) z τ = some (nI 1, st2 τ 0 7 (nI 1)) := fun z => by
    unfold fX7_refusesCapacity_29; rw [mref_1]; rfl
  unfold fX7_refusesCapacity fX7_refusesCapacity_0
  rw [mno_n hm w h, Option.bind_some, if_pos (by decide)]
  unfold fX7_refusesCapacity_14
  rw [m_in, Option.bind_some, n1, e, e]
  split <;> rfl
theorem mcap_2 {τ : cS} {A : Nat → Nat} {B : Nat} {x1 x2 : Int32} (hm : MR τ A) (w : WF A B) (h : isN A x1 = true) (h2 : inI x2 (nI 0) (nI 40) = false) : fX7_refusesCapacity (lMt ()) τ 0 x1 x2 = some (nI 1, st2 τ 0 7 (nI 2)) := by
  unfold fX7_refusesCapacity fX7_refusesCapacity_0
  rw [mno_y hm w h, Option.bind_some, if_neg (by decide)]
  unfold fX7_refusesCapacity_14
  rw [m_in, n0, n40, h2, Option.bind_some, if_pos (by decide)]
  unfold fX7_refusesCapacity_29
  rw [n1, mref_2]; rfl
theorem mcap_0 {τ : cS} {A : Nat → Nat} {B : Nat} {x1 x2 : Int32} (hm : MR τ A) (w : WF A B) (h : isN A x1 = true) (h2 : inI x2 (nI 0) (nI 40) = true) : fX7_refusesCapacity (lMt ()) τ 0 x1 x2 = some (nI 0, st2 τ 0 7 (nI 0)) := by
  unfold fX7_refusesCapacity fX7_refusesCapacity_0
  rw [mno_y hm w h, Option.bind_some, if_neg (by decide)]
  unfold fX7_refusesCapacity_14
  rw [m_in, n0, n40, h2, Option.bind_some, if_neg (by decide)]
  unfold fX7_refusesCapacity_29
  rw [n0, mref_0]; rfl
theorem op_setCap {σ τ : cS} {B Nf : Nat} (hf : 1000 < Nf) (x1 x2 x3 : Int32) (h hm0 : Int64) (iv : IV σ τ B) : ∃ r, gL_c6 Nf x1 x2 x3 h σ hm0 τ = some r ∧ PI4 B r := by
  have iv0 := iv
  obtain ⟨A, Hs, q, c, len, hm, hg, w, hh, ht, hp⟩ := iv
  unfold gL_c6
  cases h1 : isN A x1 with
  | false =>
    refine try_no (k := 1) (σ' := σ) (h := h) (v := 0) (τ' := st2 τ 0 7 (nI 1)) (by omega) (by omega) ?_ ?_ st2_ss (IV_code iv0 _)
    · unfold fL_setCapacity fX6_setCapacity fX6_setCapacity_0
      rw [chk_n hg w h1]; rfl
    · unfold fX7_setCapacity fX7_setCapacity_0
      rw [mcap_1 hm w h1]; rfl
  | true =>
    cases h2 : inI x2 (nI 0) (nI 40) with
    | false =>
      refine try_no (k := 2) (σ' := σ) (h := h) (v := 0) (τ' := st2 τ 0 7 (nI 2)) (by omega) (by omega) ?_ ?_ st2_ss (IV_code iv0 _)
      · unfold fL_setCapacity fX6_setCapacity fX6_setCapacity_0 fX6_setCapacity_15
        rw [chk_y hg w h1]
        show Option.bind (if x2 < 0 then _ else if x2 ≤ 40 then _ else _) _ = _
        by_cases g1 : x2 < 0
        · rw [if_pos g1]; rfl
        · rw [if_neg g1, if_neg (fun q => by
            have := of_decide_eq_false h2
            exact this ⟨g1, Int32.not_lt.mpr q⟩)]; rfl
      · unfold fX7_setCapacity fX7_setCapacity_0
        rw [mcap_2 hm w h1 h2]; rfl
    | true =>
      obtain ⟨v, hv, rfl⟩ := isN_n w h1
      obtain ⟨cp, hc1, hc2, rfl⟩ := inI_n (by omega) (by omega) h2
      have w2 := w.2.1
      obtain ⟨σ1, τ1, k1, k2, k3, k4, ⟨Hs1, q1, c1, k5⟩, k6, k7, k8⟩ := both_save (MR_out hm (k := 0) (j := 7) (v := nI 0) (by omega)) hg w (HS_code hh (nI 0)) (show 216 < Nf by omega)
      obtain ⟨rm, s1, s2, s3, s4⟩ := m_sets (B := B) (c := cp) k3 (show v < 12 by omega)
      refine try_ok (v := nI (A (4 + v))) (σ' := st2 σ1 (0 + 13 + 1) v (nI cp)) (τ' := rm.2) ?_ ?_ ?_ ?_
      · unfold fL_setCapacity fX6_setCapacity fX6_setCapacity_0
        rw [chk_y hg w h1]
        show Option.bind (if nI cp < 0 then _ else if nI cp ≤ 40 then Option.bind (fX4_get (lCt ()) σ 13 (nI v)) _ else _) _ = _
        rw [n0, n40, if_neg (by rw [lt_n (by omega) (by omega)]; omega), if_pos (by rw [le_n (by omega) (by omega)]; omega), row_get (show lCt () (13 + 1) = 12 from rfl) (by omega) (by omega), Option.bind_some, k1, Option.bind_some, row_set (show lCt () (13 + 1) = 12 from rfl) (by omega) (by omega), Option.bind_some]
        show some ((0 : Int32), (σ (0 + 13 + 1) v).toInt64, _) = _
        rw [hg.2.2.2.2.2.2.2.2.2.2 v (by omega)]; rfl
      · unfold fX7_setCapacity fX7_setCapacity_0
        rw [mcap_0 hm w h1 h2]
        simp only [Option.bind_some]
        rw [if_pos (by decide), k2, Option.bind_some, s1, Option.bind_some, s2]
      · rw [s4 0 (by omega), k7 7 (by omega) (by omega), st2_ss]
      · show IV (st2 σ1 (0 + 13 + 1) v (nI cp)) rm.2 (B + 100)
        refine IV_step ht k5 k6 k7 k8 (fun x hx hx2 => st2_out (by omega)) s4 s3 (cap_GR k4 (by omega)) (WF_up (cap_WF w (by omega) hc2) (by omega)) (PT_keep hp ?_ ?_ (cap_o (by omega) (by omega)) (fun s => cap_inn (by omega)))
        · rw [st2_out (by omega), k6 97 (by omega) (by omega)]
        · rw [st2_out (by omega), k6 98 (by omega) (by omega)]
/-- an answer without a change: the code alone is written -/
theorem mref_in (τ : cS) (b : Bool) : fX7_refuses τ 0 (bI b) (nI 0) (nI 0) = some (bI b, st2 τ 0 7 (bI b)) := by
  cases b
  · exact mref_0 τ
  · exact mref_1 τ _ _
theorem op_edgeAt {σ τ : cS} {B Nf : Nat} (hf : 1000 < Nf) (x1 x2 x3 : Int32) (h hm0 : Int64) (iv : IV σ τ B) : ∃ r, gL_c9 Nf x1 x2 x3 h σ hm0 τ = some r ∧ PI4 B r := by
  have iv0 := iv
  obtain ⟨A, Hs, q, c, len, hm, hg, w, hh, ht, hp⟩ := iv
  have w3 := w.2.2.1
  unfold gL_c9
  have em : fX7_edgeAt (lMt ()) τ 0 x1 = if inI x1 (nI 0) (nI (A 3) - nI 1) = true then fX7_edgeAt_22 (lMt ()) 0 x1 (nI 0) τ else fX7_edgeAt_22 (lMt ()) 0 x1 (nI 1) τ := by
    unfold fX7_edgeAt fX7_edgeAt_0
    rw [show τ (0 + 1) (3 : Int32).toNatClampNeg = nI (A 3) from hm 3 (by omega), show inb 3 (lMt () (0 + 1)) = true by decide, grd_t, m_in, n0, n1, Option.bind_some]
    cases inI x1 (nI 0) (nI (A 3) - nI 1) <;> rfl
  rw [in_pred (by omega)] at em
  by_cases hb : ¬ x1 < nI 0 ∧ x1 < nI (A 3)
  · rw [if_pos (decide_eq_true hb)] at em
    obtain ⟨j, hj, rfl⟩ := nI_of (x := x1) hb.1
    have hj3 : j < A 3 := by have := hb.2; rw [lt_n hj (by omega)] at this; exact this
    refine try_ok (v := nI (A (16 + j))) (σ' := σ) (τ' := st2 τ 0 7 (nI 0)) ?_ ?_ st2_ss (IV_code iv0 _)
    · unfold fL_edgeAt fX6_edgeAt fX6_edgeAt_0
      rw [if_neg (show ¬ nI j < 0 from hb.1), hg.2.1, if_pos hb.2, row_get (show lCt () (1 + 1) = 40 from rfl) (by omega) (by omega), Option.bind_some, Option.bind_some]
      show some ((0 : Int32), (σ (0 + 1 + 1) j).toInt64, σ) = _
      rw [hg.2.2.2.2.1 j hj3]; rfl
    · rw [em]
      unfold fX7_edgeAt_22 fX7_edgeAt_43
      rw [n0, mref_0]
      simp only [Option.bind_some]
      rw [if_pos trivial]
      simp (disch := omega) only [Nat.zero_add, lm1, grd_t, bnd_e, n0, n1, n2, n3, n4, n5, n6, n7, n8, n9, n10, n11, n12, n16, n20, n31, n40, n48, n56, n57, n61, n96, n97, n98, n99, n100, n108, n114, n116, n120, n127, n128, n136, n176, n215, n216, n255, n864, n999, n4096, n1000000, inb_n, nI_clamp, le_n, lt_n, eq_n, nI_add, Option.bind_some, Option.bind, st2_nk]
      rw [hm _ (by omega)]
  · rw [if_neg (by rw [decide_eq_false hb]; decide)] at em
    refine try_no (k := 1) (σ' := σ) (h := h) (v := 0) (τ' := st2 τ 0 7 (nI 1)) (by omega) (by omega) ?_ ?_ st2_ss (IV_code iv0 _)
    · unfold fL_edgeAt fX6_edgeAt fX6_edgeAt_0 fX6_edgeAt_15
      rw [hg.2.1]
      by_cases g1 : x1 < 0
      · rw [if_pos g1]; rfl
      · rw [if_neg g1, if_neg (fun z => hb ⟨g1, z⟩)]; rfl
    · rw [em]
      unfold fX7_edgeAt_22 fX7_edgeAt_43
      rw [mref_1]
      rfl
theorem op_clear {σ τ : cS} {B Nf : Nat} (x1 x2 x3 : Int32) (h hm0 : Int64) (iv : IV σ τ B) : ∃ r, gL_c24 Nf x1 x2 x3 h σ hm0 τ = some r ∧ PI4 B r := by
  obtain ⟨A, Hs, q, c, len, hm, hg, w, hh, ht, hp⟩ := iv
  unfold gL_c24
  refine bind_x (a := (nI len, st2 σ 102 1 (nI 0))) ?_ ?_
  · unfold fX6_clearText fX6_clearText_0 fX2_empty fX2_empty_0
    rw [bnd_e, bnd_e, ht.2.1]; rfl
  refine bind_x (a := (nI len, st2 (st2 τ 0 7 (nI 0)) 0 6 (nI 0))) ?_ ?_
  · unfold fX7_clearText fX7_clearText_0
    rw [bnd_e, bnd_e, bnd_e, st2_nj (by omega), ht.2.2.1]; rfl
  refine grd_x (decide_eq_true rfl) (some_x ?_)
  show IV (st2 σ 102 1 (nI 0)) (st2 (st2 τ 0 7 (nI 0)) 0 6 (nI 0)) (B + 100)
  refine ⟨A, Hs, q, c, 0, MR_out (MR_out hm (by omega)) (by omega), GR_keep hg (fun x hx hx2 => st2_out (by omega)), WF_up w (by omega), ?_, ?_, ?_⟩
  · exact HS_keep hh (by omega) (fun x hx hx2 => st2_out (by omega)) (st2_out (by omega)) (by rw [st2_nj (by omega), st2_nj (by omega)]) (by rw [st2_nj (by omega), st2_nj (by omega)]) (by rw [st2_out (by omega), st2_out (by omega)])
  · exact ⟨by omega, st2_ss, st2_ss, fun i hi => absurd hi (Nat.not_lt_zero _)⟩
  · exact PT_keep hp (st2_out (by omega)) (st2_out (by omega)) rfl (fun _ => rfl)
theorem op_append {σ τ : cS} {B Nf : Nat} (x1 x2 x3 : Int32) (h hm0 : Int64) (iv : IV σ τ B) : ∃ r, gL_c23 Nf x1 x2 x3 h σ hm0 τ = some r ∧ PI4 B r := by
  have iv0 := iv
  obtain ⟨A, Hs, q, c, len, hm, hg, w, hh, ht, hp⟩ := iv
  have t1 := ht.1
  unfold gL_c23
  have em : ∀ y : Int32, fX7_append_16 (lMt ()) 0 x1 y τ = if len = 100 then fX7_append_30 (lMt ()) 0 x1 y (nI 1) τ else fX7_append_30 (lMt ()) 0 x1 y (nI 0) τ := fun y => by
    unfold fX7_append_16
    rw [ht.2.2.1]
    simp (disch := omega) only [grd_t, n0, n1, n2, n3, n4, n5, n6, n7, n8, n9, n10, n11, n12, n16, n20, n31, n40, n48, n56, n57, n61, n96, n97, n98, n99, n100, n108, n114, n116, n120, n127, n128, n136, n176, n215, n216, n255, n864, n999, n4096, n1000000, inb_n, nI_clamp, le_n, lt_n, eq_n, nI_add, nI_mul]
  by_cases hb : inI x1 (nI 0) (nI 127) = true
  · obtain ⟨j, hj1, hj2, rfl⟩ := inI_n (by omega) (by omega) hb
    have em2 : fX7_append (lMt ()) τ 0 (nI j) = fX7_append_16 (lMt ()) 0 (nI j) (nI 0) τ := by
      unfold fX7_append fX7_append_0
      rw [m_in, n0, n127, hb, Option.bind_some, if_neg (by decide)]
    have ec : fX6_append (lCt ()) σ 107 (nI j) = if len < 100 then (fX2_put (lCt ()) σ 102 (nI j)).bind (fun r1 => some (.inl (r1.1, r1.2))) else some (.inr (2, σ)) := by
      unfold fX6_append fX6_append_0
      rw [ht.2.1]
      simp (disch := omega) only [grd_t, n0, n1, n2, n3, n4, n5, n6, n7, n8, n9, n10, n11, n12, n16, n20, n31, n40, n48, n56, n57, n61, n96, n97, n98, n99, n100, n108, n114, n116, n120, n127, n128, n136, n176, n215, n216, n255, n864, n999, n4096, n1000000, inb_n, nI_clamp, le_n, lt_n, eq_n, nI_add, nI_mul]
      rw [if_neg (by omega), if_pos (by omega)]
    by_cases e : len = 100
    · refine try_no (k := 2) (σ' := σ) (h := h) (v := 0) (τ' := st2 τ 0 7 (nI 2)) (by omega) (by omega) ?_ ?_ st2_ss (IV_code iv0 _)
      · unfold fL_append
        rw [ec, if_neg (by omega)]; rfl
      · rw [em2, em, if_pos e]
        unfold fX7_append_30
        rw [mref_2]; rfl
    · refine try_ok (v := nI (len + 1)) (σ' := st2 (st2 σ (102 + 1 + 1) len (nI j)) 102 1 (nI (len + 1))) (τ' := st2 (st2 (st2 τ 0 7 (nI 0)) 4 len (nI j)) 0 6 (nI (len + 1))) ?_ ?_ ?_ ?_
      · unfold fL_append
        rw [ec, if_pos (by omega)]
        unfold fX2_put fX2_put_0 fX2_put_31
        rw [ht.2.1]
        simp (disch := omega) only [grd_t, n0, n1, n2, n3, n4, n5, n6, n7, n8, n9, n10, n11, n12, n16, n20, n31, n40, n48, n56, n57, n61, n96, n97, n98, n99, n100, n108, n114, n116, n120, n127, n128, n136, n176, n215, n216, n255, n864, n999, n4096, n1000000, inb_n, nI_clamp, le_n, lt_n, eq_n, nI_add, nI_mul]
        have y1 : st2 σ (102 + 1 + 1) len (nI j) 102 1 = nI len := by rw [st2_nk (by omega)]; exact ht.2.1
        rw [if_neg (by omega), row_set (show lCt () (102 + 1 + 1) = 100 from rfl) (by omega) (by omega), Option.bind_some, bnd_e, y1, nI_add, st2_ss]
        rfl
      · rw [em2, em, if_neg e]
        unfold fX7_append_30
        rw [n0, mref_0]
        simp only [Option.bind_some]
        have y1 : st2 τ 0 7 (nI 0) 0 6 = nI len := by rw [st2_nj (by omega)]; exact ht.2.2.1
        have y2 : ∀ v, st2 (st2 τ 0 7 (nI 0)) 4 len v 0 6 = nI len := fun v => by rw [st2_nk (by omega)]; exact y1
        rw [if_pos trivial, y1]
        simp (disch := omega) only [Nat.zero_add, lm4, grd_t, bnd_e, n0, n1, n2, n3, n4, n5, n6, n7, n8, n9, n10, n11, n12, n16, n20, n31, n40, n48, n56, n57, n61, n96, n97, n98, n99, n100, n108, n114, n116, n120, n127, n128, n136, n176, n215, n216, n255, n864, n999, n4096, n1000000, inb_n, nI_clamp, le_n, lt_n, eq_n, nI_add, Option.bind_some, Option.bind, y2, st2_ss]
      · rw [st2_nj (by omega), st2_nk (by omega), st2_ss]
      · show IV (st2 (st2 σ (102 + 1 + 1) len (nI j)) 102 1 (nI (len + 1))) (st2 (st2 (st2 τ 0 7 (nI 0)) 4 len (nI j)) 0 6 (nI (len + 1))) (B + 100)
        refine ⟨A, Hs, q, c, len + 1, MR_out (MR_out (MR_out hm (by omega)) (by omega)) (by omega), GR_keep hg (fun x hx hx2 => by rw [st2_out (by omega), st2_out (by omega)]), WF_up w (by omega), ?_, ?_, ?_⟩
        · refine HS_keep hh (by omega) (fun x hx hx2 => by rw [st2_out (by omega), st2_out (by omega)]) (by rw [st2_out (by omega), st2_out (by omega)]) ?_ ?_ ?_
          · rw [st2_nj (by omega), st2_nk (by omega), st2_nj (by omega)]
          · rw [st2_nj (by omega), st2_nk (by omega), st2_nj (by omega)]
          · rw [st2_out (by omega), st2_out (by omega), st2_out (by omega)]
        · refine ⟨by omega, st2_ss, st2_ss, fun i hi => ?_⟩
          by_cases e2 : i = len
          · subst e2
            exact ⟨j, hj2, by rw [st2_nk (by omega), st2_ss], by rw [st2_nk (by omega), st2_ss]⟩
          · obtain ⟨t, h1, h2, h3⟩ := ht.2.2.2 i (by omega)
            exact ⟨t, h1, by rw [st2_nk (by omega), st2_nj e2]; exact h2, by rw [st2_nk (by omega), st2_nj e2, st2_nk (by omega)]; exact h3⟩
        · exact PT_keep hp (by rw [st2_out (by omega), st2_out (by omega)]) (by rw [st2_out (by omega), st2_out (by omega)]) rfl (fun _ => rfl)
  · have hb2 : inI x1 (nI 0) (nI 127) = false := by simpa using hb
    refine try_no (k := 1) (σ' := σ) (h := h) (v := 0) (τ' := st2 τ 0 7 (nI 1)) (by omega) (by omega) ?_ ?_ st2_ss (IV_code iv0 _)
    · unfold fL_append fX6_append fX6_append_0 fX6_append_10
      by_cases g1 : x1 < 0
      · rw [if_pos g1]; rfl
      · rw [if_neg g1, if_neg (show ¬ x1 ≤ 127 from fun z => hb (decide_eq_true ⟨g1, Int32.not_lt.mpr z⟩))]; rfl
    · unfold fX7_append fX7_append_0
      rw [m_in, n0, n127, hb2, Option.bind_some, if_pos (by decide), n1, em]
      have e1 : ∀ z, fX7_append_30 (lMt ()) 0 x1 (nI 1) z τ = some (0, st2 τ 0 7 (nI 1)) := fun z => by
        unfold fX7_append_30; rw [mref_1]; rfl
      rw [e1, e1]
      split <;> rfl
