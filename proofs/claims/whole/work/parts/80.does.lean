/-! ===== carrying out one order: both sides alike ===== -/
def FD (τ τ' : cS) : Prop := (∀ c, c ≠ 0 → c ≠ 1 → c ≠ 5 → c ≠ 6 → τ' c = τ c) ∧ ∀ j, j ≠ 7 → j ≠ 10 → j ≠ 11 → τ' 0 j = τ 0 j
def FO (σ σ' : cS) : Prop := ∀ c, 15 ≤ c → (c < 90 ∨ 97 ≤ c) → σ' c = σ c
theorem FD_st (τ : cS) (v : Int32) : FD τ (st2 τ 0 7 v) := ⟨fun c hc _ _ _ => st2_out hc, fun j hj _ _ => st2_nj hj⟩
theorem FD_tr {τ τ' τ'' : cS} (h : FD τ τ') (h' : FD τ' τ'') : FD τ τ'' := ⟨fun c h1 h2 h3 h4 => (h'.1 c h1 h2 h3 h4).trans (h.1 c h1 h2 h3 h4), fun j h1 h2 h3 => (h'.2 j h1 h2 h3).trans (h.2 j h1 h2 h3)⟩
theorem FD_FR {τ τ' : cS} (h : FR τ τ') : FD τ τ' := ⟨fun c _ h1 _ _ => h c h1, fun j _ _ _ => by rw [h 0 (by omega)]⟩
theorem FD_FM {τ τ' : cS} (h : FM τ τ') : FD τ τ' := ⟨fun c h0 _ h5 h6 => h.1 c h0 h5 h6, fun j _ h1 h2 => h.2 j h1 h2⟩
theorem FD_FQ {τ τ' : cS} (h : FQ τ τ') : FD τ τ' := ⟨h.1, fun j _ h1 h2 => h.2 j h1 h2⟩
theorem FO_rf (σ : cS) : FO σ σ := fun _ _ _ => rfl
theorem FO_FG {σ σ' : cS} (h : FG 0 σ σ') : FO σ σ' := fun c h1 _ => h c (by omega)
theorem hn_y {σ : cS} {A : Nat → Nat} {B : Nat} {x : Int32} (hg : GR σ 0 A) (w : WF A B) (h : isN A x = true) : fX0_hasNode σ 0 x = some (nI 1) := by
  rw [c_hasNode hg w x, show inI x (nI 0) (nI (A 0 - 1)) = true from h]; rfl
theorem hn_n {σ : cS} {A : Nat → Nat} {B : Nat} {x : Int32} (hg : GR σ 0 A) (w : WF A B) (h : isN A x = false) : fX0_hasNode σ 0 x = some (nI 0) := by
  rw [c_hasNode hg w x, show inI x (nI 0) (nI (A 0 - 1)) = false from h]; rfl
/-- what both do with one order -/
def BD (σ τ : cS) (B Nf : Nat) : Prop := ∃ (bb : Bool) (σ' τ' : cS) (A' : Nat → Nat), fX6_obeyOrder (lCt ()) Nf σ 107 = some (bI bb, σ') ∧ fX7_does (lMt ()) Nf τ 0 = some (bI bb, τ') ∧ MR τ' A' ∧ GR σ' 0 A' ∧ WF A' (B + 1) ∧ FO σ σ' ∧ FD τ τ'
theorem d_add {σ τ : cS} {A : Nat → Nat} {B a b Nf : Nat} (hm : MR τ A) (hg : GR σ 0 A) (w : WF A B) (hB : B < 2 ^ 30) (hf : 300000 < Nf) (c4 : σ 102 4 = nI 43) (c5 : σ 102 5 = nI a) (c6 : σ 102 6 = nI b) (m14 : τ 0 14 = nI 43) (m15 : τ 0 15 = nI a) (m16 : τ 0 16 = nI b) (ha : a < 12) (hb : b < 12) : BD σ τ B Nf := by
  have w2 := w.2.1
  have w3 := w.2.2.1
  have w4 := w.2.2.2.1
  have no : rAdd A (nI a) (nI b) ≠ 0 → fX6_obeyAdding (lCt ()) σ 107 (nI a) (nI b) = some (nI 0, σ) → BD σ τ B Nf := fun h0 ho => by
    refine ⟨false, σ, st2 τ 0 7 (nI (rAdd A (nI a) (nI b))), A, ?_, ?_, MR_out hm (by omega), hg, WF_up w (by omega), FO_rf σ, FD_st _ _⟩
    · unfold fX6_obeyOrder fX6_obeyOrder_0
      rw [c4, if_pos (show nI 43 = (43 : Int32) from rfl), c5, c6, ho]
      rfl
    · unfold fX7_does fX7_does_0
      rw [m14, if_pos (show nI 43 = (43 : Int32) from rfl), m15, m16, m_rAdd hm w, if_neg h0]
      rfl
  cases h1 : isN A (nI a) with
  | false =>
    refine no (by unfold rAdd; simp [h1]) ?_
    unfold fX6_obeyAdding fX6_obeyAdding_0
    rw [hn_n hg w h1]; rfl
  | true =>
    cases h2 : isN A (nI b) with
    | false =>
      refine no (by unfold rAdd; simp [h2]) ?_
      unfold fX6_obeyAdding fX6_obeyAdding_0
      rw [hn_y hg w h1, Option.bind_some, if_neg (by decide), hn_n hg w h2]; rfl
    | true =>
      by_cases e : a = b
      · subst e
        refine no (by unfold rAdd; simp [h1]) ?_
        unfold fX6_obeyAdding fX6_obeyAdding_0
        rw [hn_y hg w h1, Option.bind_some, if_neg (by decide), Option.bind_some, if_neg (by decide), if_pos rfl]; rfl
      · have e' : ¬ nI a = nI b := fun q => e ((nI_eq (by omega) (by omega)).mp q)
        by_cases e4 : A 3 = 40
        · refine no (by unfold rAdd; simp [h1, h2, e', e4]) ?_
          unfold fX6_obeyAdding fX6_obeyAdding_0
          rw [hn_y hg w h1, Option.bind_some, if_neg (by decide), hn_y hg w h2, Option.bind_some, if_neg (by decide), if_neg e', c_isFull hg w, decide_eq_true e4]; rfl
        · obtain ⟨a', ha', ea⟩ := isN_n w h1
          obtain ⟨b', hb', eb⟩ := isN_n w h2
          have ea := (nI_eq (by omega) (by omega)).mp ea
          have eb := (nI_eq (by omega) (by omega)).mp eb
          obtain ⟨rc, r1, r2, r3, r4⟩ := c_join (a := a) (b := b) LG_0 hg w (by omega) (by omega) (by omega)
          obtain ⟨rm, s1, s2, s3, s4⟩ := m_adds (τ := st2 τ 0 7 (nI 0)) (a := a) (b := b) (Nf := Nf) (MR_out hm (by omega)) w (by omega) (by omega) (by omega) (by omega)
          refine ⟨true, rc.2, rm.2, addA A a b, ?_, ?_, s3, r3, add_WF w (by omega) (by omega) (by omega) e, FO_FG r4, FD_tr (FD_st _ _) (FD_FR s4)⟩
          · unfold fX6_obeyOrder fX6_obeyOrder_0
            rw [c4, if_pos (show nI 43 = (43 : Int32) from rfl), c5, c6]
            unfold fX6_obeyAdding fX6_obeyAdding_0
            rw [hn_y hg w h1, Option.bind_some, if_neg (by decide), hn_y hg w h2, Option.bind_some, if_neg (by decide), if_neg e', c_isFull hg w, decide_eq_false e4, Option.bind_some, if_pos (by decide), r1]
            rfl
          · unfold fX7_does fX7_does_0
            rw [m14, if_pos (show nI 43 = (43 : Int32) from rfl), m15, m16, m_rAdd hm w, show rAdd A (nI a) (nI b) = 0 by unfold rAdd; simp [h1, h2, e', e4], Option.bind_some, if_pos (show nI (if 0 = 0 then 0 else 1) = (0 : Int32) from rfl)]
            show Option.bind (fX7_adds (lMt ()) Nf (st2 τ 0 7 (nI 0)) 0 (st2 τ 0 7 (nI 0) 0 15) (st2 τ 0 7 (nI 0) 0 16)) _ = _
            rw [st2_nj (by omega), st2_nj (by omega), m15, m16, s1, Option.bind_some, s2, if_neg (nI_pos (by omega))]
            rfl
theorem d_edge {σ τ : cS} {A : Nat → Nat} {B k a Nf : Nat} (hm : MR τ A) (hg : GR σ 0 A) (w : WF A B) (hf : 300000 < Nf) (hk : k = 45 ∨ k = 116) (c4 : σ 102 4 = nI k) (c7 : σ 102 7 = nI a) (m14 : τ 0 14 = nI k) (m15 : τ 0 15 = nI a) : BD σ τ B Nf := by
  have w2 := w.2.1
  have w3 := w.2.2.1
  have ec : fX6_obeyOrder (lCt ()) Nf σ 107 = Option.bind (fX6_obeyForEdge (lCt ()) Nf σ 107 (nI k) (plI (plc A (nI a)))) (fun r3 => grd (isb r3.1) (some (r3.1, r3.2))) := by
    unfold fX6_obeyOrder fX6_obeyOrder_0
    rw [c4, c7, c_slotOf LG_0 hg w (by omega), Option.bind_some]
    rcases hk with rfl | rfl
    · rw [if_neg (show ¬ nI 45 = (43 : Int32) by decide), if_pos (show nI 45 = (45 : Int32) from rfl)]
    · rw [if_neg (show ¬ nI 116 = (43 : Int32) by decide), if_neg (show ¬ nI 116 = (45 : Int32) by decide), if_neg (show ¬ nI 116 = (98 : Int32) by decide), if_neg (show ¬ nI 116 = (99 : Int32) by decide), if_neg (show ¬ nI 116 = (114 : Int32) by decide), if_pos (show nI 116 = (116 : Int32) from rfl)]
  cases e : plc A (nI a) with
  | none =>
    rw [e] at ec
    refine ⟨false, σ, st2 τ 0 7 (nI 1), A, ?_, ?_, MR_out hm (by omega), hg, WF_up w (by omega), FO_rf σ, FD_st _ _⟩
    · rw [ec]
      unfold fX6_obeyForEdge fX6_obeyForEdge_0
      rw [if_pos (show plI none = (-1 : Int32) from rfl)]
      rfl
    · unfold fX7_does fX7_does_0
      rw [m14, m15, mre_n hm w (by omega) e, Option.bind_some, Option.bind_some]
      rcases hk with rfl | rfl <;> rfl
  | some p =>
    have hp := plc_lt e
    rw [e] at ec
    have np : ¬ plI (some p) = (-1 : Int32) := nI_ne1 (by omega)
    have mp : fX7_placeOf (lMt ()) Nf (st2 τ 0 7 (nI 0)) 0 (nI a) = some (nI p) := by
      rw [m_place (MR_out hm (by omega)) w (by omega), e]; rfl
    have o15 : st2 τ 0 7 (nI 0) 0 15 = nI a := by rw [st2_nj (by omega)]; exact m15
    rcases hk with rfl | rfl
    · obtain ⟨rc, r1, r2, r3, r4⟩ := c_cut (Nf := Nf) LG_0 hg w hp (by omega)
      obtain ⟨rm, s1, s2, s3, s4⟩ := m_removes (τ := st2 τ 0 7 (nI 0)) (Nf := Nf) (MR_out hm (by omega)) w hp (by omega)
      have hh := hd_lt w hp
      refine ⟨true, rc.2, rm.2, remA A p, ?_, ?_, s3, r3, WF_up (rem_WF w hp) (by omega), FO_FG r4, FD_tr (FD_st _ _) (FD_FR s4)⟩
      · rw [ec]
        unfold fX6_obeyForEdge fX6_obeyForEdge_0
        rw [if_neg np, if_pos (show nI 45 = (45 : Int32) from rfl), show plI (some p) = nI p from rfl, r1]
        rfl
      · unfold fX7_does fX7_does_0
        rw [m14, if_neg (show ¬ nI 45 = (43 : Int32) by decide), if_pos (show nI 45 = (45 : Int32) from rfl), m15, mre_y hm w (by omega) e, Option.bind_some, if_pos (show nI 0 = (0 : Int32) from rfl)]
        show Option.bind (fX7_placeOf (lMt ()) Nf (st2 τ 0 7 (nI 0)) 0 (st2 τ 0 7 (nI 0) 0 15)) _ = _
        rw [o15, mp, Option.bind_some]
        show Option.bind (fX7_removes (lMt ()) Nf (st2 τ 0 7 (nI 0)) 0 (nI p)) _ = _
        rw [s1, Option.bind_some, s2, if_neg (nI_pos (by omega))]
        rfl
    · obtain ⟨rc, r1, r2, r3, r4⟩ := c_flip LG_0 hg w hp
      obtain ⟨τ2, s1, s3, s4⟩ := m_turns (τ := st2 τ 0 7 (nI 0)) (MR_out hm (by omega)) w hp
      refine ⟨true, rc.2, τ2, trnA A p, ?_, ?_, s3, r3, WF_up (trn_WF w hp) (by omega), FO_FG r4, FD_tr (FD_st _ _) (FD_FR s4)⟩
      · rw [ec]
        unfold fX6_obeyForEdge fX6_obeyForEdge_0
        rw [if_neg np, if_neg (show ¬ nI 116 = (45 : Int32) by decide), show plI (some p) = nI p from rfl, r1]
        rfl
      · unfold fX7_does fX7_does_0
        rw [m14, if_neg (show ¬ nI 116 = (43 : Int32) by decide), if_neg (show ¬ nI 116 = (45 : Int32) by decide), if_neg (show ¬ nI 116 = (99 : Int32) by decide), if_neg (show ¬ nI 116 = (114 : Int32) by decide), if_pos (show nI 116 = (116 : Int32) from rfl), m15, mre_y hm w (by omega) e, Option.bind_some, if_pos (show nI 0 = (0 : Int32) from rfl)]
        show Option.bind (fX7_placeOf (lMt ()) Nf (st2 τ 0 7 (nI 0)) 0 (st2 τ 0 7 (nI 0) 0 15)) _ = _
        rw [o15, mp, Option.bind_some]
        show Option.bind (fX7_turns (lMt ()) (st2 τ 0 7 (nI 0)) 0 (nI p)) _ = _
        rw [s1]
        rfl
theorem d_cap {σ τ : cS} {A : Nat → Nat} {B a b Nf : Nat} (hm : MR τ A) (hg : GR σ 0 A) (w : WF A B) (hf : 300000 < Nf) (c4 : σ 102 4 = nI 99) (c5 : σ 102 5 = nI a) (c7 : σ 102 7 = nI b) (m14 : τ 0 14 = nI 99) (m15 : τ 0 15 = nI a) (m16 : τ 0 16 = nI b) (ha : a < 12) (hb : b ≤ 40) : BD σ τ B Nf := by
  have w2 := w.2.1
  have w7 := w.2.2.2.2.2.2
  cases h1 : isN A (nI a) with
  | false =>
    refine ⟨false, σ, st2 τ 0 7 (nI 1), A, ?_, ?_, MR_out hm (by omega), hg, WF_up w (by omega), FO_rf σ, FD_st _ _⟩
    · unfold fX6_obeyOrder fX6_obeyOrder_0
      rw [c4, if_neg (show ¬ nI 99 = (43 : Int32) by decide), if_neg (show ¬ nI 99 = (45 : Int32) by decide), if_neg (show ¬ nI 99 = (98 : Int32) by decide), if_pos (show nI 99 = (99 : Int32) from rfl), c5]
      unfold fX6_obeyCapacity fX6_obeyCapacity_0
      rw [hn_n hg w h1]
      rfl
    · unfold fX7_does fX7_does_0
      rw [m14, if_neg (show ¬ nI 99 = (43 : Int32) by decide), if_neg (show ¬ nI 99 = (45 : Int32) by decide), if_pos (show nI 99 = (99 : Int32) from rfl), m15, mcap_1 hm w h1]
      rfl
  | true =>
    obtain ⟨a', ha', ea⟩ := isN_n w h1
    have ea := (nI_eq (by omega) (by omega)).mp ea
    have h2 : inI (nI b) (nI 0) (nI 40) = true := inI_y (by omega) (by omega) (by omega) (by omega) hb
    have hc := w7 a ha
    obtain ⟨rm, s1, s2, s3, s4⟩ := m_sets (B := B) (c := b) (τ := st2 τ 0 7 (nI 0)) (A := A) (MR_out hm (by omega)) ha
    refine ⟨true, st2 σ (0 + 13 + 1) a (nI b), rm.2, up A (4 + a) b, ?_, ?_, s3, cap_GR hg ha, WF_up (cap_WF w ha hb) (by omega), fun c h1 _ => st2_out (by omega), FD_tr (FD_st _ _) (FD_FR s4)⟩
    · unfold fX6_obeyOrder fX6_obeyOrder_0
      rw [c4, if_neg (show ¬ nI 99 = (43 : Int32) by decide), if_neg (show ¬ nI 99 = (45 : Int32) by decide), if_neg (show ¬ nI 99 = (98 : Int32) by decide), if_pos (show nI 99 = (99 : Int32) from rfl), c5, c7]
      unfold fX6_obeyCapacity fX6_obeyCapacity_0
      rw [hn_y hg w h1, Option.bind_some, if_neg (by decide), row_set (show lCt () (13 + 1) = 12 from rfl) ha (by omega)]
      rfl
    · unfold fX7_does fX7_does_0
      rw [m14, if_neg (show ¬ nI 99 = (43 : Int32) by decide), if_neg (show ¬ nI 99 = (45 : Int32) by decide), if_pos (show nI 99 = (99 : Int32) from rfl), m15, m16, mcap_0 hm w h1 h2, Option.bind_some, if_pos (show nI 0 = (0 : Int32) from rfl)]
      show Option.bind (fX7_sets (lMt ()) (st2 τ 0 7 (nI 0)) 0 (st2 τ 0 7 (nI 0) 0 15) (st2 τ 0 7 (nI 0) 0 16)) _ = _
      rw [st2_nj (by omega), st2_nj (by omega), m15, m16, s1, Option.bind_some, s2, if_neg (nI_pos (by omega))]
      rfl
theorem d_bal {σ τ : cS} {A : Nat → Nat} {B Nf : Nat} (hm : MR τ A) (hg : GR σ 0 A) (w : WF A B) (hf : 300000 < Nf) (c4 : σ 102 4 = nI 98) (m14 : τ 0 14 = nI 98) : BD σ τ B Nf := by
  have w2 := w.2.1
  have hq : sqs (ld A) (A 0) ≤ 19200 := Nat.le_trans (sqs_le (fun k => ld_le w k)) (by omega)
  obtain ⟨σ3, a1, a2, a3, a4, a5, a6, a7⟩ := c_evens (Nf := Nf) LG_0 (by omega) (by omega) 19200 A σ 0 Nf hq w hg (by omega) (by omega)
  obtain ⟨τ3, b1, b2, b3⟩ := m_evens (Nf := Nf) (by omega) 19200 A τ 0 Nf hq w hm (by omega)
  refine ⟨true, σ3, τ3, (bal 19200 A 0).2, ?_, ?_, b2, a2, WF_up a4 (by omega), fun c h1 h2 => a3 c (by omega) h2, FD_FQ b3⟩
  · unfold fX6_obeyOrder fX6_obeyOrder_0
    rw [c4, if_neg (show ¬ nI 98 = (43 : Int32) by decide), if_neg (show ¬ nI 98 = (45 : Int32) by decide), if_pos (show nI 98 = (98 : Int32) from rfl)]
    unfold fX5_evenOut fX5_evenOut_0
    rw [c_greatest LG_0 hg w (by omega), Option.bind_some, n0, a1]
    rfl
  · unfold fX7_does fX7_does_0
    rw [m14, if_neg (show ¬ nI 98 = (43 : Int32) by decide), if_neg (show ¬ nI 98 = (45 : Int32) by decide), if_neg (show ¬ nI 98 = (99 : Int32) by decide), if_neg (show ¬ nI 98 = (114 : Int32) by decide), if_neg (show ¬ nI 98 = (116 : Int32) by decide)]
    unfold fX7_balances fX7_balances_0
    rw [n0, n1, b1, Option.bind_some, ← n0, if_neg (nI_pos (by omega))]
    rfl
theorem d_rel {σ τ : cS} {A : Nat → Nat} {B a Nf : Nat} (hm : MR τ A) (hg : GR σ 0 A) (w : WF A B) (hf : 300000 < Nf) (c4 : σ 102 4 = nI 114) (c5 : σ 102 5 = nI a) (m14 : τ 0 14 = nI 114) (m15 : τ 0 15 = nI a) (ha : a < 12) : BD σ τ B Nf := by
  have w2 := w.2.1
  have ec : fX6_obeyOrder (lCt ()) Nf σ 107 = Option.bind (fX0_hasNode σ 0 (nI a)) (fun r6 => if r6 = 0 then (fX6_obeyOrder_151 (lCt ()) Nf 107 σ) else (Option.bind (fX5_relieveNode (lCt ()) Nf σ 90 0 (nI a)) (fun r7 => if r7.1 ≤ 0 then (fX6_obeyOrder_151 (lCt ()) Nf 107 r7.2) else (fX6_obeyOrder_152 (lCt ()) Nf 107 (1 : Int32) r7.2)))) := by
    unfold fX6_obeyOrder fX6_obeyOrder_0
    rw [c4, if_neg (show ¬ nI 114 = (43 : Int32) by decide), if_neg (show ¬ nI 114 = (45 : Int32) by decide), if_neg (show ¬ nI 114 = (98 : Int32) by decide), if_neg (show ¬ nI 114 = (99 : Int32) by decide), if_pos (show nI 114 = (114 : Int32) from rfl), c5]
  have em : fX7_does (lMt ()) Nf τ 0 = Option.bind (fX7_refusesRelief (lMt ()) Nf τ 0 (nI a)) (fun r8 => if r8.1 = 0 then (Option.bind (fX7_relieves (lMt ()) Nf r8.2 0 (r8.2 0 15)) (fun r9 => if r9.1 ≤ 0 then (fX7_does_177 (lMt ()) Nf 0 r9.2) else (fX7_does_178 (lMt ()) Nf 0 (1 : Int32) r9.2))) else (fX7_does_177 (lMt ()) Nf 0 r8.2)) := by
    unfold fX7_does fX7_does_0
    rw [m14, if_neg (show ¬ nI 114 = (43 : Int32) by decide), if_neg (show ¬ nI 114 = (45 : Int32) by decide), if_neg (show ¬ nI 114 = (99 : Int32) by decide), if_pos (show nI 114 = (114 : Int32) from rfl), m15]
  cases h1 : isN A (nI a) with
  | false =>
    refine ⟨false, σ, st2 τ 0 7 (nI 1), A, ?_, ?_, MR_out hm (by omega), hg, WF_up w (by omega), FO_rf σ, FD_st _ _⟩
    · rw [ec, hn_n hg w h1]; rfl
    · have e : fX7_refusesRelief (lMt ()) Nf τ 0 (nI a) = some (nI 1, st2 τ 0 7 (nI 1)) := by
        unfold fX7_refusesRelief fX7_refusesRelief_0
        rw [mno_n hm w h1, Option.bind_some, if_pos (by decide)]
        unfold fX7_refusesRelief_14
        rw [mno_n hm w h1, Option.bind_some, if_pos (by decide)]
        unfold fX7_refusesRelief_34 fX7_refusesRelief_35
        rw [n1, mref_1]; rfl
      rw [em, e]; rfl
  | true =>
    have km := mno_y hm w h1
    obtain ⟨s, hs, es⟩ := isN_n w h1
    have es := (nI_eq (by omega) (by omega)).mp es
    subst es
    obtain ⟨σ1, r1, r2, r3⟩ := c_relieveNode (Nf := Nf) LG_0 (by omega) hg w hs (by omega)
    obtain ⟨τ1, s1, s2, s3⟩ := m_reliefOf (Nf := Nf) hm w hs (by omega)
    have hm1 : MR τ1 A := MR_ext hm (s3.1 1 (by omega) (by omega) (by omega))
    have er : fX7_refusesRelief (lMt ()) Nf τ 0 (nI a) = if 0 ≤ qI (bfs A a) (rel A a) then fX7_refusesRelief_34 (lMt ()) Nf 0 0 τ1 else fX7_refusesRelief_35 (lMt ()) Nf 0 0 1 τ1 := by
      unfold fX7_refusesRelief fX7_refusesRelief_0
      rw [km, Option.bind_some, if_neg (by decide)]
      unfold fX7_refusesRelief_14
      rw [km, Option.bind_some, if_neg (by decide), s1, Option.bind_some]
    rw [hn_y hg w h1, Option.bind_some, if_neg (by decide), r1, Option.bind_some] at ec
    cases e : rel A a with
    | none =>
      rw [e] at er
      have er : fX7_refusesRelief (lMt ()) Nf τ 0 (nI a) = if (0 : Int32) ≤ -1 then fX7_refusesRelief_34 (lMt ()) Nf 0 0 τ1 else fX7_refusesRelief_35 (lMt ()) Nf 0 0 1 τ1 := er
      have hr : rlI A a = nI 0 := by unfold rlI; rw [e]
      have hr2 : rlA A a = A := by unfold rlA; rw [e]
      rw [hr2] at r2
      refine ⟨false, σ1, st2 τ1 0 7 (nI 2), A, ?_, ?_, MR_out hm1 (by omega), r2, WF_up w (by omega), fun c h1 h2 => r3 c (by omega) h2, FD_tr (FD_FM s3) (FD_st _ _)⟩
      · rw [ec]
        show (if rlI A a ≤ 0 then _ else _) = _
        rw [hr, if_pos (show nI 0 ≤ 0 by decide)]
        rfl
      · rw [em, er, if_neg (show ¬ (0 : Int32) ≤ -1 by decide)]
        unfold fX7_refusesRelief_35
        rw [n0, n1, mref_2]; rfl
    | some j =>
      rw [e] at er
      obtain ⟨j1, j2, j3⟩ := rel_i e
      have hv := (BI_bfs w hs).2.2.2.2.1 j j2
      have eq0 : qI (bfs A a) (some j) = nI ((bfs A a).2.1 j) := rfl
      rw [eq0] at er
      obtain ⟨p1, p2⟩ := rel_pos w hs e
      obtain ⟨u1, u2, u3⟩ := rel_WF w hs j2
      have hr : rlI A a = nI (pln A (bfs A a) a 12 ((bfs A a).2.1 j)) := by unfold rlI; rw [e]
      have hr2 : rlA A a = relA A a j := by unfold rlA; rw [e]
      rw [hr2] at r2
      obtain ⟨τ3, z1, z2, z3, z4⟩ := m_relieves (τ := st2 τ1 0 7 (nI 0)) (Nf := Nf) (MR_out hm1 (by omega)) w hs (by omega)
      rw [e] at z1 z2
      refine ⟨true, σ1, τ3, relA A a j, ?_, ?_, z2, r2, WF_up u1 (by omega), fun c h1 h2 => r3 c (by omega) h2, FD_tr (FD_tr (FD_FM s3) (FD_st _ _)) (FD_FQ ⟨z3, z4⟩)⟩
      · rw [ec]
        show (if rlI A a ≤ 0 then _ else _) = _
        rw [hr, if_neg (nI_nle (by omega) (by omega))]
        rfl
      · have er2 : fX7_refusesRelief (lMt ()) Nf τ 0 (nI a) = some (nI 0, st2 τ1 0 7 (nI 0)) := by
          rw [er, if_pos (show (0 : Int32) ≤ nI ((bfs A a).2.1 j) from nI_pos' (by omega))]
          unfold fX7_refusesRelief_34 fX7_refusesRelief_35
          rw [n0, mref_0]
          rfl
        rw [em, er2, Option.bind_some, if_pos (show nI 0 = (0 : Int32) from rfl)]
        show Option.bind (fX7_relieves (lMt ()) Nf (st2 τ1 0 7 (nI 0)) 0 (st2 τ1 0 7 (nI 0) 0 15)) _ = _
        rw [st2_nj (by omega), s3.2 15 (by omega) (by omega), m15, z1, Option.bind_some]
        show (if nI (pln A (bfs A a) a 12 ((bfs A a).2.1 j)) ≤ 0 then _ else _) = _
        rw [if_neg (nI_nle (by omega) (by omega))]
        rfl
