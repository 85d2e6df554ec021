/-! ===== orders that change the graph ===== -/
theorem IV_step {σ τ σ1 τ1 σ3 τ2 : cS} {A' : Nat → Nat} {Hs1 : Nat → Nat → Nat} {q1 c1 len B : Nat} {v : Int32} (ht : TX σ τ len) (k5 : HS σ1 τ1 Hs1 q1 c1 B) (k6 : ∀ x, (x < 30 ∨ 90 ≤ x) → x ≠ 105 → σ1 x = σ x) (k7 : ∀ j, j ≠ 4 → j ≠ 5 → τ1 0 j = st2 τ 0 7 v 0 j) (k8 : ∀ x, x ≠ 0 → x ≠ 3 → τ1 x = st2 τ 0 7 v x) (f : ∀ x, 15 ≤ x → x ≠ 97 → σ3 x = σ1 x) (fr : FR τ1 τ2) (m : MR τ2 A') (g : GR σ3 0 A') (w : WF A' (B + 100)) (p : PT σ3 A') : IV σ3 τ2 (B + 100) := by
  refine ⟨A', Hs1, q1, c1, len, m, g, w, ?_, ?_, p⟩
  · exact HS_keep k5 (by omega) (fun x hx hx2 => f x (by omega) (by omega)) (f 105 (by omega) (by omega)) (by rw [fr 0 (by omega)]) (by rw [fr 0 (by omega)]) (fr 3 (by omega))
  · refine TX_keep ht (by rw [f 102 (by omega) (by omega), k6 102 (by omega) (by omega)]) (by rw [f (102 + 1 + 1) (by omega) (by omega), k6 (102 + 1 + 1) (by omega) (by omega)]) ?_ ?_
    · rw [fr 0 (by omega), k7 6 (by omega) (by omega), st2_nj (by omega)]
    · rw [fr 4 (by omega), k8 4 (by omega) (by omega), st2_out (by omega)]
theorem HS_code {σ τ : cS} {Hs : Nat → Nat → Nat} {q c B : Nat} (hh : HS σ τ Hs q c B) (v : Int32) : HS σ (st2 τ 0 7 v) Hs q c B := HS_keep hh (Nat.le_refl _) (fun _ _ _ => rfl) rfl (st2_nj (by omega)) (st2_nj (by omega)) (st2_out (by omega))
def isN (A : Nat → Nat) (x : Int32) : Bool := inI x (nI 0) (nI (A 0 - 1))
theorem isN_n {A : Nat → Nat} {B : Nat} {x : Int32} (w : WF A B) (h : isN A x = true) : ∃ n, n < A 0 ∧ x = nI n := by
  have w1 := w.1
  have w2 := w.2.1
  obtain ⟨n, h1, h2, e⟩ := inI_n (by omega) (by omega) h
  exact ⟨n, by omega, e⟩
theorem chk_y {σ : cS} {A : Nat → Nat} {B : Nat} {x : Int32} (hg : GR σ 0 A) (w : WF A B) (h : isN A x = true) : fX6_checkNode σ 107 x = some (.inl ()) := by
  unfold fX6_checkNode fX6_checkNode_0
  rw [c_hasNode hg w x, show inI x (nI 0) (nI (A 0 - 1)) = true from h, Option.bind_some, if_neg (by decide)]
theorem chk_n {σ : cS} {A : Nat → Nat} {B : Nat} {x : Int32} (hg : GR σ 0 A) (w : WF A B) (h : isN A x = false) : fX6_checkNode σ 107 x = some (.inr 3) := by
  unfold fX6_checkNode fX6_checkNode_0
  rw [c_hasNode hg w x, show inI x (nI 0) (nI (A 0 - 1)) = false from h, Option.bind_some, if_pos (by decide)]
theorem mno_y {τ : cS} {A : Nat → Nat} {B : Nat} {x : Int32} (hm : MR τ A) (w : WF A B) (h : isN A x = true) : fX7_isNode (lMt ()) τ 0 x = some (nI 1) := by
  rw [m_isNode hm w x, show inI x (nI 0) (nI (A 0 - 1)) = true from h]; rfl
theorem mno_n {τ : cS} {A : Nat → Nat} {B : Nat} {x : Int32} (hm : MR τ A) (w : WF A B) (h : isN A x = false) : fX7_isNode (lMt ()) τ 0 x = some (nI 0) := by
  rw [m_isNode hm w x, show inI x (nI 0) (nI (A 0 - 1)) = false from h]; rfl
/-- what the model refuses at adding -/
def rAdd (A : Nat → Nat) (x1 x2 : Int32) : Nat := if isN A x1 = true ∧ isN A x2 = true then (if x1 = x2 then 2 else if A 3 = 40 then 3 else 0) else 1
theorem m_rAdd {τ : cS} {A : Nat → Nat} {B : Nat} {x1 x2 : Int32} (hm : MR τ A) (w : WF A B) : fX7_refusesAdd (lMt ()) τ 0 x1 x2 = some (nI (if rAdd A x1 x2 = 0 then 0 else 1), st2 τ 0 7 (nI (rAdd A x1 x2))) := by
  have w3 := w.2.2.1
  have a1 : ∀ b c, fX7_refusesAdd_48 (lMt ()) 0 (nI 1) b c τ = some (nI 1, st2 τ 0 7 (nI 1)) := fun b c => by
    unfold fX7_refusesAdd_48; rw [mref_1]; rfl
  have a2 : ∀ c, fX7_refusesAdd_48 (lMt ()) 0 (nI 0) (nI 1) c τ = some (nI 1, st2 τ 0 7 (nI 2)) := fun c => by
    unfold fX7_refusesAdd_48; rw [mref_2]; rfl
  have a3 : fX7_refusesAdd_48 (lMt ()) 0 (nI 0) (nI 0) (nI 1) τ = some (nI 1, st2 τ 0 7 (nI 3)) := by
    unfold fX7_refusesAdd_48; rw [mref_3]; rfl
  have a0 : fX7_refusesAdd_48 (lMt ()) 0 (nI 0) (nI 0) (nI 0) τ = some (nI 0, st2 τ 0 7 (nI 0)) := by
    unfold fX7_refusesAdd_48; rw [mref_0]; rfl
  have b32 : ∀ y z, fX7_refusesAdd_32 (lMt ()) 0 y z τ = if A 3 = 40 then fX7_refusesAdd_48 (lMt ()) 0 y z (nI 1) τ else fX7_refusesAdd_48 (lMt ()) 0 y z (nI 0) τ := fun y z => by
    unfold fX7_refusesAdd_32
    simp (disch := omega) only [Nat.zero_add, lm1, hm _, grd_t, n0, n1, n2, n3, n4, n5, n6, n7, n8, n9, n10, n11, n12, n16, n20, n31, n40, n48, n56, n57, n61, n96, n97, n98, n99, n100, n108, n114, n116, n120, n127, n128, n136, n176, n215, n216, n255, n864, n999, n4096, n1000000, inb_n, nI_clamp, le_n, lt_n, eq_n, nI_add, nI_mul]
  have b22 : ∀ y, fX7_refusesAdd_22 (lMt ()) 0 x1 x2 y τ = if x1 = x2 then fX7_refusesAdd_32 (lMt ()) 0 y (nI 1) τ else fX7_refusesAdd_32 (lMt ()) 0 y (nI 0) τ := fun y => rfl
  have bad : fX7_refusesAdd_17 (lMt ()) 0 x1 x2 τ = some (nI 1, st2 τ 0 7 (nI 1)) := by
    unfold fX7_refusesAdd_17
    rw [n1, b22, b32, b32, a1, a1, a1, a1]
    split <;> split <;> rfl
  unfold fX7_refusesAdd fX7_refusesAdd_0
  unfold rAdd
  cases h1 : isN A x1 with
  | false =>
    rw [mno_n hm w h1, Option.bind_some, if_pos (by decide), bad]
    simp
  | true =>
    rw [mno_y hm w h1, Option.bind_some, if_neg (by decide)]
    cases h2 : isN A x2 with
    | false =>
      rw [mno_n hm w h2, Option.bind_some, if_pos (by decide), bad]
      simp
    | true =>
      rw [mno_y hm w h2, Option.bind_some, if_neg (by decide), n0, b22, b32, b32, a2, a2, a3, a0]
      by_cases e : x1 = x2
      · simp [e]
      · by_cases e4 : A 3 = 40
        · simp [e, e4]
        · simp [e, e4]
theorem op_add {σ τ : cS} {B Nf : Nat} (hf : 1000 < Nf) (x1 x2 x3 : Int32) (h hm0 : Int64) (iv : IV σ τ B) : ∃ r, gL_c1 Nf x1 x2 x3 h σ hm0 τ = some r ∧ PI4 B r := by
  have iv0 := iv
  obtain ⟨A, Hs, q, c, len, hm, hg, w, hh, ht, hp⟩ := iv
  unfold gL_c1
  have no : ∀ k, rAdd A x1 x2 = k → k ≠ 0 → fX7_add (lMt ()) Nf τ 0 x1 x2 = some (0, st2 τ 0 7 (nI k)) := fun k hk h0 => by
    unfold fX7_add fX7_add_0
    rw [m_rAdd hm w, hk, if_neg h0]
    rfl
  cases h1 : isN A x1 with
  | false =>
    refine try_no (k := 1) (σ' := σ) (h := h) (by omega) (by omega) ?_ (no 1 (by unfold rAdd; simp [h1]) (by omega)) st2_ss (IV_code iv0 _)
    unfold fL_add fX6_add fX6_add_0
    rw [chk_n hg w h1]; rfl
  | true =>
    cases h2 : isN A x2 with
    | false =>
      refine try_no (k := 1) (σ' := σ) (h := h) (by omega) (by omega) ?_ (no 1 (by unfold rAdd; simp [h2]) (by omega)) st2_ss (IV_code iv0 _)
      unfold fL_add fX6_add fX6_add_0
      rw [chk_y hg w h1, chk_n hg w h2]; rfl
    | true =>
      by_cases e : x1 = x2
      · refine try_no (k := 2) (σ' := σ) (h := h) (by omega) (by omega) ?_ (no 2 (by unfold rAdd; have h3 := h2; rw [← e] at h3; simp [h1, h3, ← e]) (by omega)) st2_ss (IV_code iv0 _)
        unfold fL_add fX6_add fX6_add_0
        rw [chk_y hg w h1, chk_y hg w h2]
        unfold fX6_checkDifferent fX6_checkDifferent_0
        rw [if_pos e]; rfl
      · by_cases e4 : A 3 = 40
        · refine try_no (k := 3) (σ' := σ) (h := h) (by omega) (by omega) ?_ (no 3 (by unfold rAdd; simp [h1, h2, e, e4]) (by omega)) st2_ss (IV_code iv0 _)
          unfold fL_add fX6_add fX6_add_0
          rw [chk_y hg w h1, chk_y hg w h2]
          unfold fX6_checkDifferent fX6_checkDifferent_0
          rw [if_neg e, c_isFull hg w, decide_eq_true e4]; rfl
        · obtain ⟨a, ha, rfl⟩ := isN_n w h1
          obtain ⟨b, hb, rfl⟩ := isN_n w h2
          have w2 := w.2.1
          have w3 := w.2.2.1
          have hab : a ≠ b := fun z => e (by rw [z])
          obtain ⟨σ1, τ1, k1, k2, k3, k4, ⟨Hs1, q1, c1, k5⟩, k6, k7, k8⟩ := both_save (MR_out hm (k := 0) (j := 7) (v := nI 0) (by omega)) hg w (HS_code hh (nI 0)) (show 216 < Nf by omega)
          have k4' : GR (st2 σ1 97 6 (nI 0)) 0 A := GR_keep k4 (fun x hx hx2 => st2_out (by omega))
          obtain ⟨rc, r1, r2, r3, r4⟩ := c_join (a := a) (b := b) LG_0 k4' w (by omega) (by omega) (by omega)
          obtain ⟨rm, s1, s2, s3, s4⟩ := m_adds (a := a) (b := b) (Nf := Nf) k3 w (by omega) (by omega) (by omega) (by omega)
          refine try_ok (v := nI (A 1)) (σ' := rc.2) (τ' := rm.2) ?_ ?_ ?_ ?_
          · unfold fL_add fX6_add fX6_add_0
            rw [chk_y hg w h1, chk_y hg w h2]
            unfold fX6_checkDifferent fX6_checkDifferent_0
            rw [if_neg e, c_isFull hg w, decide_eq_false e4]
            show Option.bind (Option.bind (fX1_save (lCt ()) Nf σ 105 0) _) _ = _
            rw [k1, Option.bind_some, forget_e, Option.bind_some, r1, Option.bind_some, Option.bind_some]
            show some ((0 : Int32), rc.1.toInt64, rc.2) = _
            rw [r2]; rfl
          · unfold fX7_add fX7_add_0
            rw [m_rAdd hm w, show rAdd A (nI a) (nI b) = 0 by unfold rAdd; simp [h1, h2, e, e4]]
            simp only [Option.bind_some]
            rw [if_pos (by decide), k2, Option.bind_some, s1, Option.bind_some, s2]
          · rw [s4 0 (by omega), k7 7 (by omega) (by omega), st2_ss]
          · show IV rc.2 rm.2 (B + 100)
            refine IV_step ht k5 k6 k7 k8 (fun x hx hx2 => ?_) s4 s3 r3 (WF_up (add_WF w (by omega) ha hb hab) (by omega)) (Or.inl ?_)
            · rw [r4 x (by omega), st2_out hx2]
            · rw [r4 97 (by omega), st2_ss]
/-- an edge by its number: what the class's check and the model's refusal say -/
theorem chs_y {σ : cS} {A : Nat → Nat} {B p Nf : Nat} {x : Int32} (hg : GR σ 0 A) (w : WF A B) (hf : 40 < Nf) (h : plc A x = some p) : fX6_checkedSlot (lCt ()) Nf σ 107 x = some (.inl (nI p)) := by
  have hp := plc_lt h
  have w3 := w.2.2.1
  unfold fX6_checkedSlot fX6_checkedSlot_0
  rw [c_slotOf LG_0 hg w hf, h, Option.bind_some]
  show (if nI p = -1 then _ else some (Sum.inl (nI p))) = _
  rw [if_neg]
  intro z
  have : (nI p).toInt = (-1 : Int32).toInt := by rw [z]
  rw [nI_toInt (by omega)] at this
  have e : (-1 : Int32).toInt = -1 := by decide
  omega
theorem chs_n {σ : cS} {A : Nat → Nat} {B Nf : Nat} {x : Int32} (hg : GR σ 0 A) (w : WF A B) (hf : 40 < Nf) (h : plc A x = none) : fX6_checkedSlot (lCt ()) Nf σ 107 x = some (.inr 4) := by
  unfold fX6_checkedSlot fX6_checkedSlot_0
  rw [c_slotOf LG_0 hg w hf, h, Option.bind_some]
  rfl
theorem mre_y {τ : cS} {A : Nat → Nat} {B p Nf : Nat} {x : Int32} (hm : MR τ A) (w : WF A B) (hf : 40 < Nf) (h : plc A x = some p) : fX7_refusesEdge (lMt ()) Nf τ 0 x = some (nI 0, st2 τ 0 7 (nI 0)) := by
  unfold fX7_refusesEdge fX7_refusesEdge_0 fX7_refusesEdge_14
  rw [m_place hm w hf, Option.bind_some, if_pos ((plI_ge w x).mpr (by rw [h]; rfl)), n0, mref_0]; rfl
theorem mre_n {τ : cS} {A : Nat → Nat} {B Nf : Nat} {x : Int32} (hm : MR τ A) (w : WF A B) (hf : 40 < Nf) (h : plc A x = none) : fX7_refusesEdge (lMt ()) Nf τ 0 x = some (nI 1, st2 τ 0 7 (nI 1)) := by
  unfold fX7_refusesEdge fX7_refusesEdge_0 fX7_refusesEdge_14
  rw [m_place hm w hf, Option.bind_some, if_neg (fun z => by have := (plI_ge w x).mp z; rw [h] at this; cases this), n1, mref_1]; rfl
theorem op_remove {σ τ : cS} {B Nf : Nat} (hf : 1000 < Nf) (x1 x2 x3 : Int32) (h hm0 : Int64) (iv : IV σ τ B) : ∃ r, gL_c2 Nf x1 x2 x3 h σ hm0 τ = some r ∧ PI4 B r := by
  have iv0 := iv
  obtain ⟨A, Hs, q, c, len, hm, hg, w, hh, ht, hp⟩ := iv
  unfold gL_c2
  cases e : plc A x1 with
  | none =>
    refine try_no (k := 1) (σ' := σ) (h := h) (v := 0) (τ' := st2 τ 0 7 (nI 1)) (by omega) (by omega) ?_ ?_ st2_ss (IV_code iv0 _)
    · unfold fL_remove fX6_remove fX6_remove_0
      rw [chs_n hg w (by omega) e]; rfl
    · unfold fX7_remove fX7_remove_0
      rw [mre_n hm w (by omega) e]; rfl
  | some p =>
    have hp1 := plc_lt e
    obtain ⟨σ1, τ1, k1, k2, k3, k4, ⟨Hs1, q1, c1, k5⟩, k6, k7, k8⟩ := both_save (MR_out hm (k := 0) (j := 7) (v := nI 0) (by omega)) hg w (HS_code hh (nI 0)) (show 216 < Nf by omega)
    have k4' : GR (st2 σ1 97 6 (nI 0)) 0 A := GR_keep k4 (fun x hx hx2 => st2_out (by omega))
    obtain ⟨rc, r1, r2, r3, r4⟩ := c_cut (Nf := Nf) LG_0 k4' w hp1 (by omega)
    obtain ⟨rm, s1, s2, s3, s4⟩ := m_removes (Nf := Nf) k3 w hp1 (by omega)
    refine try_ok (v := nI (hd A p)) (σ' := rc.2) (τ' := rm.2) ?_ ?_ ?_ ?_
    · unfold fL_remove fX6_remove fX6_remove_0
      rw [chs_y hg w (by omega) e]
      show Option.bind (Option.bind (fX1_save (lCt ()) Nf σ 105 0) _) _ = _
      rw [k1, Option.bind_some, forget_e, Option.bind_some, r1, Option.bind_some, Option.bind_some]
      show some ((0 : Int32), rc.1.toInt64, rc.2) = _
      rw [r2]; rfl
    · unfold fX7_remove fX7_remove_0
      rw [mre_y hm w (by omega) e]
      simp only [Option.bind_some]
      rw [if_pos (by decide), k2, Option.bind_some, m_place k3 w (by omega), e, Option.bind_some]
      show (fX7_removes (lMt ()) Nf τ1 0 (nI p)).bind _ = _
      rw [s1, Option.bind_some, s2]
    · rw [s4 0 (by omega), k7 7 (by omega) (by omega), st2_ss]
    · show IV rc.2 rm.2 (B + 100)
      refine IV_step ht k5 k6 k7 k8 (fun x hx hx2 => ?_) s4 s3 r3 (WF_up (rem_WF w hp1) (by omega)) (Or.inl ?_)
      · rw [r4 x (by omega), st2_out hx2]
      · rw [r4 97 (by omega), st2_ss]
theorem op_turn {σ τ : cS} {B Nf : Nat} (hf : 1000 < Nf) (x1 x2 x3 : Int32) (h hm0 : Int64) (iv : IV σ τ B) : ∃ r, gL_c3 Nf x1 x2 x3 h σ hm0 τ = some r ∧ PI4 B r := by
  have iv0 := iv
  obtain ⟨A, Hs, q, c, len, hm, hg, w, hh, ht, hp⟩ := iv
  unfold gL_c3
  cases e : plc A x1 with
  | none =>
    refine try_no (k := 1) (σ' := σ) (h := h) (v := 0) (τ' := st2 τ 0 7 (nI 1)) (by omega) (by omega) ?_ ?_ st2_ss (IV_code iv0 _)
    · unfold fL_turn fX6_turn fX6_turn_0
      rw [chs_n hg w (by omega) e]; rfl
    · unfold fX7_turn fX7_turn_0
      rw [mre_n hm w (by omega) e]; rfl
  | some p =>
    have hp1 := plc_lt e
    obtain ⟨σ1, τ1, k1, k2, k3, k4, ⟨Hs1, q1, c1, k5⟩, k6, k7, k8⟩ := both_save (MR_out hm (k := 0) (j := 7) (v := nI 0) (by omega)) hg w (HS_code hh (nI 0)) (show 216 < Nf by omega)
    obtain ⟨rc, r1, r2, r3, r4⟩ := c_flip LG_0 k4 w hp1
    obtain ⟨τ2, s1, s3, s4⟩ := m_turns k3 w hp1
    have wt := trn_WF w hp1
    have ho : hd (trnA A p) p = ot A p := by rw [hd_trn w hp1 hp1, if_pos rfl]
    refine try_ok (v := nI (ot A p)) (σ' := rc.2) (τ' := τ2) ?_ ?_ ?_ ?_
    · unfold fL_turn fX6_turn fX6_turn_0
      rw [chs_y hg w (by omega) e]
      show Option.bind (Option.bind (fX1_save (lCt ()) Nf σ 105 0) _) _ = _
      rw [k1, Option.bind_some, r1, Option.bind_some, Option.bind_some]
      show some ((0 : Int32), rc.1.toInt64, rc.2) = _
      rw [r2]; rfl
    · unfold fX7_turn fX7_turn_0
      rw [mre_y hm w (by omega) e]
      simp only [Option.bind_some]
      rw [if_pos (by decide), k2, Option.bind_some, m_place k3 w (by omega), e, Option.bind_some]
      show (fX7_turns (lMt ()) τ1 0 (nI p)).bind _ = _
      rw [s1, Option.bind_some]
      show (fX7_holder (lMt ()) τ2 0 (nI p)).bind _ = _
      rw [m_holder s3 wt (by rw [trn_o (by omega) (by omega) (by omega)]; exact hp1), ho]
      rfl
    · rw [s4 0 (by omega), k7 7 (by omega) (by omega), st2_ss]
    · show IV rc.2 τ2 (B + 100)
      refine IV_step ht k5 k6 k7 k8 (fun x hx hx2 => r4 x (by omega)) s4 s3 r3 (WF_up wt (by omega)) (PT_keep hp ?_ ?_ (trn_o (by omega) (by omega) (by omega)) (inn_trn w hp1))
      · rw [r4 97 (by omega), k6 97 (by omega) (by omega)]
      · rw [r4 98 (by omega), k6 98 (by omega) (by omega)]
