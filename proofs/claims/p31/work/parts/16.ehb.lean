theorem q_1_14 : Cond.fieldLink RX6 16 "EdgeHolders" "trial" "LEdgeHolders$Graph;" ∈ wsL_law := seg_1 _ (List.mem_of_getElem? (i := 14) rfl)
theorem q_2_2 : Cond.fieldLink RX6 36 "EdgeHolders" "text" "LEdgeHolders$OrderText;" ∈ wsL_law := seg_2 _ (List.mem_of_getElem? (i := 2) rfl)
theorem q_7_15 : Cond.methodLink RX6 204 yX3_learn ∈ wsL_law := seg_7 _ (List.mem_of_getElem? (i := 15) rfl)
theorem q_7_16 : Cond.instanceMethod yX3_learn ∈ wsL_law := seg_7 _ (List.mem_of_getElem? (i := 16) rfl)
theorem q_7_17 : Cond.selects RX3 yX3_learn yX3_learn ∈ wsL_law := seg_7 _ (List.mem_of_getElem? (i := 17) rfl)
theorem q_7_18 : Cond.code yX3_learn cX3_learn 3 none ∈ wsL_law := seg_7 _ (List.mem_of_getElem? (i := 18) rfl)
theorem q_9_18 : Cond.methodLink RX6 201 yX0_edgesWithin ∈ wsL_law := seg_9 _ (List.mem_of_getElem? (i := 18) rfl)
theorem q_9_19 : Cond.instanceMethod yX0_edgesWithin ∈ wsL_law := seg_9 _ (List.mem_of_getElem? (i := 19) rfl)
theorem q_9_20 : Cond.selects RX0 yX0_edgesWithin yX0_edgesWithin ∈ wsL_law := seg_9 _ (List.mem_of_getElem? (i := 20) rfl)
theorem q_9_21 : Cond.code yX0_edgesWithin cX0_edgesWithin 4 (some .int) ∈ wsL_law := seg_9 _ (List.mem_of_getElem? (i := 21) rfl)
theorem q_10_6 : Cond.methodLink RX6 222 yX3_commonOfForcing ∈ wsL_law := seg_10 _ (List.mem_of_getElem? (i := 6) rfl)
theorem q_10_7 : Cond.instanceMethod yX3_commonOfForcing ∈ wsL_law := seg_10 _ (List.mem_of_getElem? (i := 7) rfl)
theorem q_10_8 : Cond.selects RX3 yX3_commonOfForcing yX3_commonOfForcing ∈ wsL_law := seg_10 _ (List.mem_of_getElem? (i := 8) rfl)
theorem q_10_9 : Cond.code yX3_commonOfForcing cX3_commonOfForcing 4 (some .int) ∈ wsL_law := seg_10 _ (List.mem_of_getElem? (i := 9) rfl)
theorem q_10_10 : Cond.methodLink RX6 225 yX0_firstSlotWithin ∈ wsL_law := seg_10 _ (List.mem_of_getElem? (i := 10) rfl)
theorem q_10_11 : Cond.instanceMethod yX0_firstSlotWithin ∈ wsL_law := seg_10 _ (List.mem_of_getElem? (i := 11) rfl)
theorem q_10_12 : Cond.selects RX0 yX0_firstSlotWithin yX0_firstSlotWithin ∈ wsL_law := seg_10 _ (List.mem_of_getElem? (i := 12) rfl)
theorem q_10_13 : Cond.code yX0_firstSlotWithin cX0_firstSlotWithin 3 (some .int) ∈ wsL_law := seg_10 _ (List.mem_of_getElem? (i := 13) rfl)
theorem q_21_10 : Cond.methodLink RX6 191 yX5_lengthTo ∈ wsL_law := seg_21 _ (List.mem_of_getElem? (i := 10) rfl)
theorem q_21_18 : Cond.methodLink RX6 194 yX5_slotOnPathTo ∈ wsL_law := seg_21 _ (List.mem_of_getElem? (i := 18) rfl)
theorem q_21_19 : Cond.instanceMethod yX5_slotOnPathTo ∈ wsL_law := seg_21 _ (List.mem_of_getElem? (i := 19) rfl)
theorem q_21_20 : Cond.selects RX5 yX5_slotOnPathTo yX5_slotOnPathTo ∈ wsL_law := seg_21 _ (List.mem_of_getElem? (i := 20) rfl)
theorem q_21_21 : Cond.code yX5_slotOnPathTo cX5_slotOnPathTo 6 (some .int) ∈ wsL_law := seg_21 _ (List.mem_of_getElem? (i := 21) rfl)
theorem q_22_12 : Cond.methodLink RX6 216 yX3_leastLoadWith ∈ wsL_law := seg_22 _ (List.mem_of_getElem? (i := 12) rfl)
theorem q_22_13 : Cond.instanceMethod yX3_leastLoadWith ∈ wsL_law := seg_22 _ (List.mem_of_getElem? (i := 13) rfl)
theorem q_22_14 : Cond.selects RX3 yX3_leastLoadWith yX3_leastLoadWith ∈ wsL_law := seg_22 _ (List.mem_of_getElem? (i := 14) rfl)
theorem q_22_15 : Cond.code yX3_leastLoadWith cX3_leastLoadWith 3 (some .int) ∈ wsL_law := seg_22 _ (List.mem_of_getElem? (i := 15) rfl)
theorem q_22_23 : Cond.methodLink RX6 219 yX0_endsOf ∈ wsL_law := seg_22 _ (List.mem_of_getElem? (i := 23) rfl)
theorem q_23_7 : Cond.methodLink RX6 238 yX2_put ∈ wsL_law := seg_23 _ (List.mem_of_getElem? (i := 7) rfl)
theorem q_23_8 : Cond.instanceMethod yX2_put ∈ wsL_law := seg_23 _ (List.mem_of_getElem? (i := 8) rfl)
theorem q_23_9 : Cond.selects RX2 yX2_put yX2_put ∈ wsL_law := seg_23 _ (List.mem_of_getElem? (i := 9) rfl)
theorem q_23_10 : Cond.code yX2_put cX2_put 2 (some .int) ∈ wsL_law := seg_23 _ (List.mem_of_getElem? (i := 10) rfl)
theorem q_24_14 : Cond.methodLink RX6 212 yX3_mostOverfull ∈ wsL_law := seg_24 _ (List.mem_of_getElem? (i := 14) rfl)
theorem q_24_15 : Cond.instanceMethod yX3_mostOverfull ∈ wsL_law := seg_24 _ (List.mem_of_getElem? (i := 15) rfl)
theorem q_24_16 : Cond.selects RX3 yX3_mostOverfull yX3_mostOverfull ∈ wsL_law := seg_24 _ (List.mem_of_getElem? (i := 16) rfl)
theorem q_24_17 : Cond.code yX3_mostOverfull cX3_mostOverfull 7 (some .int) ∈ wsL_law := seg_24 _ (List.mem_of_getElem? (i := 17) rfl)
theorem q_25_5 : Cond.methodLink RX6 228 yX0_copyFrom ∈ wsL_law := seg_25 _ (List.mem_of_getElem? (i := 5) rfl)
theorem cal_X5_slotOnPathTo : Cal yX5_slotOnPathTo RX5 cX5_slotOnPathTo 6 (some .int) 2 := ⟨q_21_21, q_21_19, q_21_20, q_1_17, by decide +kernel⟩
theorem cal_X0_edgesWithin : Cal yX0_edgesWithin RX0 cX0_edgesWithin 4 (some .int) 1 := ⟨q_9_21, q_9_19, q_9_20, q_1_12, by decide +kernel⟩
theorem cal_X3_learn : Cal yX3_learn RX3 cX3_learn 3 none 1 := ⟨q_7_18, q_7_16, q_7_17, q_1_21, by decide +kernel⟩
theorem cal_X3_mostOverfull : Cal yX3_mostOverfull RX3 cX3_mostOverfull 7 (some .int) 2 := ⟨q_24_17, q_24_15, q_24_16, q_1_21, by decide +kernel⟩
theorem cal_X3_leastLoadWith : Cal yX3_leastLoadWith RX3 cX3_leastLoadWith 3 (some .int) 2 := ⟨q_22_15, q_22_13, q_22_14, q_1_21, by decide +kernel⟩
theorem cal_X0_firstSlotWithin : Cal yX0_firstSlotWithin RX0 cX0_firstSlotWithin 3 (some .int) 1 := ⟨q_10_13, q_10_11, q_10_12, q_1_12, by decide +kernel⟩
theorem cal_X3_commonOfForcing : Cal yX3_commonOfForcing RX3 cX3_commonOfForcing 4 (some .int) 0 := ⟨q_10_9, q_10_7, q_10_8, q_1_21, by decide +kernel⟩
theorem cal_X2_put : Cal yX2_put RX2 cX2_put 2 (some .int) 1 := ⟨q_23_10, q_23_8, q_23_9, q_2_1, by decide +kernel⟩
def fX6_path_0 (L : Nat → Nat) (Nf : Nat) (k0 : Nat) (x1 : Int32) (x2 : Int32) (σ : cS) : Option ((Int32 × cS) ⊕ (Nat × cS)) := xbn (fX6_checkNode σ k0 x1) (fun r : Nat => (r, σ)) (fun r1 => xbn (fX6_checkNode σ k0 x2) (fun r : Nat => (r, σ)) (fun r2 => Option.bind (fX5_visitFrom L Nf σ 90 0 x1) (fun r3 => Option.bind (fX5_lengthTo L Nf r3 90 x2) (fun r4 => some (.inl (r4, r3))))))
set_option maxHeartbeats 4000000 in
set_option maxRecDepth 100000 in
theorem sX6_path_0 {K : MCx} {G : Lay} (X : Cx K G RX6 cX6_path 3 (some .int) 7 111) (Nf : Nat) (k0 : Nat) (hk0 : isEH G k0) (h : Int64) (x1 : Int32) (x2 : Int32) (σ : cS) : Sm K G (PX K G) (QX K G (fun r : (Int32 × cS) => ((some (.int r.1), h, r.2) : Option Value × Int64 × cS)) (fun r : Nat × cS => ((exN r.1, h, r.2) : String × Int64 × cS))) 3 0 [(0, .ref (la G k0)), (1, .int x1), (2, .int x2)] [] h σ (fX6_path_0 (ll G) Nf k0 x1 x2 σ) := by
  unfold fX6_path_0
  refine z_aload_n X dX6_path_0 0 rfl ?_
  refine z_iload_n X dX6_path_1 1 rfl ?_
  refine z_callVX X (g := (fun r1 : Unit => ((none, h, σ) : Option Value × Int64 × cS))) (st := []) (st1 := (fun r1 : Unit => [])) (rmf := 6) (rml := 90) (gx := (fun r : Nat => ((exN r, h, σ) : String × Int64 × cS))) [.int x1] k0 cal_X6_checkNode q_17_7 ⟨Nat.le_of_ble_eq_true rfl, Nat.le_of_ble_eq_true rfl⟩ rfl rfl (Nat.le_of_ble_eq_true rfl) rfl hk0.1 (ce6 hk0.1 _ _) (ctX6_checkNode_n (kl K) G X.2.2.2.2.2.2.2.1 h σ k0 hk0 x1) (ctX6_checkNode_x (kl K) G X.2.2.2.2.2.2.2.1 h σ k0 hk0 x1) dX6_path_2 (fun _ => rfl) (fun _ => rfl) (fun r1 => ?_)
  refine z_aload_n X dX6_path_5 0 rfl ?_
  refine z_iload_n X dX6_path_6 2 rfl ?_
  refine z_callVX X (g := (fun r2 : Unit => ((none, h, σ) : Option Value × Int64 × cS))) (st := []) (st1 := (fun r2 : Unit => [])) (rmf := 6) (rml := 90) (gx := (fun r : Nat => ((exN r, h, σ) : String × Int64 × cS))) [.int x2] k0 cal_X6_checkNode q_17_7 ⟨Nat.le_of_ble_eq_true rfl, Nat.le_of_ble_eq_true rfl⟩ rfl rfl (Nat.le_of_ble_eq_true rfl) rfl hk0.1 (ce6 hk0.1 _ _) (ctX6_checkNode_n (kl K) G X.2.2.2.2.2.2.2.1 h σ k0 hk0 x2) (ctX6_checkNode_x (kl K) G X.2.2.2.2.2.2.2.1 h σ k0 hk0 x2) dX6_path_7 (fun _ => rfl) (fun _ => rfl) (fun r2 => ?_)
  refine z_aload_n X dX6_path_10 0 rfl ?_
  refine z_get X inlX6 rfl hk0.1 (ce6 hk0.1 _ _) 2 (by decide) q_1_18 rfl dX6_path_11 ?_
  refine z_aload_n X dX6_path_14 0 rfl ?_
  refine z_get X inlX6 rfl hk0.1 (ce6 hk0.1 _ _) 0 (by decide) q_1_13 rfl dX6_path_15 ?_
  refine z_iload_n X dX6_path_18 1 rfl ?_
  refine z_callV0 X (g := (fun r3 : cS => ((none, h, r3) : Option Value × Int64 × cS))) (st := []) (st1 := (fun r3 : cS => [])) (rmf := 2) (rml := 45) [.ref (la G 0), .int x1] 90 cal_X5_visitFrom q_17_21 ⟨Nat.le_of_ble_eq_true rfl, Nat.le_of_ble_eq_true rfl⟩ rfl rfl (Nat.le_of_ble_eq_true rfl) rfl hk0.2.2.2.1.1 (ce5 hk0.2.2.2.1.1 _ _) (ctX5_visitFrom (kl K) G X.2.2.2.2.2.2.2.1 Nf h σ 90 hk0.2.2.2.1 0 hk0.2.1 x1) dX6_path_19 (fun _ => rfl) (fun r3 => ?_)
  refine z_aload_n X dX6_path_22 0 rfl ?_
  refine z_get X inlX6 rfl hk0.1 (ce6 hk0.1 _ _) 2 (by decide) q_1_18 rfl dX6_path_23 ?_
  refine z_iload_n X dX6_path_26 2 rfl ?_
  refine z_callV0 X (g := (fun r4 : Int32 => ((some (.int r4), h, r3) : Option Value × Int64 × cS))) (st := []) (st1 := (fun r4 : Int32 => [.int r4])) (rmf := 1) (rml := 21) [.int x2] 90 cal_X5_lengthTo q_21_10 ⟨Nat.le_of_ble_eq_true rfl, Nat.le_of_ble_eq_true rfl⟩ rfl rfl (Nat.le_of_ble_eq_true rfl) rfl hk0.2.2.2.1.1 (ce5 hk0.2.2.2.1.1 _ _) (ctX5_lengthTo (kl K) G X.2.2.2.2.2.2.2.1 Nf h r3 90 hk0.2.2.2.1 x2) dX6_path_27 (fun _ => rfl) (fun r4 => ?_)
  exact z_xiret X rfl dX6_path_30
def fX6_path (L : Nat → Nat) (Nf : Nat) (σ : cS) (k0 : Nat) (x1 : Int32) (x2 : Int32) : Option ((Int32 × cS) ⊕ (Nat × cS)) := fX6_path_0 L Nf k0 x1 x2 σ
set_option maxHeartbeats 4000000 in
set_option maxRecDepth 100000 in
theorem ctX6_path_n (l : Launch) (G : Lay) (hi : Inj G) (Nf : Nat) (h : Int64) (σ : cS) (k0 : Nat) (hk0 : isEH G k0) (x1 : Int32) (x2 : Int32) : ∀ r, fX6_path (ll G) Nf σ k0 x1 x2 = some (.inl r) → CM l yX6_path cX6_path 3 (some .int) 7 111 G [.ref (la G k0), .int x1, .int x2] h σ (some (.int r.1), h, r.2) := by
  refine cm_ofX (g := (fun r : (Int32 × cS) => ((some (.int r.1), h, r.2) : Option Value × Int64 × cS))) (gx := (fun r : Nat × cS => ((exN r.1, h, r.2) : String × Int64 × cS))) (by decide) hi (Nat.le_of_ble_eq_true rfl) (fun K hKl X => ?_)
  unfold fX6_path
  exact z_sub [0, 1, 2] rfl (sX6_path_0 X Nf k0 hk0 h x1 x2 σ)
set_option maxHeartbeats 4000000 in
set_option maxRecDepth 100000 in
theorem ctX6_path_x (l : Launch) (G : Lay) (hi : Inj G) (Nf : Nat) (h : Int64) (σ : cS) (k0 : Nat) (hk0 : isEH G k0) (x1 : Int32) (x2 : Int32) (hfl : l.stackTraces = false) : ∀ r, fX6_path (ll G) Nf σ k0 x1 x2 = some (.inr r) → CX l yX6_path cX6_path 3 (some .int) 7 111 G [.ref (la G k0), .int x1, .int x2] h σ (exN r.1, h, r.2) := by
  refine cx_of (g := (fun r : (Int32 × cS) => ((some (.int r.1), h, r.2) : Option Value × Int64 × cS))) (gx := (fun r : Nat × cS => ((exN r.1, h, r.2) : String × Int64 × cS))) (by decide) hi hfl (Nat.le_of_ble_eq_true rfl) (fun K hKl X => ?_)
  unfold fX6_path
  exact z_sub [0, 1, 2] rfl (sX6_path_0 X Nf k0 hk0 h x1 x2 σ)
def fX6_step_0 (L : Nat → Nat) (Nf : Nat) (k0 : Nat) (x1 : Int32) (x2 : Int32) (x3 : Int32) (σ : cS) : Option ((Int32 × cS) ⊕ (Nat × cS)) := xbn (fX6_checkNode σ k0 x1) (fun r : Nat => (r, σ)) (fun r1 => xbn (fX6_checkNode σ k0 x2) (fun r : Nat => (r, σ)) (fun r2 => Option.bind (fX5_visitFrom L Nf σ 90 0 x1) (fun r3 => Option.bind (fX5_slotOnPathTo L Nf r3 90 x2 x3) (fun r4 => if r4 = (-1 : Int32) then (some (.inr (3, r3))) else (Option.bind (fX4_get L r3 1 r4) (fun r5 => some (.inl (r5, r3))))))))
set_option maxHeartbeats 4000000 in
set_option maxRecDepth 100000 in
theorem sX6_step_0 {K : MCx} {G : Lay} (X : Cx K G RX6 cX6_step 5 (some .int) 7 111) (Nf : Nat) (k0 : Nat) (hk0 : isEH G k0) (h : Int64) (x1 : Int32) (x2 : Int32) (x3 : Int32) (σ : cS) : Sm K G (PX K G) (QX K G (fun r : (Int32 × cS) => ((some (.int r.1), h, r.2) : Option Value × Int64 × cS)) (fun r : Nat × cS => ((exN r.1, h, r.2) : String × Int64 × cS))) 5 0 [(0, .ref (la G k0)), (1, .int x1), (2, .int x2), (3, .int x3)] [] h σ (fX6_step_0 (ll G) Nf k0 x1 x2 x3 σ) := by
  unfold fX6_step_0
  refine z_aload_n X dX6_step_0 0 rfl ?_
  refine z_iload_n X dX6_step_1 1 rfl ?_
  refine z_callVX X (g := (fun r1 : Unit => ((none, h, σ) : Option Value × Int64 × cS))) (st := []) (st1 := (fun r1 : Unit => [])) (rmf := 6) (rml := 90) (gx := (fun r : Nat => ((exN r, h, σ) : String × Int64 × cS))) [.int x1] k0 cal_X6_checkNode q_17_7 ⟨Nat.le_of_ble_eq_true rfl, Nat.le_of_ble_eq_true rfl⟩ rfl rfl (Nat.le_of_ble_eq_true rfl) rfl hk0.1 (ce6 hk0.1 _ _) (ctX6_checkNode_n (kl K) G X.2.2.2.2.2.2.2.1 h σ k0 hk0 x1) (ctX6_checkNode_x (kl K) G X.2.2.2.2.2.2.2.1 h σ k0 hk0 x1) dX6_step_2 (fun _ => rfl) (fun _ => rfl) (fun r1 => ?_)
  refine z_aload_n X dX6_step_5 0 rfl ?_
  refine z_iload_n X dX6_step_6 2 rfl ?_
  refine z_callVX X (g := (fun r2 : Unit => ((none, h, σ) : Option Value × Int64 × cS))) (st := []) (st1 := (fun r2 : Unit => [])) (rmf := 6) (rml := 90) (gx := (fun r : Nat => ((exN r, h, σ) : String × Int64 × cS))) [.int x2] k0 cal_X6_checkNode q_17_7 ⟨Nat.le_of_ble_eq_true rfl, Nat.le_of_ble_eq_true rfl⟩ rfl rfl (Nat.le_of_ble_eq_true rfl) rfl hk0.1 (ce6 hk0.1 _ _) (ctX6_checkNode_n (kl K) G X.2.2.2.2.2.2.2.1 h σ k0 hk0 x2) (ctX6_checkNode_x (kl K) G X.2.2.2.2.2.2.2.1 h σ k0 hk0 x2) dX6_step_7 (fun _ => rfl) (fun _ => rfl) (fun r2 => ?_)
  refine z_aload_n X dX6_step_10 0 rfl ?_
  refine z_get X inlX6 rfl hk0.1 (ce6 hk0.1 _ _) 2 (by decide) q_1_18 rfl dX6_step_11 ?_
  refine z_aload_n X dX6_step_14 0 rfl ?_
  refine z_get X inlX6 rfl hk0.1 (ce6 hk0.1 _ _) 0 (by decide) q_1_13 rfl dX6_step_15 ?_
  refine z_iload_n X dX6_step_18 1 rfl ?_
  refine z_callV0 X (g := (fun r3 : cS => ((none, h, r3) : Option Value × Int64 × cS))) (st := []) (st1 := (fun r3 : cS => [])) (rmf := 2) (rml := 45) [.ref (la G 0), .int x1] 90 cal_X5_visitFrom q_17_21 ⟨Nat.le_of_ble_eq_true rfl, Nat.le_of_ble_eq_true rfl⟩ rfl rfl (Nat.le_of_ble_eq_true rfl) rfl hk0.2.2.2.1.1 (ce5 hk0.2.2.2.1.1 _ _) (ctX5_visitFrom (kl K) G X.2.2.2.2.2.2.2.1 Nf h σ 90 hk0.2.2.2.1 0 hk0.2.1 x1) dX6_step_19 (fun _ => rfl) (fun r3 => ?_)
  refine z_aload_n X dX6_step_22 0 rfl ?_
  refine z_get X inlX6 rfl hk0.1 (ce6 hk0.1 _ _) 2 (by decide) q_1_18 rfl dX6_step_23 ?_
  refine z_iload_n X dX6_step_26 2 rfl ?_
  refine z_iload_n X dX6_step_27 3 rfl ?_
  refine z_callV0 X (g := (fun r4 : Int32 => ((some (.int r4), h, r3) : Option Value × Int64 × cS))) (st := []) (st1 := (fun r4 : Int32 => [.int r4])) (rmf := 2) (rml := 44) [.int x2, .int x3] 90 cal_X5_slotOnPathTo q_21_18 ⟨Nat.le_of_ble_eq_true rfl, Nat.le_of_ble_eq_true rfl⟩ rfl rfl (Nat.le_of_ble_eq_true rfl) rfl hk0.2.2.2.1.1 (ce5 hk0.2.2.2.1.1 _ _) (ctX5_slotOnPathTo (kl K) G X.2.2.2.2.2.2.2.1 Nf h r3 90 hk0.2.2.2.1 x2 x3) dX6_step_28 (fun _ => rfl) (fun r4 => ?_)
  refine z_istore X [(4, .int r4), (0, .ref (la G k0)), (1, .int x1), (2, .int x2), (3, .int x3)] dX6_step_31 (by decide) rfl ?_
  refine z_iload X dX6_step_33 0 rfl ?_
  refine z_iconst (v := (-1 : Int32)) X dX6_step_35 (by decide) ?_
  refine z_icmp_ne X 49 dX6_step_36 (by decide) ?_ ?_
  · exact z_throw X (List.mem_of_getElem? (i := 6) rfl) th_3 q_17_11 q_17_12 dX6_step_39 dX6_step_42 dX6_step_43 dX6_step_45 dX6_step_48 rfl (by decide) (Nat.le_of_ble_eq_true rfl)
  · refine z_aload_n X dX6_step_49 1 rfl ?_
    refine z_get X inlX6 rfl hk0.1 (ce6 hk0.1 _ _) 0 (by decide) q_1_13 rfl dX6_step_50 ?_
    refine z_getN X inlX0 rfl hk0.2.1.1 (ce0 hk0.2.1.1 _ _) 0 (by decide) n_0 rfl dX6_step_53 ?_
    refine z_iload X dX6_step_56 0 rfl ?_
    refine z_callV0 X (g := (fun r5 : Int32 => ((some (.int r5), h, r3) : Option Value × Int64 × cS))) (st := []) (st1 := (fun r5 : Int32 => [.int r5])) (rmf := 0) (rml := 0) [.int r4] 1 cal_X4_get q_10_14 ⟨Nat.le_of_ble_eq_true rfl, Nat.le_of_ble_eq_true rfl⟩ rfl rfl (Nat.le_of_ble_eq_true rfl) rfl hk0.2.1.2.1.1 (ce4 hk0.2.1.2.1.1 _ _) (ctX4_get (kl K) G X.2.2.2.2.2.2.2.1 h r3 1 hk0.2.1.2.1 r4) dX6_step_58 (fun _ => rfl) (fun r5 => ?_)
    exact z_xiret X rfl dX6_step_61
def fX6_step (L : Nat → Nat) (Nf : Nat) (σ : cS) (k0 : Nat) (x1 : Int32) (x2 : Int32) (x3 : Int32) : Option ((Int32 × cS) ⊕ (Nat × cS)) := fX6_step_0 L Nf k0 x1 x2 x3 σ
set_option maxHeartbeats 4000000 in
set_option maxRecDepth 100000 in
theorem ctX6_step_n (l : Launch) (G : Lay) (hi : Inj G) (Nf : Nat) (h : Int64) (σ : cS) (k0 : Nat) (hk0 : isEH G k0) (x1 : Int32) (x2 : Int32) (x3 : Int32) : ∀ r, fX6_step (ll G) Nf σ k0 x1 x2 x3 = some (.inl r) → CM l yX6_step cX6_step 5 (some .int) 7 111 G [.ref (la G k0), .int x1, .int x2, .int x3] h σ (some (.int r.1), h, r.2) := by
  refine cm_ofX (g := (fun r : (Int32 × cS) => ((some (.int r.1), h, r.2) : Option Value × Int64 × cS))) (gx := (fun r : Nat × cS => ((exN r.1, h, r.2) : String × Int64 × cS))) (by decide) hi (Nat.le_of_ble_eq_true rfl) (fun K hKl X => ?_)
  unfold fX6_step
  exact z_sub [0, 1, 2, 3] rfl (sX6_step_0 X Nf k0 hk0 h x1 x2 x3 σ)
set_option maxHeartbeats 4000000 in
set_option maxRecDepth 100000 in
theorem ctX6_step_x (l : Launch) (G : Lay) (hi : Inj G) (Nf : Nat) (h : Int64) (σ : cS) (k0 : Nat) (hk0 : isEH G k0) (x1 : Int32) (x2 : Int32) (x3 : Int32) (hfl : l.stackTraces = false) : ∀ r, fX6_step (ll G) Nf σ k0 x1 x2 x3 = some (.inr r) → CX l yX6_step cX6_step 5 (some .int) 7 111 G [.ref (la G k0), .int x1, .int x2, .int x3] h σ (exN r.1, h, r.2) := by
  refine cx_of (g := (fun r : (Int32 × cS) => ((some (.int r.1), h, r.2) : Option Value × Int64 × cS))) (gx := (fun r : Nat × cS => ((exN r.1, h, r.2) : String × Int64 × cS))) (by decide) hi hfl (Nat.le_of_ble_eq_true rfl) (fun K hKl X => ?_)
  unfold fX6_step
  exact z_sub [0, 1, 2, 3] rfl (sX6_step_0 X Nf k0 hk0 h x1 x2 x3 σ)
def fX6_inner_17 (L : Nat → Nat) (Nf : Nat) (σ : cS) (k0 : Nat)  : Option (Int32 ⊕ Nat) := some (.inr 1)
set_option maxHeartbeats 4000000 in
set_option maxRecDepth 100000 in
theorem sX6_inner_17 {K : MCx} {G : Lay} (X : Cx K G RX6 cX6_inner 2 (some .int) 6 90) (Nf : Nat) (k0 : Nat) (hk0 : isEH G k0) (h : Int64) (σ : cS) : Sm K G (PX K G) (QX K G (fun r : Int32 => ((some (.int r), h, σ) : Option Value × Int64 × cS)) (fun r : Nat => ((exN r, h, σ) : String × Int64 × cS))) 2 17 [] [] h σ (fX6_inner_17 (ll G) Nf σ k0) := by
  unfold fX6_inner_17
  exact z_throw X (List.mem_of_getElem? (i := 7) rfl) th_1 q_6_6 q_6_7 dX6_inner_17 dX6_inner_20 dX6_inner_21 dX6_inner_23 dX6_inner_26 rfl (by decide) (Nat.le_of_ble_eq_true rfl)
def fX6_inner_0 (L : Nat → Nat) (Nf : Nat) (σ : cS) (k0 : Nat) (x1 : Int32)  : Option (Int32 ⊕ Nat) := if x1 ≤ 0 then (fX6_inner_17 L Nf σ k0) else (if x1 < ((1 : Int32) <<< ((σ 0 7) &&& 31)) then (Option.bind (fX0_edgesWithin L Nf σ 0 x1) (fun r1 => some (.inl r1))) else (fX6_inner_17 L Nf σ k0))
set_option maxHeartbeats 4000000 in
set_option maxRecDepth 100000 in
theorem sX6_inner_0 {K : MCx} {G : Lay} (X : Cx K G RX6 cX6_inner 2 (some .int) 6 90) (Nf : Nat) (k0 : Nat) (hk0 : isEH G k0) (h : Int64) (σ : cS) (x1 : Int32) : Sm K G (PX K G) (QX K G (fun r : Int32 => ((some (.int r), h, σ) : Option Value × Int64 × cS)) (fun r : Nat => ((exN r, h, σ) : String × Int64 × cS))) 2 0 [(0, .ref (la G k0)), (1, .int x1)] [] h σ (fX6_inner_0 (ll G) Nf σ k0 x1) := by
  unfold fX6_inner_0
  refine z_iload_n X dX6_inner_0 1 rfl ?_
  refine z_if_le X 17 dX6_inner_1 (by decide) ?_ ?_
  · exact z_sub [] rfl (sX6_inner_17 X Nf k0 hk0 h σ)
  · refine z_iload_n X dX6_inner_4 1 rfl ?_
    refine z_iconst (v := (1 : Int32)) X dX6_inner_5 (by decide) ?_
    refine z_aload_n X dX6_inner_6 0 rfl ?_
    refine z_get X inlX6 rfl hk0.1 (ce6 hk0.1 _ _) 0 (by decide) q_1_13 rfl dX6_inner_7 ?_
    refine z_getN X inlX0 rfl hk0.2.1.1 (ce0 hk0.2.1.1 _ _) 7 (by decide) n_11 rfl dX6_inner_10 ?_
    refine z_ishl X dX6_inner_13 ?_
    refine z_icmp_lt X 27 dX6_inner_14 (by decide) ?_ ?_
    · refine z_aload_n X dX6_inner_27 0 rfl ?_
      refine z_get X inlX6 rfl hk0.1 (ce6 hk0.1 _ _) 0 (by decide) q_1_13 rfl dX6_inner_28 ?_
      refine z_iload_n X dX6_inner_31 1 rfl ?_
      refine z_callV0 X (g := (fun r1 : Int32 => ((some (.int r1), h, σ) : Option Value × Int64 × cS))) (st := []) (st1 := (fun r1 : Int32 => [.int r1])) (rmf := 2) (rml := 42) [.int x1] 0 cal_X0_edgesWithin q_9_18 ⟨Nat.le_of_ble_eq_true rfl, Nat.le_of_ble_eq_true rfl⟩ rfl rfl (Nat.le_of_ble_eq_true rfl) rfl hk0.2.1.1 (ce0 hk0.2.1.1 _ _) (ctX0_edgesWithin (kl K) G X.2.2.2.2.2.2.2.1 Nf h σ 0 hk0.2.1 x1) dX6_inner_32 (fun _ => rfl) (fun r1 => ?_)
      exact z_xiret X rfl dX6_inner_35
    · exact z_sub [] rfl (sX6_inner_17 X Nf k0 hk0 h σ)
def fX6_inner (L : Nat → Nat) (Nf : Nat) (σ : cS) (k0 : Nat) (x1 : Int32) : Option (Int32 ⊕ Nat) := fX6_inner_0 L Nf σ k0 x1
set_option maxHeartbeats 4000000 in
set_option maxRecDepth 100000 in
theorem ctX6_inner_n (l : Launch) (G : Lay) (hi : Inj G) (Nf : Nat) (h : Int64) (σ : cS) (k0 : Nat) (hk0 : isEH G k0) (x1 : Int32) : ∀ r, fX6_inner (ll G) Nf σ k0 x1 = some (.inl r) → CM l yX6_inner cX6_inner 2 (some .int) 6 90 G [.ref (la G k0), .int x1] h σ (some (.int r), h, σ) := by
  refine cm_ofX (g := (fun r : Int32 => ((some (.int r), h, σ) : Option Value × Int64 × cS))) (gx := (fun r : Nat => ((exN r, h, σ) : String × Int64 × cS))) (by decide) hi (Nat.le_of_ble_eq_true rfl) (fun K hKl X => ?_)
  unfold fX6_inner
  exact z_sub [0, 1] rfl (sX6_inner_0 X Nf k0 hk0 h σ x1)
set_option maxHeartbeats 4000000 in
set_option maxRecDepth 100000 in
theorem ctX6_inner_x (l : Launch) (G : Lay) (hi : Inj G) (Nf : Nat) (h : Int64) (σ : cS) (k0 : Nat) (hk0 : isEH G k0) (x1 : Int32) (hfl : l.stackTraces = false) : ∀ r, fX6_inner (ll G) Nf σ k0 x1 = some (.inr r) → CX l yX6_inner cX6_inner 2 (some .int) 6 90 G [.ref (la G k0), .int x1] h σ (exN r, h, σ) := by
  refine cx_of (g := (fun r : Int32 => ((some (.int r), h, σ) : Option Value × Int64 × cS))) (gx := (fun r : Nat => ((exN r, h, σ) : String × Int64 × cS))) (by decide) hi hfl (Nat.le_of_ble_eq_true rfl) (fun K hKl X => ?_)
  unfold fX6_inner
  exact z_sub [0, 1] rfl (sX6_inner_0 X Nf k0 hk0 h σ x1)
def fX6_densest_0 (L : Nat → Nat) (Nf : Nat) (k0 : Nat) (σ : cS) : Option (Int32 × cS) := Option.bind (fX3_learn L Nf σ 97 0) (fun r1 => some ((r1 97 4), r1))
set_option maxHeartbeats 4000000 in
set_option maxRecDepth 100000 in
theorem sX6_densest_0 {K : MCx} {G : Lay} (X : Cx K G RX6 cX6_densest 1 (some .int) 4 92) (Nf : Nat) (k0 : Nat) (hk0 : isEH G k0) (h : Int64) (σ : cS) : Sm K G TT (QM K G (fun r : (Int32 × cS) => ((some (.int r.1), h, r.2) : Option Value × Int64 × cS))) 1 0 [(0, .ref (la G k0))] [] h σ (fX6_densest_0 (ll G) Nf k0 σ) := by
  unfold fX6_densest_0
  refine z_aload_n X dX6_densest_0 0 rfl ?_
  refine z_get X inlX6 rfl hk0.1 (ce6 hk0.1 _ _) 3 (by decide) q_1_22 rfl dX6_densest_1 ?_
  refine z_aload_n X dX6_densest_4 0 rfl ?_
  refine z_get X inlX6 rfl hk0.1 (ce6 hk0.1 _ _) 0 (by decide) q_1_13 rfl dX6_densest_5 ?_
  refine z_callV0 X (g := (fun r1 : cS => ((none, h, r1) : Option Value × Int64 × cS))) (st := []) (st1 := (fun r1 : cS => [])) (rmf := 3) (rml := 70) [.ref (la G 0)] 97 cal_X3_learn q_7_15 ⟨Nat.le_of_ble_eq_true rfl, Nat.le_of_ble_eq_true rfl⟩ rfl rfl (Nat.le_of_ble_eq_true rfl) rfl hk0.2.2.2.2.1.1 (ce3 hk0.2.2.2.2.1.1 _ _) (ctX3_learn (kl K) G X.2.2.2.2.2.2.2.1 Nf h σ 97 hk0.2.2.2.2.1 0 hk0.2.1 ) dX6_densest_8 (fun _ => rfl) (fun r1 => ?_)
  refine z_aload_n X dX6_densest_11 0 rfl ?_
  refine z_get X inlX6 rfl hk0.1 (ce6 hk0.1 _ _) 3 (by decide) q_1_22 rfl dX6_densest_12 ?_
  refine z_getN X inlX3 rfl hk0.2.2.2.2.1.1 (ce3 hk0.2.2.2.2.1.1 _ _) 4 (by decide) n_17 rfl dX6_densest_15 ?_
  exact z_iret X rfl dX6_densest_18
def fX6_densest (L : Nat → Nat) (Nf : Nat) (σ : cS) (k0 : Nat) : Option (Int32 × cS) := fX6_densest_0 L Nf k0 σ
set_option maxHeartbeats 4000000 in
set_option maxRecDepth 100000 in
theorem ctX6_densest (l : Launch) (G : Lay) (hi : Inj G) (Nf : Nat) (h : Int64) (σ : cS) (k0 : Nat) (hk0 : isEH G k0) : ∀ r, fX6_densest (ll G) Nf σ k0 = some r → CM l yX6_densest cX6_densest 1 (some .int) 4 92 G [.ref (la G k0)] h σ (some (.int r.1), h, r.2) := by
  refine cm_of (g := (fun r : (Int32 × cS) => ((some (.int r.1), h, r.2) : Option Value × Int64 × cS))) (by decide) hi (Nat.le_of_ble_eq_true rfl) (fun K hKl X => ?_)
  unfold fX6_densest
  exact z_sub [0] rfl (sX6_densest_0 X Nf k0 hk0 h σ)
def fX6_least_0 (L : Nat → Nat) (Nf : Nat) (k0 : Nat) (σ : cS) : Option (Int32 × cS) := Option.bind (fX3_learn L Nf σ 97 0) (fun r1 => some ((r1 97 5), r1))
set_option maxHeartbeats 4000000 in
set_option maxRecDepth 100000 in
theorem sX6_least_0 {K : MCx} {G : Lay} (X : Cx K G RX6 cX6_least 1 (some .int) 4 92) (Nf : Nat) (k0 : Nat) (hk0 : isEH G k0) (h : Int64) (σ : cS) : Sm K G TT (QM K G (fun r : (Int32 × cS) => ((some (.int r.1), h, r.2) : Option Value × Int64 × cS))) 1 0 [(0, .ref (la G k0))] [] h σ (fX6_least_0 (ll G) Nf k0 σ) := by
  unfold fX6_least_0
  refine z_aload_n X dX6_least_0 0 rfl ?_
  refine z_get X inlX6 rfl hk0.1 (ce6 hk0.1 _ _) 3 (by decide) q_1_22 rfl dX6_least_1 ?_
  refine z_aload_n X dX6_least_4 0 rfl ?_
  refine z_get X inlX6 rfl hk0.1 (ce6 hk0.1 _ _) 0 (by decide) q_1_13 rfl dX6_least_5 ?_
  refine z_callV0 X (g := (fun r1 : cS => ((none, h, r1) : Option Value × Int64 × cS))) (st := []) (st1 := (fun r1 : cS => [])) (rmf := 3) (rml := 70) [.ref (la G 0)] 97 cal_X3_learn q_7_15 ⟨Nat.le_of_ble_eq_true rfl, Nat.le_of_ble_eq_true rfl⟩ rfl rfl (Nat.le_of_ble_eq_true rfl) rfl hk0.2.2.2.2.1.1 (ce3 hk0.2.2.2.2.1.1 _ _) (ctX3_learn (kl K) G X.2.2.2.2.2.2.2.1 Nf h σ 97 hk0.2.2.2.2.1 0 hk0.2.1 ) dX6_least_8 (fun _ => rfl) (fun r1 => ?_)
  refine z_aload_n X dX6_least_11 0 rfl ?_
  refine z_get X inlX6 rfl hk0.1 (ce6 hk0.1 _ _) 3 (by decide) q_1_22 rfl dX6_least_12 ?_
  refine z_getN X inlX3 rfl hk0.2.2.2.2.1.1 (ce3 hk0.2.2.2.2.1.1 _ _) 5 (by decide) n_18 rfl dX6_least_15 ?_
  exact z_iret X rfl dX6_least_18
def fX6_least (L : Nat → Nat) (Nf : Nat) (σ : cS) (k0 : Nat) : Option (Int32 × cS) := fX6_least_0 L Nf k0 σ
set_option maxHeartbeats 4000000 in
set_option maxRecDepth 100000 in
theorem ctX6_least (l : Launch) (G : Lay) (hi : Inj G) (Nf : Nat) (h : Int64) (σ : cS) (k0 : Nat) (hk0 : isEH G k0) : ∀ r, fX6_least (ll G) Nf σ k0 = some r → CM l yX6_least cX6_least 1 (some .int) 4 92 G [.ref (la G k0)] h σ (some (.int r.1), h, r.2) := by
  refine cm_of (g := (fun r : (Int32 × cS) => ((some (.int r.1), h, r.2) : Option Value × Int64 × cS))) (by decide) hi (Nat.le_of_ble_eq_true rfl) (fun K hKl X => ?_)
  unfold fX6_least
  exact z_sub [0] rfl (sX6_least_0 X Nf k0 hk0 h σ)
def fX6_tooDense_0 (L : Nat → Nat) (Nf : Nat) (k0 : Nat) (σ : cS) : Option (Int32 × cS) := Option.bind (fX3_learn L Nf σ 97 0) (fun r1 => Option.bind (fX3_mostOverfull L Nf r1 97 13 (r1 0 7)) (fun r2 => some (r2.1, r2.2)))
set_option maxHeartbeats 4000000 in
set_option maxRecDepth 100000 in
theorem sX6_tooDense_0 {K : MCx} {G : Lay} (X : Cx K G RX6 cX6_tooDense 1 (some .int) 4 92) (Nf : Nat) (k0 : Nat) (hk0 : isEH G k0) (h : Int64) (σ : cS) : Sm K G TT (QM K G (fun r : (Int32 × cS) => ((some (.int r.1), h, r.2) : Option Value × Int64 × cS))) 1 0 [(0, .ref (la G k0))] [] h σ (fX6_tooDense_0 (ll G) Nf k0 σ) := by
  unfold fX6_tooDense_0
  refine z_aload_n X dX6_tooDense_0 0 rfl ?_
  refine z_get X inlX6 rfl hk0.1 (ce6 hk0.1 _ _) 3 (by decide) q_1_22 rfl dX6_tooDense_1 ?_
  refine z_aload_n X dX6_tooDense_4 0 rfl ?_
  refine z_get X inlX6 rfl hk0.1 (ce6 hk0.1 _ _) 0 (by decide) q_1_13 rfl dX6_tooDense_5 ?_
  refine z_callV0 X (g := (fun r1 : cS => ((none, h, r1) : Option Value × Int64 × cS))) (st := []) (st1 := (fun r1 : cS => [])) (rmf := 3) (rml := 70) [.ref (la G 0)] 97 cal_X3_learn q_7_15 ⟨Nat.le_of_ble_eq_true rfl, Nat.le_of_ble_eq_true rfl⟩ rfl rfl (Nat.le_of_ble_eq_true rfl) rfl hk0.2.2.2.2.1.1 (ce3 hk0.2.2.2.2.1.1 _ _) (ctX3_learn (kl K) G X.2.2.2.2.2.2.2.1 Nf h σ 97 hk0.2.2.2.2.1 0 hk0.2.1 ) dX6_tooDense_8 (fun _ => rfl) (fun r1 => ?_)
  refine z_aload_n X dX6_tooDense_11 0 rfl ?_
  refine z_get X inlX6 rfl hk0.1 (ce6 hk0.1 _ _) 3 (by decide) q_1_22 rfl dX6_tooDense_12 ?_
  refine z_aload_n X dX6_tooDense_15 0 rfl ?_
  refine z_get X inlX6 rfl hk0.1 (ce6 hk0.1 _ _) 0 (by decide) q_1_13 rfl dX6_tooDense_16 ?_
  refine z_getN X inlX0 rfl hk0.2.1.1 (ce0 hk0.2.1.1 _ _) 6 (by decide) n_8 rfl dX6_tooDense_19 ?_
  refine z_aload_n X dX6_tooDense_22 0 rfl ?_
  refine z_get X inlX6 rfl hk0.1 (ce6 hk0.1 _ _) 0 (by decide) q_1_13 rfl dX6_tooDense_23 ?_
  refine z_getN X inlX0 rfl hk0.2.1.1 (ce0 hk0.2.1.1 _ _) 7 (by decide) n_11 rfl dX6_tooDense_26 ?_
  refine z_callV0 X (g := (fun r2 : (Int32 × cS) => ((some (.int r2.1), h, r2.2) : Option Value × Int64 × cS))) (st := []) (st1 := (fun r2 : (Int32 × cS) => [.int r2.1])) (rmf := 2) (rml := 48) [.ref (la G 13), .int (r1 0 7)] 97 cal_X3_mostOverfull q_24_14 ⟨Nat.le_of_ble_eq_true rfl, Nat.le_of_ble_eq_true rfl⟩ rfl rfl (Nat.le_of_ble_eq_true rfl) rfl hk0.2.2.2.2.1.1 (ce3 hk0.2.2.2.2.1.1 _ _) (ctX3_mostOverfull (kl K) G X.2.2.2.2.2.2.2.1 Nf h r1 97 hk0.2.2.2.2.1 13 hk0.2.1.2.2.2.2.2.2.2 (r1 0 7)) dX6_tooDense_29 (fun _ => rfl) (fun r2 => ?_)
  exact z_iret X rfl dX6_tooDense_32
def fX6_tooDense (L : Nat → Nat) (Nf : Nat) (σ : cS) (k0 : Nat) : Option (Int32 × cS) := fX6_tooDense_0 L Nf k0 σ
set_option maxHeartbeats 4000000 in
set_option maxRecDepth 100000 in
theorem ctX6_tooDense (l : Launch) (G : Lay) (hi : Inj G) (Nf : Nat) (h : Int64) (σ : cS) (k0 : Nat) (hk0 : isEH G k0) : ∀ r, fX6_tooDense (ll G) Nf σ k0 = some r → CM l yX6_tooDense cX6_tooDense 1 (some .int) 4 92 G [.ref (la G k0)] h σ (some (.int r.1), h, r.2) := by
  refine cm_of (g := (fun r : (Int32 × cS) => ((some (.int r.1), h, r.2) : Option Value × Int64 × cS))) (by decide) hi (Nat.le_of_ble_eq_true rfl) (fun K hKl X => ?_)
  unfold fX6_tooDense
  exact z_sub [0] rfl (sX6_tooDense_0 X Nf k0 hk0 h σ)
def fX6_leastWith_0 (L : Nat → Nat) (Nf : Nat) (k0 : Nat) (x1 : Int32) (x2 : Int32) (σ : cS) : Option ((Int32 × cS) ⊕ (Nat × cS)) := xbn (fX6_checkNode σ k0 x1) (fun r : Nat => (r, σ)) (fun r1 => xbn (fX6_checkNode σ k0 x2) (fun r : Nat => (r, σ)) (fun r2 => xbn (fX6_checkDifferent σ x1 x2) (fun r : Nat => (r, σ)) (fun r3 => Option.bind (fX3_learn L Nf σ 97 0) (fun r4 => Option.bind (fX3_leastLoadWith L Nf r4 97 (((1 : Int32) <<< (x1 &&& 31)) ||| ((1 : Int32) <<< (x2 &&& 31))) (1 : Int32)) (fun r5 => some (.inl (r5, r4)))))))
set_option maxHeartbeats 4000000 in
set_option maxRecDepth 100000 in
theorem sX6_leastWith_0 {K : MCx} {G : Lay} (X : Cx K G RX6 cX6_leastWith 3 (some .int) 7 111) (Nf : Nat) (k0 : Nat) (hk0 : isEH G k0) (h : Int64) (x1 : Int32) (x2 : Int32) (σ : cS) : Sm K G (PX K G) (QX K G (fun r : (Int32 × cS) => ((some (.int r.1), h, r.2) : Option Value × Int64 × cS)) (fun r : Nat × cS => ((exN r.1, h, r.2) : String × Int64 × cS))) 3 0 [(0, .ref (la G k0)), (1, .int x1), (2, .int x2)] [] h σ (fX6_leastWith_0 (ll G) Nf k0 x1 x2 σ) := by
  unfold fX6_leastWith_0
  refine z_aload_n X dX6_leastWith_0 0 rfl ?_
  refine z_iload_n X dX6_leastWith_1 1 rfl ?_
  refine z_callVX X (g := (fun r1 : Unit => ((none, h, σ) : Option Value × Int64 × cS))) (st := []) (st1 := (fun r1 : Unit => [])) (rmf := 6) (rml := 90) (gx := (fun r : Nat => ((exN r, h, σ) : String × Int64 × cS))) [.int x1] k0 cal_X6_checkNode q_17_7 ⟨Nat.le_of_ble_eq_true rfl, Nat.le_of_ble_eq_true rfl⟩ rfl rfl (Nat.le_of_ble_eq_true rfl) rfl hk0.1 (ce6 hk0.1 _ _) (ctX6_checkNode_n (kl K) G X.2.2.2.2.2.2.2.1 h σ k0 hk0 x1) (ctX6_checkNode_x (kl K) G X.2.2.2.2.2.2.2.1 h σ k0 hk0 x1) dX6_leastWith_2 (fun _ => rfl) (fun _ => rfl) (fun r1 => ?_)
  refine z_aload_n X dX6_leastWith_5 0 rfl ?_
  refine z_iload_n X dX6_leastWith_6 2 rfl ?_
  refine z_callVX X (g := (fun r2 : Unit => ((none, h, σ) : Option Value × Int64 × cS))) (st := []) (st1 := (fun r2 : Unit => [])) (rmf := 6) (rml := 90) (gx := (fun r : Nat => ((exN r, h, σ) : String × Int64 × cS))) [.int x2] k0 cal_X6_checkNode q_17_7 ⟨Nat.le_of_ble_eq_true rfl, Nat.le_of_ble_eq_true rfl⟩ rfl rfl (Nat.le_of_ble_eq_true rfl) rfl hk0.1 (ce6 hk0.1 _ _) (ctX6_checkNode_n (kl K) G X.2.2.2.2.2.2.2.1 h σ k0 hk0 x2) (ctX6_checkNode_x (kl K) G X.2.2.2.2.2.2.2.1 h σ k0 hk0 x2) dX6_leastWith_7 (fun _ => rfl) (fun _ => rfl) (fun r2 => ?_)
  refine z_iload_n X dX6_leastWith_10 1 rfl ?_
  refine z_iload_n X dX6_leastWith_11 2 rfl ?_
  refine z_callSX X (g := (fun r3 : Unit => ((none, h, σ) : Option Value × Int64 × cS))) (st := []) (st1 := (fun r3 : Unit => [])) (rmf := 6) (rml := 90) (gx := (fun r : Nat => ((exN r, h, σ) : String × Int64 × cS))) [.int x1, .int x2] cal_X6_checkDifferent q_19_5 ⟨Nat.le_of_ble_eq_true rfl, Nat.le_of_ble_eq_true rfl⟩ rfl rfl (Nat.le_of_ble_eq_true rfl) (ctX6_checkDifferent_n (kl K) G X.2.2.2.2.2.2.2.1 h σ x1 x2) (ctX6_checkDifferent_x (kl K) G X.2.2.2.2.2.2.2.1 h σ x1 x2) dX6_leastWith_12 (fun _ => rfl) (fun _ => rfl) (fun r3 => ?_)
  refine z_aload_n X dX6_leastWith_15 0 rfl ?_
  refine z_get X inlX6 rfl hk0.1 (ce6 hk0.1 _ _) 3 (by decide) q_1_22 rfl dX6_leastWith_16 ?_
  refine z_aload_n X dX6_leastWith_19 0 rfl ?_
  refine z_get X inlX6 rfl hk0.1 (ce6 hk0.1 _ _) 0 (by decide) q_1_13 rfl dX6_leastWith_20 ?_
  refine z_callV0 X (g := (fun r4 : cS => ((none, h, r4) : Option Value × Int64 × cS))) (st := []) (st1 := (fun r4 : cS => [])) (rmf := 3) (rml := 70) [.ref (la G 0)] 97 cal_X3_learn q_7_15 ⟨Nat.le_of_ble_eq_true rfl, Nat.le_of_ble_eq_true rfl⟩ rfl rfl (Nat.le_of_ble_eq_true rfl) rfl hk0.2.2.2.2.1.1 (ce3 hk0.2.2.2.2.1.1 _ _) (ctX3_learn (kl K) G X.2.2.2.2.2.2.2.1 Nf h σ 97 hk0.2.2.2.2.1 0 hk0.2.1 ) dX6_leastWith_23 (fun _ => rfl) (fun r4 => ?_)
  refine z_aload_n X dX6_leastWith_26 0 rfl ?_
  refine z_get X inlX6 rfl hk0.1 (ce6 hk0.1 _ _) 3 (by decide) q_1_22 rfl dX6_leastWith_27 ?_
  refine z_iconst (v := (1 : Int32)) X dX6_leastWith_30 (by decide) ?_
  refine z_iload_n X dX6_leastWith_31 1 rfl ?_
  refine z_ishl X dX6_leastWith_32 ?_
  refine z_iconst (v := (1 : Int32)) X dX6_leastWith_33 (by decide) ?_
  refine z_iload_n X dX6_leastWith_34 2 rfl ?_
  refine z_ishl X dX6_leastWith_35 ?_
  refine z_ior X dX6_leastWith_36 ?_
  refine z_iconst (v := (1 : Int32)) X dX6_leastWith_37 (by decide) ?_
  refine z_callV0 X (g := (fun r5 : Int32 => ((some (.int r5), h, r4) : Option Value × Int64 × cS))) (st := []) (st1 := (fun r5 : Int32 => [.int r5])) (rmf := 2) (rml := 52) [.int (((1 : Int32) <<< (x1 &&& 31)) ||| ((1 : Int32) <<< (x2 &&& 31))), .int (1 : Int32)] 97 cal_X3_leastLoadWith q_22_12 ⟨Nat.le_of_ble_eq_true rfl, Nat.le_of_ble_eq_true rfl⟩ rfl rfl (Nat.le_of_ble_eq_true rfl) rfl hk0.2.2.2.2.1.1 (ce3 hk0.2.2.2.2.1.1 _ _) (ctX3_leastLoadWith (kl K) G X.2.2.2.2.2.2.2.1 Nf h r4 97 hk0.2.2.2.2.1 (((1 : Int32) <<< (x1 &&& 31)) ||| ((1 : Int32) <<< (x2 &&& 31))) (1 : Int32)) dX6_leastWith_38 (fun _ => rfl) (fun r5 => ?_)
  exact z_xiret X rfl dX6_leastWith_41
def fX6_leastWith (L : Nat → Nat) (Nf : Nat) (σ : cS) (k0 : Nat) (x1 : Int32) (x2 : Int32) : Option ((Int32 × cS) ⊕ (Nat × cS)) := fX6_leastWith_0 L Nf k0 x1 x2 σ
set_option maxHeartbeats 4000000 in
set_option maxRecDepth 100000 in
theorem ctX6_leastWith_n (l : Launch) (G : Lay) (hi : Inj G) (Nf : Nat) (h : Int64) (σ : cS) (k0 : Nat) (hk0 : isEH G k0) (x1 : Int32) (x2 : Int32) : ∀ r, fX6_leastWith (ll G) Nf σ k0 x1 x2 = some (.inl r) → CM l yX6_leastWith cX6_leastWith 3 (some .int) 7 111 G [.ref (la G k0), .int x1, .int x2] h σ (some (.int r.1), h, r.2) := by
  refine cm_ofX (g := (fun r : (Int32 × cS) => ((some (.int r.1), h, r.2) : Option Value × Int64 × cS))) (gx := (fun r : Nat × cS => ((exN r.1, h, r.2) : String × Int64 × cS))) (by decide) hi (Nat.le_of_ble_eq_true rfl) (fun K hKl X => ?_)
  unfold fX6_leastWith
  exact z_sub [0, 1, 2] rfl (sX6_leastWith_0 X Nf k0 hk0 h x1 x2 σ)
set_option maxHeartbeats 4000000 in
set_option maxRecDepth 100000 in
theorem ctX6_leastWith_x (l : Launch) (G : Lay) (hi : Inj G) (Nf : Nat) (h : Int64) (σ : cS) (k0 : Nat) (hk0 : isEH G k0) (x1 : Int32) (x2 : Int32) (hfl : l.stackTraces = false) : ∀ r, fX6_leastWith (ll G) Nf σ k0 x1 x2 = some (.inr r) → CX l yX6_leastWith cX6_leastWith 3 (some .int) 7 111 G [.ref (la G k0), .int x1, .int x2] h σ (exN r.1, h, r.2) := by
  refine cx_of (g := (fun r : (Int32 × cS) => ((some (.int r.1), h, r.2) : Option Value × Int64 × cS))) (gx := (fun r : Nat × cS => ((exN r.1, h, r.2) : String × Int64 × cS))) (by decide) hi hfl (Nat.le_of_ble_eq_true rfl) (fun K hKl X => ?_)
  unfold fX6_leastWith
  exact z_sub [0, 1, 2] rfl (sX6_leastWith_0 X Nf k0 hk0 h x1 x2 σ)
def fX6_leastWithout_0 (L : Nat → Nat) (Nf : Nat) (k0 : Nat) (x1 : Int32) (σ : cS) : Option ((Int32 × cS) ⊕ (Nat × cS)) := xbn (fX6_checkedSlot L Nf σ k0 x1) (fun r : Nat => (r, σ)) (fun r1 => Option.bind (fX3_learn L Nf σ 97 0) (fun r2 => Option.bind (fX0_endsOf L r2 0 r1) (fun r3 => Option.bind (fX3_leastLoadWith L Nf r2 97 r3 (-1 : Int32)) (fun r4 => some (.inl (r4, r2))))))
set_option maxHeartbeats 4000000 in
set_option maxRecDepth 100000 in
theorem sX6_leastWithout_0 {K : MCx} {G : Lay} (X : Cx K G RX6 cX6_leastWithout 3 (some .int) 7 112) (Nf : Nat) (k0 : Nat) (hk0 : isEH G k0) (h : Int64) (x1 : Int32) (σ : cS) : Sm K G (PX K G) (QX K G (fun r : (Int32 × cS) => ((some (.int r.1), h, r.2) : Option Value × Int64 × cS)) (fun r : Nat × cS => ((exN r.1, h, r.2) : String × Int64 × cS))) 3 0 [(0, .ref (la G k0)), (1, .int x1)] [] h σ (fX6_leastWithout_0 (ll G) Nf k0 x1 σ) := by
  unfold fX6_leastWithout_0
  refine z_aload_n X dX6_leastWithout_0 0 rfl ?_
  refine z_iload_n X dX6_leastWithout_1 1 rfl ?_
  refine z_callVX X (g := (fun r1 : Int32 => ((some (.int r1), h, σ) : Option Value × Int64 × cS))) (st := []) (st1 := (fun r1 : Int32 => [.int r1])) (rmf := 6) (rml := 90) (gx := (fun r : Nat => ((exN r, h, σ) : String × Int64 × cS))) [.int x1] k0 cal_X6_checkedSlot q_18_6 ⟨Nat.le_of_ble_eq_true rfl, Nat.le_of_ble_eq_true rfl⟩ rfl rfl (Nat.le_of_ble_eq_true rfl) rfl hk0.1 (ce6 hk0.1 _ _) (ctX6_checkedSlot_n (kl K) G X.2.2.2.2.2.2.2.1 Nf h σ k0 hk0 x1) (ctX6_checkedSlot_x (kl K) G X.2.2.2.2.2.2.2.1 Nf h σ k0 hk0 x1) dX6_leastWithout_2 (fun _ => rfl) (fun _ => rfl) (fun r1 => ?_)
  refine z_istore_n X [(2, .int r1), (0, .ref (la G k0)), (1, .int x1)] dX6_leastWithout_5 (by decide) rfl ?_
  refine z_aload_n X dX6_leastWithout_6 1 rfl ?_
  refine z_get X inlX6 rfl hk0.1 (ce6 hk0.1 _ _) 3 (by decide) q_1_22 rfl dX6_leastWithout_7 ?_
  refine z_aload_n X dX6_leastWithout_10 1 rfl ?_
  refine z_get X inlX6 rfl hk0.1 (ce6 hk0.1 _ _) 0 (by decide) q_1_13 rfl dX6_leastWithout_11 ?_
  refine z_callV0 X (g := (fun r2 : cS => ((none, h, r2) : Option Value × Int64 × cS))) (st := []) (st1 := (fun r2 : cS => [])) (rmf := 3) (rml := 70) [.ref (la G 0)] 97 cal_X3_learn q_7_15 ⟨Nat.le_of_ble_eq_true rfl, Nat.le_of_ble_eq_true rfl⟩ rfl rfl (Nat.le_of_ble_eq_true rfl) rfl hk0.2.2.2.2.1.1 (ce3 hk0.2.2.2.2.1.1 _ _) (ctX3_learn (kl K) G X.2.2.2.2.2.2.2.1 Nf h σ 97 hk0.2.2.2.2.1 0 hk0.2.1 ) dX6_leastWithout_14 (fun _ => rfl) (fun r2 => ?_)
  refine z_aload_n X dX6_leastWithout_17 1 rfl ?_
  refine z_get X inlX6 rfl hk0.1 (ce6 hk0.1 _ _) 3 (by decide) q_1_22 rfl dX6_leastWithout_18 ?_
  refine z_aload_n X dX6_leastWithout_21 1 rfl ?_
  refine z_get X inlX6 rfl hk0.1 (ce6 hk0.1 _ _) 0 (by decide) q_1_13 rfl dX6_leastWithout_22 ?_
  refine z_iload_n X dX6_leastWithout_25 0 rfl ?_
  refine z_callV0 X (g := (fun r3 : Int32 => ((some (.int r3), h, r2) : Option Value × Int64 × cS))) (st := [.ref (la G 97)]) (st1 := (fun r3 : Int32 => [.int r3, .ref (la G 97)])) (rmf := 1) (rml := 21) [.int r1] 0 cal_X0_endsOf q_22_23 ⟨Nat.le_of_ble_eq_true rfl, Nat.le_of_ble_eq_true rfl⟩ rfl rfl (Nat.le_of_ble_eq_true rfl) rfl hk0.2.1.1 (ce0 hk0.2.1.1 _ _) (ctX0_endsOf (kl K) G X.2.2.2.2.2.2.2.1 h r2 0 hk0.2.1 r1) dX6_leastWithout_26 (fun _ => rfl) (fun r3 => ?_)
  refine z_iconst (v := (-1 : Int32)) X dX6_leastWithout_29 (by decide) ?_
  refine z_callV0 X (g := (fun r4 : Int32 => ((some (.int r4), h, r2) : Option Value × Int64 × cS))) (st := []) (st1 := (fun r4 : Int32 => [.int r4])) (rmf := 2) (rml := 52) [.int r3, .int (-1 : Int32)] 97 cal_X3_leastLoadWith q_22_12 ⟨Nat.le_of_ble_eq_true rfl, Nat.le_of_ble_eq_true rfl⟩ rfl rfl (Nat.le_of_ble_eq_true rfl) rfl hk0.2.2.2.2.1.1 (ce3 hk0.2.2.2.2.1.1 _ _) (ctX3_leastLoadWith (kl K) G X.2.2.2.2.2.2.2.1 Nf h r2 97 hk0.2.2.2.2.1 r3 (-1 : Int32)) dX6_leastWithout_30 (fun _ => rfl) (fun r4 => ?_)
  exact z_xiret X rfl dX6_leastWithout_33
def fX6_leastWithout (L : Nat → Nat) (Nf : Nat) (σ : cS) (k0 : Nat) (x1 : Int32) : Option ((Int32 × cS) ⊕ (Nat × cS)) := fX6_leastWithout_0 L Nf k0 x1 σ
set_option maxHeartbeats 4000000 in
set_option maxRecDepth 100000 in
theorem ctX6_leastWithout_n (l : Launch) (G : Lay) (hi : Inj G) (Nf : Nat) (h : Int64) (σ : cS) (k0 : Nat) (hk0 : isEH G k0) (x1 : Int32) : ∀ r, fX6_leastWithout (ll G) Nf σ k0 x1 = some (.inl r) → CM l yX6_leastWithout cX6_leastWithout 3 (some .int) 7 112 G [.ref (la G k0), .int x1] h σ (some (.int r.1), h, r.2) := by
  refine cm_ofX (g := (fun r : (Int32 × cS) => ((some (.int r.1), h, r.2) : Option Value × Int64 × cS))) (gx := (fun r : Nat × cS => ((exN r.1, h, r.2) : String × Int64 × cS))) (by decide) hi (Nat.le_of_ble_eq_true rfl) (fun K hKl X => ?_)
  unfold fX6_leastWithout
  exact z_sub [0, 1] rfl (sX6_leastWithout_0 X Nf k0 hk0 h x1 σ)
set_option maxHeartbeats 4000000 in
set_option maxRecDepth 100000 in
theorem ctX6_leastWithout_x (l : Launch) (G : Lay) (hi : Inj G) (Nf : Nat) (h : Int64) (σ : cS) (k0 : Nat) (hk0 : isEH G k0) (x1 : Int32) (hfl : l.stackTraces = false) : ∀ r, fX6_leastWithout (ll G) Nf σ k0 x1 = some (.inr r) → CX l yX6_leastWithout cX6_leastWithout 3 (some .int) 7 112 G [.ref (la G k0), .int x1] h σ (exN r.1, h, r.2) := by
  refine cx_of (g := (fun r : (Int32 × cS) => ((some (.int r.1), h, r.2) : Option Value × Int64 × cS))) (gx := (fun r : Nat × cS => ((exN r.1, h, r.2) : String × Int64 × cS))) (by decide) hi hfl (Nat.le_of_ble_eq_true rfl) (fun K hKl X => ?_)
  unfold fX6_leastWithout
  exact z_sub [0, 1] rfl (sX6_leastWithout_0 X Nf k0 hk0 h x1 σ)
def fX6_critical_46 (L : Nat → Nat) (Nf : Nat) (k0 : Nat) (y0 : Int32) (σ : cS) : Option (Int32 × cS) := some (y0, σ)
set_option maxHeartbeats 4000000 in
set_option maxRecDepth 100000 in
theorem sX6_critical_46 {K : MCx} {G : Lay} (X : Cx K G RX6 cX6_critical 2 (some .int) 4 92) (Nf : Nat) (k0 : Nat) (hk0 : isEH G k0) (h : Int64) (y0 : Int32) (σ : cS) : Sm K G TT (QM K G (fun r : (Int32 × cS) => ((some (.int r.1), h, r.2) : Option Value × Int64 × cS))) 2 46 [] [.int y0] h σ (fX6_critical_46 (ll G) Nf k0 y0 σ) := by
  unfold fX6_critical_46
  exact z_iret X rfl dX6_critical_46
def fX6_critical_0 (L : Nat → Nat) (Nf : Nat) (k0 : Nat) (σ : cS) : Option (Int32 × cS) := Option.bind (fX3_learn L Nf σ 97 0) (fun r1 => Option.bind (fX3_commonOfForcing L Nf r1 97) (fun r2 => Option.bind (fX0_firstSlotWithin L Nf r1 0 r2) (fun r3 => if r3 = (-1 : Int32) then (fX6_critical_46 L Nf k0 (-1 : Int32) r1) else (Option.bind (fX4_get L r1 1 r3) (fun r4 => fX6_critical_46 L Nf k0 r4 r1)))))
set_option maxHeartbeats 4000000 in
set_option maxRecDepth 100000 in
theorem sX6_critical_0 {K : MCx} {G : Lay} (X : Cx K G RX6 cX6_critical 2 (some .int) 4 92) (Nf : Nat) (k0 : Nat) (hk0 : isEH G k0) (h : Int64) (σ : cS) : Sm K G TT (QM K G (fun r : (Int32 × cS) => ((some (.int r.1), h, r.2) : Option Value × Int64 × cS))) 2 0 [(0, .ref (la G k0))] [] h σ (fX6_critical_0 (ll G) Nf k0 σ) := by
  unfold fX6_critical_0
  refine z_aload_n X dX6_critical_0 0 rfl ?_
  refine z_get X inlX6 rfl hk0.1 (ce6 hk0.1 _ _) 3 (by decide) q_1_22 rfl dX6_critical_1 ?_
  refine z_aload_n X dX6_critical_4 0 rfl ?_
  refine z_get X inlX6 rfl hk0.1 (ce6 hk0.1 _ _) 0 (by decide) q_1_13 rfl dX6_critical_5 ?_
  refine z_callV0 X (g := (fun r1 : cS => ((none, h, r1) : Option Value × Int64 × cS))) (st := []) (st1 := (fun r1 : cS => [])) (rmf := 3) (rml := 70) [.ref (la G 0)] 97 cal_X3_learn q_7_15 ⟨Nat.le_of_ble_eq_true rfl, Nat.le_of_ble_eq_true rfl⟩ rfl rfl (Nat.le_of_ble_eq_true rfl) rfl hk0.2.2.2.2.1.1 (ce3 hk0.2.2.2.2.1.1 _ _) (ctX3_learn (kl K) G X.2.2.2.2.2.2.2.1 Nf h σ 97 hk0.2.2.2.2.1 0 hk0.2.1 ) dX6_critical_8 (fun _ => rfl) (fun r1 => ?_)
  refine z_aload_n X dX6_critical_11 0 rfl ?_
  refine z_get X inlX6 rfl hk0.1 (ce6 hk0.1 _ _) 0 (by decide) q_1_13 rfl dX6_critical_12 ?_
  refine z_aload_n X dX6_critical_15 0 rfl ?_
  refine z_get X inlX6 rfl hk0.1 (ce6 hk0.1 _ _) 3 (by decide) q_1_22 rfl dX6_critical_16 ?_
  refine z_callV0 X (g := (fun r2 : Int32 => ((some (.int r2), h, r1) : Option Value × Int64 × cS))) (st := [.ref (la G 0)]) (st1 := (fun r2 : Int32 => [.int r2, .ref (la G 0)])) (rmf := 1) (rml := 20) [] 97 cal_X3_commonOfForcing q_10_6 ⟨Nat.le_of_ble_eq_true rfl, Nat.le_of_ble_eq_true rfl⟩ rfl rfl (Nat.le_of_ble_eq_true rfl) rfl hk0.2.2.2.2.1.1 (ce3 hk0.2.2.2.2.1.1 _ _) (ctX3_commonOfForcing (kl K) G X.2.2.2.2.2.2.2.1 Nf h r1 97 hk0.2.2.2.2.1 ) dX6_critical_19 (fun _ => rfl) (fun r2 => ?_)
  refine z_callV0 X (g := (fun r3 : Int32 => ((some (.int r3), h, r1) : Option Value × Int64 × cS))) (st := []) (st1 := (fun r3 : Int32 => [.int r3])) (rmf := 2) (rml := 42) [.int r2] 0 cal_X0_firstSlotWithin q_10_10 ⟨Nat.le_of_ble_eq_true rfl, Nat.le_of_ble_eq_true rfl⟩ rfl rfl (Nat.le_of_ble_eq_true rfl) rfl hk0.2.1.1 (ce0 hk0.2.1.1 _ _) (ctX0_firstSlotWithin (kl K) G X.2.2.2.2.2.2.2.1 Nf h r1 0 hk0.2.1 r2) dX6_critical_22 (fun _ => rfl) (fun r3 => ?_)
  refine z_istore_n X [(1, .int r3), (0, .ref (la G k0))] dX6_critical_25 (by decide) rfl ?_
  refine z_iload_n X dX6_critical_26 0 rfl ?_
  refine z_iconst (v := (-1 : Int32)) X dX6_critical_27 (by decide) ?_
  refine z_icmp_ne X 35 dX6_critical_28 (by decide) ?_ ?_
  · refine z_iconst (v := (-1 : Int32)) X dX6_critical_31 (by decide) ?_
    refine z_goto X 46 dX6_critical_32 (by decide) ?_
    exact z_sub [] rfl (sX6_critical_46 X Nf k0 hk0 h (-1 : Int32) r1)
  · refine z_aload_n X dX6_critical_35 1 rfl ?_
    refine z_get X inlX6 rfl hk0.1 (ce6 hk0.1 _ _) 0 (by decide) q_1_13 rfl dX6_critical_36 ?_
    refine z_getN X inlX0 rfl hk0.2.1.1 (ce0 hk0.2.1.1 _ _) 0 (by decide) n_0 rfl dX6_critical_39 ?_
    refine z_iload_n X dX6_critical_42 0 rfl ?_
    refine z_callV0 X (g := (fun r4 : Int32 => ((some (.int r4), h, r1) : Option Value × Int64 × cS))) (st := []) (st1 := (fun r4 : Int32 => [.int r4])) (rmf := 0) (rml := 0) [.int r3] 1 cal_X4_get q_10_14 ⟨Nat.le_of_ble_eq_true rfl, Nat.le_of_ble_eq_true rfl⟩ rfl rfl (Nat.le_of_ble_eq_true rfl) rfl hk0.2.1.2.1.1 (ce4 hk0.2.1.2.1.1 _ _) (ctX4_get (kl K) G X.2.2.2.2.2.2.2.1 h r1 1 hk0.2.1.2.1 r3) dX6_critical_43 (fun _ => rfl) (fun r4 => ?_)
    exact z_sub [] rfl (sX6_critical_46 X Nf k0 hk0 h r4 r1)
def fX6_critical (L : Nat → Nat) (Nf : Nat) (σ : cS) (k0 : Nat) : Option (Int32 × cS) := fX6_critical_0 L Nf k0 σ
set_option maxHeartbeats 4000000 in
set_option maxRecDepth 100000 in
theorem ctX6_critical (l : Launch) (G : Lay) (hi : Inj G) (Nf : Nat) (h : Int64) (σ : cS) (k0 : Nat) (hk0 : isEH G k0) : ∀ r, fX6_critical (ll G) Nf σ k0 = some r → CM l yX6_critical cX6_critical 2 (some .int) 4 92 G [.ref (la G k0)] h σ (some (.int r.1), h, r.2) := by
  refine cm_of (g := (fun r : (Int32 × cS) => ((some (.int r.1), h, r.2) : Option Value × Int64 × cS))) (by decide) hi (Nat.le_of_ble_eq_true rfl) (fun K hKl X => ?_)
  unfold fX6_critical
  exact z_sub [0] rfl (sX6_critical_0 X Nf k0 hk0 h σ)
def fX6_turnsToBalance_0 (L : Nat → Nat) (Nf : Nat) (k0 : Nat) (σ : cS) : Option (Int32 × cS) := Option.bind (fX0_copyFrom L Nf σ 15 0) (fun r1 => Option.bind (fX5_evenOut L Nf r1 90 15) (fun r2 => some (((r2.2 15 10) - (r2.2 0 10)), r2.2)))
set_option maxHeartbeats 4000000 in
set_option maxRecDepth 100000 in
theorem sX6_turnsToBalance_0 {K : MCx} {G : Lay} (X : Cx K G RX6 cX6_turnsToBalance 1 (some .int) 5 117) (Nf : Nat) (k0 : Nat) (hk0 : isEH G k0) (h : Int64) (σ : cS) : Sm K G TT (QM K G (fun r : (Int32 × cS) => ((some (.int r.1), h, r.2) : Option Value × Int64 × cS))) 1 0 [(0, .ref (la G k0))] [] h σ (fX6_turnsToBalance_0 (ll G) Nf k0 σ) := by
  unfold fX6_turnsToBalance_0
  refine z_aload_n X dX6_turnsToBalance_0 0 rfl ?_
  refine z_get X inlX6 rfl hk0.1 (ce6 hk0.1 _ _) 1 (by decide) q_1_14 rfl dX6_turnsToBalance_1 ?_
  refine z_aload_n X dX6_turnsToBalance_4 0 rfl ?_
  refine z_get X inlX6 rfl hk0.1 (ce6 hk0.1 _ _) 0 (by decide) q_1_13 rfl dX6_turnsToBalance_5 ?_
  refine z_callV0 X (g := (fun r1 : cS => ((none, h, r1) : Option Value × Int64 × cS))) (st := []) (st1 := (fun r1 : cS => [])) (rmf := 1) (rml := 22) [.ref (la G 0)] 15 cal_X0_copyFrom q_25_5 ⟨Nat.le_of_ble_eq_true rfl, Nat.le_of_ble_eq_true rfl⟩ rfl rfl (Nat.le_of_ble_eq_true rfl) rfl hk0.2.2.1.1 (ce0 hk0.2.2.1.1 _ _) (ctX0_copyFrom (kl K) G X.2.2.2.2.2.2.2.1 Nf h σ 15 hk0.2.2.1 0 hk0.2.1 ) dX6_turnsToBalance_8 (fun _ => rfl) (fun r1 => ?_)
  refine z_aload_n X dX6_turnsToBalance_11 0 rfl ?_
  refine z_get X inlX6 rfl hk0.1 (ce6 hk0.1 _ _) 2 (by decide) q_1_18 rfl dX6_turnsToBalance_12 ?_
  refine z_aload_n X dX6_turnsToBalance_15 0 rfl ?_
  refine z_get X inlX6 rfl hk0.1 (ce6 hk0.1 _ _) 1 (by decide) q_1_14 rfl dX6_turnsToBalance_16 ?_
  refine z_callV0 X (g := (fun r2 : (Int32 × cS) => ((some (.int r2.1), h, r2.2) : Option Value × Int64 × cS))) (st := []) (st1 := (fun r2 : (Int32 × cS) => [.int r2.1])) (rmf := 4) (rml := 93) [.ref (la G 15)] 90 cal_X5_evenOut q_16_7 ⟨Nat.le_of_ble_eq_true rfl, Nat.le_of_ble_eq_true rfl⟩ rfl rfl (Nat.le_of_ble_eq_true rfl) rfl hk0.2.2.2.1.1 (ce5 hk0.2.2.2.1.1 _ _) (ctX5_evenOut (kl K) G X.2.2.2.2.2.2.2.1 Nf h r1 90 hk0.2.2.2.1 15 hk0.2.2.1 ) dX6_turnsToBalance_19 (fun _ => rfl) (fun r2 => ?_)
  refine z_pop X dX6_turnsToBalance_22 rfl ?_
  refine z_aload_n X dX6_turnsToBalance_23 0 rfl ?_
  refine z_get X inlX6 rfl hk0.1 (ce6 hk0.1 _ _) 1 (by decide) q_1_14 rfl dX6_turnsToBalance_24 ?_
  refine z_getN X inlX0 rfl hk0.2.2.1.1 (ce0 hk0.2.2.1.1 _ _) 10 (by decide) n_15 rfl dX6_turnsToBalance_27 ?_
  refine z_aload_n X dX6_turnsToBalance_30 0 rfl ?_
  refine z_get X inlX6 rfl hk0.1 (ce6 hk0.1 _ _) 0 (by decide) q_1_13 rfl dX6_turnsToBalance_31 ?_
  refine z_getN X inlX0 rfl hk0.2.1.1 (ce0 hk0.2.1.1 _ _) 10 (by decide) n_15 rfl dX6_turnsToBalance_34 ?_
  refine z_isub X dX6_turnsToBalance_37 ?_
  exact z_iret X rfl dX6_turnsToBalance_38
def fX6_turnsToBalance (L : Nat → Nat) (Nf : Nat) (σ : cS) (k0 : Nat) : Option (Int32 × cS) := fX6_turnsToBalance_0 L Nf k0 σ
set_option maxHeartbeats 4000000 in
set_option maxRecDepth 100000 in
theorem ctX6_turnsToBalance (l : Launch) (G : Lay) (hi : Inj G) (Nf : Nat) (h : Int64) (σ : cS) (k0 : Nat) (hk0 : isEH G k0) : ∀ r, fX6_turnsToBalance (ll G) Nf σ k0 = some r → CM l yX6_turnsToBalance cX6_turnsToBalance 1 (some .int) 5 117 G [.ref (la G k0)] h σ (some (.int r.1), h, r.2) := by
  refine cm_of (g := (fun r : (Int32 × cS) => ((some (.int r.1), h, r.2) : Option Value × Int64 × cS))) (by decide) hi (Nat.le_of_ble_eq_true rfl) (fun K hKl X => ?_)
  unfold fX6_turnsToBalance
  exact z_sub [0] rfl (sX6_turnsToBalance_0 X Nf k0 hk0 h σ)
def fX6_leastCapacity_0 (L : Nat → Nat) (Nf : Nat) (k0 : Nat) (σ : cS) : Option (Int32 × cS) := Option.bind (fX3_learn L Nf σ 97 0) (fun r1 => some ((r1 97 5), r1))
set_option maxHeartbeats 4000000 in
set_option maxRecDepth 100000 in
theorem sX6_leastCapacity_0 {K : MCx} {G : Lay} (X : Cx K G RX6 cX6_leastCapacity 1 (some .int) 4 92) (Nf : Nat) (k0 : Nat) (hk0 : isEH G k0) (h : Int64) (σ : cS) : Sm K G TT (QM K G (fun r : (Int32 × cS) => ((some (.int r.1), h, r.2) : Option Value × Int64 × cS))) 1 0 [(0, .ref (la G k0))] [] h σ (fX6_leastCapacity_0 (ll G) Nf k0 σ) := by
  unfold fX6_leastCapacity_0
  refine z_aload_n X dX6_leastCapacity_0 0 rfl ?_
  refine z_get X inlX6 rfl hk0.1 (ce6 hk0.1 _ _) 3 (by decide) q_1_22 rfl dX6_leastCapacity_1 ?_
  refine z_aload_n X dX6_leastCapacity_4 0 rfl ?_
  refine z_get X inlX6 rfl hk0.1 (ce6 hk0.1 _ _) 0 (by decide) q_1_13 rfl dX6_leastCapacity_5 ?_
  refine z_callV0 X (g := (fun r1 : cS => ((none, h, r1) : Option Value × Int64 × cS))) (st := []) (st1 := (fun r1 : cS => [])) (rmf := 3) (rml := 70) [.ref (la G 0)] 97 cal_X3_learn q_7_15 ⟨Nat.le_of_ble_eq_true rfl, Nat.le_of_ble_eq_true rfl⟩ rfl rfl (Nat.le_of_ble_eq_true rfl) rfl hk0.2.2.2.2.1.1 (ce3 hk0.2.2.2.2.1.1 _ _) (ctX3_learn (kl K) G X.2.2.2.2.2.2.2.1 Nf h σ 97 hk0.2.2.2.2.1 0 hk0.2.1 ) dX6_leastCapacity_8 (fun _ => rfl) (fun r1 => ?_)
  refine z_aload_n X dX6_leastCapacity_11 0 rfl ?_
  refine z_get X inlX6 rfl hk0.1 (ce6 hk0.1 _ _) 3 (by decide) q_1_22 rfl dX6_leastCapacity_12 ?_
  refine z_getN X inlX3 rfl hk0.2.2.2.2.1.1 (ce3 hk0.2.2.2.2.1.1 _ _) 5 (by decide) n_18 rfl dX6_leastCapacity_15 ?_
  exact z_iret X rfl dX6_leastCapacity_18
def fX6_leastCapacity (L : Nat → Nat) (Nf : Nat) (σ : cS) (k0 : Nat) : Option (Int32 × cS) := fX6_leastCapacity_0 L Nf k0 σ
set_option maxHeartbeats 4000000 in
set_option maxRecDepth 100000 in
theorem ctX6_leastCapacity (l : Launch) (G : Lay) (hi : Inj G) (Nf : Nat) (h : Int64) (σ : cS) (k0 : Nat) (hk0 : isEH G k0) : ∀ r, fX6_leastCapacity (ll G) Nf σ k0 = some r → CM l yX6_leastCapacity cX6_leastCapacity 1 (some .int) 4 92 G [.ref (la G k0)] h σ (some (.int r.1), h, r.2) := by
  refine cm_of (g := (fun r : (Int32 × cS) => ((some (.int r.1), h, r.2) : Option Value × Int64 × cS))) (by decide) hi (Nat.le_of_ble_eq_true rfl) (fun K hKl X => ?_)
  unfold fX6_leastCapacity
  exact z_sub [0] rfl (sX6_leastCapacity_0 X Nf k0 hk0 h σ)
def fX6_density_0 (L : Nat → Nat) (Nf : Nat) (k0 : Nat) (σ : cS) : Option (UInt64 × cS) := Option.bind (fX3_learn L Nf σ 97 0) (fun r1 => Option.bind (fJ6_bitCount_0f7a4 r1 (r1 97 4)) (fun r2 => if (1 : Int32) ≤ r2 then (Option.bind (fX0_edgesWithin L Nf r1 0 (r1 97 4)) (fun r3 => grd (n64b (FP.ddiv (FP.i2d r3) (FP.i2d r2))) (some ((FP.ddiv (FP.i2d r3) (FP.i2d r2)), r1)))) else (some (FP.dconst0, r1))))
set_option maxHeartbeats 4000000 in
set_option maxRecDepth 100000 in
theorem sX6_density_0 {K : MCx} {G : Lay} (X : Cx K G RX6 cX6_density 2 (some .double) 4 92) (Nf : Nat) (k0 : Nat) (hk0 : isEH G k0) (h : Int64) (σ : cS) : Sm K G TT (QM K G (fun r : (UInt64 × cS) => ((some (.double r.1), h, r.2) : Option Value × Int64 × cS))) 2 0 [(0, .ref (la G k0))] [] h σ (fX6_density_0 (ll G) Nf k0 σ) := by
  unfold fX6_density_0
  refine z_aload_n X dX6_density_0 0 rfl ?_
  refine z_get X inlX6 rfl hk0.1 (ce6 hk0.1 _ _) 3 (by decide) q_1_22 rfl dX6_density_1 ?_
  refine z_aload_n X dX6_density_4 0 rfl ?_
  refine z_get X inlX6 rfl hk0.1 (ce6 hk0.1 _ _) 0 (by decide) q_1_13 rfl dX6_density_5 ?_
  refine z_callV0 X (g := (fun r1 : cS => ((none, h, r1) : Option Value × Int64 × cS))) (st := []) (st1 := (fun r1 : cS => [])) (rmf := 3) (rml := 70) [.ref (la G 0)] 97 cal_X3_learn q_7_15 ⟨Nat.le_of_ble_eq_true rfl, Nat.le_of_ble_eq_true rfl⟩ rfl rfl (Nat.le_of_ble_eq_true rfl) rfl hk0.2.2.2.2.1.1 (ce3 hk0.2.2.2.2.1.1 _ _) (ctX3_learn (kl K) G X.2.2.2.2.2.2.2.1 Nf h σ 97 hk0.2.2.2.2.1 0 hk0.2.1 ) dX6_density_8 (fun _ => rfl) (fun r1 => ?_)
  refine z_aload_n X dX6_density_11 0 rfl ?_
  refine z_get X inlX6 rfl hk0.1 (ce6 hk0.1 _ _) 3 (by decide) q_1_22 rfl dX6_density_12 ?_
  refine z_getN X inlX3 rfl hk0.2.2.2.2.1.1 (ce3 hk0.2.2.2.2.1.1 _ _) 4 (by decide) n_17 rfl dX6_density_15 ?_
  refine z_callS0 X (g := (fun r2 : Int32 => ((some (.int r2), h, r1) : Option Value × Int64 × cS))) (st := []) (st1 := (fun r2 : Int32 => [.int r2])) (rmf := 0) (rml := 0) [.int (r1 97 4)] cal_J6_bitCount_0f7a4 q_9_17 ⟨Nat.le_of_ble_eq_true rfl, Nat.le_of_ble_eq_true rfl⟩ rfl rfl (Nat.le_of_ble_eq_true rfl) (ctJ6_bitCount_0f7a4 (kl K) G X.2.2.2.2.2.2.2.1 h r1 (r1 97 4)) dX6_density_18 (fun _ => rfl) (fun r2 => ?_)
  refine z_istore_n X [(1, .int r2), (0, .ref (la G k0))] dX6_density_21 (by decide) rfl ?_
  refine z_iload_n X dX6_density_22 0 rfl ?_
  refine z_iconst (v := (1 : Int32)) X dX6_density_23 (by decide) ?_
  refine z_icmp_ge X 29 dX6_density_24 (by decide) ?_ ?_
  · refine z_aload_n X dX6_density_29 1 rfl ?_
    refine z_get X inlX6 rfl hk0.1 (ce6 hk0.1 _ _) 0 (by decide) q_1_13 rfl dX6_density_30 ?_
    refine z_aload_n X dX6_density_33 1 rfl ?_
    refine z_get X inlX6 rfl hk0.1 (ce6 hk0.1 _ _) 3 (by decide) q_1_22 rfl dX6_density_34 ?_
    refine z_getN X inlX3 rfl hk0.2.2.2.2.1.1 (ce3 hk0.2.2.2.2.1.1 _ _) 4 (by decide) n_17 rfl dX6_density_37 ?_
    refine z_callV0 X (g := (fun r3 : Int32 => ((some (.int r3), h, r1) : Option Value × Int64 × cS))) (st := []) (st1 := (fun r3 : Int32 => [.int r3])) (rmf := 2) (rml := 42) [.int (r1 97 4)] 0 cal_X0_edgesWithin q_9_18 ⟨Nat.le_of_ble_eq_true rfl, Nat.le_of_ble_eq_true rfl⟩ rfl rfl (Nat.le_of_ble_eq_true rfl) rfl hk0.2.1.1 (ce0 hk0.2.1.1 _ _) (ctX0_edgesWithin (kl K) G X.2.2.2.2.2.2.2.1 Nf h r1 0 hk0.2.1 (r1 97 4)) dX6_density_40 (fun _ => rfl) (fun r3 => ?_)
    refine z_i2d X dX6_density_43 ?_
    refine z_iload_n X dX6_density_44 0 rfl ?_
    refine z_i2d X dX6_density_45 ?_
    refine z_ddiv X dX6_density_46 ?_
    exact z_dret X rfl dX6_density_47
  · refine z_dconst0 X dX6_density_27 ?_
    exact z_dret X rfl dX6_density_28
def fX6_density (L : Nat → Nat) (Nf : Nat) (σ : cS) (k0 : Nat) : Option (UInt64 × cS) := fX6_density_0 L Nf k0 σ
set_option maxHeartbeats 4000000 in
set_option maxRecDepth 100000 in
theorem ctX6_density (l : Launch) (G : Lay) (hi : Inj G) (Nf : Nat) (h : Int64) (σ : cS) (k0 : Nat) (hk0 : isEH G k0) : ∀ r, fX6_density (ll G) Nf σ k0 = some r → CM l yX6_density cX6_density 2 (some .double) 4 92 G [.ref (la G k0)] h σ (some (.double r.1), h, r.2) := by
  refine cm_of (g := (fun r : (UInt64 × cS) => ((some (.double r.1), h, r.2) : Option Value × Int64 × cS))) (by decide) hi (Nat.le_of_ble_eq_true rfl) (fun K hKl X => ?_)
  unfold fX6_density
  exact z_sub [0] rfl (sX6_density_0 X Nf k0 hk0 h σ)
def fX6_append_10 (L : Nat → Nat) (k0 : Nat) (σ : cS) : Option ((Int32 × cS) ⊕ (Nat × cS)) := some (.inr (1, σ))
set_option maxHeartbeats 4000000 in
set_option maxRecDepth 100000 in
theorem sX6_append_10 {K : MCx} {G : Lay} (X : Cx K G RX6 cX6_append 2 (some .int) 6 90) (k0 : Nat) (hk0 : isEH G k0) (h : Int64) (σ : cS) : Sm K G (PX K G) (QX K G (fun r : (Int32 × cS) => ((some (.int r.1), h, r.2) : Option Value × Int64 × cS)) (fun r : Nat × cS => ((exN r.1, h, r.2) : String × Int64 × cS))) 2 10 [] [] h σ (fX6_append_10 (ll G) k0 σ) := by
  unfold fX6_append_10
  exact z_throw X (List.mem_of_getElem? (i := 8) rfl) th_1 q_6_6 q_6_7 dX6_append_10 dX6_append_13 dX6_append_14 dX6_append_16 dX6_append_19 rfl (by decide) (Nat.le_of_ble_eq_true rfl)
def fX6_append_0 (L : Nat → Nat) (k0 : Nat) (x1 : Int32) (σ : cS) : Option ((Int32 × cS) ⊕ (Nat × cS)) := if x1 < 0 then (fX6_append_10 L k0 σ) else (if x1 ≤ (127 : Int32) then (if (σ 102 1) < (100 : Int32) then (Option.bind (fX2_put L σ 102 x1) (fun r1 => some (.inl (r1.1, r1.2)))) else (some (.inr (2, σ)))) else (fX6_append_10 L k0 σ))
set_option maxHeartbeats 4000000 in
set_option maxRecDepth 100000 in
theorem sX6_append_0 {K : MCx} {G : Lay} (X : Cx K G RX6 cX6_append 2 (some .int) 6 90) (k0 : Nat) (hk0 : isEH G k0) (h : Int64) (x1 : Int32) (σ : cS) : Sm K G (PX K G) (QX K G (fun r : (Int32 × cS) => ((some (.int r.1), h, r.2) : Option Value × Int64 × cS)) (fun r : Nat × cS => ((exN r.1, h, r.2) : String × Int64 × cS))) 2 0 [(0, .ref (la G k0)), (1, .int x1)] [] h σ (fX6_append_0 (ll G) k0 x1 σ) := by
  unfold fX6_append_0
  refine z_iload_n X dX6_append_0 1 rfl ?_
  refine z_if_lt X 10 dX6_append_1 (by decide) ?_ ?_
  · exact z_sub [] rfl (sX6_append_10 X k0 hk0 h σ)
  · refine z_iload_n X dX6_append_4 1 rfl ?_
    refine z_bipush (v := (127 : Int32)) X dX6_append_5 (by decide) ?_
    refine z_icmp_le X 20 dX6_append_7 (by decide) ?_ ?_
    · refine z_aload_n X dX6_append_20 0 rfl ?_
      refine z_get X inlX6 rfl hk0.1 (ce6 hk0.1 _ _) 4 (by decide) q_2_2 rfl dX6_append_21 ?_
      refine z_getN X inlX2 rfl hk0.2.2.2.2.2.1.1 (ce2 hk0.2.2.2.2.2.1.1 _ _) 1 (by decide) n_19 rfl dX6_append_24 ?_
      refine z_bipush (v := (100 : Int32)) X dX6_append_27 (by decide) ?_
      refine z_icmp_lt X 42 dX6_append_29 (by decide) ?_ ?_
      · refine z_aload_n X dX6_append_42 0 rfl ?_
        refine z_get X inlX6 rfl hk0.1 (ce6 hk0.1 _ _) 4 (by decide) q_2_2 rfl dX6_append_43 ?_
        refine z_iload_n X dX6_append_46 1 rfl ?_
        refine z_callV0 X (g := (fun r1 : (Int32 × cS) => ((some (.int r1.1), h, r1.2) : Option Value × Int64 × cS))) (st := []) (st1 := (fun r1 : (Int32 × cS) => [.int r1.1])) (rmf := 1) (rml := 22) [.int x1] 102 cal_X2_put q_23_7 ⟨Nat.le_of_ble_eq_true rfl, Nat.le_of_ble_eq_true rfl⟩ rfl rfl (Nat.le_of_ble_eq_true rfl) rfl hk0.2.2.2.2.2.1.1 (ce2 hk0.2.2.2.2.2.1.1 _ _) (ctX2_put (kl K) G X.2.2.2.2.2.2.2.1 h σ 102 hk0.2.2.2.2.2.1 x1) dX6_append_47 (fun _ => rfl) (fun r1 => ?_)
        exact z_xiret X rfl dX6_append_50
      · exact z_throw X (List.mem_of_getElem? (i := 9) rfl) th_2 q_5_5 q_5_6 dX6_append_32 dX6_append_35 dX6_append_36 dX6_append_38 dX6_append_41 rfl (by decide) (Nat.le_of_ble_eq_true rfl)
    · exact z_sub [] rfl (sX6_append_10 X k0 hk0 h σ)
def fX6_append (L : Nat → Nat) (σ : cS) (k0 : Nat) (x1 : Int32) : Option ((Int32 × cS) ⊕ (Nat × cS)) := fX6_append_0 L k0 x1 σ
set_option maxHeartbeats 4000000 in
set_option maxRecDepth 100000 in
theorem ctX6_append_n (l : Launch) (G : Lay) (hi : Inj G) (h : Int64) (σ : cS) (k0 : Nat) (hk0 : isEH G k0) (x1 : Int32) : ∀ r, fX6_append (ll G) σ k0 x1 = some (.inl r) → CM l yX6_append cX6_append 2 (some .int) 6 90 G [.ref (la G k0), .int x1] h σ (some (.int r.1), h, r.2) := by
  refine cm_ofX (g := (fun r : (Int32 × cS) => ((some (.int r.1), h, r.2) : Option Value × Int64 × cS))) (gx := (fun r : Nat × cS => ((exN r.1, h, r.2) : String × Int64 × cS))) (by decide) hi (Nat.le_of_ble_eq_true rfl) (fun K hKl X => ?_)
  unfold fX6_append
  exact z_sub [0, 1] rfl (sX6_append_0 X k0 hk0 h x1 σ)
set_option maxHeartbeats 4000000 in
set_option maxRecDepth 100000 in
theorem ctX6_append_x (l : Launch) (G : Lay) (hi : Inj G) (h : Int64) (σ : cS) (k0 : Nat) (hk0 : isEH G k0) (x1 : Int32) (hfl : l.stackTraces = false) : ∀ r, fX6_append (ll G) σ k0 x1 = some (.inr r) → CX l yX6_append cX6_append 2 (some .int) 6 90 G [.ref (la G k0), .int x1] h σ (exN r.1, h, r.2) := by
  refine cx_of (g := (fun r : (Int32 × cS) => ((some (.int r.1), h, r.2) : Option Value × Int64 × cS))) (gx := (fun r : Nat × cS => ((exN r.1, h, r.2) : String × Int64 × cS))) (by decide) hi hfl (Nat.le_of_ble_eq_true rfl) (fun K hKl X => ?_)
  unfold fX6_append
  exact z_sub [0, 1] rfl (sX6_append_0 X k0 hk0 h x1 σ)
def fX6_obeyCapacity_0 (L : Nat → Nat) (k0 : Nat) (x1 : Int32) (x2 : Int32) (σ : cS) : Option (Int32 × cS) := Option.bind (fX0_hasNode σ 0 x1) (fun r1 => if r1 = 0 then (grd (isb (0 : Int32)) (some ((0 : Int32), σ))) else (Option.bind (fX4_set L σ 13 x1 x2) (fun r2 => grd (isb (1 : Int32)) (some ((1 : Int32), r2)))))
set_option maxHeartbeats 4000000 in
set_option maxRecDepth 100000 in
theorem sX6_obeyCapacity_0 {K : MCx} {G : Lay} (X : Cx K G RX6 cX6_obeyCapacity 3 (some .boolean) 1 22) (k0 : Nat) (hk0 : isEH G k0) (h : Int64) (x1 : Int32) (x2 : Int32) (σ : cS) : Sm K G TT (QM K G (fun r : (Int32 × cS) => ((some (.int r.1), h, r.2) : Option Value × Int64 × cS))) 3 0 [(0, .ref (la G k0)), (1, .int x1), (2, .int x2)] [] h σ (fX6_obeyCapacity_0 (ll G) k0 x1 x2 σ) := by
  unfold fX6_obeyCapacity_0
  refine z_aload_n X dX6_obeyCapacity_0 0 rfl ?_
  refine z_get X inlX6 rfl hk0.1 (ce6 hk0.1 _ _) 0 (by decide) q_1_13 rfl dX6_obeyCapacity_1 ?_
  refine z_iload_n X dX6_obeyCapacity_4 1 rfl ?_
  refine z_callV0 X (g := (fun r1 : Int32 => ((some (.int r1), h, σ) : Option Value × Int64 × cS))) (st := []) (st1 := (fun r1 : Int32 => [.int r1])) (rmf := 0) (rml := 0) [.int x1] 0 cal_X0_hasNode q_13_5 ⟨Nat.le_of_ble_eq_true rfl, Nat.le_of_ble_eq_true rfl⟩ rfl rfl (Nat.le_of_ble_eq_true rfl) rfl hk0.2.1.1 (ce0 hk0.2.1.1 _ _) (ctX0_hasNode (kl K) G X.2.2.2.2.2.2.2.1 h σ 0 hk0.2.1 x1) dX6_obeyCapacity_5 (fun _ => rfl) (fun r1 => ?_)
  refine z_if_ne X 13 dX6_obeyCapacity_8 (by decide) ?_ ?_
  · refine z_iconst (v := (0 : Int32)) X dX6_obeyCapacity_11 (by decide) ?_
    exact z_zret X rfl dX6_obeyCapacity_12
  · refine z_aload_n X dX6_obeyCapacity_13 0 rfl ?_
    refine z_get X inlX6 rfl hk0.1 (ce6 hk0.1 _ _) 0 (by decide) q_1_13 rfl dX6_obeyCapacity_14 ?_
    refine z_getN X inlX0 rfl hk0.2.1.1 (ce0 hk0.2.1.1 _ _) 6 (by decide) n_8 rfl dX6_obeyCapacity_17 ?_
    refine z_iload_n X dX6_obeyCapacity_20 1 rfl ?_
    refine z_iload_n X dX6_obeyCapacity_21 2 rfl ?_
    refine z_callV0 X (g := (fun r2 : cS => ((none, h, r2) : Option Value × Int64 × cS))) (st := []) (st1 := (fun r2 : cS => [])) (rmf := 0) (rml := 0) [.int x1, .int x2] 13 cal_X4_set q_16_18 ⟨Nat.le_of_ble_eq_true rfl, Nat.le_of_ble_eq_true rfl⟩ rfl rfl (Nat.le_of_ble_eq_true rfl) rfl hk0.2.1.2.2.2.2.2.2.2.1 (ce4 hk0.2.1.2.2.2.2.2.2.2.1 _ _) (ctX4_set (kl K) G X.2.2.2.2.2.2.2.1 h σ 13 hk0.2.1.2.2.2.2.2.2.2 x1 x2) dX6_obeyCapacity_22 (fun _ => rfl) (fun r2 => ?_)
    refine z_iconst (v := (1 : Int32)) X dX6_obeyCapacity_25 (by decide) ?_
    exact z_zret X rfl dX6_obeyCapacity_26
def fX6_obeyCapacity (L : Nat → Nat) (σ : cS) (k0 : Nat) (x1 : Int32) (x2 : Int32) : Option (Int32 × cS) := fX6_obeyCapacity_0 L k0 x1 x2 σ
set_option maxHeartbeats 4000000 in
set_option maxRecDepth 100000 in
theorem ctX6_obeyCapacity (l : Launch) (G : Lay) (hi : Inj G) (h : Int64) (σ : cS) (k0 : Nat) (hk0 : isEH G k0) (x1 : Int32) (x2 : Int32) : ∀ r, fX6_obeyCapacity (ll G) σ k0 x1 x2 = some r → CM l yX6_obeyCapacity cX6_obeyCapacity 3 (some .boolean) 1 22 G [.ref (la G k0), .int x1, .int x2] h σ (some (.int r.1), h, r.2) := by
  refine cm_of (g := (fun r : (Int32 × cS) => ((some (.int r.1), h, r.2) : Option Value × Int64 × cS))) (by decide) hi (Nat.le_of_ble_eq_true rfl) (fun K hKl X => ?_)
  unfold fX6_obeyCapacity
  exact z_sub [0, 1, 2] rfl (sX6_obeyCapacity_0 X k0 hk0 h x1 x2 σ)
