theorem q_1_12 : Cond.initialized RX0 ∈ wsL_law := seg_1 _ (List.mem_of_getElem? (i := 12) rfl)
theorem q_2_13 : Cond.initialized RX4 ∈ wsL_law := seg_2 _ (List.mem_of_getElem? (i := 13) rfl)
theorem q_2_14 : Cond.fieldLink RX0 14 "EdgeHolders$Graph" "numbers" "LEdgeHolders$Row;" ∈ wsL_law := seg_2 _ (List.mem_of_getElem? (i := 14) rfl)
theorem q_2_15 : Cond.fieldLink RX0 20 "EdgeHolders$Graph" "firsts" "LEdgeHolders$Row;" ∈ wsL_law := seg_2 _ (List.mem_of_getElem? (i := 15) rfl)
theorem q_2_16 : Cond.fieldLink RX0 23 "EdgeHolders$Graph" "seconds" "LEdgeHolders$Row;" ∈ wsL_law := seg_2 _ (List.mem_of_getElem? (i := 16) rfl)
theorem q_2_17 : Cond.fieldLink RX0 26 "EdgeHolders$Graph" "holders" "LEdgeHolders$Row;" ∈ wsL_law := seg_2 _ (List.mem_of_getElem? (i := 17) rfl)
theorem q_2_18 : Cond.fieldLink RX0 29 "EdgeHolders$Graph" "turnings" "LEdgeHolders$Row;" ∈ wsL_law := seg_2 _ (List.mem_of_getElem? (i := 18) rfl)
theorem q_2_19 : Cond.fieldLink RX0 32 "EdgeHolders$Graph" "loads" "LEdgeHolders$Row;" ∈ wsL_law := seg_2 _ (List.mem_of_getElem? (i := 19) rfl)
theorem q_2_20 : Cond.fieldLink RX0 35 "EdgeHolders$Graph" "capacities" "LEdgeHolders$Row;" ∈ wsL_law := seg_2 _ (List.mem_of_getElem? (i := 20) rfl)
theorem q_3_6 : Cond.fieldLink RX0 41 "EdgeHolders$Graph" "nodes" "I" ∈ wsL_law := seg_3 _ (List.mem_of_getElem? (i := 6) rfl)
theorem q_3_7 : Cond.fieldLink RX0 45 "EdgeHolders$Graph" "edges" "I" ∈ wsL_law := seg_3 _ (List.mem_of_getElem? (i := 7) rfl)
theorem q_3_8 : Cond.fieldLink RX0 48 "EdgeHolders$Graph" "nextNumber" "I" ∈ wsL_law := seg_3 _ (List.mem_of_getElem? (i := 8) rfl)
theorem q_3_9 : Cond.fieldLink RX0 51 "EdgeHolders$Graph" "turned" "I" ∈ wsL_law := seg_3 _ (List.mem_of_getElem? (i := 9) rfl)
theorem q_3_10 : Cond.methodLink RX0 54 yX4_fill ∈ wsL_law := seg_3 _ (List.mem_of_getElem? (i := 10) rfl)
theorem q_3_11 : Cond.instanceMethod yX4_fill ∈ wsL_law := seg_3 _ (List.mem_of_getElem? (i := 11) rfl)
theorem q_3_12 : Cond.selects RX4 yX4_fill yX4_fill ∈ wsL_law := seg_3 _ (List.mem_of_getElem? (i := 12) rfl)
theorem q_3_13 : Cond.code yX4_fill cX4_fill 3 none ∈ wsL_law := seg_3 _ (List.mem_of_getElem? (i := 13) rfl)
theorem q_5_17 : Cond.methodLink RX0 57 yX4_copyFrom ∈ wsL_law := seg_5 _ (List.mem_of_getElem? (i := 17) rfl)
theorem q_5_18 : Cond.instanceMethod yX4_copyFrom ∈ wsL_law := seg_5 _ (List.mem_of_getElem? (i := 18) rfl)
theorem q_5_19 : Cond.selects RX4 yX4_copyFrom yX4_copyFrom ∈ wsL_law := seg_5 _ (List.mem_of_getElem? (i := 19) rfl)
theorem q_5_20 : Cond.code yX4_copyFrom cX4_copyFrom 3 none ∈ wsL_law := seg_5 _ (List.mem_of_getElem? (i := 20) rfl)
theorem q_6_12 : Cond.methodLink RX0 78 Lib.Math.max.name ∈ wsL_law := seg_6 _ (List.mem_of_getElem? (i := 12) rfl)
theorem q_6_13 : Cond.static Lib.Math.max.name ∈ wsL_law := seg_6 _ (List.mem_of_getElem? (i := 13) rfl)
theorem q_6_14 : Cond.initialized "java/lang/Math" ∈ wsL_law := seg_6 _ (List.mem_of_getElem? (i := 14) rfl)
theorem q_6_15 : Cond.code Lib.Math.max.name Lib.Math.max.code 2 (some .int) ∈ wsL_law := seg_6 _ (List.mem_of_getElem? (i := 15) rfl)
theorem q_6_16 : Cond.methodLink RX0 61 yX4_get ∈ wsL_law := seg_6 _ (List.mem_of_getElem? (i := 16) rfl)
theorem q_6_17 : Cond.instanceMethod yX4_get ∈ wsL_law := seg_6 _ (List.mem_of_getElem? (i := 17) rfl)
theorem q_6_18 : Cond.selects RX4 yX4_get yX4_get ∈ wsL_law := seg_6 _ (List.mem_of_getElem? (i := 18) rfl)
theorem q_6_19 : Cond.code yX4_get cX4_get 2 (some .int) ∈ wsL_law := seg_6 _ (List.mem_of_getElem? (i := 19) rfl)
theorem q_7_0 : Cond.methodLink RX0 84 Lib.Math.min.name ∈ wsL_law := seg_7 _ (List.mem_of_getElem? (i := 0) rfl)
theorem q_7_1 : Cond.static Lib.Math.min.name ∈ wsL_law := seg_7 _ (List.mem_of_getElem? (i := 1) rfl)
theorem q_7_2 : Cond.code Lib.Math.min.name Lib.Math.min.code 2 (some .int) ∈ wsL_law := seg_7 _ (List.mem_of_getElem? (i := 2) rfl)
theorem q_8_2 : Cond.methodLink RX0 69 yX4_increase ∈ wsL_law := seg_8 _ (List.mem_of_getElem? (i := 2) rfl)
theorem q_8_3 : Cond.instanceMethod yX4_increase ∈ wsL_law := seg_8 _ (List.mem_of_getElem? (i := 3) rfl)
theorem q_8_4 : Cond.selects RX4 yX4_increase yX4_increase ∈ wsL_law := seg_8 _ (List.mem_of_getElem? (i := 4) rfl)
theorem q_8_5 : Cond.code yX4_increase cX4_increase 3 none ∈ wsL_law := seg_8 _ (List.mem_of_getElem? (i := 5) rfl)
theorem q_9_22 : Cond.methodLink RX0 75 yX0_endsOf ∈ wsL_law := seg_9 _ (List.mem_of_getElem? (i := 22) rfl)
theorem q_9_23 : Cond.instanceMethod yX0_endsOf ∈ wsL_law := seg_9 _ (List.mem_of_getElem? (i := 23) rfl)
theorem q_10_0 : Cond.selects RX0 yX0_endsOf yX0_endsOf ∈ wsL_law := seg_10 _ (List.mem_of_getElem? (i := 0) rfl)
theorem q_10_1 : Cond.code yX0_endsOf cX0_endsOf 2 (some .int) ∈ wsL_law := seg_10 _ (List.mem_of_getElem? (i := 1) rfl)
theorem q_13_17 : Cond.methodLink RX0 65 yX4_set ∈ wsL_law := seg_13 _ (List.mem_of_getElem? (i := 17) rfl)
theorem q_13_18 : Cond.instanceMethod yX4_set ∈ wsL_law := seg_13 _ (List.mem_of_getElem? (i := 18) rfl)
theorem q_13_19 : Cond.selects RX4 yX4_set yX4_set ∈ wsL_law := seg_13 _ (List.mem_of_getElem? (i := 19) rfl)
theorem q_13_20 : Cond.code yX4_set cX4_set 3 none ∈ wsL_law := seg_13 _ (List.mem_of_getElem? (i := 20) rfl)
theorem q_14_9 : Cond.methodLink RX0 72 yX4_closeGap ∈ wsL_law := seg_14 _ (List.mem_of_getElem? (i := 9) rfl)
theorem q_14_10 : Cond.instanceMethod yX4_closeGap ∈ wsL_law := seg_14 _ (List.mem_of_getElem? (i := 10) rfl)
theorem q_14_11 : Cond.selects RX4 yX4_closeGap yX4_closeGap ∈ wsL_law := seg_14 _ (List.mem_of_getElem? (i := 11) rfl)
theorem q_14_12 : Cond.code yX4_closeGap cX4_closeGap 3 none ∈ wsL_law := seg_14 _ (List.mem_of_getElem? (i := 12) rfl)
theorem cal_X4_fill : Cal yX4_fill RX4 cX4_fill 3 none 1 := ⟨q_3_13, q_3_11, q_3_12, q_2_13, by decide +kernel⟩
theorem cal_X4_copyFrom : Cal yX4_copyFrom RX4 cX4_copyFrom 3 none 1 := ⟨q_5_20, q_5_18, q_5_19, q_2_13, by decide +kernel⟩
theorem cal_X4_get : Cal yX4_get RX4 cX4_get 2 (some .int) 1 := ⟨q_6_19, q_6_17, q_6_18, q_2_13, by decide +kernel⟩
theorem cal_X4_increase : Cal yX4_increase RX4 cX4_increase 3 none 2 := ⟨q_8_5, q_8_3, q_8_4, q_2_13, by decide +kernel⟩
theorem cal_X4_set : Cal yX4_set RX4 cX4_set 3 none 2 := ⟨q_13_20, q_13_18, q_13_19, q_2_13, by decide +kernel⟩
theorem cal_X4_closeGap : Cal yX4_closeGap RX4 cX4_closeGap 3 none 1 := ⟨q_14_12, q_14_10, q_14_11, q_2_13, by decide +kernel⟩
theorem cal_X0_endsOf : Cal yX0_endsOf RX0 cX0_endsOf 2 (some .int) 1 := ⟨q_10_1, q_9_23, q_10_0, q_1_12, by decide +kernel⟩
def fX0_restart_0 (L : Nat → Nat) (Nf : Nat) (k0 : Nat) (x1 : Int32) (σ : cS) : Option cS := bnd (st2 σ k0 7 x1) (fun σ1 => bnd (st2 σ1 k0 8 (0 : Int32)) (fun σ2 => bnd (st2 σ2 k0 9 (0 : Int32)) (fun σ3 => bnd (st2 σ3 k0 10 (0 : Int32)) (fun σ4 => Option.bind (fX4_fill L Nf σ4 (k0 + 11) (0 : Int32)) (fun r5 => Option.bind (fX4_fill L Nf r5 (k0 + 13) (3 : Int32)) (fun r6 => some r6))))))
set_option maxHeartbeats 4000000 in
set_option maxRecDepth 100000 in
theorem sX0_restart_0 {K : MCx} {G : Lay} (X : Cx K G RX0 cX0_restart 2 none 1 22) (Nf : Nat) (k0 : Nat) (hk0 : isGraph G k0) (h : Int64) (x1 : Int32) (σ : cS) : Sm K G TT (QM K G (fun r : cS => ((none, h, r) : Option Value × Int64 × cS))) 2 0 [(0, .ref (la G k0)), (1, .int x1)] [] h σ (fX0_restart_0 (ll G) Nf k0 x1 σ) := by
  unfold fX0_restart_0
  refine z_aload_n X dX0_restart_0 0 rfl ?_
  refine z_iload_n X dX0_restart_1 1 rfl ?_
  refine z_put X inlX0 rfl hk0.1 (ce0 hk0.1 _ _) 7 (by decide) q_3_6 tyX0 tyX0_ok nmX0 rfl (cp0 hk0.1 _ _ _ 7 (by decide)) rfl rfl (Nat.le_of_ble_eq_true rfl) dX0_restart_2 (fun σ1 => ?_)
  refine z_aload_n X dX0_restart_5 0 rfl ?_
  refine z_iconst (v := (0 : Int32)) X dX0_restart_6 (by decide) ?_
  refine z_put X inlX0 rfl hk0.1 (ce0 hk0.1 _ _) 8 (by decide) q_3_7 tyX0 tyX0_ok nmX0 rfl (cp0 hk0.1 _ _ _ 8 (by decide)) rfl rfl (Nat.le_of_ble_eq_true rfl) dX0_restart_7 (fun σ2 => ?_)
  refine z_aload_n X dX0_restart_10 0 rfl ?_
  refine z_iconst (v := (0 : Int32)) X dX0_restart_11 (by decide) ?_
  refine z_put X inlX0 rfl hk0.1 (ce0 hk0.1 _ _) 9 (by decide) q_3_8 tyX0 tyX0_ok nmX0 rfl (cp0 hk0.1 _ _ _ 9 (by decide)) rfl rfl (Nat.le_of_ble_eq_true rfl) dX0_restart_12 (fun σ3 => ?_)
  refine z_aload_n X dX0_restart_15 0 rfl ?_
  refine z_iconst (v := (0 : Int32)) X dX0_restart_16 (by decide) ?_
  refine z_put X inlX0 rfl hk0.1 (ce0 hk0.1 _ _) 10 (by decide) q_3_9 tyX0 tyX0_ok nmX0 rfl (cp0 hk0.1 _ _ _ 10 (by decide)) rfl rfl (Nat.le_of_ble_eq_true rfl) dX0_restart_17 (fun σ4 => ?_)
  refine z_aload_n X dX0_restart_20 0 rfl ?_
  refine z_get X inlX0 rfl hk0.1 (ce0 hk0.1 _ _) 5 (by decide) q_2_19 rfl dX0_restart_21 ?_
  refine z_iconst (v := (0 : Int32)) X dX0_restart_24 (by decide) ?_
  refine z_callV0 X (g := (fun r5 : cS => ((none, h, r5) : Option Value × Int64 × cS))) (st := []) (st1 := (fun r5 : cS => [])) (rmf := 0) (rml := 0) [.int (0 : Int32)] (k0 + 11) cal_X4_fill q_3_10 ⟨Nat.le_of_ble_eq_true rfl, Nat.le_of_ble_eq_true rfl⟩ rfl rfl (Nat.le_of_ble_eq_true rfl) rfl hk0.2.2.2.2.2.2.1.1 (ce4 hk0.2.2.2.2.2.2.1.1 _ _) (ctX4_fill (kl K) G X.2.2.2.2.2.2.2.1 Nf h σ4 (k0 + 11) hk0.2.2.2.2.2.2.1 (0 : Int32)) dX0_restart_25 (fun _ => rfl) (fun r5 => ?_)
  refine z_aload_n X dX0_restart_28 0 rfl ?_
  refine z_get X inlX0 rfl hk0.1 (ce0 hk0.1 _ _) 6 (by decide) q_2_20 rfl dX0_restart_29 ?_
  refine z_iconst (v := (3 : Int32)) X dX0_restart_32 (by decide) ?_
  refine z_callV0 X (g := (fun r6 : cS => ((none, h, r6) : Option Value × Int64 × cS))) (st := []) (st1 := (fun r6 : cS => [])) (rmf := 0) (rml := 0) [.int (3 : Int32)] (k0 + 13) cal_X4_fill q_3_10 ⟨Nat.le_of_ble_eq_true rfl, Nat.le_of_ble_eq_true rfl⟩ rfl rfl (Nat.le_of_ble_eq_true rfl) rfl hk0.2.2.2.2.2.2.2.1 (ce4 hk0.2.2.2.2.2.2.2.1 _ _) (ctX4_fill (kl K) G X.2.2.2.2.2.2.2.1 Nf h r5 (k0 + 13) hk0.2.2.2.2.2.2.2 (3 : Int32)) dX0_restart_33 (fun _ => rfl) (fun r6 => ?_)
  exact z_vret X rfl dX0_restart_36
def fX0_restart (L : Nat → Nat) (Nf : Nat) (σ : cS) (k0 : Nat) (x1 : Int32) : Option cS := fX0_restart_0 L Nf k0 x1 σ
set_option maxHeartbeats 4000000 in
set_option maxRecDepth 100000 in
theorem ctX0_restart (l : Launch) (G : Lay) (hi : Inj G) (Nf : Nat) (h : Int64) (σ : cS) (k0 : Nat) (hk0 : isGraph G k0) (x1 : Int32) : ∀ r, fX0_restart (ll G) Nf σ k0 x1 = some r → CM l yX0_restart cX0_restart 2 none 1 22 G [.ref (la G k0), .int x1] h σ (none, h, r) := by
  refine cm_of (g := (fun r : cS => ((none, h, r) : Option Value × Int64 × cS))) (by decide) hi (Nat.le_of_ble_eq_true rfl) (fun K hKl X => ?_)
  unfold fX0_restart
  exact z_sub [0, 1] rfl (sX0_restart_0 X Nf k0 hk0 h x1 σ)
def fX0_copyFrom_0 (L : Nat → Nat) (Nf : Nat) (k0 : Nat) (k1 : Nat) (σ : cS) : Option cS := Option.bind (fX4_copyFrom L Nf σ (k0 + 1) (k1 + 1)) (fun r1 => Option.bind (fX4_copyFrom L Nf r1 (k0 + 3) (k1 + 3)) (fun r2 => Option.bind (fX4_copyFrom L Nf r2 (k0 + 5) (k1 + 5)) (fun r3 => Option.bind (fX4_copyFrom L Nf r3 (k0 + 7) (k1 + 7)) (fun r4 => Option.bind (fX4_copyFrom L Nf r4 (k0 + 9) (k1 + 9)) (fun r5 => Option.bind (fX4_copyFrom L Nf r5 (k0 + 11) (k1 + 11)) (fun r6 => Option.bind (fX4_copyFrom L Nf r6 (k0 + 13) (k1 + 13)) (fun r7 => bnd (st2 r7 k0 7 (r7 k1 7)) (fun σ8 => bnd (st2 σ8 k0 8 (σ8 k1 8)) (fun σ9 => bnd (st2 σ9 k0 9 (σ9 k1 9)) (fun σ10 => bnd (st2 σ10 k0 10 (σ10 k1 10)) (fun σ11 => some σ11)))))))))))
set_option maxHeartbeats 4000000 in
set_option maxRecDepth 100000 in
theorem sX0_copyFrom_0 {K : MCx} {G : Lay} (X : Cx K G RX0 cX0_copyFrom 2 none 1 22) (Nf : Nat) (k0 : Nat) (hk0 : isGraph G k0) (k1 : Nat) (hk1 : isGraph G k1) (h : Int64) (σ : cS) : Sm K G TT (QM K G (fun r : cS => ((none, h, r) : Option Value × Int64 × cS))) 2 0 [(0, .ref (la G k0)), (1, .ref (la G k1))] [] h σ (fX0_copyFrom_0 (ll G) Nf k0 k1 σ) := by
  unfold fX0_copyFrom_0
  refine z_aload_n X dX0_copyFrom_0 0 rfl ?_
  refine z_get X inlX0 rfl hk0.1 (ce0 hk0.1 _ _) 0 (by decide) q_2_14 rfl dX0_copyFrom_1 ?_
  refine z_aload_n X dX0_copyFrom_4 1 rfl ?_
  refine z_get X inlX0 rfl hk1.1 (ce0 hk1.1 _ _) 0 (by decide) q_2_14 rfl dX0_copyFrom_5 ?_
  refine z_callV0 X (g := (fun r1 : cS => ((none, h, r1) : Option Value × Int64 × cS))) (st := []) (st1 := (fun r1 : cS => [])) (rmf := 0) (rml := 0) [.ref (la G (k1 + 1))] (k0 + 1) cal_X4_copyFrom q_5_17 ⟨Nat.le_of_ble_eq_true rfl, Nat.le_of_ble_eq_true rfl⟩ rfl rfl (Nat.le_of_ble_eq_true rfl) rfl hk0.2.1.1 (ce4 hk0.2.1.1 _ _) (ctX4_copyFrom (kl K) G X.2.2.2.2.2.2.2.1 Nf h σ (k0 + 1) hk0.2.1 (k1 + 1) hk1.2.1 ) dX0_copyFrom_8 (fun _ => rfl) (fun r1 => ?_)
  refine z_aload_n X dX0_copyFrom_11 0 rfl ?_
  refine z_get X inlX0 rfl hk0.1 (ce0 hk0.1 _ _) 1 (by decide) q_2_15 rfl dX0_copyFrom_12 ?_
  refine z_aload_n X dX0_copyFrom_15 1 rfl ?_
  refine z_get X inlX0 rfl hk1.1 (ce0 hk1.1 _ _) 1 (by decide) q_2_15 rfl dX0_copyFrom_16 ?_
  refine z_callV0 X (g := (fun r2 : cS => ((none, h, r2) : Option Value × Int64 × cS))) (st := []) (st1 := (fun r2 : cS => [])) (rmf := 0) (rml := 0) [.ref (la G (k1 + 3))] (k0 + 3) cal_X4_copyFrom q_5_17 ⟨Nat.le_of_ble_eq_true rfl, Nat.le_of_ble_eq_true rfl⟩ rfl rfl (Nat.le_of_ble_eq_true rfl) rfl hk0.2.2.1.1 (ce4 hk0.2.2.1.1 _ _) (ctX4_copyFrom (kl K) G X.2.2.2.2.2.2.2.1 Nf h r1 (k0 + 3) hk0.2.2.1 (k1 + 3) hk1.2.2.1 ) dX0_copyFrom_19 (fun _ => rfl) (fun r2 => ?_)
  refine z_aload_n X dX0_copyFrom_22 0 rfl ?_
  refine z_get X inlX0 rfl hk0.1 (ce0 hk0.1 _ _) 2 (by decide) q_2_16 rfl dX0_copyFrom_23 ?_
  refine z_aload_n X dX0_copyFrom_26 1 rfl ?_
  refine z_get X inlX0 rfl hk1.1 (ce0 hk1.1 _ _) 2 (by decide) q_2_16 rfl dX0_copyFrom_27 ?_
  refine z_callV0 X (g := (fun r3 : cS => ((none, h, r3) : Option Value × Int64 × cS))) (st := []) (st1 := (fun r3 : cS => [])) (rmf := 0) (rml := 0) [.ref (la G (k1 + 5))] (k0 + 5) cal_X4_copyFrom q_5_17 ⟨Nat.le_of_ble_eq_true rfl, Nat.le_of_ble_eq_true rfl⟩ rfl rfl (Nat.le_of_ble_eq_true rfl) rfl hk0.2.2.2.1.1 (ce4 hk0.2.2.2.1.1 _ _) (ctX4_copyFrom (kl K) G X.2.2.2.2.2.2.2.1 Nf h r2 (k0 + 5) hk0.2.2.2.1 (k1 + 5) hk1.2.2.2.1 ) dX0_copyFrom_30 (fun _ => rfl) (fun r3 => ?_)
  refine z_aload_n X dX0_copyFrom_33 0 rfl ?_
  refine z_get X inlX0 rfl hk0.1 (ce0 hk0.1 _ _) 3 (by decide) q_2_17 rfl dX0_copyFrom_34 ?_
  refine z_aload_n X dX0_copyFrom_37 1 rfl ?_
  refine z_get X inlX0 rfl hk1.1 (ce0 hk1.1 _ _) 3 (by decide) q_2_17 rfl dX0_copyFrom_38 ?_
  refine z_callV0 X (g := (fun r4 : cS => ((none, h, r4) : Option Value × Int64 × cS))) (st := []) (st1 := (fun r4 : cS => [])) (rmf := 0) (rml := 0) [.ref (la G (k1 + 7))] (k0 + 7) cal_X4_copyFrom q_5_17 ⟨Nat.le_of_ble_eq_true rfl, Nat.le_of_ble_eq_true rfl⟩ rfl rfl (Nat.le_of_ble_eq_true rfl) rfl hk0.2.2.2.2.1.1 (ce4 hk0.2.2.2.2.1.1 _ _) (ctX4_copyFrom (kl K) G X.2.2.2.2.2.2.2.1 Nf h r3 (k0 + 7) hk0.2.2.2.2.1 (k1 + 7) hk1.2.2.2.2.1 ) dX0_copyFrom_41 (fun _ => rfl) (fun r4 => ?_)
  refine z_aload_n X dX0_copyFrom_44 0 rfl ?_
  refine z_get X inlX0 rfl hk0.1 (ce0 hk0.1 _ _) 4 (by decide) q_2_18 rfl dX0_copyFrom_45 ?_
  refine z_aload_n X dX0_copyFrom_48 1 rfl ?_
  refine z_get X inlX0 rfl hk1.1 (ce0 hk1.1 _ _) 4 (by decide) q_2_18 rfl dX0_copyFrom_49 ?_
  refine z_callV0 X (g := (fun r5 : cS => ((none, h, r5) : Option Value × Int64 × cS))) (st := []) (st1 := (fun r5 : cS => [])) (rmf := 0) (rml := 0) [.ref (la G (k1 + 9))] (k0 + 9) cal_X4_copyFrom q_5_17 ⟨Nat.le_of_ble_eq_true rfl, Nat.le_of_ble_eq_true rfl⟩ rfl rfl (Nat.le_of_ble_eq_true rfl) rfl hk0.2.2.2.2.2.1.1 (ce4 hk0.2.2.2.2.2.1.1 _ _) (ctX4_copyFrom (kl K) G X.2.2.2.2.2.2.2.1 Nf h r4 (k0 + 9) hk0.2.2.2.2.2.1 (k1 + 9) hk1.2.2.2.2.2.1 ) dX0_copyFrom_52 (fun _ => rfl) (fun r5 => ?_)
  refine z_aload_n X dX0_copyFrom_55 0 rfl ?_
  refine z_get X inlX0 rfl hk0.1 (ce0 hk0.1 _ _) 5 (by decide) q_2_19 rfl dX0_copyFrom_56 ?_
  refine z_aload_n X dX0_copyFrom_59 1 rfl ?_
  refine z_get X inlX0 rfl hk1.1 (ce0 hk1.1 _ _) 5 (by decide) q_2_19 rfl dX0_copyFrom_60 ?_
  refine z_callV0 X (g := (fun r6 : cS => ((none, h, r6) : Option Value × Int64 × cS))) (st := []) (st1 := (fun r6 : cS => [])) (rmf := 0) (rml := 0) [.ref (la G (k1 + 11))] (k0 + 11) cal_X4_copyFrom q_5_17 ⟨Nat.le_of_ble_eq_true rfl, Nat.le_of_ble_eq_true rfl⟩ rfl rfl (Nat.le_of_ble_eq_true rfl) rfl hk0.2.2.2.2.2.2.1.1 (ce4 hk0.2.2.2.2.2.2.1.1 _ _) (ctX4_copyFrom (kl K) G X.2.2.2.2.2.2.2.1 Nf h r5 (k0 + 11) hk0.2.2.2.2.2.2.1 (k1 + 11) hk1.2.2.2.2.2.2.1 ) dX0_copyFrom_63 (fun _ => rfl) (fun r6 => ?_)
  refine z_aload_n X dX0_copyFrom_66 0 rfl ?_
  refine z_get X inlX0 rfl hk0.1 (ce0 hk0.1 _ _) 6 (by decide) q_2_20 rfl dX0_copyFrom_67 ?_
  refine z_aload_n X dX0_copyFrom_70 1 rfl ?_
  refine z_get X inlX0 rfl hk1.1 (ce0 hk1.1 _ _) 6 (by decide) q_2_20 rfl dX0_copyFrom_71 ?_
  refine z_callV0 X (g := (fun r7 : cS => ((none, h, r7) : Option Value × Int64 × cS))) (st := []) (st1 := (fun r7 : cS => [])) (rmf := 0) (rml := 0) [.ref (la G (k1 + 13))] (k0 + 13) cal_X4_copyFrom q_5_17 ⟨Nat.le_of_ble_eq_true rfl, Nat.le_of_ble_eq_true rfl⟩ rfl rfl (Nat.le_of_ble_eq_true rfl) rfl hk0.2.2.2.2.2.2.2.1 (ce4 hk0.2.2.2.2.2.2.2.1 _ _) (ctX4_copyFrom (kl K) G X.2.2.2.2.2.2.2.1 Nf h r6 (k0 + 13) hk0.2.2.2.2.2.2.2 (k1 + 13) hk1.2.2.2.2.2.2.2 ) dX0_copyFrom_74 (fun _ => rfl) (fun r7 => ?_)
  refine z_aload_n X dX0_copyFrom_77 0 rfl ?_
  refine z_aload_n X dX0_copyFrom_78 1 rfl ?_
  refine z_get X inlX0 rfl hk1.1 (ce0 hk1.1 _ _) 7 (by decide) q_3_6 rfl dX0_copyFrom_79 ?_
  refine z_put X inlX0 rfl hk0.1 (ce0 hk0.1 _ _) 7 (by decide) q_3_6 tyX0 tyX0_ok nmX0 rfl (cp0 hk0.1 _ _ _ 7 (by decide)) rfl rfl (Nat.le_of_ble_eq_true rfl) dX0_copyFrom_82 (fun σ8 => ?_)
  refine z_aload_n X dX0_copyFrom_85 0 rfl ?_
  refine z_aload_n X dX0_copyFrom_86 1 rfl ?_
  refine z_get X inlX0 rfl hk1.1 (ce0 hk1.1 _ _) 8 (by decide) q_3_7 rfl dX0_copyFrom_87 ?_
  refine z_put X inlX0 rfl hk0.1 (ce0 hk0.1 _ _) 8 (by decide) q_3_7 tyX0 tyX0_ok nmX0 rfl (cp0 hk0.1 _ _ _ 8 (by decide)) rfl rfl (Nat.le_of_ble_eq_true rfl) dX0_copyFrom_90 (fun σ9 => ?_)
  refine z_aload_n X dX0_copyFrom_93 0 rfl ?_
  refine z_aload_n X dX0_copyFrom_94 1 rfl ?_
  refine z_get X inlX0 rfl hk1.1 (ce0 hk1.1 _ _) 9 (by decide) q_3_8 rfl dX0_copyFrom_95 ?_
  refine z_put X inlX0 rfl hk0.1 (ce0 hk0.1 _ _) 9 (by decide) q_3_8 tyX0 tyX0_ok nmX0 rfl (cp0 hk0.1 _ _ _ 9 (by decide)) rfl rfl (Nat.le_of_ble_eq_true rfl) dX0_copyFrom_98 (fun σ10 => ?_)
  refine z_aload_n X dX0_copyFrom_101 0 rfl ?_
  refine z_aload_n X dX0_copyFrom_102 1 rfl ?_
  refine z_get X inlX0 rfl hk1.1 (ce0 hk1.1 _ _) 10 (by decide) q_3_9 rfl dX0_copyFrom_103 ?_
  refine z_put X inlX0 rfl hk0.1 (ce0 hk0.1 _ _) 10 (by decide) q_3_9 tyX0 tyX0_ok nmX0 rfl (cp0 hk0.1 _ _ _ 10 (by decide)) rfl rfl (Nat.le_of_ble_eq_true rfl) dX0_copyFrom_106 (fun σ11 => ?_)
  exact z_vret X rfl dX0_copyFrom_109
def fX0_copyFrom (L : Nat → Nat) (Nf : Nat) (σ : cS) (k0 : Nat) (k1 : Nat) : Option cS := fX0_copyFrom_0 L Nf k0 k1 σ
set_option maxHeartbeats 4000000 in
set_option maxRecDepth 100000 in
theorem ctX0_copyFrom (l : Launch) (G : Lay) (hi : Inj G) (Nf : Nat) (h : Int64) (σ : cS) (k0 : Nat) (hk0 : isGraph G k0) (k1 : Nat) (hk1 : isGraph G k1) : ∀ r, fX0_copyFrom (ll G) Nf σ k0 k1 = some r → CM l yX0_copyFrom cX0_copyFrom 2 none 1 22 G [.ref (la G k0), .ref (la G k1)] h σ (none, h, r) := by
  refine cm_of (g := (fun r : cS => ((none, h, r) : Option Value × Int64 × cS))) (by decide) hi (Nat.le_of_ble_eq_true rfl) (fun K hKl X => ?_)
  unfold fX0_copyFrom
  exact z_sub [0, 1] rfl (sX0_copyFrom_0 X Nf k0 hk0 k1 hk1 h σ)
def fX0_hasNode_17 (σ : cS) (k0 : Nat) (y0 : Int32)  : Option Int32 := grd (isb y0) (some y0)
set_option maxHeartbeats 4000000 in
set_option maxRecDepth 100000 in
theorem sX0_hasNode_17 {K : MCx} {G : Lay} (X : Cx K G RX0 cX0_hasNode 2 (some .boolean) 0 0) (k0 : Nat) (hk0 : isGraph G k0) (h : Int64) (σ : cS) (y0 : Int32) : Sm K G TT (QM K G (fun r : Int32 => ((some (.int r), h, σ) : Option Value × Int64 × cS))) 2 17 [] [.int y0] h σ (fX0_hasNode_17 σ k0 y0) := by
  unfold fX0_hasNode_17
  exact z_zret X rfl dX0_hasNode_17
def fX0_hasNode_16 (σ : cS) (k0 : Nat)  : Option Int32 := fX0_hasNode_17 σ k0 (0 : Int32)
set_option maxHeartbeats 4000000 in
set_option maxRecDepth 100000 in
theorem sX0_hasNode_16 {K : MCx} {G : Lay} (X : Cx K G RX0 cX0_hasNode 2 (some .boolean) 0 0) (k0 : Nat) (hk0 : isGraph G k0) (h : Int64) (σ : cS) : Sm K G TT (QM K G (fun r : Int32 => ((some (.int r), h, σ) : Option Value × Int64 × cS))) 2 16 [] [] h σ (fX0_hasNode_16 σ k0) := by
  unfold fX0_hasNode_16
  refine z_iconst (v := (0 : Int32)) X dX0_hasNode_16 (by decide) ?_
  exact z_sub [] rfl (sX0_hasNode_17 X k0 hk0 h σ (0 : Int32))
def fX0_hasNode_0 (σ : cS) (k0 : Nat) (x1 : Int32)  : Option Int32 := if x1 < 0 then (fX0_hasNode_16 σ k0) else (if (σ k0 7) ≤ x1 then (fX0_hasNode_16 σ k0) else (fX0_hasNode_17 σ k0 (1 : Int32)))
set_option maxHeartbeats 4000000 in
set_option maxRecDepth 100000 in
theorem sX0_hasNode_0 {K : MCx} {G : Lay} (X : Cx K G RX0 cX0_hasNode 2 (some .boolean) 0 0) (k0 : Nat) (hk0 : isGraph G k0) (h : Int64) (σ : cS) (x1 : Int32) : Sm K G TT (QM K G (fun r : Int32 => ((some (.int r), h, σ) : Option Value × Int64 × cS))) 2 0 [(0, .ref (la G k0)), (1, .int x1)] [] h σ (fX0_hasNode_0 σ k0 x1) := by
  unfold fX0_hasNode_0
  refine z_iload_n X dX0_hasNode_0 1 rfl ?_
  refine z_if_lt X 16 dX0_hasNode_1 (by decide) ?_ ?_
  · exact z_sub [] rfl (sX0_hasNode_16 X k0 hk0 h σ)
  · refine z_iload_n X dX0_hasNode_4 1 rfl ?_
    refine z_aload_n X dX0_hasNode_5 0 rfl ?_
    refine z_get X inlX0 rfl hk0.1 (ce0 hk0.1 _ _) 7 (by decide) q_3_6 rfl dX0_hasNode_6 ?_
    refine z_icmp_ge X 16 dX0_hasNode_9 (by decide) ?_ ?_
    · exact z_sub [] rfl (sX0_hasNode_16 X k0 hk0 h σ)
    · refine z_iconst (v := (1 : Int32)) X dX0_hasNode_12 (by decide) ?_
      refine z_goto X 17 dX0_hasNode_13 (by decide) ?_
      exact z_sub [] rfl (sX0_hasNode_17 X k0 hk0 h σ (1 : Int32))
def fX0_hasNode (σ : cS) (k0 : Nat) (x1 : Int32) : Option Int32 := fX0_hasNode_0 σ k0 x1
set_option maxHeartbeats 4000000 in
set_option maxRecDepth 100000 in
theorem ctX0_hasNode (l : Launch) (G : Lay) (hi : Inj G) (h : Int64) (σ : cS) (k0 : Nat) (hk0 : isGraph G k0) (x1 : Int32) : ∀ r, fX0_hasNode σ k0 x1 = some r → CM l yX0_hasNode cX0_hasNode 2 (some .boolean) 0 0 G [.ref (la G k0), .int x1] h σ (some (.int r), h, σ) := by
  refine cm_of (g := (fun r : Int32 => ((some (.int r), h, σ) : Option Value × Int64 × cS))) (by decide) hi (Nat.le_of_ble_eq_true rfl) (fun K hKl X => ?_)
  unfold fX0_hasNode
  exact z_sub [0, 1] rfl (sX0_hasNode_0 X k0 hk0 h σ x1)
def fX0_isFull_14 (σ : cS) (k0 : Nat) (y0 : Int32)  : Option Int32 := grd (isb y0) (some y0)
set_option maxHeartbeats 4000000 in
set_option maxRecDepth 100000 in
theorem sX0_isFull_14 {K : MCx} {G : Lay} (X : Cx K G RX0 cX0_isFull 1 (some .boolean) 0 0) (k0 : Nat) (hk0 : isGraph G k0) (h : Int64) (σ : cS) (y0 : Int32) : Sm K G TT (QM K G (fun r : Int32 => ((some (.int r), h, σ) : Option Value × Int64 × cS))) 1 14 [] [.int y0] h σ (fX0_isFull_14 σ k0 y0) := by
  unfold fX0_isFull_14
  exact z_zret X rfl dX0_isFull_14
def fX0_isFull_0 (σ : cS) (k0 : Nat)  : Option Int32 := if (σ k0 8) < (40 : Int32) then (fX0_isFull_14 σ k0 (0 : Int32)) else (fX0_isFull_14 σ k0 (1 : Int32))
set_option maxHeartbeats 4000000 in
set_option maxRecDepth 100000 in
theorem sX0_isFull_0 {K : MCx} {G : Lay} (X : Cx K G RX0 cX0_isFull 1 (some .boolean) 0 0) (k0 : Nat) (hk0 : isGraph G k0) (h : Int64) (σ : cS) : Sm K G TT (QM K G (fun r : Int32 => ((some (.int r), h, σ) : Option Value × Int64 × cS))) 1 0 [(0, .ref (la G k0))] [] h σ (fX0_isFull_0 σ k0) := by
  unfold fX0_isFull_0
  refine z_aload_n X dX0_isFull_0 0 rfl ?_
  refine z_get X inlX0 rfl hk0.1 (ce0 hk0.1 _ _) 8 (by decide) q_3_7 rfl dX0_isFull_1 ?_
  refine z_bipush (v := (40 : Int32)) X dX0_isFull_4 (by decide) ?_
  refine z_icmp_lt X 13 dX0_isFull_6 (by decide) ?_ ?_
  · refine z_iconst (v := (0 : Int32)) X dX0_isFull_13 (by decide) ?_
    exact z_sub [] rfl (sX0_isFull_14 X k0 hk0 h σ (0 : Int32))
  · refine z_iconst (v := (1 : Int32)) X dX0_isFull_9 (by decide) ?_
    refine z_goto X 14 dX0_isFull_10 (by decide) ?_
    exact z_sub [] rfl (sX0_isFull_14 X k0 hk0 h σ (1 : Int32))
def fX0_isFull (σ : cS) (k0 : Nat) : Option Int32 := fX0_isFull_0 σ k0
set_option maxHeartbeats 4000000 in
set_option maxRecDepth 100000 in
theorem ctX0_isFull (l : Launch) (G : Lay) (hi : Inj G) (h : Int64) (σ : cS) (k0 : Nat) (hk0 : isGraph G k0) : ∀ r, fX0_isFull σ k0 = some r → CM l yX0_isFull cX0_isFull 1 (some .boolean) 0 0 G [.ref (la G k0)] h σ (some (.int r), h, σ) := by
  refine cm_of (g := (fun r : Int32 => ((some (.int r), h, σ) : Option Value × Int64 × cS))) (by decide) hi (Nat.le_of_ble_eq_true rfl) (fun K hKl X => ?_)
  unfold fX0_isFull
  exact z_sub [0] rfl (sX0_isFull_0 X k0 hk0 h σ)
def fX0_slotOf_2 (L : Nat → Nat) (Nf : Nat) (σ : cS) (k0 : Nat) : Nat → Int32 → Int32 → Option Int32
  | 0, _, _ => none
  | n + 1, x1, x2 => if (σ k0 8) ≤ x2 then (some (-1 : Int32)) else (Option.bind (fX4_get L σ (k0 + 1) x2) (fun r1 => if r1 = x1 then (some x2) else (bnd (x2 + (1 : Int32)) (fun t2 => fX0_slotOf_2 L Nf σ k0 n x1 t2))))
set_option maxHeartbeats 4000000 in
set_option maxRecDepth 100000 in
theorem sX0_slotOf_2 {K : MCx} {G : Lay} (X : Cx K G RX0 cX0_slotOf 3 (some .int) 1 21) (Nf : Nat) (k0 : Nat) (hk0 : isGraph G k0) (h : Int64) (σ : cS) : ∀ (n : Nat) (x1 : Int32) (x2 : Int32), Sm K G TT (QM K G (fun r : Int32 => ((some (.int r), h, σ) : Option Value × Int64 × cS))) 3 2 [(0, .ref (la G k0)), (1, .int x1), (2, .int x2)] [] h σ (fX0_slotOf_2 (ll G) Nf σ k0 n x1 x2) := by
  intro n
  induction n with
  | zero => intros; exact z_none
  | succ n ih =>
    intro x1 x2
    unfold fX0_slotOf_2
    refine z_iload_n X dX0_slotOf_2 2 rfl ?_
    refine z_aload_n X dX0_slotOf_3 0 rfl ?_
    refine z_get X inlX0 rfl hk0.1 (ce0 hk0.1 _ _) 8 (by decide) q_3_7 rfl dX0_slotOf_4 ?_
    refine z_icmp_ge X 30 dX0_slotOf_7 (by decide) ?_ ?_
    · refine z_iconst (v := (-1 : Int32)) X dX0_slotOf_30 (by decide) ?_
      exact z_iret X rfl dX0_slotOf_31
    · refine z_aload_n X dX0_slotOf_10 0 rfl ?_
      refine z_get X inlX0 rfl hk0.1 (ce0 hk0.1 _ _) 0 (by decide) q_2_14 rfl dX0_slotOf_11 ?_
      refine z_iload_n X dX0_slotOf_14 2 rfl ?_
      refine z_callV0 X (g := (fun r1 : Int32 => ((some (.int r1), h, σ) : Option Value × Int64 × cS))) (st := []) (st1 := (fun r1 : Int32 => [.int r1])) (rmf := 0) (rml := 0) [.int x2] (k0 + 1) cal_X4_get q_6_16 ⟨Nat.le_of_ble_eq_true rfl, Nat.le_of_ble_eq_true rfl⟩ rfl rfl (Nat.le_of_ble_eq_true rfl) rfl hk0.2.1.1 (ce4 hk0.2.1.1 _ _) (ctX4_get (kl K) G X.2.2.2.2.2.2.2.1 h σ (k0 + 1) hk0.2.1 x2) dX0_slotOf_15 (fun _ => rfl) (fun r1 => ?_)
      refine z_iload_n X dX0_slotOf_18 1 rfl ?_
      refine z_icmp_ne X 24 dX0_slotOf_19 (by decide) ?_ ?_
      · refine z_iload_n X dX0_slotOf_22 2 rfl ?_
        exact z_iret X rfl dX0_slotOf_23
      · refine z_iinc X (fun t2 => [(2, .int t2), (0, .ref (la G k0)), (1, .int x1)]) dX0_slotOf_24 2 rfl (by decide) (by decide) (fun _ => rfl) (fun t2 => ?_)
        refine z_goto X 2 dX0_slotOf_27 (by decide) ?_
        exact z_sub [1, 2, 0] rfl (ih x1 t2)
def fX0_slotOf_0 (L : Nat → Nat) (Nf : Nat) (σ : cS) (k0 : Nat) (x1 : Int32)  : Option Int32 := fX0_slotOf_2 L Nf σ k0 Nf x1 (0 : Int32)
set_option maxHeartbeats 4000000 in
set_option maxRecDepth 100000 in
theorem sX0_slotOf_0 {K : MCx} {G : Lay} (X : Cx K G RX0 cX0_slotOf 3 (some .int) 1 21) (Nf : Nat) (k0 : Nat) (hk0 : isGraph G k0) (h : Int64) (σ : cS) (x1 : Int32) : Sm K G TT (QM K G (fun r : Int32 => ((some (.int r), h, σ) : Option Value × Int64 × cS))) 3 0 [(0, .ref (la G k0)), (1, .int x1)] [] h σ (fX0_slotOf_0 (ll G) Nf σ k0 x1) := by
  unfold fX0_slotOf_0
  refine z_iconst (v := (0 : Int32)) X dX0_slotOf_0 (by decide) ?_
  refine z_istore_n X [(2, .int (0 : Int32)), (0, .ref (la G k0)), (1, .int x1)] dX0_slotOf_1 (by decide) rfl ?_
  exact z_sub [1, 2, 0] rfl (sX0_slotOf_2 X Nf k0 hk0 h σ Nf x1 (0 : Int32))
def fX0_slotOf (L : Nat → Nat) (Nf : Nat) (σ : cS) (k0 : Nat) (x1 : Int32) : Option Int32 := fX0_slotOf_0 L Nf σ k0 x1
set_option maxHeartbeats 4000000 in
set_option maxRecDepth 100000 in
theorem ctX0_slotOf (l : Launch) (G : Lay) (hi : Inj G) (Nf : Nat) (h : Int64) (σ : cS) (k0 : Nat) (hk0 : isGraph G k0) (x1 : Int32) : ∀ r, fX0_slotOf (ll G) Nf σ k0 x1 = some r → CM l yX0_slotOf cX0_slotOf 3 (some .int) 1 21 G [.ref (la G k0), .int x1] h σ (some (.int r), h, σ) := by
  refine cm_of (g := (fun r : Int32 => ((some (.int r), h, σ) : Option Value × Int64 × cS))) (by decide) hi (Nat.le_of_ble_eq_true rfl) (fun K hKl X => ?_)
  unfold fX0_slotOf
  exact z_sub [0, 1] rfl (sX0_slotOf_0 X Nf k0 hk0 h σ x1)
def fX0_join_35 (L : Nat → Nat) (k0 : Nat) (x1 : Int32) (x2 : Int32) (x3 : Int32) (x4 : Int32) (y0 : Int32) (σ : cS) : Option (Int32 × cS) := Option.bind (fX4_set L σ (k0 + 1) x3 x4) (fun r1 => Option.bind (fX4_set L r1 (k0 + 3) x3 x1) (fun r2 => Option.bind (fX4_set L r2 (k0 + 5) x3 x2) (fun r3 => Option.bind (fX4_set L r3 (k0 + 7) x3 y0) (fun r4 => Option.bind (fX4_set L r4 (k0 + 9) x3 (0 : Int32)) (fun r5 => Option.bind (fX4_increase L r5 (k0 + 11) y0 (1 : Int32)) (fun r6 => bnd (st2 r6 k0 8 ((r6 k0 8) + (1 : Int32))) (fun σ7 => bnd (st2 σ7 k0 9 ((σ7 k0 9) + (1 : Int32))) (fun σ8 => some (x4, σ8)))))))))
set_option maxHeartbeats 4000000 in
set_option maxRecDepth 100000 in
theorem sX0_join_35 {K : MCx} {G : Lay} (X : Cx K G RX0 cX0_join 6 (some .int) 1 22) (k0 : Nat) (hk0 : isGraph G k0) (h : Int64) (x1 : Int32) (x2 : Int32) (x3 : Int32) (x4 : Int32) (y0 : Int32) (σ : cS) : Sm K G TT (QM K G (fun r : (Int32 × cS) => ((some (.int r.1), h, r.2) : Option Value × Int64 × cS))) 6 35 [(0, .ref (la G k0)), (1, .int x1), (2, .int x2), (3, .int x3), (4, .int x4)] [.int y0] h σ (fX0_join_35 (ll G) k0 x1 x2 x3 x4 y0 σ) := by
  unfold fX0_join_35
  refine z_istore X [(5, .int y0), (0, .ref (la G k0)), (1, .int x1), (2, .int x2), (3, .int x3), (4, .int x4)] dX0_join_35 (by decide) rfl ?_
  refine z_aload_n X dX0_join_37 1 rfl ?_
  refine z_get X inlX0 rfl hk0.1 (ce0 hk0.1 _ _) 0 (by decide) q_2_14 rfl dX0_join_38 ?_
  refine z_iload_n X dX0_join_41 4 rfl ?_
  refine z_iload X dX0_join_42 5 rfl ?_
  refine z_callV0 X (g := (fun r1 : cS => ((none, h, r1) : Option Value × Int64 × cS))) (st := []) (st1 := (fun r1 : cS => [])) (rmf := 0) (rml := 0) [.int x3, .int x4] (k0 + 1) cal_X4_set q_13_17 ⟨Nat.le_of_ble_eq_true rfl, Nat.le_of_ble_eq_true rfl⟩ rfl rfl (Nat.le_of_ble_eq_true rfl) rfl hk0.2.1.1 (ce4 hk0.2.1.1 _ _) (ctX4_set (kl K) G X.2.2.2.2.2.2.2.1 h σ (k0 + 1) hk0.2.1 x3 x4) dX0_join_44 (fun _ => rfl) (fun r1 => ?_)
  refine z_aload_n X dX0_join_47 1 rfl ?_
  refine z_get X inlX0 rfl hk0.1 (ce0 hk0.1 _ _) 1 (by decide) q_2_15 rfl dX0_join_48 ?_
  refine z_iload_n X dX0_join_51 4 rfl ?_
  refine z_iload_n X dX0_join_52 2 rfl ?_
  refine z_callV0 X (g := (fun r2 : cS => ((none, h, r2) : Option Value × Int64 × cS))) (st := []) (st1 := (fun r2 : cS => [])) (rmf := 0) (rml := 0) [.int x3, .int x1] (k0 + 3) cal_X4_set q_13_17 ⟨Nat.le_of_ble_eq_true rfl, Nat.le_of_ble_eq_true rfl⟩ rfl rfl (Nat.le_of_ble_eq_true rfl) rfl hk0.2.2.1.1 (ce4 hk0.2.2.1.1 _ _) (ctX4_set (kl K) G X.2.2.2.2.2.2.2.1 h r1 (k0 + 3) hk0.2.2.1 x3 x1) dX0_join_53 (fun _ => rfl) (fun r2 => ?_)
  refine z_aload_n X dX0_join_56 1 rfl ?_
  refine z_get X inlX0 rfl hk0.1 (ce0 hk0.1 _ _) 2 (by decide) q_2_16 rfl dX0_join_57 ?_
  refine z_iload_n X dX0_join_60 4 rfl ?_
  refine z_iload_n X dX0_join_61 3 rfl ?_
  refine z_callV0 X (g := (fun r3 : cS => ((none, h, r3) : Option Value × Int64 × cS))) (st := []) (st1 := (fun r3 : cS => [])) (rmf := 0) (rml := 0) [.int x3, .int x2] (k0 + 5) cal_X4_set q_13_17 ⟨Nat.le_of_ble_eq_true rfl, Nat.le_of_ble_eq_true rfl⟩ rfl rfl (Nat.le_of_ble_eq_true rfl) rfl hk0.2.2.2.1.1 (ce4 hk0.2.2.2.1.1 _ _) (ctX4_set (kl K) G X.2.2.2.2.2.2.2.1 h r2 (k0 + 5) hk0.2.2.2.1 x3 x2) dX0_join_62 (fun _ => rfl) (fun r3 => ?_)
  refine z_aload_n X dX0_join_65 1 rfl ?_
  refine z_get X inlX0 rfl hk0.1 (ce0 hk0.1 _ _) 3 (by decide) q_2_17 rfl dX0_join_66 ?_
  refine z_iload_n X dX0_join_69 4 rfl ?_
  refine z_iload X dX0_join_70 0 rfl ?_
  refine z_callV0 X (g := (fun r4 : cS => ((none, h, r4) : Option Value × Int64 × cS))) (st := []) (st1 := (fun r4 : cS => [])) (rmf := 0) (rml := 0) [.int x3, .int y0] (k0 + 7) cal_X4_set q_13_17 ⟨Nat.le_of_ble_eq_true rfl, Nat.le_of_ble_eq_true rfl⟩ rfl rfl (Nat.le_of_ble_eq_true rfl) rfl hk0.2.2.2.2.1.1 (ce4 hk0.2.2.2.2.1.1 _ _) (ctX4_set (kl K) G X.2.2.2.2.2.2.2.1 h r3 (k0 + 7) hk0.2.2.2.2.1 x3 y0) dX0_join_72 (fun _ => rfl) (fun r4 => ?_)
  refine z_aload_n X dX0_join_75 1 rfl ?_
  refine z_get X inlX0 rfl hk0.1 (ce0 hk0.1 _ _) 4 (by decide) q_2_18 rfl dX0_join_76 ?_
  refine z_iload_n X dX0_join_79 4 rfl ?_
  refine z_iconst (v := (0 : Int32)) X dX0_join_80 (by decide) ?_
  refine z_callV0 X (g := (fun r5 : cS => ((none, h, r5) : Option Value × Int64 × cS))) (st := []) (st1 := (fun r5 : cS => [])) (rmf := 0) (rml := 0) [.int x3, .int (0 : Int32)] (k0 + 9) cal_X4_set q_13_17 ⟨Nat.le_of_ble_eq_true rfl, Nat.le_of_ble_eq_true rfl⟩ rfl rfl (Nat.le_of_ble_eq_true rfl) rfl hk0.2.2.2.2.2.1.1 (ce4 hk0.2.2.2.2.2.1.1 _ _) (ctX4_set (kl K) G X.2.2.2.2.2.2.2.1 h r4 (k0 + 9) hk0.2.2.2.2.2.1 x3 (0 : Int32)) dX0_join_81 (fun _ => rfl) (fun r5 => ?_)
  refine z_aload_n X dX0_join_84 1 rfl ?_
  refine z_get X inlX0 rfl hk0.1 (ce0 hk0.1 _ _) 5 (by decide) q_2_19 rfl dX0_join_85 ?_
  refine z_iload X dX0_join_88 0 rfl ?_
  refine z_iconst (v := (1 : Int32)) X dX0_join_90 (by decide) ?_
  refine z_callV0 X (g := (fun r6 : cS => ((none, h, r6) : Option Value × Int64 × cS))) (st := []) (st1 := (fun r6 : cS => [])) (rmf := 0) (rml := 0) [.int y0, .int (1 : Int32)] (k0 + 11) cal_X4_increase q_8_2 ⟨Nat.le_of_ble_eq_true rfl, Nat.le_of_ble_eq_true rfl⟩ rfl rfl (Nat.le_of_ble_eq_true rfl) rfl hk0.2.2.2.2.2.2.1.1 (ce4 hk0.2.2.2.2.2.2.1.1 _ _) (ctX4_increase (kl K) G X.2.2.2.2.2.2.2.1 h r5 (k0 + 11) hk0.2.2.2.2.2.2.1 y0 (1 : Int32)) dX0_join_91 (fun _ => rfl) (fun r6 => ?_)
  refine z_aload_n X dX0_join_94 1 rfl ?_
  refine z_dup X dX0_join_95 rfl ?_
  refine z_get X inlX0 rfl hk0.1 (ce0 hk0.1 _ _) 8 (by decide) q_3_7 rfl dX0_join_96 ?_
  refine z_iconst (v := (1 : Int32)) X dX0_join_99 (by decide) ?_
  refine z_iadd X dX0_join_100 ?_
  refine z_put X inlX0 rfl hk0.1 (ce0 hk0.1 _ _) 8 (by decide) q_3_7 tyX0 tyX0_ok nmX0 rfl (cp0 hk0.1 _ _ _ 8 (by decide)) rfl rfl (Nat.le_of_ble_eq_true rfl) dX0_join_101 (fun σ7 => ?_)
  refine z_aload_n X dX0_join_104 1 rfl ?_
  refine z_dup X dX0_join_105 rfl ?_
  refine z_get X inlX0 rfl hk0.1 (ce0 hk0.1 _ _) 9 (by decide) q_3_8 rfl dX0_join_106 ?_
  refine z_iconst (v := (1 : Int32)) X dX0_join_109 (by decide) ?_
  refine z_iadd X dX0_join_110 ?_
  refine z_put X inlX0 rfl hk0.1 (ce0 hk0.1 _ _) 9 (by decide) q_3_8 tyX0 tyX0_ok nmX0 rfl (cp0 hk0.1 _ _ _ 9 (by decide)) rfl rfl (Nat.le_of_ble_eq_true rfl) dX0_join_111 (fun σ8 => ?_)
  refine z_iload X dX0_join_114 5 rfl ?_
  exact z_iret X rfl dX0_join_116
def fX0_join_0 (L : Nat → Nat) (k0 : Nat) (x1 : Int32) (x2 : Int32) (σ : cS) : Option (Int32 × cS) := bnd ((σ k0 8)) (fun t1 => bnd ((σ k0 9)) (fun t2 => Option.bind (fX4_get L σ (k0 + 11) x2) (fun r3 => Option.bind (fX4_get L σ (k0 + 11) x1) (fun r4 => if r4 ≤ r3 then (fX0_join_35 L k0 x1 x2 t1 t2 x1 σ) else (fX0_join_35 L k0 x1 x2 t1 t2 x2 σ)))))
set_option maxHeartbeats 4000000 in
set_option maxRecDepth 100000 in
theorem sX0_join_0 {K : MCx} {G : Lay} (X : Cx K G RX0 cX0_join 6 (some .int) 1 22) (k0 : Nat) (hk0 : isGraph G k0) (h : Int64) (x1 : Int32) (x2 : Int32) (σ : cS) : Sm K G TT (QM K G (fun r : (Int32 × cS) => ((some (.int r.1), h, r.2) : Option Value × Int64 × cS))) 6 0 [(0, .ref (la G k0)), (1, .int x1), (2, .int x2)] [] h σ (fX0_join_0 (ll G) k0 x1 x2 σ) := by
  unfold fX0_join_0
  refine z_aload_n X dX0_join_0 0 rfl ?_
  refine z_get X inlX0 rfl hk0.1 (ce0 hk0.1 _ _) 8 (by decide) q_3_7 rfl dX0_join_1 ?_
  refine z_nm (fun t1 => ?_)
  refine z_istore_n X [(3, .int t1), (0, .ref (la G k0)), (1, .int x1), (2, .int x2)] dX0_join_4 (by decide) rfl ?_
  refine z_aload_n X dX0_join_5 1 rfl ?_
  refine z_get X inlX0 rfl hk0.1 (ce0 hk0.1 _ _) 9 (by decide) q_3_8 rfl dX0_join_6 ?_
  refine z_nm (fun t2 => ?_)
  refine z_istore X [(4, .int t2), (3, .int t1), (0, .ref (la G k0)), (1, .int x1), (2, .int x2)] dX0_join_9 (by decide) rfl ?_
  refine z_aload_n X dX0_join_11 2 rfl ?_
  refine z_get X inlX0 rfl hk0.1 (ce0 hk0.1 _ _) 5 (by decide) q_2_19 rfl dX0_join_12 ?_
  refine z_iload_n X dX0_join_15 4 rfl ?_
  refine z_callV0 X (g := (fun r3 : Int32 => ((some (.int r3), h, σ) : Option Value × Int64 × cS))) (st := []) (st1 := (fun r3 : Int32 => [.int r3])) (rmf := 0) (rml := 0) [.int x2] (k0 + 11) cal_X4_get q_6_16 ⟨Nat.le_of_ble_eq_true rfl, Nat.le_of_ble_eq_true rfl⟩ rfl rfl (Nat.le_of_ble_eq_true rfl) rfl hk0.2.2.2.2.2.2.1.1 (ce4 hk0.2.2.2.2.2.2.1.1 _ _) (ctX4_get (kl K) G X.2.2.2.2.2.2.2.1 h σ (k0 + 11) hk0.2.2.2.2.2.2.1 x2) dX0_join_16 (fun _ => rfl) (fun r3 => ?_)
  refine z_aload_n X dX0_join_19 2 rfl ?_
  refine z_get X inlX0 rfl hk0.1 (ce0 hk0.1 _ _) 5 (by decide) q_2_19 rfl dX0_join_20 ?_
  refine z_iload_n X dX0_join_23 3 rfl ?_
  refine z_callV0 X (g := (fun r4 : Int32 => ((some (.int r4), h, σ) : Option Value × Int64 × cS))) (st := [.int r3]) (st1 := (fun r4 : Int32 => [.int r4, .int r3])) (rmf := 0) (rml := 0) [.int x1] (k0 + 11) cal_X4_get q_6_16 ⟨Nat.le_of_ble_eq_true rfl, Nat.le_of_ble_eq_true rfl⟩ rfl rfl (Nat.le_of_ble_eq_true rfl) rfl hk0.2.2.2.2.2.2.1.1 (ce4 hk0.2.2.2.2.2.2.1.1 _ _) (ctX4_get (kl K) G X.2.2.2.2.2.2.2.1 h σ (k0 + 11) hk0.2.2.2.2.2.2.1 x1) dX0_join_24 (fun _ => rfl) (fun r4 => ?_)
  refine z_icmp_ge X 34 dX0_join_27 (by decide) ?_ ?_
  · refine z_iload_n X dX0_join_34 3 rfl ?_
    exact z_sub [2, 3, 4, 1, 0] rfl (sX0_join_35 X k0 hk0 h x1 x2 t1 t2 x1 σ)
  · refine z_iload_n X dX0_join_30 4 rfl ?_
    refine z_goto X 35 dX0_join_31 (by decide) ?_
    exact z_sub [2, 3, 4, 1, 0] rfl (sX0_join_35 X k0 hk0 h x1 x2 t1 t2 x2 σ)
def fX0_join (L : Nat → Nat) (σ : cS) (k0 : Nat) (x1 : Int32) (x2 : Int32) : Option (Int32 × cS) := fX0_join_0 L k0 x1 x2 σ
set_option maxHeartbeats 4000000 in
set_option maxRecDepth 100000 in
theorem ctX0_join (l : Launch) (G : Lay) (hi : Inj G) (h : Int64) (σ : cS) (k0 : Nat) (hk0 : isGraph G k0) (x1 : Int32) (x2 : Int32) : ∀ r, fX0_join (ll G) σ k0 x1 x2 = some r → CM l yX0_join cX0_join 6 (some .int) 1 22 G [.ref (la G k0), .int x1, .int x2] h σ (some (.int r.1), h, r.2) := by
  refine cm_of (g := (fun r : (Int32 × cS) => ((some (.int r.1), h, r.2) : Option Value × Int64 × cS))) (by decide) hi (Nat.le_of_ble_eq_true rfl) (fun K hKl X => ?_)
  unfold fX0_join
  exact z_sub [0, 1, 2] rfl (sX0_join_0 X k0 hk0 h x1 x2 σ)
def fX0_cut_0 (L : Nat → Nat) (Nf : Nat) (k0 : Nat) (x1 : Int32) (σ : cS) : Option (Int32 × cS) := Option.bind (fX4_get L σ (k0 + 7) x1) (fun r1 => Option.bind (fX4_increase L σ (k0 + 11) r1 (-1 : Int32)) (fun r2 => Option.bind (fX4_closeGap L Nf r2 (k0 + 1) x1) (fun r3 => Option.bind (fX4_closeGap L Nf r3 (k0 + 3) x1) (fun r4 => Option.bind (fX4_closeGap L Nf r4 (k0 + 5) x1) (fun r5 => Option.bind (fX4_closeGap L Nf r5 (k0 + 7) x1) (fun r6 => Option.bind (fX4_closeGap L Nf r6 (k0 + 9) x1) (fun r7 => bnd (st2 r7 k0 8 ((r7 k0 8) - (1 : Int32))) (fun σ8 => some (r1, σ8)))))))))
set_option maxHeartbeats 4000000 in
set_option maxRecDepth 100000 in
theorem sX0_cut_0 {K : MCx} {G : Lay} (X : Cx K G RX0 cX0_cut 3 (some .int) 1 22) (Nf : Nat) (k0 : Nat) (hk0 : isGraph G k0) (h : Int64) (x1 : Int32) (σ : cS) : Sm K G TT (QM K G (fun r : (Int32 × cS) => ((some (.int r.1), h, r.2) : Option Value × Int64 × cS))) 3 0 [(0, .ref (la G k0)), (1, .int x1)] [] h σ (fX0_cut_0 (ll G) Nf k0 x1 σ) := by
  unfold fX0_cut_0
  refine z_aload_n X dX0_cut_0 0 rfl ?_
  refine z_get X inlX0 rfl hk0.1 (ce0 hk0.1 _ _) 3 (by decide) q_2_17 rfl dX0_cut_1 ?_
  refine z_iload_n X dX0_cut_4 1 rfl ?_
  refine z_callV0 X (g := (fun r1 : Int32 => ((some (.int r1), h, σ) : Option Value × Int64 × cS))) (st := []) (st1 := (fun r1 : Int32 => [.int r1])) (rmf := 0) (rml := 0) [.int x1] (k0 + 7) cal_X4_get q_6_16 ⟨Nat.le_of_ble_eq_true rfl, Nat.le_of_ble_eq_true rfl⟩ rfl rfl (Nat.le_of_ble_eq_true rfl) rfl hk0.2.2.2.2.1.1 (ce4 hk0.2.2.2.2.1.1 _ _) (ctX4_get (kl K) G X.2.2.2.2.2.2.2.1 h σ (k0 + 7) hk0.2.2.2.2.1 x1) dX0_cut_5 (fun _ => rfl) (fun r1 => ?_)
  refine z_istore_n X [(2, .int r1), (0, .ref (la G k0)), (1, .int x1)] dX0_cut_8 (by decide) rfl ?_
  refine z_aload_n X dX0_cut_9 1 rfl ?_
  refine z_get X inlX0 rfl hk0.1 (ce0 hk0.1 _ _) 5 (by decide) q_2_19 rfl dX0_cut_10 ?_
  refine z_iload_n X dX0_cut_13 0 rfl ?_
  refine z_iconst (v := (-1 : Int32)) X dX0_cut_14 (by decide) ?_
  refine z_callV0 X (g := (fun r2 : cS => ((none, h, r2) : Option Value × Int64 × cS))) (st := []) (st1 := (fun r2 : cS => [])) (rmf := 0) (rml := 0) [.int r1, .int (-1 : Int32)] (k0 + 11) cal_X4_increase q_8_2 ⟨Nat.le_of_ble_eq_true rfl, Nat.le_of_ble_eq_true rfl⟩ rfl rfl (Nat.le_of_ble_eq_true rfl) rfl hk0.2.2.2.2.2.2.1.1 (ce4 hk0.2.2.2.2.2.2.1.1 _ _) (ctX4_increase (kl K) G X.2.2.2.2.2.2.2.1 h σ (k0 + 11) hk0.2.2.2.2.2.2.1 r1 (-1 : Int32)) dX0_cut_15 (fun _ => rfl) (fun r2 => ?_)
  refine z_aload_n X dX0_cut_18 1 rfl ?_
  refine z_get X inlX0 rfl hk0.1 (ce0 hk0.1 _ _) 0 (by decide) q_2_14 rfl dX0_cut_19 ?_
  refine z_iload_n X dX0_cut_22 2 rfl ?_
  refine z_callV0 X (g := (fun r3 : cS => ((none, h, r3) : Option Value × Int64 × cS))) (st := []) (st1 := (fun r3 : cS => [])) (rmf := 0) (rml := 0) [.int x1] (k0 + 1) cal_X4_closeGap q_14_9 ⟨Nat.le_of_ble_eq_true rfl, Nat.le_of_ble_eq_true rfl⟩ rfl rfl (Nat.le_of_ble_eq_true rfl) rfl hk0.2.1.1 (ce4 hk0.2.1.1 _ _) (ctX4_closeGap (kl K) G X.2.2.2.2.2.2.2.1 Nf h r2 (k0 + 1) hk0.2.1 x1) dX0_cut_23 (fun _ => rfl) (fun r3 => ?_)
  refine z_aload_n X dX0_cut_26 1 rfl ?_
  refine z_get X inlX0 rfl hk0.1 (ce0 hk0.1 _ _) 1 (by decide) q_2_15 rfl dX0_cut_27 ?_
  refine z_iload_n X dX0_cut_30 2 rfl ?_
  refine z_callV0 X (g := (fun r4 : cS => ((none, h, r4) : Option Value × Int64 × cS))) (st := []) (st1 := (fun r4 : cS => [])) (rmf := 0) (rml := 0) [.int x1] (k0 + 3) cal_X4_closeGap q_14_9 ⟨Nat.le_of_ble_eq_true rfl, Nat.le_of_ble_eq_true rfl⟩ rfl rfl (Nat.le_of_ble_eq_true rfl) rfl hk0.2.2.1.1 (ce4 hk0.2.2.1.1 _ _) (ctX4_closeGap (kl K) G X.2.2.2.2.2.2.2.1 Nf h r3 (k0 + 3) hk0.2.2.1 x1) dX0_cut_31 (fun _ => rfl) (fun r4 => ?_)
  refine z_aload_n X dX0_cut_34 1 rfl ?_
  refine z_get X inlX0 rfl hk0.1 (ce0 hk0.1 _ _) 2 (by decide) q_2_16 rfl dX0_cut_35 ?_
  refine z_iload_n X dX0_cut_38 2 rfl ?_
  refine z_callV0 X (g := (fun r5 : cS => ((none, h, r5) : Option Value × Int64 × cS))) (st := []) (st1 := (fun r5 : cS => [])) (rmf := 0) (rml := 0) [.int x1] (k0 + 5) cal_X4_closeGap q_14_9 ⟨Nat.le_of_ble_eq_true rfl, Nat.le_of_ble_eq_true rfl⟩ rfl rfl (Nat.le_of_ble_eq_true rfl) rfl hk0.2.2.2.1.1 (ce4 hk0.2.2.2.1.1 _ _) (ctX4_closeGap (kl K) G X.2.2.2.2.2.2.2.1 Nf h r4 (k0 + 5) hk0.2.2.2.1 x1) dX0_cut_39 (fun _ => rfl) (fun r5 => ?_)
  refine z_aload_n X dX0_cut_42 1 rfl ?_
  refine z_get X inlX0 rfl hk0.1 (ce0 hk0.1 _ _) 3 (by decide) q_2_17 rfl dX0_cut_43 ?_
  refine z_iload_n X dX0_cut_46 2 rfl ?_
  refine z_callV0 X (g := (fun r6 : cS => ((none, h, r6) : Option Value × Int64 × cS))) (st := []) (st1 := (fun r6 : cS => [])) (rmf := 0) (rml := 0) [.int x1] (k0 + 7) cal_X4_closeGap q_14_9 ⟨Nat.le_of_ble_eq_true rfl, Nat.le_of_ble_eq_true rfl⟩ rfl rfl (Nat.le_of_ble_eq_true rfl) rfl hk0.2.2.2.2.1.1 (ce4 hk0.2.2.2.2.1.1 _ _) (ctX4_closeGap (kl K) G X.2.2.2.2.2.2.2.1 Nf h r5 (k0 + 7) hk0.2.2.2.2.1 x1) dX0_cut_47 (fun _ => rfl) (fun r6 => ?_)
  refine z_aload_n X dX0_cut_50 1 rfl ?_
  refine z_get X inlX0 rfl hk0.1 (ce0 hk0.1 _ _) 4 (by decide) q_2_18 rfl dX0_cut_51 ?_
  refine z_iload_n X dX0_cut_54 2 rfl ?_
  refine z_callV0 X (g := (fun r7 : cS => ((none, h, r7) : Option Value × Int64 × cS))) (st := []) (st1 := (fun r7 : cS => [])) (rmf := 0) (rml := 0) [.int x1] (k0 + 9) cal_X4_closeGap q_14_9 ⟨Nat.le_of_ble_eq_true rfl, Nat.le_of_ble_eq_true rfl⟩ rfl rfl (Nat.le_of_ble_eq_true rfl) rfl hk0.2.2.2.2.2.1.1 (ce4 hk0.2.2.2.2.2.1.1 _ _) (ctX4_closeGap (kl K) G X.2.2.2.2.2.2.2.1 Nf h r6 (k0 + 9) hk0.2.2.2.2.2.1 x1) dX0_cut_55 (fun _ => rfl) (fun r7 => ?_)
  refine z_aload_n X dX0_cut_58 1 rfl ?_
  refine z_dup X dX0_cut_59 rfl ?_
  refine z_get X inlX0 rfl hk0.1 (ce0 hk0.1 _ _) 8 (by decide) q_3_7 rfl dX0_cut_60 ?_
  refine z_iconst (v := (1 : Int32)) X dX0_cut_63 (by decide) ?_
  refine z_isub X dX0_cut_64 ?_
  refine z_put X inlX0 rfl hk0.1 (ce0 hk0.1 _ _) 8 (by decide) q_3_7 tyX0 tyX0_ok nmX0 rfl (cp0 hk0.1 _ _ _ 8 (by decide)) rfl rfl (Nat.le_of_ble_eq_true rfl) dX0_cut_65 (fun σ8 => ?_)
  refine z_iload_n X dX0_cut_68 0 rfl ?_
  exact z_iret X rfl dX0_cut_69
def fX0_cut (L : Nat → Nat) (Nf : Nat) (σ : cS) (k0 : Nat) (x1 : Int32) : Option (Int32 × cS) := fX0_cut_0 L Nf k0 x1 σ
set_option maxHeartbeats 4000000 in
set_option maxRecDepth 100000 in
theorem ctX0_cut (l : Launch) (G : Lay) (hi : Inj G) (Nf : Nat) (h : Int64) (σ : cS) (k0 : Nat) (hk0 : isGraph G k0) (x1 : Int32) : ∀ r, fX0_cut (ll G) Nf σ k0 x1 = some r → CM l yX0_cut cX0_cut 3 (some .int) 1 22 G [.ref (la G k0), .int x1] h σ (some (.int r.1), h, r.2) := by
  refine cm_of (g := (fun r : (Int32 × cS) => ((some (.int r.1), h, r.2) : Option Value × Int64 × cS))) (by decide) hi (Nat.le_of_ble_eq_true rfl) (fun K hKl X => ?_)
  unfold fX0_cut
  exact z_sub [0, 1] rfl (sX0_cut_0 X Nf k0 hk0 h x1 σ)
def fX0_flip_0 (L : Nat → Nat) (k0 : Nat) (x1 : Int32) (σ : cS) : Option (Int32 × cS) := Option.bind (fX4_get L σ (k0 + 7) x1) (fun r1 => Option.bind (fX4_get L σ (k0 + 3) x1) (fun r2 => Option.bind (fX4_get L σ (k0 + 5) x1) (fun r3 => bnd (((r2 + r3) - r1)) (fun t4 => Option.bind (fX4_increase L σ (k0 + 11) r1 (-1 : Int32)) (fun r5 => Option.bind (fX4_increase L r5 (k0 + 11) t4 (1 : Int32)) (fun r6 => Option.bind (fX4_set L r6 (k0 + 7) x1 t4) (fun r7 => Option.bind (fX4_increase L r7 (k0 + 9) x1 (1 : Int32)) (fun r8 => bnd (st2 r8 k0 10 ((r8 k0 10) + (1 : Int32))) (fun σ9 => some (t4, σ9))))))))))
set_option maxHeartbeats 4000000 in
set_option maxRecDepth 100000 in
theorem sX0_flip_0 {K : MCx} {G : Lay} (X : Cx K G RX0 cX0_flip 4 (some .int) 1 22) (k0 : Nat) (hk0 : isGraph G k0) (h : Int64) (x1 : Int32) (σ : cS) : Sm K G TT (QM K G (fun r : (Int32 × cS) => ((some (.int r.1), h, r.2) : Option Value × Int64 × cS))) 4 0 [(0, .ref (la G k0)), (1, .int x1)] [] h σ (fX0_flip_0 (ll G) k0 x1 σ) := by
  unfold fX0_flip_0
  refine z_aload_n X dX0_flip_0 0 rfl ?_
  refine z_get X inlX0 rfl hk0.1 (ce0 hk0.1 _ _) 3 (by decide) q_2_17 rfl dX0_flip_1 ?_
  refine z_iload_n X dX0_flip_4 1 rfl ?_
  refine z_callV0 X (g := (fun r1 : Int32 => ((some (.int r1), h, σ) : Option Value × Int64 × cS))) (st := []) (st1 := (fun r1 : Int32 => [.int r1])) (rmf := 0) (rml := 0) [.int x1] (k0 + 7) cal_X4_get q_6_16 ⟨Nat.le_of_ble_eq_true rfl, Nat.le_of_ble_eq_true rfl⟩ rfl rfl (Nat.le_of_ble_eq_true rfl) rfl hk0.2.2.2.2.1.1 (ce4 hk0.2.2.2.2.1.1 _ _) (ctX4_get (kl K) G X.2.2.2.2.2.2.2.1 h σ (k0 + 7) hk0.2.2.2.2.1 x1) dX0_flip_5 (fun _ => rfl) (fun r1 => ?_)
  refine z_istore_n X [(2, .int r1), (0, .ref (la G k0)), (1, .int x1)] dX0_flip_8 (by decide) rfl ?_
  refine z_aload_n X dX0_flip_9 1 rfl ?_
  refine z_get X inlX0 rfl hk0.1 (ce0 hk0.1 _ _) 1 (by decide) q_2_15 rfl dX0_flip_10 ?_
  refine z_iload_n X dX0_flip_13 2 rfl ?_
  refine z_callV0 X (g := (fun r2 : Int32 => ((some (.int r2), h, σ) : Option Value × Int64 × cS))) (st := []) (st1 := (fun r2 : Int32 => [.int r2])) (rmf := 0) (rml := 0) [.int x1] (k0 + 3) cal_X4_get q_6_16 ⟨Nat.le_of_ble_eq_true rfl, Nat.le_of_ble_eq_true rfl⟩ rfl rfl (Nat.le_of_ble_eq_true rfl) rfl hk0.2.2.1.1 (ce4 hk0.2.2.1.1 _ _) (ctX4_get (kl K) G X.2.2.2.2.2.2.2.1 h σ (k0 + 3) hk0.2.2.1 x1) dX0_flip_14 (fun _ => rfl) (fun r2 => ?_)
  refine z_aload_n X dX0_flip_17 1 rfl ?_
  refine z_get X inlX0 rfl hk0.1 (ce0 hk0.1 _ _) 2 (by decide) q_2_16 rfl dX0_flip_18 ?_
  refine z_iload_n X dX0_flip_21 2 rfl ?_
  refine z_callV0 X (g := (fun r3 : Int32 => ((some (.int r3), h, σ) : Option Value × Int64 × cS))) (st := [.int r2]) (st1 := (fun r3 : Int32 => [.int r3, .int r2])) (rmf := 0) (rml := 0) [.int x1] (k0 + 5) cal_X4_get q_6_16 ⟨Nat.le_of_ble_eq_true rfl, Nat.le_of_ble_eq_true rfl⟩ rfl rfl (Nat.le_of_ble_eq_true rfl) rfl hk0.2.2.2.1.1 (ce4 hk0.2.2.2.1.1 _ _) (ctX4_get (kl K) G X.2.2.2.2.2.2.2.1 h σ (k0 + 5) hk0.2.2.2.1 x1) dX0_flip_22 (fun _ => rfl) (fun r3 => ?_)
  refine z_iadd X dX0_flip_25 ?_
  refine z_iload_n X dX0_flip_26 0 rfl ?_
  refine z_isub X dX0_flip_27 ?_
  refine z_nm (fun t4 => ?_)
  refine z_istore_n X [(3, .int t4), (2, .int r1), (0, .ref (la G k0)), (1, .int x1)] dX0_flip_28 (by decide) rfl ?_
  refine z_aload_n X dX0_flip_29 2 rfl ?_
  refine z_get X inlX0 rfl hk0.1 (ce0 hk0.1 _ _) 5 (by decide) q_2_19 rfl dX0_flip_30 ?_
  refine z_iload_n X dX0_flip_33 1 rfl ?_
  refine z_iconst (v := (-1 : Int32)) X dX0_flip_34 (by decide) ?_
  refine z_callV0 X (g := (fun r5 : cS => ((none, h, r5) : Option Value × Int64 × cS))) (st := []) (st1 := (fun r5 : cS => [])) (rmf := 0) (rml := 0) [.int r1, .int (-1 : Int32)] (k0 + 11) cal_X4_increase q_8_2 ⟨Nat.le_of_ble_eq_true rfl, Nat.le_of_ble_eq_true rfl⟩ rfl rfl (Nat.le_of_ble_eq_true rfl) rfl hk0.2.2.2.2.2.2.1.1 (ce4 hk0.2.2.2.2.2.2.1.1 _ _) (ctX4_increase (kl K) G X.2.2.2.2.2.2.2.1 h σ (k0 + 11) hk0.2.2.2.2.2.2.1 r1 (-1 : Int32)) dX0_flip_35 (fun _ => rfl) (fun r5 => ?_)
  refine z_aload_n X dX0_flip_38 2 rfl ?_
  refine z_get X inlX0 rfl hk0.1 (ce0 hk0.1 _ _) 5 (by decide) q_2_19 rfl dX0_flip_39 ?_
  refine z_iload_n X dX0_flip_42 0 rfl ?_
  refine z_iconst (v := (1 : Int32)) X dX0_flip_43 (by decide) ?_
  refine z_callV0 X (g := (fun r6 : cS => ((none, h, r6) : Option Value × Int64 × cS))) (st := []) (st1 := (fun r6 : cS => [])) (rmf := 0) (rml := 0) [.int t4, .int (1 : Int32)] (k0 + 11) cal_X4_increase q_8_2 ⟨Nat.le_of_ble_eq_true rfl, Nat.le_of_ble_eq_true rfl⟩ rfl rfl (Nat.le_of_ble_eq_true rfl) rfl hk0.2.2.2.2.2.2.1.1 (ce4 hk0.2.2.2.2.2.2.1.1 _ _) (ctX4_increase (kl K) G X.2.2.2.2.2.2.2.1 h r5 (k0 + 11) hk0.2.2.2.2.2.2.1 t4 (1 : Int32)) dX0_flip_44 (fun _ => rfl) (fun r6 => ?_)
  refine z_aload_n X dX0_flip_47 2 rfl ?_
  refine z_get X inlX0 rfl hk0.1 (ce0 hk0.1 _ _) 3 (by decide) q_2_17 rfl dX0_flip_48 ?_
  refine z_iload_n X dX0_flip_51 3 rfl ?_
  refine z_iload_n X dX0_flip_52 0 rfl ?_
  refine z_callV0 X (g := (fun r7 : cS => ((none, h, r7) : Option Value × Int64 × cS))) (st := []) (st1 := (fun r7 : cS => [])) (rmf := 0) (rml := 0) [.int x1, .int t4] (k0 + 7) cal_X4_set q_13_17 ⟨Nat.le_of_ble_eq_true rfl, Nat.le_of_ble_eq_true rfl⟩ rfl rfl (Nat.le_of_ble_eq_true rfl) rfl hk0.2.2.2.2.1.1 (ce4 hk0.2.2.2.2.1.1 _ _) (ctX4_set (kl K) G X.2.2.2.2.2.2.2.1 h r6 (k0 + 7) hk0.2.2.2.2.1 x1 t4) dX0_flip_53 (fun _ => rfl) (fun r7 => ?_)
  refine z_aload_n X dX0_flip_56 2 rfl ?_
  refine z_get X inlX0 rfl hk0.1 (ce0 hk0.1 _ _) 4 (by decide) q_2_18 rfl dX0_flip_57 ?_
  refine z_iload_n X dX0_flip_60 3 rfl ?_
  refine z_iconst (v := (1 : Int32)) X dX0_flip_61 (by decide) ?_
  refine z_callV0 X (g := (fun r8 : cS => ((none, h, r8) : Option Value × Int64 × cS))) (st := []) (st1 := (fun r8 : cS => [])) (rmf := 0) (rml := 0) [.int x1, .int (1 : Int32)] (k0 + 9) cal_X4_increase q_8_2 ⟨Nat.le_of_ble_eq_true rfl, Nat.le_of_ble_eq_true rfl⟩ rfl rfl (Nat.le_of_ble_eq_true rfl) rfl hk0.2.2.2.2.2.1.1 (ce4 hk0.2.2.2.2.2.1.1 _ _) (ctX4_increase (kl K) G X.2.2.2.2.2.2.2.1 h r7 (k0 + 9) hk0.2.2.2.2.2.1 x1 (1 : Int32)) dX0_flip_62 (fun _ => rfl) (fun r8 => ?_)
  refine z_aload_n X dX0_flip_65 2 rfl ?_
  refine z_dup X dX0_flip_66 rfl ?_
  refine z_get X inlX0 rfl hk0.1 (ce0 hk0.1 _ _) 10 (by decide) q_3_9 rfl dX0_flip_67 ?_
  refine z_iconst (v := (1 : Int32)) X dX0_flip_70 (by decide) ?_
  refine z_iadd X dX0_flip_71 ?_
  refine z_put X inlX0 rfl hk0.1 (ce0 hk0.1 _ _) 10 (by decide) q_3_9 tyX0 tyX0_ok nmX0 rfl (cp0 hk0.1 _ _ _ 10 (by decide)) rfl rfl (Nat.le_of_ble_eq_true rfl) dX0_flip_72 (fun σ9 => ?_)
  refine z_iload_n X dX0_flip_75 0 rfl ?_
  exact z_iret X rfl dX0_flip_76
def fX0_flip (L : Nat → Nat) (σ : cS) (k0 : Nat) (x1 : Int32) : Option (Int32 × cS) := fX0_flip_0 L k0 x1 σ
set_option maxHeartbeats 4000000 in
set_option maxRecDepth 100000 in
theorem ctX0_flip (l : Launch) (G : Lay) (hi : Inj G) (h : Int64) (σ : cS) (k0 : Nat) (hk0 : isGraph G k0) (x1 : Int32) : ∀ r, fX0_flip (ll G) σ k0 x1 = some r → CM l yX0_flip cX0_flip 4 (some .int) 1 22 G [.ref (la G k0), .int x1] h σ (some (.int r.1), h, r.2) := by
  refine cm_of (g := (fun r : (Int32 × cS) => ((some (.int r.1), h, r.2) : Option Value × Int64 × cS))) (by decide) hi (Nat.le_of_ble_eq_true rfl) (fun K hKl X => ?_)
  unfold fX0_flip
  exact z_sub [0, 1] rfl (sX0_flip_0 X k0 hk0 h x1 σ)
def fX0_endNotHolding_0 (L : Nat → Nat) (σ : cS) (k0 : Nat) (x1 : Int32)  : Option Int32 := Option.bind (fX4_get L σ (k0 + 3) x1) (fun r1 => Option.bind (fX4_get L σ (k0 + 5) x1) (fun r2 => Option.bind (fX4_get L σ (k0 + 7) x1) (fun r3 => some ((r1 + r2) - r3))))
set_option maxHeartbeats 4000000 in
set_option maxRecDepth 100000 in
theorem sX0_endNotHolding_0 {K : MCx} {G : Lay} (X : Cx K G RX0 cX0_endNotHolding 2 (some .int) 1 21) (k0 : Nat) (hk0 : isGraph G k0) (h : Int64) (σ : cS) (x1 : Int32) : Sm K G TT (QM K G (fun r : Int32 => ((some (.int r), h, σ) : Option Value × Int64 × cS))) 2 0 [(0, .ref (la G k0)), (1, .int x1)] [] h σ (fX0_endNotHolding_0 (ll G) σ k0 x1) := by
  unfold fX0_endNotHolding_0
  refine z_aload_n X dX0_endNotHolding_0 0 rfl ?_
  refine z_get X inlX0 rfl hk0.1 (ce0 hk0.1 _ _) 1 (by decide) q_2_15 rfl dX0_endNotHolding_1 ?_
  refine z_iload_n X dX0_endNotHolding_4 1 rfl ?_
  refine z_callV0 X (g := (fun r1 : Int32 => ((some (.int r1), h, σ) : Option Value × Int64 × cS))) (st := []) (st1 := (fun r1 : Int32 => [.int r1])) (rmf := 0) (rml := 0) [.int x1] (k0 + 3) cal_X4_get q_6_16 ⟨Nat.le_of_ble_eq_true rfl, Nat.le_of_ble_eq_true rfl⟩ rfl rfl (Nat.le_of_ble_eq_true rfl) rfl hk0.2.2.1.1 (ce4 hk0.2.2.1.1 _ _) (ctX4_get (kl K) G X.2.2.2.2.2.2.2.1 h σ (k0 + 3) hk0.2.2.1 x1) dX0_endNotHolding_5 (fun _ => rfl) (fun r1 => ?_)
  refine z_aload_n X dX0_endNotHolding_8 0 rfl ?_
  refine z_get X inlX0 rfl hk0.1 (ce0 hk0.1 _ _) 2 (by decide) q_2_16 rfl dX0_endNotHolding_9 ?_
  refine z_iload_n X dX0_endNotHolding_12 1 rfl ?_
  refine z_callV0 X (g := (fun r2 : Int32 => ((some (.int r2), h, σ) : Option Value × Int64 × cS))) (st := [.int r1]) (st1 := (fun r2 : Int32 => [.int r2, .int r1])) (rmf := 0) (rml := 0) [.int x1] (k0 + 5) cal_X4_get q_6_16 ⟨Nat.le_of_ble_eq_true rfl, Nat.le_of_ble_eq_true rfl⟩ rfl rfl (Nat.le_of_ble_eq_true rfl) rfl hk0.2.2.2.1.1 (ce4 hk0.2.2.2.1.1 _ _) (ctX4_get (kl K) G X.2.2.2.2.2.2.2.1 h σ (k0 + 5) hk0.2.2.2.1 x1) dX0_endNotHolding_13 (fun _ => rfl) (fun r2 => ?_)
  refine z_iadd X dX0_endNotHolding_16 ?_
  refine z_aload_n X dX0_endNotHolding_17 0 rfl ?_
  refine z_get X inlX0 rfl hk0.1 (ce0 hk0.1 _ _) 3 (by decide) q_2_17 rfl dX0_endNotHolding_18 ?_
  refine z_iload_n X dX0_endNotHolding_21 1 rfl ?_
  refine z_callV0 X (g := (fun r3 : Int32 => ((some (.int r3), h, σ) : Option Value × Int64 × cS))) (st := [.int (r1 + r2)]) (st1 := (fun r3 : Int32 => [.int r3, .int (r1 + r2)])) (rmf := 0) (rml := 0) [.int x1] (k0 + 7) cal_X4_get q_6_16 ⟨Nat.le_of_ble_eq_true rfl, Nat.le_of_ble_eq_true rfl⟩ rfl rfl (Nat.le_of_ble_eq_true rfl) rfl hk0.2.2.2.2.1.1 (ce4 hk0.2.2.2.2.1.1 _ _) (ctX4_get (kl K) G X.2.2.2.2.2.2.2.1 h σ (k0 + 7) hk0.2.2.2.2.1 x1) dX0_endNotHolding_22 (fun _ => rfl) (fun r3 => ?_)
  refine z_isub X dX0_endNotHolding_25 ?_
  exact z_iret X rfl dX0_endNotHolding_26
def fX0_endNotHolding (L : Nat → Nat) (σ : cS) (k0 : Nat) (x1 : Int32) : Option Int32 := fX0_endNotHolding_0 L σ k0 x1
set_option maxHeartbeats 4000000 in
set_option maxRecDepth 100000 in
theorem ctX0_endNotHolding (l : Launch) (G : Lay) (hi : Inj G) (h : Int64) (σ : cS) (k0 : Nat) (hk0 : isGraph G k0) (x1 : Int32) : ∀ r, fX0_endNotHolding (ll G) σ k0 x1 = some r → CM l yX0_endNotHolding cX0_endNotHolding 2 (some .int) 1 21 G [.ref (la G k0), .int x1] h σ (some (.int r), h, σ) := by
  refine cm_of (g := (fun r : Int32 => ((some (.int r), h, σ) : Option Value × Int64 × cS))) (by decide) hi (Nat.le_of_ble_eq_true rfl) (fun K hKl X => ?_)
  unfold fX0_endNotHolding
  exact z_sub [0, 1] rfl (sX0_endNotHolding_0 X k0 hk0 h σ x1)
def fX0_endsOf_0 (L : Nat → Nat) (σ : cS) (k0 : Nat) (x1 : Int32)  : Option Int32 := Option.bind (fX4_get L σ (k0 + 3) x1) (fun r1 => Option.bind (fX4_get L σ (k0 + 5) x1) (fun r2 => some (((1 : Int32) <<< (r1 &&& 31)) ||| ((1 : Int32) <<< (r2 &&& 31)))))
set_option maxHeartbeats 4000000 in
set_option maxRecDepth 100000 in
theorem sX0_endsOf_0 {K : MCx} {G : Lay} (X : Cx K G RX0 cX0_endsOf 2 (some .int) 1 21) (k0 : Nat) (hk0 : isGraph G k0) (h : Int64) (σ : cS) (x1 : Int32) : Sm K G TT (QM K G (fun r : Int32 => ((some (.int r), h, σ) : Option Value × Int64 × cS))) 2 0 [(0, .ref (la G k0)), (1, .int x1)] [] h σ (fX0_endsOf_0 (ll G) σ k0 x1) := by
  unfold fX0_endsOf_0
  refine z_iconst (v := (1 : Int32)) X dX0_endsOf_0 (by decide) ?_
  refine z_aload_n X dX0_endsOf_1 0 rfl ?_
  refine z_get X inlX0 rfl hk0.1 (ce0 hk0.1 _ _) 1 (by decide) q_2_15 rfl dX0_endsOf_2 ?_
  refine z_iload_n X dX0_endsOf_5 1 rfl ?_
  refine z_callV0 X (g := (fun r1 : Int32 => ((some (.int r1), h, σ) : Option Value × Int64 × cS))) (st := [.int (1 : Int32)]) (st1 := (fun r1 : Int32 => [.int r1, .int (1 : Int32)])) (rmf := 0) (rml := 0) [.int x1] (k0 + 3) cal_X4_get q_6_16 ⟨Nat.le_of_ble_eq_true rfl, Nat.le_of_ble_eq_true rfl⟩ rfl rfl (Nat.le_of_ble_eq_true rfl) rfl hk0.2.2.1.1 (ce4 hk0.2.2.1.1 _ _) (ctX4_get (kl K) G X.2.2.2.2.2.2.2.1 h σ (k0 + 3) hk0.2.2.1 x1) dX0_endsOf_6 (fun _ => rfl) (fun r1 => ?_)
  refine z_ishl X dX0_endsOf_9 ?_
  refine z_iconst (v := (1 : Int32)) X dX0_endsOf_10 (by decide) ?_
  refine z_aload_n X dX0_endsOf_11 0 rfl ?_
  refine z_get X inlX0 rfl hk0.1 (ce0 hk0.1 _ _) 2 (by decide) q_2_16 rfl dX0_endsOf_12 ?_
  refine z_iload_n X dX0_endsOf_15 1 rfl ?_
  refine z_callV0 X (g := (fun r2 : Int32 => ((some (.int r2), h, σ) : Option Value × Int64 × cS))) (st := [.int (1 : Int32), .int ((1 : Int32) <<< (r1 &&& 31))]) (st1 := (fun r2 : Int32 => [.int r2, .int (1 : Int32), .int ((1 : Int32) <<< (r1 &&& 31))])) (rmf := 0) (rml := 0) [.int x1] (k0 + 5) cal_X4_get q_6_16 ⟨Nat.le_of_ble_eq_true rfl, Nat.le_of_ble_eq_true rfl⟩ rfl rfl (Nat.le_of_ble_eq_true rfl) rfl hk0.2.2.2.1.1 (ce4 hk0.2.2.2.1.1 _ _) (ctX4_get (kl K) G X.2.2.2.2.2.2.2.1 h σ (k0 + 5) hk0.2.2.2.1 x1) dX0_endsOf_16 (fun _ => rfl) (fun r2 => ?_)
  refine z_ishl X dX0_endsOf_19 ?_
  refine z_ior X dX0_endsOf_20 ?_
  exact z_iret X rfl dX0_endsOf_21
def fX0_endsOf (L : Nat → Nat) (σ : cS) (k0 : Nat) (x1 : Int32) : Option Int32 := fX0_endsOf_0 L σ k0 x1
set_option maxHeartbeats 4000000 in
set_option maxRecDepth 100000 in
theorem ctX0_endsOf (l : Launch) (G : Lay) (hi : Inj G) (h : Int64) (σ : cS) (k0 : Nat) (hk0 : isGraph G k0) (x1 : Int32) : ∀ r, fX0_endsOf (ll G) σ k0 x1 = some r → CM l yX0_endsOf cX0_endsOf 2 (some .int) 1 21 G [.ref (la G k0), .int x1] h σ (some (.int r), h, σ) := by
  refine cm_of (g := (fun r : Int32 => ((some (.int r), h, σ) : Option Value × Int64 × cS))) (by decide) hi (Nat.le_of_ble_eq_true rfl) (fun K hKl X => ?_)
  unfold fX0_endsOf
  exact z_sub [0, 1] rfl (sX0_endsOf_0 X k0 hk0 h σ x1)
def fX0_edgesOf_27 (L : Nat → Nat) (Nf : Nat) (σ : cS) (k0 : Nat) (self4 : Int32 → Int32 → Int32 → Option Int32) (x1 : Int32) (x2 : Int32) (x3 : Int32)  : Option Int32 := bnd (x3 + (1 : Int32)) (fun t1 => self4 x1 x2 t1)
set_option maxHeartbeats 4000000 in
set_option maxRecDepth 100000 in
theorem sX0_edgesOf_27 {K : MCx} {G : Lay} (X : Cx K G RX0 cX0_edgesOf 4 (some .int) 2 42) (Nf : Nat) (k0 : Nat) (hk0 : isGraph G k0) (h : Int64) (σ : cS) (self4 : Int32 → Int32 → Int32 → Option Int32) (hself4 : ∀ (x1 : Int32) (x2 : Int32) (x3 : Int32), Sm K G TT (QM K G (fun r : Int32 => ((some (.int r), h, σ) : Option Value × Int64 × cS))) 4 4 [(0, .ref (la G k0)), (1, .int x1), (2, .int x2), (3, .int x3)] [] h σ (self4 x1 x2 x3)) (x1 : Int32) (x2 : Int32) (x3 : Int32) : Sm K G TT (QM K G (fun r : Int32 => ((some (.int r), h, σ) : Option Value × Int64 × cS))) 4 27 [(0, .ref (la G k0)), (1, .int x1), (2, .int x2), (3, .int x3)] [] h σ (fX0_edgesOf_27 (ll G) Nf σ k0 self4 x1 x2 x3) := by
  unfold fX0_edgesOf_27
  refine z_iinc X (fun t1 => [(3, .int t1), (0, .ref (la G k0)), (1, .int x1), (2, .int x2)]) dX0_edgesOf_27 3 rfl (by decide) (by decide) (fun _ => rfl) (fun t1 => ?_)
  refine z_goto X 4 dX0_edgesOf_30 (by decide) ?_
  exact z_sub [1, 2, 3, 0] rfl (hself4 x1 x2 t1)
def fX0_edgesOf_4 (L : Nat → Nat) (Nf : Nat) (σ : cS) (k0 : Nat) : Nat → Int32 → Int32 → Int32 → Option Int32
  | 0, _, _, _ => none
  | n + 1, x1, x2, x3 => if (σ k0 8) ≤ x3 then (some x2) else (Option.bind (fX0_endsOf L σ k0 x3) (fun r1 => if (r1 &&& ((1 : Int32) <<< (x1 &&& 31))) = 0 then (fX0_edgesOf_27 L Nf σ k0 (fX0_edgesOf_4 L Nf σ k0 n) x1 x2 x3) else (bnd (x2 + (1 : Int32)) (fun t2 => fX0_edgesOf_27 L Nf σ k0 (fX0_edgesOf_4 L Nf σ k0 n) x1 t2 x3))))
set_option maxHeartbeats 4000000 in
set_option maxRecDepth 100000 in
theorem sX0_edgesOf_4 {K : MCx} {G : Lay} (X : Cx K G RX0 cX0_edgesOf 4 (some .int) 2 42) (Nf : Nat) (k0 : Nat) (hk0 : isGraph G k0) (h : Int64) (σ : cS) : ∀ (n : Nat) (x1 : Int32) (x2 : Int32) (x3 : Int32), Sm K G TT (QM K G (fun r : Int32 => ((some (.int r), h, σ) : Option Value × Int64 × cS))) 4 4 [(0, .ref (la G k0)), (1, .int x1), (2, .int x2), (3, .int x3)] [] h σ (fX0_edgesOf_4 (ll G) Nf σ k0 n x1 x2 x3) := by
  intro n
  induction n with
  | zero => intros; exact z_none
  | succ n ih =>
    intro x1 x2 x3
    unfold fX0_edgesOf_4
    refine z_iload_n X dX0_edgesOf_4 3 rfl ?_
    refine z_aload_n X dX0_edgesOf_5 0 rfl ?_
    refine z_get X inlX0 rfl hk0.1 (ce0 hk0.1 _ _) 8 (by decide) q_3_7 rfl dX0_edgesOf_6 ?_
    refine z_icmp_ge X 33 dX0_edgesOf_9 (by decide) ?_ ?_
    · refine z_iload_n X dX0_edgesOf_33 2 rfl ?_
      exact z_iret X rfl dX0_edgesOf_34
    · refine z_aload_n X dX0_edgesOf_12 0 rfl ?_
      refine z_iload_n X dX0_edgesOf_13 3 rfl ?_
      refine z_callV0 X (g := (fun r1 : Int32 => ((some (.int r1), h, σ) : Option Value × Int64 × cS))) (st := []) (st1 := (fun r1 : Int32 => [.int r1])) (rmf := 1) (rml := 21) [.int x3] k0 cal_X0_endsOf q_9_22 ⟨Nat.le_of_ble_eq_true rfl, Nat.le_of_ble_eq_true rfl⟩ rfl rfl (Nat.le_of_ble_eq_true rfl) rfl hk0.1 (ce0 hk0.1 _ _) (ctX0_endsOf (kl K) G X.2.2.2.2.2.2.2.1 h σ k0 hk0 x3) dX0_edgesOf_14 (fun _ => rfl) (fun r1 => ?_)
      refine z_iconst (v := (1 : Int32)) X dX0_edgesOf_17 (by decide) ?_
      refine z_iload_n X dX0_edgesOf_18 1 rfl ?_
      refine z_ishl X dX0_edgesOf_19 ?_
      refine z_iand X dX0_edgesOf_20 ?_
      refine z_if_eq X 27 dX0_edgesOf_21 (by decide) ?_ ?_
      · exact z_sub [0, 1, 2, 3] rfl (sX0_edgesOf_27 X Nf k0 hk0 h σ (fX0_edgesOf_4 (ll G) Nf σ k0 n) ih x1 x2 x3)
      · refine z_iinc X (fun t2 => [(2, .int t2), (0, .ref (la G k0)), (1, .int x1), (3, .int x3)]) dX0_edgesOf_24 2 rfl (by decide) (by decide) (fun _ => rfl) (fun t2 => ?_)
        exact z_sub [1, 2, 0, 3] rfl (sX0_edgesOf_27 X Nf k0 hk0 h σ (fX0_edgesOf_4 (ll G) Nf σ k0 n) ih x1 t2 x3)
def fX0_edgesOf_0 (L : Nat → Nat) (Nf : Nat) (σ : cS) (k0 : Nat) (x1 : Int32)  : Option Int32 := fX0_edgesOf_4 L Nf σ k0 Nf x1 (0 : Int32) (0 : Int32)
set_option maxHeartbeats 4000000 in
set_option maxRecDepth 100000 in
theorem sX0_edgesOf_0 {K : MCx} {G : Lay} (X : Cx K G RX0 cX0_edgesOf 4 (some .int) 2 42) (Nf : Nat) (k0 : Nat) (hk0 : isGraph G k0) (h : Int64) (σ : cS) (x1 : Int32) : Sm K G TT (QM K G (fun r : Int32 => ((some (.int r), h, σ) : Option Value × Int64 × cS))) 4 0 [(0, .ref (la G k0)), (1, .int x1)] [] h σ (fX0_edgesOf_0 (ll G) Nf σ k0 x1) := by
  unfold fX0_edgesOf_0
  refine z_iconst (v := (0 : Int32)) X dX0_edgesOf_0 (by decide) ?_
  refine z_istore_n X [(2, .int (0 : Int32)), (0, .ref (la G k0)), (1, .int x1)] dX0_edgesOf_1 (by decide) rfl ?_
  refine z_iconst (v := (0 : Int32)) X dX0_edgesOf_2 (by decide) ?_
  refine z_istore_n X [(3, .int (0 : Int32)), (2, .int (0 : Int32)), (0, .ref (la G k0)), (1, .int x1)] dX0_edgesOf_3 (by decide) rfl ?_
  exact z_sub [2, 3, 1, 0] rfl (sX0_edgesOf_4 X Nf k0 hk0 h σ Nf x1 (0 : Int32) (0 : Int32))
def fX0_edgesOf (L : Nat → Nat) (Nf : Nat) (σ : cS) (k0 : Nat) (x1 : Int32) : Option Int32 := fX0_edgesOf_0 L Nf σ k0 x1
set_option maxHeartbeats 4000000 in
set_option maxRecDepth 100000 in
theorem ctX0_edgesOf (l : Launch) (G : Lay) (hi : Inj G) (Nf : Nat) (h : Int64) (σ : cS) (k0 : Nat) (hk0 : isGraph G k0) (x1 : Int32) : ∀ r, fX0_edgesOf (ll G) Nf σ k0 x1 = some r → CM l yX0_edgesOf cX0_edgesOf 4 (some .int) 2 42 G [.ref (la G k0), .int x1] h σ (some (.int r), h, σ) := by
  refine cm_of (g := (fun r : Int32 => ((some (.int r), h, σ) : Option Value × Int64 × cS))) (by decide) hi (Nat.le_of_ble_eq_true rfl) (fun K hKl X => ?_)
  unfold fX0_edgesOf
  exact z_sub [0, 1] rfl (sX0_edgesOf_0 X Nf k0 hk0 h σ x1)
def fX0_neighboursOf_32 (L : Nat → Nat) (Nf : Nat) (σ : cS) (k0 : Nat) (self4 : Int32 → Int32 → Int32 → Option Int32) (x1 : Int32) (x2 : Int32) (x3 : Int32)  : Option Int32 := bnd (x3 + (1 : Int32)) (fun t1 => self4 x1 x2 t1)
set_option maxHeartbeats 4000000 in
set_option maxRecDepth 100000 in
theorem sX0_neighboursOf_32 {K : MCx} {G : Lay} (X : Cx K G RX0 cX0_neighboursOf 4 (some .int) 2 42) (Nf : Nat) (k0 : Nat) (hk0 : isGraph G k0) (h : Int64) (σ : cS) (self4 : Int32 → Int32 → Int32 → Option Int32) (hself4 : ∀ (x1 : Int32) (x2 : Int32) (x3 : Int32), Sm K G TT (QM K G (fun r : Int32 => ((some (.int r), h, σ) : Option Value × Int64 × cS))) 4 4 [(0, .ref (la G k0)), (1, .int x1), (2, .int x2), (3, .int x3)] [] h σ (self4 x1 x2 x3)) (x1 : Int32) (x2 : Int32) (x3 : Int32) : Sm K G TT (QM K G (fun r : Int32 => ((some (.int r), h, σ) : Option Value × Int64 × cS))) 4 32 [(0, .ref (la G k0)), (1, .int x1), (2, .int x2), (3, .int x3)] [] h σ (fX0_neighboursOf_32 (ll G) Nf σ k0 self4 x1 x2 x3) := by
  unfold fX0_neighboursOf_32
  refine z_iinc X (fun t1 => [(3, .int t1), (0, .ref (la G k0)), (1, .int x1), (2, .int x2)]) dX0_neighboursOf_32 3 rfl (by decide) (by decide) (fun _ => rfl) (fun t1 => ?_)
  refine z_goto X 4 dX0_neighboursOf_35 (by decide) ?_
  exact z_sub [1, 2, 3, 0] rfl (hself4 x1 x2 t1)
def fX0_neighboursOf_4 (L : Nat → Nat) (Nf : Nat) (σ : cS) (k0 : Nat) : Nat → Int32 → Int32 → Int32 → Option Int32
  | 0, _, _, _ => none
  | n + 1, x1, x2, x3 => if (σ k0 8) ≤ x3 then (some (x2 &&& (((1 : Int32) <<< (x1 &&& 31)) ^^^ (-1 : Int32)))) else (Option.bind (fX0_endsOf L σ k0 x3) (fun r1 => if (r1 &&& ((1 : Int32) <<< (x1 &&& 31))) = 0 then (fX0_neighboursOf_32 L Nf σ k0 (fX0_neighboursOf_4 L Nf σ k0 n) x1 x2 x3) else (Option.bind (fX0_endsOf L σ k0 x3) (fun r2 => bnd ((x2 ||| r2)) (fun t3 => fX0_neighboursOf_32 L Nf σ k0 (fX0_neighboursOf_4 L Nf σ k0 n) x1 t3 x3)))))
set_option maxHeartbeats 4000000 in
set_option maxRecDepth 100000 in
theorem sX0_neighboursOf_4 {K : MCx} {G : Lay} (X : Cx K G RX0 cX0_neighboursOf 4 (some .int) 2 42) (Nf : Nat) (k0 : Nat) (hk0 : isGraph G k0) (h : Int64) (σ : cS) : ∀ (n : Nat) (x1 : Int32) (x2 : Int32) (x3 : Int32), Sm K G TT (QM K G (fun r : Int32 => ((some (.int r), h, σ) : Option Value × Int64 × cS))) 4 4 [(0, .ref (la G k0)), (1, .int x1), (2, .int x2), (3, .int x3)] [] h σ (fX0_neighboursOf_4 (ll G) Nf σ k0 n x1 x2 x3) := by
  intro n
  induction n with
  | zero => intros; exact z_none
  | succ n ih =>
    intro x1 x2 x3
    unfold fX0_neighboursOf_4
    refine z_iload_n X dX0_neighboursOf_4 3 rfl ?_
    refine z_aload_n X dX0_neighboursOf_5 0 rfl ?_
    refine z_get X inlX0 rfl hk0.1 (ce0 hk0.1 _ _) 8 (by decide) q_3_7 rfl dX0_neighboursOf_6 ?_
    refine z_icmp_ge X 38 dX0_neighboursOf_9 (by decide) ?_ ?_
    · refine z_iload_n X dX0_neighboursOf_38 2 rfl ?_
      refine z_iconst (v := (1 : Int32)) X dX0_neighboursOf_39 (by decide) ?_
      refine z_iload_n X dX0_neighboursOf_40 1 rfl ?_
      refine z_ishl X dX0_neighboursOf_41 ?_
      refine z_iconst (v := (-1 : Int32)) X dX0_neighboursOf_42 (by decide) ?_
      refine z_ixor X dX0_neighboursOf_43 ?_
      refine z_iand X dX0_neighboursOf_44 ?_
      exact z_iret X rfl dX0_neighboursOf_45
    · refine z_aload_n X dX0_neighboursOf_12 0 rfl ?_
      refine z_iload_n X dX0_neighboursOf_13 3 rfl ?_
      refine z_callV0 X (g := (fun r1 : Int32 => ((some (.int r1), h, σ) : Option Value × Int64 × cS))) (st := []) (st1 := (fun r1 : Int32 => [.int r1])) (rmf := 1) (rml := 21) [.int x3] k0 cal_X0_endsOf q_9_22 ⟨Nat.le_of_ble_eq_true rfl, Nat.le_of_ble_eq_true rfl⟩ rfl rfl (Nat.le_of_ble_eq_true rfl) rfl hk0.1 (ce0 hk0.1 _ _) (ctX0_endsOf (kl K) G X.2.2.2.2.2.2.2.1 h σ k0 hk0 x3) dX0_neighboursOf_14 (fun _ => rfl) (fun r1 => ?_)
      refine z_iconst (v := (1 : Int32)) X dX0_neighboursOf_17 (by decide) ?_
      refine z_iload_n X dX0_neighboursOf_18 1 rfl ?_
      refine z_ishl X dX0_neighboursOf_19 ?_
      refine z_iand X dX0_neighboursOf_20 ?_
      refine z_if_eq X 32 dX0_neighboursOf_21 (by decide) ?_ ?_
      · exact z_sub [0, 1, 2, 3] rfl (sX0_neighboursOf_32 X Nf k0 hk0 h σ (fX0_neighboursOf_4 (ll G) Nf σ k0 n) ih x1 x2 x3)
      · refine z_iload_n X dX0_neighboursOf_24 2 rfl ?_
        refine z_aload_n X dX0_neighboursOf_25 0 rfl ?_
        refine z_iload_n X dX0_neighboursOf_26 3 rfl ?_
        refine z_callV0 X (g := (fun r2 : Int32 => ((some (.int r2), h, σ) : Option Value × Int64 × cS))) (st := [.int x2]) (st1 := (fun r2 : Int32 => [.int r2, .int x2])) (rmf := 1) (rml := 21) [.int x3] k0 cal_X0_endsOf q_9_22 ⟨Nat.le_of_ble_eq_true rfl, Nat.le_of_ble_eq_true rfl⟩ rfl rfl (Nat.le_of_ble_eq_true rfl) rfl hk0.1 (ce0 hk0.1 _ _) (ctX0_endsOf (kl K) G X.2.2.2.2.2.2.2.1 h σ k0 hk0 x3) dX0_neighboursOf_27 (fun _ => rfl) (fun r2 => ?_)
        refine z_ior X dX0_neighboursOf_30 ?_
        refine z_nm (fun t3 => ?_)
        refine z_istore_n X [(2, .int t3), (0, .ref (la G k0)), (1, .int x1), (3, .int x3)] dX0_neighboursOf_31 (by decide) rfl ?_
        exact z_sub [1, 2, 0, 3] rfl (sX0_neighboursOf_32 X Nf k0 hk0 h σ (fX0_neighboursOf_4 (ll G) Nf σ k0 n) ih x1 t3 x3)
def fX0_neighboursOf_0 (L : Nat → Nat) (Nf : Nat) (σ : cS) (k0 : Nat) (x1 : Int32)  : Option Int32 := fX0_neighboursOf_4 L Nf σ k0 Nf x1 (0 : Int32) (0 : Int32)
set_option maxHeartbeats 4000000 in
set_option maxRecDepth 100000 in
theorem sX0_neighboursOf_0 {K : MCx} {G : Lay} (X : Cx K G RX0 cX0_neighboursOf 4 (some .int) 2 42) (Nf : Nat) (k0 : Nat) (hk0 : isGraph G k0) (h : Int64) (σ : cS) (x1 : Int32) : Sm K G TT (QM K G (fun r : Int32 => ((some (.int r), h, σ) : Option Value × Int64 × cS))) 4 0 [(0, .ref (la G k0)), (1, .int x1)] [] h σ (fX0_neighboursOf_0 (ll G) Nf σ k0 x1) := by
  unfold fX0_neighboursOf_0
  refine z_iconst (v := (0 : Int32)) X dX0_neighboursOf_0 (by decide) ?_
  refine z_istore_n X [(2, .int (0 : Int32)), (0, .ref (la G k0)), (1, .int x1)] dX0_neighboursOf_1 (by decide) rfl ?_
  refine z_iconst (v := (0 : Int32)) X dX0_neighboursOf_2 (by decide) ?_
  refine z_istore_n X [(3, .int (0 : Int32)), (2, .int (0 : Int32)), (0, .ref (la G k0)), (1, .int x1)] dX0_neighboursOf_3 (by decide) rfl ?_
  exact z_sub [2, 3, 1, 0] rfl (sX0_neighboursOf_4 X Nf k0 hk0 h σ Nf x1 (0 : Int32) (0 : Int32))
def fX0_neighboursOf (L : Nat → Nat) (Nf : Nat) (σ : cS) (k0 : Nat) (x1 : Int32) : Option Int32 := fX0_neighboursOf_0 L Nf σ k0 x1
set_option maxHeartbeats 4000000 in
set_option maxRecDepth 100000 in
theorem ctX0_neighboursOf (l : Launch) (G : Lay) (hi : Inj G) (Nf : Nat) (h : Int64) (σ : cS) (k0 : Nat) (hk0 : isGraph G k0) (x1 : Int32) : ∀ r, fX0_neighboursOf (ll G) Nf σ k0 x1 = some r → CM l yX0_neighboursOf cX0_neighboursOf 4 (some .int) 2 42 G [.ref (la G k0), .int x1] h σ (some (.int r), h, σ) := by
  refine cm_of (g := (fun r : Int32 => ((some (.int r), h, σ) : Option Value × Int64 × cS))) (by decide) hi (Nat.le_of_ble_eq_true rfl) (fun K hKl X => ?_)
  unfold fX0_neighboursOf
  exact z_sub [0, 1] rfl (sX0_neighboursOf_0 X Nf k0 hk0 h σ x1)
def fX0_countJoining_68 (L : Nat → Nat) (Nf : Nat) (k0 : Nat) (k2 : Nat) (self7 : Int32 → Int32 → cS → Option cS) (x1 : Int32) (x3 : Int32) (σ : cS) : Option cS := bnd (x3 + (1 : Int32)) (fun t1 => self7 x1 t1 σ)
set_option maxHeartbeats 4000000 in
set_option maxRecDepth 100000 in
theorem sX0_countJoining_68 {K : MCx} {G : Lay} (X : Cx K G RX0 cX0_countJoining 4 none 1 22) (Nf : Nat) (k0 : Nat) (hk0 : isGraph G k0) (k2 : Nat) (hk2 : isRow G k2) (h : Int64) (self7 : Int32 → Int32 → cS → Option cS) (hself7 : ∀ (x1 : Int32) (x3 : Int32) (σ : cS), Sm K G TT (QM K G (fun r : cS => ((none, h, r) : Option Value × Int64 × cS))) 4 7 [(0, .ref (la G k0)), (1, .int x1), (2, .ref (la G k2)), (3, .int x3)] [] h σ (self7 x1 x3 σ)) (x1 : Int32) (x3 : Int32) (σ : cS) : Sm K G TT (QM K G (fun r : cS => ((none, h, r) : Option Value × Int64 × cS))) 4 68 [(0, .ref (la G k0)), (1, .int x1), (2, .ref (la G k2)), (3, .int x3)] [] h σ (fX0_countJoining_68 (ll G) Nf k0 k2 self7 x1 x3 σ) := by
  unfold fX0_countJoining_68
  refine z_iinc X (fun t1 => [(3, .int t1), (0, .ref (la G k0)), (1, .int x1), (2, .ref (la G k2))]) dX0_countJoining_68 3 rfl (by decide) (by decide) (fun _ => rfl) (fun t1 => ?_)
  refine z_goto X 7 dX0_countJoining_71 (by decide) ?_
  exact z_sub [1, 2, 3, 0] rfl (hself7 x1 t1 σ)
def fX0_countJoining_7 (L : Nat → Nat) (Nf : Nat) (k0 : Nat) (k2 : Nat) : Nat → Int32 → Int32 → cS → Option cS
  | 0, _, _, _ => none
  | n + 1, x1, x3, σ => if (σ k0 8) ≤ x3 then (some σ) else (Option.bind (fX4_get L σ (k0 + 3) x3) (fun r1 => if r1 = x1 then (Option.bind (fX4_get L σ (k0 + 5) x3) (fun r5 => Option.bind (fX4_increase L σ k2 r5 (1 : Int32)) (fun r6 => fX0_countJoining_68 L Nf k0 k2 (fX0_countJoining_7 L Nf k0 k2 n) x1 x3 r6))) else (Option.bind (fX4_get L σ (k0 + 5) x3) (fun r2 => if r2 = x1 then (Option.bind (fX4_get L σ (k0 + 3) x3) (fun r3 => Option.bind (fX4_increase L σ k2 r3 (1 : Int32)) (fun r4 => fX0_countJoining_68 L Nf k0 k2 (fX0_countJoining_7 L Nf k0 k2 n) x1 x3 r4))) else (fX0_countJoining_68 L Nf k0 k2 (fX0_countJoining_7 L Nf k0 k2 n) x1 x3 σ)))))
set_option maxHeartbeats 4000000 in
set_option maxRecDepth 100000 in
theorem sX0_countJoining_7 {K : MCx} {G : Lay} (X : Cx K G RX0 cX0_countJoining 4 none 1 22) (Nf : Nat) (k0 : Nat) (hk0 : isGraph G k0) (k2 : Nat) (hk2 : isRow G k2) (h : Int64) : ∀ (n : Nat) (x1 : Int32) (x3 : Int32) (σ : cS), Sm K G TT (QM K G (fun r : cS => ((none, h, r) : Option Value × Int64 × cS))) 4 7 [(0, .ref (la G k0)), (1, .int x1), (2, .ref (la G k2)), (3, .int x3)] [] h σ (fX0_countJoining_7 (ll G) Nf k0 k2 n x1 x3 σ) := by
  intro n
  induction n with
  | zero => intros; exact z_none
  | succ n ih =>
    intro x1 x3 σ
    unfold fX0_countJoining_7
    refine z_iload_n X dX0_countJoining_7 3 rfl ?_
    refine z_aload_n X dX0_countJoining_8 0 rfl ?_
    refine z_get X inlX0 rfl hk0.1 (ce0 hk0.1 _ _) 8 (by decide) q_3_7 rfl dX0_countJoining_9 ?_
    refine z_icmp_ge X 74 dX0_countJoining_12 (by decide) ?_ ?_
    · exact z_vret X rfl dX0_countJoining_74
    · refine z_aload_n X dX0_countJoining_15 0 rfl ?_
      refine z_get X inlX0 rfl hk0.1 (ce0 hk0.1 _ _) 1 (by decide) q_2_15 rfl dX0_countJoining_16 ?_
      refine z_iload_n X dX0_countJoining_19 3 rfl ?_
      refine z_callV0 X (g := (fun r1 : Int32 => ((some (.int r1), h, σ) : Option Value × Int64 × cS))) (st := []) (st1 := (fun r1 : Int32 => [.int r1])) (rmf := 0) (rml := 0) [.int x3] (k0 + 3) cal_X4_get q_6_16 ⟨Nat.le_of_ble_eq_true rfl, Nat.le_of_ble_eq_true rfl⟩ rfl rfl (Nat.le_of_ble_eq_true rfl) rfl hk0.2.2.1.1 (ce4 hk0.2.2.1.1 _ _) (ctX4_get (kl K) G X.2.2.2.2.2.2.2.1 h σ (k0 + 3) hk0.2.2.1 x3) dX0_countJoining_20 (fun _ => rfl) (fun r1 => ?_)
      refine z_iload_n X dX0_countJoining_23 1 rfl ?_
      refine z_icmp_ne X 43 dX0_countJoining_24 (by decide) ?_ ?_
      · refine z_aload_n X dX0_countJoining_27 2 rfl ?_
        refine z_aload_n X dX0_countJoining_28 0 rfl ?_
        refine z_get X inlX0 rfl hk0.1 (ce0 hk0.1 _ _) 2 (by decide) q_2_16 rfl dX0_countJoining_29 ?_
        refine z_iload_n X dX0_countJoining_32 3 rfl ?_
        refine z_callV0 X (g := (fun r5 : Int32 => ((some (.int r5), h, σ) : Option Value × Int64 × cS))) (st := [.ref (la G k2)]) (st1 := (fun r5 : Int32 => [.int r5, .ref (la G k2)])) (rmf := 0) (rml := 0) [.int x3] (k0 + 5) cal_X4_get q_6_16 ⟨Nat.le_of_ble_eq_true rfl, Nat.le_of_ble_eq_true rfl⟩ rfl rfl (Nat.le_of_ble_eq_true rfl) rfl hk0.2.2.2.1.1 (ce4 hk0.2.2.2.1.1 _ _) (ctX4_get (kl K) G X.2.2.2.2.2.2.2.1 h σ (k0 + 5) hk0.2.2.2.1 x3) dX0_countJoining_33 (fun _ => rfl) (fun r5 => ?_)
        refine z_iconst (v := (1 : Int32)) X dX0_countJoining_36 (by decide) ?_
        refine z_callV0 X (g := (fun r6 : cS => ((none, h, r6) : Option Value × Int64 × cS))) (st := []) (st1 := (fun r6 : cS => [])) (rmf := 0) (rml := 0) [.int r5, .int (1 : Int32)] k2 cal_X4_increase q_8_2 ⟨Nat.le_of_ble_eq_true rfl, Nat.le_of_ble_eq_true rfl⟩ rfl rfl (Nat.le_of_ble_eq_true rfl) rfl hk2.1 (ce4 hk2.1 _ _) (ctX4_increase (kl K) G X.2.2.2.2.2.2.2.1 h σ k2 hk2 r5 (1 : Int32)) dX0_countJoining_37 (fun _ => rfl) (fun r6 => ?_)
        refine z_goto X 68 dX0_countJoining_40 (by decide) ?_
        exact z_sub [0, 1, 2, 3] rfl (sX0_countJoining_68 X Nf k0 hk0 k2 hk2 h (fX0_countJoining_7 (ll G) Nf k0 k2 n) ih x1 x3 r6)
      · refine z_aload_n X dX0_countJoining_43 0 rfl ?_
        refine z_get X inlX0 rfl hk0.1 (ce0 hk0.1 _ _) 2 (by decide) q_2_16 rfl dX0_countJoining_44 ?_
        refine z_iload_n X dX0_countJoining_47 3 rfl ?_
        refine z_callV0 X (g := (fun r2 : Int32 => ((some (.int r2), h, σ) : Option Value × Int64 × cS))) (st := []) (st1 := (fun r2 : Int32 => [.int r2])) (rmf := 0) (rml := 0) [.int x3] (k0 + 5) cal_X4_get q_6_16 ⟨Nat.le_of_ble_eq_true rfl, Nat.le_of_ble_eq_true rfl⟩ rfl rfl (Nat.le_of_ble_eq_true rfl) rfl hk0.2.2.2.1.1 (ce4 hk0.2.2.2.1.1 _ _) (ctX4_get (kl K) G X.2.2.2.2.2.2.2.1 h σ (k0 + 5) hk0.2.2.2.1 x3) dX0_countJoining_48 (fun _ => rfl) (fun r2 => ?_)
        refine z_iload_n X dX0_countJoining_51 1 rfl ?_
        refine z_icmp_ne X 68 dX0_countJoining_52 (by decide) ?_ ?_
        · refine z_aload_n X dX0_countJoining_55 2 rfl ?_
          refine z_aload_n X dX0_countJoining_56 0 rfl ?_
          refine z_get X inlX0 rfl hk0.1 (ce0 hk0.1 _ _) 1 (by decide) q_2_15 rfl dX0_countJoining_57 ?_
          refine z_iload_n X dX0_countJoining_60 3 rfl ?_
          refine z_callV0 X (g := (fun r3 : Int32 => ((some (.int r3), h, σ) : Option Value × Int64 × cS))) (st := [.ref (la G k2)]) (st1 := (fun r3 : Int32 => [.int r3, .ref (la G k2)])) (rmf := 0) (rml := 0) [.int x3] (k0 + 3) cal_X4_get q_6_16 ⟨Nat.le_of_ble_eq_true rfl, Nat.le_of_ble_eq_true rfl⟩ rfl rfl (Nat.le_of_ble_eq_true rfl) rfl hk0.2.2.1.1 (ce4 hk0.2.2.1.1 _ _) (ctX4_get (kl K) G X.2.2.2.2.2.2.2.1 h σ (k0 + 3) hk0.2.2.1 x3) dX0_countJoining_61 (fun _ => rfl) (fun r3 => ?_)
          refine z_iconst (v := (1 : Int32)) X dX0_countJoining_64 (by decide) ?_
          refine z_callV0 X (g := (fun r4 : cS => ((none, h, r4) : Option Value × Int64 × cS))) (st := []) (st1 := (fun r4 : cS => [])) (rmf := 0) (rml := 0) [.int r3, .int (1 : Int32)] k2 cal_X4_increase q_8_2 ⟨Nat.le_of_ble_eq_true rfl, Nat.le_of_ble_eq_true rfl⟩ rfl rfl (Nat.le_of_ble_eq_true rfl) rfl hk2.1 (ce4 hk2.1 _ _) (ctX4_increase (kl K) G X.2.2.2.2.2.2.2.1 h σ k2 hk2 r3 (1 : Int32)) dX0_countJoining_65 (fun _ => rfl) (fun r4 => ?_)
          exact z_sub [0, 1, 2, 3] rfl (sX0_countJoining_68 X Nf k0 hk0 k2 hk2 h (fX0_countJoining_7 (ll G) Nf k0 k2 n) ih x1 x3 r4)
        · exact z_sub [0, 1, 2, 3] rfl (sX0_countJoining_68 X Nf k0 hk0 k2 hk2 h (fX0_countJoining_7 (ll G) Nf k0 k2 n) ih x1 x3 σ)
def fX0_countJoining_0 (L : Nat → Nat) (Nf : Nat) (k0 : Nat) (k2 : Nat) (x1 : Int32) (σ : cS) : Option cS := Option.bind (fX4_fill L Nf σ k2 (0 : Int32)) (fun r1 => fX0_countJoining_7 L Nf k0 k2 Nf x1 (0 : Int32) r1)
set_option maxHeartbeats 4000000 in
set_option maxRecDepth 100000 in
theorem sX0_countJoining_0 {K : MCx} {G : Lay} (X : Cx K G RX0 cX0_countJoining 4 none 1 22) (Nf : Nat) (k0 : Nat) (hk0 : isGraph G k0) (k2 : Nat) (hk2 : isRow G k2) (h : Int64) (x1 : Int32) (σ : cS) : Sm K G TT (QM K G (fun r : cS => ((none, h, r) : Option Value × Int64 × cS))) 4 0 [(0, .ref (la G k0)), (1, .int x1), (2, .ref (la G k2))] [] h σ (fX0_countJoining_0 (ll G) Nf k0 k2 x1 σ) := by
  unfold fX0_countJoining_0
  refine z_aload_n X dX0_countJoining_0 2 rfl ?_
  refine z_iconst (v := (0 : Int32)) X dX0_countJoining_1 (by decide) ?_
  refine z_callV0 X (g := (fun r1 : cS => ((none, h, r1) : Option Value × Int64 × cS))) (st := []) (st1 := (fun r1 : cS => [])) (rmf := 0) (rml := 0) [.int (0 : Int32)] k2 cal_X4_fill q_3_10 ⟨Nat.le_of_ble_eq_true rfl, Nat.le_of_ble_eq_true rfl⟩ rfl rfl (Nat.le_of_ble_eq_true rfl) rfl hk2.1 (ce4 hk2.1 _ _) (ctX4_fill (kl K) G X.2.2.2.2.2.2.2.1 Nf h σ k2 hk2 (0 : Int32)) dX0_countJoining_2 (fun _ => rfl) (fun r1 => ?_)
  refine z_iconst (v := (0 : Int32)) X dX0_countJoining_5 (by decide) ?_
  refine z_istore_n X [(3, .int (0 : Int32)), (0, .ref (la G k0)), (1, .int x1), (2, .ref (la G k2))] dX0_countJoining_6 (by decide) rfl ?_
  exact z_sub [1, 2, 3, 0] rfl (sX0_countJoining_7 X Nf k0 hk0 k2 hk2 h Nf x1 (0 : Int32) r1)
def fX0_countJoining (L : Nat → Nat) (Nf : Nat) (σ : cS) (k0 : Nat) (k2 : Nat) (x1 : Int32) : Option cS := fX0_countJoining_0 L Nf k0 k2 x1 σ
set_option maxHeartbeats 4000000 in
set_option maxRecDepth 100000 in
theorem ctX0_countJoining (l : Launch) (G : Lay) (hi : Inj G) (Nf : Nat) (h : Int64) (σ : cS) (k0 : Nat) (hk0 : isGraph G k0) (k2 : Nat) (hk2 : isRow G k2) (x1 : Int32) : ∀ r, fX0_countJoining (ll G) Nf σ k0 k2 x1 = some r → CM l yX0_countJoining cX0_countJoining 4 none 1 22 G [.ref (la G k0), .int x1, .ref (la G k2)] h σ (none, h, r) := by
  refine cm_of (g := (fun r : cS => ((none, h, r) : Option Value × Int64 × cS))) (by decide) hi (Nat.le_of_ble_eq_true rfl) (fun K hKl X => ?_)
  unfold fX0_countJoining
  exact z_sub [0, 1, 2] rfl (sX0_countJoining_0 X Nf k0 hk0 k2 hk2 h x1 σ)
def fX0_edgesWithin_27 (L : Nat → Nat) (Nf : Nat) (σ : cS) (k0 : Nat) (self4 : Int32 → Int32 → Int32 → Option Int32) (x1 : Int32) (x2 : Int32) (x3 : Int32)  : Option Int32 := bnd (x3 + (1 : Int32)) (fun t1 => self4 x1 x2 t1)
set_option maxHeartbeats 4000000 in
set_option maxRecDepth 100000 in
theorem sX0_edgesWithin_27 {K : MCx} {G : Lay} (X : Cx K G RX0 cX0_edgesWithin 4 (some .int) 2 42) (Nf : Nat) (k0 : Nat) (hk0 : isGraph G k0) (h : Int64) (σ : cS) (self4 : Int32 → Int32 → Int32 → Option Int32) (hself4 : ∀ (x1 : Int32) (x2 : Int32) (x3 : Int32), Sm K G TT (QM K G (fun r : Int32 => ((some (.int r), h, σ) : Option Value × Int64 × cS))) 4 4 [(0, .ref (la G k0)), (1, .int x1), (2, .int x2), (3, .int x3)] [] h σ (self4 x1 x2 x3)) (x1 : Int32) (x2 : Int32) (x3 : Int32) : Sm K G TT (QM K G (fun r : Int32 => ((some (.int r), h, σ) : Option Value × Int64 × cS))) 4 27 [(0, .ref (la G k0)), (1, .int x1), (2, .int x2), (3, .int x3)] [] h σ (fX0_edgesWithin_27 (ll G) Nf σ k0 self4 x1 x2 x3) := by
  unfold fX0_edgesWithin_27
  refine z_iinc X (fun t1 => [(3, .int t1), (0, .ref (la G k0)), (1, .int x1), (2, .int x2)]) dX0_edgesWithin_27 3 rfl (by decide) (by decide) (fun _ => rfl) (fun t1 => ?_)
  refine z_goto X 4 dX0_edgesWithin_30 (by decide) ?_
  exact z_sub [1, 2, 3, 0] rfl (hself4 x1 x2 t1)
def fX0_edgesWithin_4 (L : Nat → Nat) (Nf : Nat) (σ : cS) (k0 : Nat) : Nat → Int32 → Int32 → Int32 → Option Int32
  | 0, _, _, _ => none
  | n + 1, x1, x2, x3 => if (σ k0 8) ≤ x3 then (some x2) else (Option.bind (fX0_endsOf L σ k0 x3) (fun r1 => if (r1 &&& (x1 ^^^ (-1 : Int32))) = 0 then (bnd (x2 + (1 : Int32)) (fun t2 => fX0_edgesWithin_27 L Nf σ k0 (fX0_edgesWithin_4 L Nf σ k0 n) x1 t2 x3)) else (fX0_edgesWithin_27 L Nf σ k0 (fX0_edgesWithin_4 L Nf σ k0 n) x1 x2 x3)))
set_option maxHeartbeats 4000000 in
set_option maxRecDepth 100000 in
theorem sX0_edgesWithin_4 {K : MCx} {G : Lay} (X : Cx K G RX0 cX0_edgesWithin 4 (some .int) 2 42) (Nf : Nat) (k0 : Nat) (hk0 : isGraph G k0) (h : Int64) (σ : cS) : ∀ (n : Nat) (x1 : Int32) (x2 : Int32) (x3 : Int32), Sm K G TT (QM K G (fun r : Int32 => ((some (.int r), h, σ) : Option Value × Int64 × cS))) 4 4 [(0, .ref (la G k0)), (1, .int x1), (2, .int x2), (3, .int x3)] [] h σ (fX0_edgesWithin_4 (ll G) Nf σ k0 n x1 x2 x3) := by
  intro n
  induction n with
  | zero => intros; exact z_none
  | succ n ih =>
    intro x1 x2 x3
    unfold fX0_edgesWithin_4
    refine z_iload_n X dX0_edgesWithin_4 3 rfl ?_
    refine z_aload_n X dX0_edgesWithin_5 0 rfl ?_
    refine z_get X inlX0 rfl hk0.1 (ce0 hk0.1 _ _) 8 (by decide) q_3_7 rfl dX0_edgesWithin_6 ?_
    refine z_icmp_ge X 33 dX0_edgesWithin_9 (by decide) ?_ ?_
    · refine z_iload_n X dX0_edgesWithin_33 2 rfl ?_
      exact z_iret X rfl dX0_edgesWithin_34
    · refine z_aload_n X dX0_edgesWithin_12 0 rfl ?_
      refine z_iload_n X dX0_edgesWithin_13 3 rfl ?_
      refine z_callV0 X (g := (fun r1 : Int32 => ((some (.int r1), h, σ) : Option Value × Int64 × cS))) (st := []) (st1 := (fun r1 : Int32 => [.int r1])) (rmf := 1) (rml := 21) [.int x3] k0 cal_X0_endsOf q_9_22 ⟨Nat.le_of_ble_eq_true rfl, Nat.le_of_ble_eq_true rfl⟩ rfl rfl (Nat.le_of_ble_eq_true rfl) rfl hk0.1 (ce0 hk0.1 _ _) (ctX0_endsOf (kl K) G X.2.2.2.2.2.2.2.1 h σ k0 hk0 x3) dX0_edgesWithin_14 (fun _ => rfl) (fun r1 => ?_)
      refine z_iload_n X dX0_edgesWithin_17 1 rfl ?_
      refine z_iconst (v := (-1 : Int32)) X dX0_edgesWithin_18 (by decide) ?_
      refine z_ixor X dX0_edgesWithin_19 ?_
      refine z_iand X dX0_edgesWithin_20 ?_
      refine z_if_ne X 27 dX0_edgesWithin_21 (by decide) ?_ ?_
      · refine z_iinc X (fun t2 => [(2, .int t2), (0, .ref (la G k0)), (1, .int x1), (3, .int x3)]) dX0_edgesWithin_24 2 rfl (by decide) (by decide) (fun _ => rfl) (fun t2 => ?_)
        exact z_sub [1, 2, 0, 3] rfl (sX0_edgesWithin_27 X Nf k0 hk0 h σ (fX0_edgesWithin_4 (ll G) Nf σ k0 n) ih x1 t2 x3)
      · exact z_sub [0, 1, 2, 3] rfl (sX0_edgesWithin_27 X Nf k0 hk0 h σ (fX0_edgesWithin_4 (ll G) Nf σ k0 n) ih x1 x2 x3)
def fX0_edgesWithin_0 (L : Nat → Nat) (Nf : Nat) (σ : cS) (k0 : Nat) (x1 : Int32)  : Option Int32 := fX0_edgesWithin_4 L Nf σ k0 Nf x1 (0 : Int32) (0 : Int32)
set_option maxHeartbeats 4000000 in
set_option maxRecDepth 100000 in
theorem sX0_edgesWithin_0 {K : MCx} {G : Lay} (X : Cx K G RX0 cX0_edgesWithin 4 (some .int) 2 42) (Nf : Nat) (k0 : Nat) (hk0 : isGraph G k0) (h : Int64) (σ : cS) (x1 : Int32) : Sm K G TT (QM K G (fun r : Int32 => ((some (.int r), h, σ) : Option Value × Int64 × cS))) 4 0 [(0, .ref (la G k0)), (1, .int x1)] [] h σ (fX0_edgesWithin_0 (ll G) Nf σ k0 x1) := by
  unfold fX0_edgesWithin_0
  refine z_iconst (v := (0 : Int32)) X dX0_edgesWithin_0 (by decide) ?_
  refine z_istore_n X [(2, .int (0 : Int32)), (0, .ref (la G k0)), (1, .int x1)] dX0_edgesWithin_1 (by decide) rfl ?_
  refine z_iconst (v := (0 : Int32)) X dX0_edgesWithin_2 (by decide) ?_
  refine z_istore_n X [(3, .int (0 : Int32)), (2, .int (0 : Int32)), (0, .ref (la G k0)), (1, .int x1)] dX0_edgesWithin_3 (by decide) rfl ?_
  exact z_sub [2, 3, 1, 0] rfl (sX0_edgesWithin_4 X Nf k0 hk0 h σ Nf x1 (0 : Int32) (0 : Int32))
def fX0_edgesWithin (L : Nat → Nat) (Nf : Nat) (σ : cS) (k0 : Nat) (x1 : Int32) : Option Int32 := fX0_edgesWithin_0 L Nf σ k0 x1
set_option maxHeartbeats 4000000 in
set_option maxRecDepth 100000 in
theorem ctX0_edgesWithin (l : Launch) (G : Lay) (hi : Inj G) (Nf : Nat) (h : Int64) (σ : cS) (k0 : Nat) (hk0 : isGraph G k0) (x1 : Int32) : ∀ r, fX0_edgesWithin (ll G) Nf σ k0 x1 = some r → CM l yX0_edgesWithin cX0_edgesWithin 4 (some .int) 2 42 G [.ref (la G k0), .int x1] h σ (some (.int r), h, σ) := by
  refine cm_of (g := (fun r : Int32 => ((some (.int r), h, σ) : Option Value × Int64 × cS))) (by decide) hi (Nat.le_of_ble_eq_true rfl) (fun K hKl X => ?_)
  unfold fX0_edgesWithin
  exact z_sub [0, 1] rfl (sX0_edgesWithin_0 X Nf k0 hk0 h σ x1)
def fX0_firstSlotWithin_2 (L : Nat → Nat) (Nf : Nat) (σ : cS) (k0 : Nat) : Nat → Int32 → Int32 → Option Int32
  | 0, _, _ => none
  | n + 1, x1, x2 => if (σ k0 8) ≤ x2 then (some (-1 : Int32)) else (Option.bind (fX0_endsOf L σ k0 x2) (fun r1 => if (r1 &&& (x1 ^^^ (-1 : Int32))) = 0 then (some x2) else (bnd (x2 + (1 : Int32)) (fun t2 => fX0_firstSlotWithin_2 L Nf σ k0 n x1 t2))))
set_option maxHeartbeats 4000000 in
set_option maxRecDepth 100000 in
theorem sX0_firstSlotWithin_2 {K : MCx} {G : Lay} (X : Cx K G RX0 cX0_firstSlotWithin 3 (some .int) 2 42) (Nf : Nat) (k0 : Nat) (hk0 : isGraph G k0) (h : Int64) (σ : cS) : ∀ (n : Nat) (x1 : Int32) (x2 : Int32), Sm K G TT (QM K G (fun r : Int32 => ((some (.int r), h, σ) : Option Value × Int64 × cS))) 3 2 [(0, .ref (la G k0)), (1, .int x1), (2, .int x2)] [] h σ (fX0_firstSlotWithin_2 (ll G) Nf σ k0 n x1 x2) := by
  intro n
  induction n with
  | zero => intros; exact z_none
  | succ n ih =>
    intro x1 x2
    unfold fX0_firstSlotWithin_2
    refine z_iload_n X dX0_firstSlotWithin_2 2 rfl ?_
    refine z_aload_n X dX0_firstSlotWithin_3 0 rfl ?_
    refine z_get X inlX0 rfl hk0.1 (ce0 hk0.1 _ _) 8 (by decide) q_3_7 rfl dX0_firstSlotWithin_4 ?_
    refine z_icmp_ge X 30 dX0_firstSlotWithin_7 (by decide) ?_ ?_
    · refine z_iconst (v := (-1 : Int32)) X dX0_firstSlotWithin_30 (by decide) ?_
      exact z_iret X rfl dX0_firstSlotWithin_31
    · refine z_aload_n X dX0_firstSlotWithin_10 0 rfl ?_
      refine z_iload_n X dX0_firstSlotWithin_11 2 rfl ?_
      refine z_callV0 X (g := (fun r1 : Int32 => ((some (.int r1), h, σ) : Option Value × Int64 × cS))) (st := []) (st1 := (fun r1 : Int32 => [.int r1])) (rmf := 1) (rml := 21) [.int x2] k0 cal_X0_endsOf q_9_22 ⟨Nat.le_of_ble_eq_true rfl, Nat.le_of_ble_eq_true rfl⟩ rfl rfl (Nat.le_of_ble_eq_true rfl) rfl hk0.1 (ce0 hk0.1 _ _) (ctX0_endsOf (kl K) G X.2.2.2.2.2.2.2.1 h σ k0 hk0 x2) dX0_firstSlotWithin_12 (fun _ => rfl) (fun r1 => ?_)
      refine z_iload_n X dX0_firstSlotWithin_15 1 rfl ?_
      refine z_iconst (v := (-1 : Int32)) X dX0_firstSlotWithin_16 (by decide) ?_
      refine z_ixor X dX0_firstSlotWithin_17 ?_
      refine z_iand X dX0_firstSlotWithin_18 ?_
      refine z_if_ne X 24 dX0_firstSlotWithin_19 (by decide) ?_ ?_
      · refine z_iload_n X dX0_firstSlotWithin_22 2 rfl ?_
        exact z_iret X rfl dX0_firstSlotWithin_23
      · refine z_iinc X (fun t2 => [(2, .int t2), (0, .ref (la G k0)), (1, .int x1)]) dX0_firstSlotWithin_24 2 rfl (by decide) (by decide) (fun _ => rfl) (fun t2 => ?_)
        refine z_goto X 2 dX0_firstSlotWithin_27 (by decide) ?_
        exact z_sub [1, 2, 0] rfl (ih x1 t2)
def fX0_firstSlotWithin_0 (L : Nat → Nat) (Nf : Nat) (σ : cS) (k0 : Nat) (x1 : Int32)  : Option Int32 := fX0_firstSlotWithin_2 L Nf σ k0 Nf x1 (0 : Int32)
set_option maxHeartbeats 4000000 in
set_option maxRecDepth 100000 in
theorem sX0_firstSlotWithin_0 {K : MCx} {G : Lay} (X : Cx K G RX0 cX0_firstSlotWithin 3 (some .int) 2 42) (Nf : Nat) (k0 : Nat) (hk0 : isGraph G k0) (h : Int64) (σ : cS) (x1 : Int32) : Sm K G TT (QM K G (fun r : Int32 => ((some (.int r), h, σ) : Option Value × Int64 × cS))) 3 0 [(0, .ref (la G k0)), (1, .int x1)] [] h σ (fX0_firstSlotWithin_0 (ll G) Nf σ k0 x1) := by
  unfold fX0_firstSlotWithin_0
  refine z_iconst (v := (0 : Int32)) X dX0_firstSlotWithin_0 (by decide) ?_
  refine z_istore_n X [(2, .int (0 : Int32)), (0, .ref (la G k0)), (1, .int x1)] dX0_firstSlotWithin_1 (by decide) rfl ?_
  exact z_sub [1, 2, 0] rfl (sX0_firstSlotWithin_2 X Nf k0 hk0 h σ Nf x1 (0 : Int32))
def fX0_firstSlotWithin (L : Nat → Nat) (Nf : Nat) (σ : cS) (k0 : Nat) (x1 : Int32) : Option Int32 := fX0_firstSlotWithin_0 L Nf σ k0 x1
set_option maxHeartbeats 4000000 in
set_option maxRecDepth 100000 in
theorem ctX0_firstSlotWithin (l : Launch) (G : Lay) (hi : Inj G) (Nf : Nat) (h : Int64) (σ : cS) (k0 : Nat) (hk0 : isGraph G k0) (x1 : Int32) : ∀ r, fX0_firstSlotWithin (ll G) Nf σ k0 x1 = some r → CM l yX0_firstSlotWithin cX0_firstSlotWithin 3 (some .int) 2 42 G [.ref (la G k0), .int x1] h σ (some (.int r), h, σ) := by
  refine cm_of (g := (fun r : Int32 => ((some (.int r), h, σ) : Option Value × Int64 × cS))) (by decide) hi (Nat.le_of_ble_eq_true rfl) (fun K hKl X => ?_)
  unfold fX0_firstSlotWithin
  exact z_sub [0, 1] rfl (sX0_firstSlotWithin_0 X Nf k0 hk0 h σ x1)
def fX0_greatestLoad_4 (L : Nat → Nat) (Nf : Nat) (σ : cS) (k0 : Nat) : Nat → Int32 → Int32 → Option Int32
  | 0, _, _ => none
  | n + 1, x1, x2 => if (σ k0 7) ≤ x2 then (some x1) else (Option.bind (fX4_get L σ (k0 + 11) x2) (fun r1 => bnd ((if x1 < r1 then r1 else x1)) (fun t2 => bnd (x2 + (1 : Int32)) (fun t3 => fX0_greatestLoad_4 L Nf σ k0 n t2 t3))))
set_option maxHeartbeats 4000000 in
set_option maxRecDepth 100000 in
theorem sX0_greatestLoad_4 {K : MCx} {G : Lay} (X : Cx K G RX0 cX0_greatestLoad 3 (some .int) 1 21) (Nf : Nat) (k0 : Nat) (hk0 : isGraph G k0) (h : Int64) (σ : cS) : ∀ (n : Nat) (x1 : Int32) (x2 : Int32), Sm K G TT (QM K G (fun r : Int32 => ((some (.int r), h, σ) : Option Value × Int64 × cS))) 3 4 [(0, .ref (la G k0)), (1, .int x1), (2, .int x2)] [] h σ (fX0_greatestLoad_4 (ll G) Nf σ k0 n x1 x2) := by
  intro n
  induction n with
  | zero => intros; exact z_none
  | succ n ih =>
    intro x1 x2
    unfold fX0_greatestLoad_4
    refine z_iload_n X dX0_greatestLoad_4 2 rfl ?_
    refine z_aload_n X dX0_greatestLoad_5 0 rfl ?_
    refine z_get X inlX0 rfl hk0.1 (ce0 hk0.1 _ _) 7 (by decide) q_3_6 rfl dX0_greatestLoad_6 ?_
    refine z_icmp_ge X 31 dX0_greatestLoad_9 (by decide) ?_ ?_
    · refine z_iload_n X dX0_greatestLoad_31 1 rfl ?_
      exact z_iret X rfl dX0_greatestLoad_32
    · refine z_iload_n X dX0_greatestLoad_12 1 rfl ?_
      refine z_aload_n X dX0_greatestLoad_13 0 rfl ?_
      refine z_get X inlX0 rfl hk0.1 (ce0 hk0.1 _ _) 5 (by decide) q_2_19 rfl dX0_greatestLoad_14 ?_
      refine z_iload_n X dX0_greatestLoad_17 2 rfl ?_
      refine z_callV0 X (g := (fun r1 : Int32 => ((some (.int r1), h, σ) : Option Value × Int64 × cS))) (st := [.int x1]) (st1 := (fun r1 : Int32 => [.int r1, .int x1])) (rmf := 0) (rml := 0) [.int x2] (k0 + 11) cal_X4_get q_6_16 ⟨Nat.le_of_ble_eq_true rfl, Nat.le_of_ble_eq_true rfl⟩ rfl rfl (Nat.le_of_ble_eq_true rfl) rfl hk0.2.2.2.2.2.2.1.1 (ce4 hk0.2.2.2.2.2.2.1.1 _ _) (ctX4_get (kl K) G X.2.2.2.2.2.2.2.1 h σ (k0 + 11) hk0.2.2.2.2.2.2.1 x2) dX0_greatestLoad_18 (fun _ => rfl) (fun r1 => ?_)
      refine z_mmax X q_6_12 q_6_13 q_6_14 q_6_15 (by decide) (Nat.le_of_ble_eq_true rfl) dX0_greatestLoad_21 ?_
      refine z_nm (fun t2 => ?_)
      refine z_istore_n X [(1, .int t2), (0, .ref (la G k0)), (2, .int x2)] dX0_greatestLoad_24 (by decide) rfl ?_
      refine z_iinc X (fun t3 => [(2, .int t3), (1, .int t2), (0, .ref (la G k0))]) dX0_greatestLoad_25 2 rfl (by decide) (by decide) (fun _ => rfl) (fun t3 => ?_)
      refine z_goto X 4 dX0_greatestLoad_28 (by decide) ?_
      exact z_sub [2, 1, 0] rfl (ih t2 t3)
def fX0_greatestLoad_0 (L : Nat → Nat) (Nf : Nat) (σ : cS) (k0 : Nat)  : Option Int32 := fX0_greatestLoad_4 L Nf σ k0 Nf (0 : Int32) (0 : Int32)
set_option maxHeartbeats 4000000 in
set_option maxRecDepth 100000 in
theorem sX0_greatestLoad_0 {K : MCx} {G : Lay} (X : Cx K G RX0 cX0_greatestLoad 3 (some .int) 1 21) (Nf : Nat) (k0 : Nat) (hk0 : isGraph G k0) (h : Int64) (σ : cS) : Sm K G TT (QM K G (fun r : Int32 => ((some (.int r), h, σ) : Option Value × Int64 × cS))) 3 0 [(0, .ref (la G k0))] [] h σ (fX0_greatestLoad_0 (ll G) Nf σ k0) := by
  unfold fX0_greatestLoad_0
  refine z_iconst (v := (0 : Int32)) X dX0_greatestLoad_0 (by decide) ?_
  refine z_istore_n X [(1, .int (0 : Int32)), (0, .ref (la G k0))] dX0_greatestLoad_1 (by decide) rfl ?_
  refine z_iconst (v := (0 : Int32)) X dX0_greatestLoad_2 (by decide) ?_
  refine z_istore_n X [(2, .int (0 : Int32)), (1, .int (0 : Int32)), (0, .ref (la G k0))] dX0_greatestLoad_3 (by decide) rfl ?_
  exact z_sub [2, 1, 0] rfl (sX0_greatestLoad_4 X Nf k0 hk0 h σ Nf (0 : Int32) (0 : Int32))
def fX0_greatestLoad (L : Nat → Nat) (Nf : Nat) (σ : cS) (k0 : Nat) : Option Int32 := fX0_greatestLoad_0 L Nf σ k0
set_option maxHeartbeats 4000000 in
set_option maxRecDepth 100000 in
theorem ctX0_greatestLoad (l : Launch) (G : Lay) (hi : Inj G) (Nf : Nat) (h : Int64) (σ : cS) (k0 : Nat) (hk0 : isGraph G k0) : ∀ r, fX0_greatestLoad (ll G) Nf σ k0 = some r → CM l yX0_greatestLoad cX0_greatestLoad 3 (some .int) 1 21 G [.ref (la G k0)] h σ (some (.int r), h, σ) := by
  refine cm_of (g := (fun r : Int32 => ((some (.int r), h, σ) : Option Value × Int64 × cS))) (by decide) hi (Nat.le_of_ble_eq_true rfl) (fun K hKl X => ?_)
  unfold fX0_greatestLoad
  exact z_sub [0] rfl (sX0_greatestLoad_0 X Nf k0 hk0 h σ)
def fX0_leastLoad_5 (L : Nat → Nat) (Nf : Nat) (σ : cS) (k0 : Nat) : Nat → Int32 → Int32 → Option Int32
  | 0, _, _ => none
  | n + 1, x1, x2 => if (σ k0 7) ≤ x2 then (some x1) else (Option.bind (fX4_get L σ (k0 + 11) x2) (fun r1 => bnd ((if r1 < x1 then r1 else x1)) (fun t2 => bnd (x2 + (1 : Int32)) (fun t3 => fX0_leastLoad_5 L Nf σ k0 n t2 t3))))
set_option maxHeartbeats 4000000 in
set_option maxRecDepth 100000 in
theorem sX0_leastLoad_5 {K : MCx} {G : Lay} (X : Cx K G RX0 cX0_leastLoad 3 (some .int) 1 21) (Nf : Nat) (k0 : Nat) (hk0 : isGraph G k0) (h : Int64) (σ : cS) : ∀ (n : Nat) (x1 : Int32) (x2 : Int32), Sm K G TT (QM K G (fun r : Int32 => ((some (.int r), h, σ) : Option Value × Int64 × cS))) 3 5 [(0, .ref (la G k0)), (1, .int x1), (2, .int x2)] [] h σ (fX0_leastLoad_5 (ll G) Nf σ k0 n x1 x2) := by
  intro n
  induction n with
  | zero => intros; exact z_none
  | succ n ih =>
    intro x1 x2
    unfold fX0_leastLoad_5
    refine z_iload_n X dX0_leastLoad_5 2 rfl ?_
    refine z_aload_n X dX0_leastLoad_6 0 rfl ?_
    refine z_get X inlX0 rfl hk0.1 (ce0 hk0.1 _ _) 7 (by decide) q_3_6 rfl dX0_leastLoad_7 ?_
    refine z_icmp_ge X 32 dX0_leastLoad_10 (by decide) ?_ ?_
    · refine z_iload_n X dX0_leastLoad_32 1 rfl ?_
      exact z_iret X rfl dX0_leastLoad_33
    · refine z_iload_n X dX0_leastLoad_13 1 rfl ?_
      refine z_aload_n X dX0_leastLoad_14 0 rfl ?_
      refine z_get X inlX0 rfl hk0.1 (ce0 hk0.1 _ _) 5 (by decide) q_2_19 rfl dX0_leastLoad_15 ?_
      refine z_iload_n X dX0_leastLoad_18 2 rfl ?_
      refine z_callV0 X (g := (fun r1 : Int32 => ((some (.int r1), h, σ) : Option Value × Int64 × cS))) (st := [.int x1]) (st1 := (fun r1 : Int32 => [.int r1, .int x1])) (rmf := 0) (rml := 0) [.int x2] (k0 + 11) cal_X4_get q_6_16 ⟨Nat.le_of_ble_eq_true rfl, Nat.le_of_ble_eq_true rfl⟩ rfl rfl (Nat.le_of_ble_eq_true rfl) rfl hk0.2.2.2.2.2.2.1.1 (ce4 hk0.2.2.2.2.2.2.1.1 _ _) (ctX4_get (kl K) G X.2.2.2.2.2.2.2.1 h σ (k0 + 11) hk0.2.2.2.2.2.2.1 x2) dX0_leastLoad_19 (fun _ => rfl) (fun r1 => ?_)
      refine z_mmin X q_7_0 q_7_1 q_6_14 q_7_2 (by decide) (Nat.le_of_ble_eq_true rfl) dX0_leastLoad_22 ?_
      refine z_nm (fun t2 => ?_)
      refine z_istore_n X [(1, .int t2), (0, .ref (la G k0)), (2, .int x2)] dX0_leastLoad_25 (by decide) rfl ?_
      refine z_iinc X (fun t3 => [(2, .int t3), (1, .int t2), (0, .ref (la G k0))]) dX0_leastLoad_26 2 rfl (by decide) (by decide) (fun _ => rfl) (fun t3 => ?_)
      refine z_goto X 5 dX0_leastLoad_29 (by decide) ?_
      exact z_sub [2, 1, 0] rfl (ih t2 t3)
def fX0_leastLoad_0 (L : Nat → Nat) (Nf : Nat) (σ : cS) (k0 : Nat)  : Option Int32 := fX0_leastLoad_5 L Nf σ k0 Nf (40 : Int32) (0 : Int32)
set_option maxHeartbeats 4000000 in
set_option maxRecDepth 100000 in
theorem sX0_leastLoad_0 {K : MCx} {G : Lay} (X : Cx K G RX0 cX0_leastLoad 3 (some .int) 1 21) (Nf : Nat) (k0 : Nat) (hk0 : isGraph G k0) (h : Int64) (σ : cS) : Sm K G TT (QM K G (fun r : Int32 => ((some (.int r), h, σ) : Option Value × Int64 × cS))) 3 0 [(0, .ref (la G k0))] [] h σ (fX0_leastLoad_0 (ll G) Nf σ k0) := by
  unfold fX0_leastLoad_0
  refine z_bipush (v := (40 : Int32)) X dX0_leastLoad_0 (by decide) ?_
  refine z_istore_n X [(1, .int (40 : Int32)), (0, .ref (la G k0))] dX0_leastLoad_2 (by decide) rfl ?_
  refine z_iconst (v := (0 : Int32)) X dX0_leastLoad_3 (by decide) ?_
  refine z_istore_n X [(2, .int (0 : Int32)), (1, .int (40 : Int32)), (0, .ref (la G k0))] dX0_leastLoad_4 (by decide) rfl ?_
  exact z_sub [2, 1, 0] rfl (sX0_leastLoad_5 X Nf k0 hk0 h σ Nf (40 : Int32) (0 : Int32))
def fX0_leastLoad (L : Nat → Nat) (Nf : Nat) (σ : cS) (k0 : Nat) : Option Int32 := fX0_leastLoad_0 L Nf σ k0
set_option maxHeartbeats 4000000 in
set_option maxRecDepth 100000 in
theorem ctX0_leastLoad (l : Launch) (G : Lay) (hi : Inj G) (Nf : Nat) (h : Int64) (σ : cS) (k0 : Nat) (hk0 : isGraph G k0) : ∀ r, fX0_leastLoad (ll G) Nf σ k0 = some r → CM l yX0_leastLoad cX0_leastLoad 3 (some .int) 1 21 G [.ref (la G k0)] h σ (some (.int r), h, σ) := by
  refine cm_of (g := (fun r : Int32 => ((some (.int r), h, σ) : Option Value × Int64 × cS))) (by decide) hi (Nat.le_of_ble_eq_true rfl) (fun K hKl X => ?_)
  unfold fX0_leastLoad
  exact z_sub [0] rfl (sX0_leastLoad_0 X Nf k0 hk0 h σ)
def fX0_squaresOfLoads_4 (L : Nat → Nat) (Nf : Nat) (σ : cS) (k0 : Nat) : Nat → Int32 → Int32 → Option Int32
  | 0, _, _ => none
  | n + 1, x1, x2 => if (σ k0 7) ≤ x2 then (some x1) else (Option.bind (fX4_get L σ (k0 + 11) x2) (fun r1 => Option.bind (fX4_get L σ (k0 + 11) x2) (fun r2 => bnd ((x1 + (r1 * r2))) (fun t3 => bnd (x2 + (1 : Int32)) (fun t4 => fX0_squaresOfLoads_4 L Nf σ k0 n t3 t4)))))
set_option maxHeartbeats 4000000 in
set_option maxRecDepth 100000 in
theorem sX0_squaresOfLoads_4 {K : MCx} {G : Lay} (X : Cx K G RX0 cX0_squaresOfLoads 3 (some .int) 1 21) (Nf : Nat) (k0 : Nat) (hk0 : isGraph G k0) (h : Int64) (σ : cS) : ∀ (n : Nat) (x1 : Int32) (x2 : Int32), Sm K G TT (QM K G (fun r : Int32 => ((some (.int r), h, σ) : Option Value × Int64 × cS))) 3 4 [(0, .ref (la G k0)), (1, .int x1), (2, .int x2)] [] h σ (fX0_squaresOfLoads_4 (ll G) Nf σ k0 n x1 x2) := by
  intro n
  induction n with
  | zero => intros; exact z_none
  | succ n ih =>
    intro x1 x2
    unfold fX0_squaresOfLoads_4
    refine z_iload_n X dX0_squaresOfLoads_4 2 rfl ?_
    refine z_aload_n X dX0_squaresOfLoads_5 0 rfl ?_
    refine z_get X inlX0 rfl hk0.1 (ce0 hk0.1 _ _) 7 (by decide) q_3_6 rfl dX0_squaresOfLoads_6 ?_
    refine z_icmp_ge X 38 dX0_squaresOfLoads_9 (by decide) ?_ ?_
    · refine z_iload_n X dX0_squaresOfLoads_38 1 rfl ?_
      exact z_iret X rfl dX0_squaresOfLoads_39
    · refine z_iload_n X dX0_squaresOfLoads_12 1 rfl ?_
      refine z_aload_n X dX0_squaresOfLoads_13 0 rfl ?_
      refine z_get X inlX0 rfl hk0.1 (ce0 hk0.1 _ _) 5 (by decide) q_2_19 rfl dX0_squaresOfLoads_14 ?_
      refine z_iload_n X dX0_squaresOfLoads_17 2 rfl ?_
      refine z_callV0 X (g := (fun r1 : Int32 => ((some (.int r1), h, σ) : Option Value × Int64 × cS))) (st := [.int x1]) (st1 := (fun r1 : Int32 => [.int r1, .int x1])) (rmf := 0) (rml := 0) [.int x2] (k0 + 11) cal_X4_get q_6_16 ⟨Nat.le_of_ble_eq_true rfl, Nat.le_of_ble_eq_true rfl⟩ rfl rfl (Nat.le_of_ble_eq_true rfl) rfl hk0.2.2.2.2.2.2.1.1 (ce4 hk0.2.2.2.2.2.2.1.1 _ _) (ctX4_get (kl K) G X.2.2.2.2.2.2.2.1 h σ (k0 + 11) hk0.2.2.2.2.2.2.1 x2) dX0_squaresOfLoads_18 (fun _ => rfl) (fun r1 => ?_)
      refine z_aload_n X dX0_squaresOfLoads_21 0 rfl ?_
      refine z_get X inlX0 rfl hk0.1 (ce0 hk0.1 _ _) 5 (by decide) q_2_19 rfl dX0_squaresOfLoads_22 ?_
      refine z_iload_n X dX0_squaresOfLoads_25 2 rfl ?_
      refine z_callV0 X (g := (fun r2 : Int32 => ((some (.int r2), h, σ) : Option Value × Int64 × cS))) (st := [.int r1, .int x1]) (st1 := (fun r2 : Int32 => [.int r2, .int r1, .int x1])) (rmf := 0) (rml := 0) [.int x2] (k0 + 11) cal_X4_get q_6_16 ⟨Nat.le_of_ble_eq_true rfl, Nat.le_of_ble_eq_true rfl⟩ rfl rfl (Nat.le_of_ble_eq_true rfl) rfl hk0.2.2.2.2.2.2.1.1 (ce4 hk0.2.2.2.2.2.2.1.1 _ _) (ctX4_get (kl K) G X.2.2.2.2.2.2.2.1 h σ (k0 + 11) hk0.2.2.2.2.2.2.1 x2) dX0_squaresOfLoads_26 (fun _ => rfl) (fun r2 => ?_)
      refine z_imul X dX0_squaresOfLoads_29 ?_
      refine z_iadd X dX0_squaresOfLoads_30 ?_
      refine z_nm (fun t3 => ?_)
      refine z_istore_n X [(1, .int t3), (0, .ref (la G k0)), (2, .int x2)] dX0_squaresOfLoads_31 (by decide) rfl ?_
      refine z_iinc X (fun t4 => [(2, .int t4), (1, .int t3), (0, .ref (la G k0))]) dX0_squaresOfLoads_32 2 rfl (by decide) (by decide) (fun _ => rfl) (fun t4 => ?_)
      refine z_goto X 4 dX0_squaresOfLoads_35 (by decide) ?_
      exact z_sub [2, 1, 0] rfl (ih t3 t4)
def fX0_squaresOfLoads_0 (L : Nat → Nat) (Nf : Nat) (σ : cS) (k0 : Nat)  : Option Int32 := fX0_squaresOfLoads_4 L Nf σ k0 Nf (0 : Int32) (0 : Int32)
set_option maxHeartbeats 4000000 in
set_option maxRecDepth 100000 in
theorem sX0_squaresOfLoads_0 {K : MCx} {G : Lay} (X : Cx K G RX0 cX0_squaresOfLoads 3 (some .int) 1 21) (Nf : Nat) (k0 : Nat) (hk0 : isGraph G k0) (h : Int64) (σ : cS) : Sm K G TT (QM K G (fun r : Int32 => ((some (.int r), h, σ) : Option Value × Int64 × cS))) 3 0 [(0, .ref (la G k0))] [] h σ (fX0_squaresOfLoads_0 (ll G) Nf σ k0) := by
  unfold fX0_squaresOfLoads_0
  refine z_iconst (v := (0 : Int32)) X dX0_squaresOfLoads_0 (by decide) ?_
  refine z_istore_n X [(1, .int (0 : Int32)), (0, .ref (la G k0))] dX0_squaresOfLoads_1 (by decide) rfl ?_
  refine z_iconst (v := (0 : Int32)) X dX0_squaresOfLoads_2 (by decide) ?_
  refine z_istore_n X [(2, .int (0 : Int32)), (1, .int (0 : Int32)), (0, .ref (la G k0))] dX0_squaresOfLoads_3 (by decide) rfl ?_
  exact z_sub [2, 1, 0] rfl (sX0_squaresOfLoads_4 X Nf k0 hk0 h σ Nf (0 : Int32) (0 : Int32))
def fX0_squaresOfLoads (L : Nat → Nat) (Nf : Nat) (σ : cS) (k0 : Nat) : Option Int32 := fX0_squaresOfLoads_0 L Nf σ k0
set_option maxHeartbeats 4000000 in
set_option maxRecDepth 100000 in
theorem ctX0_squaresOfLoads (l : Launch) (G : Lay) (hi : Inj G) (Nf : Nat) (h : Int64) (σ : cS) (k0 : Nat) (hk0 : isGraph G k0) : ∀ r, fX0_squaresOfLoads (ll G) Nf σ k0 = some r → CM l yX0_squaresOfLoads cX0_squaresOfLoads 3 (some .int) 1 21 G [.ref (la G k0)] h σ (some (.int r), h, σ) := by
  refine cm_of (g := (fun r : Int32 => ((some (.int r), h, σ) : Option Value × Int64 × cS))) (by decide) hi (Nat.le_of_ble_eq_true rfl) (fun K hKl X => ?_)
  unfold fX0_squaresOfLoads
  exact z_sub [0] rfl (sX0_squaresOfLoads_0 X Nf k0 hk0 h σ)
def fX0_overloadedNodes_34 (L : Nat → Nat) (Nf : Nat) (σ : cS) (k0 : Nat) (self4 : Int32 → Int32 → Option Int32) (x1 : Int32) (x2 : Int32)  : Option Int32 := bnd (x2 + (1 : Int32)) (fun t1 => self4 x1 t1)
set_option maxHeartbeats 4000000 in
set_option maxRecDepth 100000 in
theorem sX0_overloadedNodes_34 {K : MCx} {G : Lay} (X : Cx K G RX0 cX0_overloadedNodes 3 (some .int) 1 21) (Nf : Nat) (k0 : Nat) (hk0 : isGraph G k0) (h : Int64) (σ : cS) (self4 : Int32 → Int32 → Option Int32) (hself4 : ∀ (x1 : Int32) (x2 : Int32), Sm K G TT (QM K G (fun r : Int32 => ((some (.int r), h, σ) : Option Value × Int64 × cS))) 3 4 [(0, .ref (la G k0)), (1, .int x1), (2, .int x2)] [] h σ (self4 x1 x2)) (x1 : Int32) (x2 : Int32) : Sm K G TT (QM K G (fun r : Int32 => ((some (.int r), h, σ) : Option Value × Int64 × cS))) 3 34 [(0, .ref (la G k0)), (1, .int x1), (2, .int x2)] [] h σ (fX0_overloadedNodes_34 (ll G) Nf σ k0 self4 x1 x2) := by
  unfold fX0_overloadedNodes_34
  refine z_iinc X (fun t1 => [(2, .int t1), (0, .ref (la G k0)), (1, .int x1)]) dX0_overloadedNodes_34 2 rfl (by decide) (by decide) (fun _ => rfl) (fun t1 => ?_)
  refine z_goto X 4 dX0_overloadedNodes_37 (by decide) ?_
  exact z_sub [1, 2, 0] rfl (hself4 x1 t1)
def fX0_overloadedNodes_4 (L : Nat → Nat) (Nf : Nat) (σ : cS) (k0 : Nat) : Nat → Int32 → Int32 → Option Int32
  | 0, _, _ => none
  | n + 1, x1, x2 => if (σ k0 7) ≤ x2 then (some x1) else (Option.bind (fX4_get L σ (k0 + 11) x2) (fun r1 => Option.bind (fX4_get L σ (k0 + 13) x2) (fun r2 => if r1 ≤ r2 then (fX0_overloadedNodes_34 L Nf σ k0 (fX0_overloadedNodes_4 L Nf σ k0 n) x1 x2) else (bnd (x1 + (1 : Int32)) (fun t3 => fX0_overloadedNodes_34 L Nf σ k0 (fX0_overloadedNodes_4 L Nf σ k0 n) t3 x2)))))
set_option maxHeartbeats 4000000 in
set_option maxRecDepth 100000 in
theorem sX0_overloadedNodes_4 {K : MCx} {G : Lay} (X : Cx K G RX0 cX0_overloadedNodes 3 (some .int) 1 21) (Nf : Nat) (k0 : Nat) (hk0 : isGraph G k0) (h : Int64) (σ : cS) : ∀ (n : Nat) (x1 : Int32) (x2 : Int32), Sm K G TT (QM K G (fun r : Int32 => ((some (.int r), h, σ) : Option Value × Int64 × cS))) 3 4 [(0, .ref (la G k0)), (1, .int x1), (2, .int x2)] [] h σ (fX0_overloadedNodes_4 (ll G) Nf σ k0 n x1 x2) := by
  intro n
  induction n with
  | zero => intros; exact z_none
  | succ n ih =>
    intro x1 x2
    unfold fX0_overloadedNodes_4
    refine z_iload_n X dX0_overloadedNodes_4 2 rfl ?_
    refine z_aload_n X dX0_overloadedNodes_5 0 rfl ?_
    refine z_get X inlX0 rfl hk0.1 (ce0 hk0.1 _ _) 7 (by decide) q_3_6 rfl dX0_overloadedNodes_6 ?_
    refine z_icmp_ge X 40 dX0_overloadedNodes_9 (by decide) ?_ ?_
    · refine z_iload_n X dX0_overloadedNodes_40 1 rfl ?_
      exact z_iret X rfl dX0_overloadedNodes_41
    · refine z_aload_n X dX0_overloadedNodes_12 0 rfl ?_
      refine z_get X inlX0 rfl hk0.1 (ce0 hk0.1 _ _) 5 (by decide) q_2_19 rfl dX0_overloadedNodes_13 ?_
      refine z_iload_n X dX0_overloadedNodes_16 2 rfl ?_
      refine z_callV0 X (g := (fun r1 : Int32 => ((some (.int r1), h, σ) : Option Value × Int64 × cS))) (st := []) (st1 := (fun r1 : Int32 => [.int r1])) (rmf := 0) (rml := 0) [.int x2] (k0 + 11) cal_X4_get q_6_16 ⟨Nat.le_of_ble_eq_true rfl, Nat.le_of_ble_eq_true rfl⟩ rfl rfl (Nat.le_of_ble_eq_true rfl) rfl hk0.2.2.2.2.2.2.1.1 (ce4 hk0.2.2.2.2.2.2.1.1 _ _) (ctX4_get (kl K) G X.2.2.2.2.2.2.2.1 h σ (k0 + 11) hk0.2.2.2.2.2.2.1 x2) dX0_overloadedNodes_17 (fun _ => rfl) (fun r1 => ?_)
      refine z_aload_n X dX0_overloadedNodes_20 0 rfl ?_
      refine z_get X inlX0 rfl hk0.1 (ce0 hk0.1 _ _) 6 (by decide) q_2_20 rfl dX0_overloadedNodes_21 ?_
      refine z_iload_n X dX0_overloadedNodes_24 2 rfl ?_
      refine z_callV0 X (g := (fun r2 : Int32 => ((some (.int r2), h, σ) : Option Value × Int64 × cS))) (st := [.int r1]) (st1 := (fun r2 : Int32 => [.int r2, .int r1])) (rmf := 0) (rml := 0) [.int x2] (k0 + 13) cal_X4_get q_6_16 ⟨Nat.le_of_ble_eq_true rfl, Nat.le_of_ble_eq_true rfl⟩ rfl rfl (Nat.le_of_ble_eq_true rfl) rfl hk0.2.2.2.2.2.2.2.1 (ce4 hk0.2.2.2.2.2.2.2.1 _ _) (ctX4_get (kl K) G X.2.2.2.2.2.2.2.1 h σ (k0 + 13) hk0.2.2.2.2.2.2.2 x2) dX0_overloadedNodes_25 (fun _ => rfl) (fun r2 => ?_)
      refine z_icmp_le X 34 dX0_overloadedNodes_28 (by decide) ?_ ?_
      · exact z_sub [0, 1, 2] rfl (sX0_overloadedNodes_34 X Nf k0 hk0 h σ (fX0_overloadedNodes_4 (ll G) Nf σ k0 n) ih x1 x2)
      · refine z_iinc X (fun t3 => [(1, .int t3), (0, .ref (la G k0)), (2, .int x2)]) dX0_overloadedNodes_31 1 rfl (by decide) (by decide) (fun _ => rfl) (fun t3 => ?_)
        exact z_sub [1, 0, 2] rfl (sX0_overloadedNodes_34 X Nf k0 hk0 h σ (fX0_overloadedNodes_4 (ll G) Nf σ k0 n) ih t3 x2)
def fX0_overloadedNodes_0 (L : Nat → Nat) (Nf : Nat) (σ : cS) (k0 : Nat)  : Option Int32 := fX0_overloadedNodes_4 L Nf σ k0 Nf (0 : Int32) (0 : Int32)
set_option maxHeartbeats 4000000 in
set_option maxRecDepth 100000 in
theorem sX0_overloadedNodes_0 {K : MCx} {G : Lay} (X : Cx K G RX0 cX0_overloadedNodes 3 (some .int) 1 21) (Nf : Nat) (k0 : Nat) (hk0 : isGraph G k0) (h : Int64) (σ : cS) : Sm K G TT (QM K G (fun r : Int32 => ((some (.int r), h, σ) : Option Value × Int64 × cS))) 3 0 [(0, .ref (la G k0))] [] h σ (fX0_overloadedNodes_0 (ll G) Nf σ k0) := by
  unfold fX0_overloadedNodes_0
  refine z_iconst (v := (0 : Int32)) X dX0_overloadedNodes_0 (by decide) ?_
  refine z_istore_n X [(1, .int (0 : Int32)), (0, .ref (la G k0))] dX0_overloadedNodes_1 (by decide) rfl ?_
  refine z_iconst (v := (0 : Int32)) X dX0_overloadedNodes_2 (by decide) ?_
  refine z_istore_n X [(2, .int (0 : Int32)), (1, .int (0 : Int32)), (0, .ref (la G k0))] dX0_overloadedNodes_3 (by decide) rfl ?_
  exact z_sub [2, 1, 0] rfl (sX0_overloadedNodes_4 X Nf k0 hk0 h σ Nf (0 : Int32) (0 : Int32))
def fX0_overloadedNodes (L : Nat → Nat) (Nf : Nat) (σ : cS) (k0 : Nat) : Option Int32 := fX0_overloadedNodes_0 L Nf σ k0
set_option maxHeartbeats 4000000 in
set_option maxRecDepth 100000 in
theorem ctX0_overloadedNodes (l : Launch) (G : Lay) (hi : Inj G) (Nf : Nat) (h : Int64) (σ : cS) (k0 : Nat) (hk0 : isGraph G k0) : ∀ r, fX0_overloadedNodes (ll G) Nf σ k0 = some r → CM l yX0_overloadedNodes cX0_overloadedNodes 3 (some .int) 1 21 G [.ref (la G k0)] h σ (some (.int r), h, σ) := by
  refine cm_of (g := (fun r : Int32 => ((some (.int r), h, σ) : Option Value × Int64 × cS))) (by decide) hi (Nat.le_of_ble_eq_true rfl) (fun K hKl X => ?_)
  unfold fX0_overloadedNodes
  exact z_sub [0] rfl (sX0_overloadedNodes_0 X Nf k0 hk0 h σ)
