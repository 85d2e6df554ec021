theorem q_1_17 : Cond.initialized RX5 ∈ wsL_law := seg_1 _ (List.mem_of_getElem? (i := 17) rfl)
theorem q_3_18 : Cond.fieldLink RX5 14 "EdgeHolders$Search" "order" "LEdgeHolders$Row;" ∈ wsL_law := seg_3 _ (List.mem_of_getElem? (i := 18) rfl)
theorem q_3_19 : Cond.fieldLink RX5 20 "EdgeHolders$Search" "slotTo" "LEdgeHolders$Row;" ∈ wsL_law := seg_3 _ (List.mem_of_getElem? (i := 19) rfl)
theorem q_3_20 : Cond.fieldLink RX5 23 "EdgeHolders$Search" "nodeBefore" "LEdgeHolders$Row;" ∈ wsL_law := seg_3 _ (List.mem_of_getElem? (i := 20) rfl)
theorem q_6_9 : Cond.instanceMethod yX0_greatestLoad ∈ wsL_law := seg_6 _ (List.mem_of_getElem? (i := 9) rfl)
theorem q_6_10 : Cond.selects RX0 yX0_greatestLoad yX0_greatestLoad ∈ wsL_law := seg_6 _ (List.mem_of_getElem? (i := 10) rfl)
theorem q_6_11 : Cond.code yX0_greatestLoad cX0_greatestLoad 3 (some .int) ∈ wsL_law := seg_6 _ (List.mem_of_getElem? (i := 11) rfl)
theorem q_14_14 : Cond.instanceMethod yX0_flip ∈ wsL_law := seg_14 _ (List.mem_of_getElem? (i := 14) rfl)
theorem q_14_15 : Cond.selects RX0 yX0_flip yX0_flip ∈ wsL_law := seg_14 _ (List.mem_of_getElem? (i := 15) rfl)
theorem q_14_16 : Cond.code yX0_flip cX0_flip 4 (some .int) ∈ wsL_law := seg_14 _ (List.mem_of_getElem? (i := 16) rfl)
theorem q_14_18 : Cond.instanceMethod yX5_relieveNode ∈ wsL_law := seg_14 _ (List.mem_of_getElem? (i := 18) rfl)
theorem q_14_19 : Cond.selects RX5 yX5_relieveNode yX5_relieveNode ∈ wsL_law := seg_14 _ (List.mem_of_getElem? (i := 19) rfl)
theorem q_14_20 : Cond.code yX5_relieveNode cX5_relieveNode 4 (some .int) ∈ wsL_law := seg_14 _ (List.mem_of_getElem? (i := 20) rfl)
theorem q_14_21 : Cond.methodLink RX5 72 yX5_visitFrom ∈ wsL_law := seg_14 _ (List.mem_of_getElem? (i := 21) rfl)
theorem q_14_22 : Cond.instanceMethod yX5_visitFrom ∈ wsL_law := seg_14 _ (List.mem_of_getElem? (i := 22) rfl)
theorem q_14_23 : Cond.selects RX5 yX5_visitFrom yX5_visitFrom ∈ wsL_law := seg_14 _ (List.mem_of_getElem? (i := 23) rfl)
theorem q_15_0 : Cond.code yX5_visitFrom cX5_visitFrom 6 none ∈ wsL_law := seg_15 _ (List.mem_of_getElem? (i := 0) rfl)
theorem q_15_1 : Cond.fieldLink RX5 26 "EdgeHolders$Search" "start" "I" ∈ wsL_law := seg_15 _ (List.mem_of_getElem? (i := 1) rfl)
theorem q_15_2 : Cond.fieldLink RX5 30 "EdgeHolders$Search" "count" "I" ∈ wsL_law := seg_15 _ (List.mem_of_getElem? (i := 2) rfl)
theorem q_15_3 : Cond.fieldLink RX5 33 "EdgeHolders$Search" "visited" "I" ∈ wsL_law := seg_15 _ (List.mem_of_getElem? (i := 3) rfl)
theorem q_15_4 : Cond.methodLink RX5 36 yX5_visit ∈ wsL_law := seg_15 _ (List.mem_of_getElem? (i := 4) rfl)
theorem q_15_5 : Cond.instanceMethod yX5_visit ∈ wsL_law := seg_15 _ (List.mem_of_getElem? (i := 5) rfl)
theorem q_15_6 : Cond.selects RX5 yX5_visit yX5_visit ∈ wsL_law := seg_15 _ (List.mem_of_getElem? (i := 6) rfl)
theorem q_15_7 : Cond.code yX5_visit cX5_visit 4 none ∈ wsL_law := seg_15 _ (List.mem_of_getElem? (i := 7) rfl)
theorem q_15_8 : Cond.methodLink RX5 55 yX5_isVisited ∈ wsL_law := seg_15 _ (List.mem_of_getElem? (i := 8) rfl)
theorem q_15_9 : Cond.instanceMethod yX5_isVisited ∈ wsL_law := seg_15 _ (List.mem_of_getElem? (i := 9) rfl)
theorem q_15_10 : Cond.selects RX5 yX5_isVisited yX5_isVisited ∈ wsL_law := seg_15 _ (List.mem_of_getElem? (i := 10) rfl)
theorem q_15_11 : Cond.code yX5_isVisited cX5_isVisited 2 (some .boolean) ∈ wsL_law := seg_15 _ (List.mem_of_getElem? (i := 11) rfl)
theorem q_15_12 : Cond.methodLink RX5 59 yX4_set ∈ wsL_law := seg_15 _ (List.mem_of_getElem? (i := 12) rfl)
theorem q_15_13 : Cond.methodLink RX5 40 yX4_get ∈ wsL_law := seg_15 _ (List.mem_of_getElem? (i := 13) rfl)
theorem q_15_14 : Cond.methodLink RX5 52 yX0_endNotHolding ∈ wsL_law := seg_15 _ (List.mem_of_getElem? (i := 14) rfl)
theorem q_15_15 : Cond.instanceMethod yX0_endNotHolding ∈ wsL_law := seg_15 _ (List.mem_of_getElem? (i := 15) rfl)
theorem q_15_16 : Cond.selects RX0 yX0_endNotHolding yX0_endNotHolding ∈ wsL_law := seg_15 _ (List.mem_of_getElem? (i := 16) rfl)
theorem q_15_17 : Cond.code yX0_endNotHolding cX0_endNotHolding 2 (some .int) ∈ wsL_law := seg_15 _ (List.mem_of_getElem? (i := 17) rfl)
theorem q_15_18 : Cond.methodLink RX5 76 yX5_firstLighter ∈ wsL_law := seg_15 _ (List.mem_of_getElem? (i := 18) rfl)
theorem q_15_19 : Cond.instanceMethod yX5_firstLighter ∈ wsL_law := seg_15 _ (List.mem_of_getElem? (i := 19) rfl)
theorem q_15_20 : Cond.selects RX5 yX5_firstLighter yX5_firstLighter ∈ wsL_law := seg_15 _ (List.mem_of_getElem? (i := 20) rfl)
theorem q_15_21 : Cond.code yX5_firstLighter cX5_firstLighter 4 (some .int) ∈ wsL_law := seg_15 _ (List.mem_of_getElem? (i := 21) rfl)
theorem q_15_22 : Cond.methodLink RX5 80 yX5_flipPathTo ∈ wsL_law := seg_15 _ (List.mem_of_getElem? (i := 22) rfl)
theorem q_15_23 : Cond.instanceMethod yX5_flipPathTo ∈ wsL_law := seg_15 _ (List.mem_of_getElem? (i := 23) rfl)
theorem q_16_0 : Cond.selects RX5 yX5_flipPathTo yX5_flipPathTo ∈ wsL_law := seg_16 _ (List.mem_of_getElem? (i := 0) rfl)
theorem q_16_1 : Cond.code yX5_flipPathTo cX5_flipPathTo 6 (some .int) ∈ wsL_law := seg_16 _ (List.mem_of_getElem? (i := 1) rfl)
theorem q_16_2 : Cond.methodLink RX5 63 yX5_lengthTo ∈ wsL_law := seg_16 _ (List.mem_of_getElem? (i := 2) rfl)
theorem q_16_3 : Cond.instanceMethod yX5_lengthTo ∈ wsL_law := seg_16 _ (List.mem_of_getElem? (i := 3) rfl)
theorem q_16_4 : Cond.selects RX5 yX5_lengthTo yX5_lengthTo ∈ wsL_law := seg_16 _ (List.mem_of_getElem? (i := 4) rfl)
theorem q_16_5 : Cond.code yX5_lengthTo cX5_lengthTo 4 (some .int) ∈ wsL_law := seg_16 _ (List.mem_of_getElem? (i := 5) rfl)
theorem q_16_6 : Cond.methodLink RX5 69 yX0_flip ∈ wsL_law := seg_16 _ (List.mem_of_getElem? (i := 6) rfl)
theorem q_16_11 : Cond.constant RX5 91 (1000000) ∈ wsL_law := seg_16 _ (List.mem_of_getElem? (i := 11) rfl)
theorem q_16_12 : Cond.methodLink RX5 84 yX0_greatestLoad ∈ wsL_law := seg_16 _ (List.mem_of_getElem? (i := 12) rfl)
theorem q_16_13 : Cond.methodLink RX5 92 yX5_relieveNode ∈ wsL_law := seg_16 _ (List.mem_of_getElem? (i := 13) rfl)
theorem cal_X5_isVisited : Cal yX5_isVisited RX5 cX5_isVisited 2 (some .boolean) 1 := ⟨q_15_11, q_15_9, q_15_10, q_1_17, by decide +kernel⟩
theorem cal_X0_endNotHolding : Cal yX0_endNotHolding RX0 cX0_endNotHolding 2 (some .int) 1 := ⟨q_15_17, q_15_15, q_15_16, q_1_12, by decide +kernel⟩
theorem cal_X5_visit : Cal yX5_visit RX5 cX5_visit 4 none 3 := ⟨q_15_7, q_15_5, q_15_6, q_1_17, by decide +kernel⟩
theorem cal_X5_lengthTo : Cal yX5_lengthTo RX5 cX5_lengthTo 4 (some .int) 1 := ⟨q_16_5, q_16_3, q_16_4, q_1_17, by decide +kernel⟩
theorem cal_X0_flip : Cal yX0_flip RX0 cX0_flip 4 (some .int) 1 := ⟨q_14_16, q_14_14, q_14_15, q_1_12, by decide +kernel⟩
theorem cal_X5_firstLighter : Cal yX5_firstLighter RX5 cX5_firstLighter 4 (some .int) 1 := ⟨q_15_21, q_15_19, q_15_20, q_1_17, by decide +kernel⟩
theorem cal_X5_flipPathTo : Cal yX5_flipPathTo RX5 cX5_flipPathTo 6 (some .int) 2 := ⟨q_16_1, q_15_23, q_16_0, q_1_17, by decide +kernel⟩
theorem cal_X5_visitFrom : Cal yX5_visitFrom RX5 cX5_visitFrom 6 none 2 := ⟨q_15_0, q_14_22, q_14_23, q_1_17, by decide +kernel⟩
theorem cal_X0_greatestLoad : Cal yX0_greatestLoad RX0 cX0_greatestLoad 3 (some .int) 0 := ⟨q_6_11, q_6_9, q_6_10, q_1_12, by decide +kernel⟩
theorem cal_X5_relieveNode : Cal yX5_relieveNode RX5 cX5_relieveNode 4 (some .int) 2 := ⟨q_14_20, q_14_18, q_14_19, q_1_17, by decide +kernel⟩
def fX5_isVisited_16 (σ : cS) (k0 : Nat) (y0 : Int32)  : Option Int32 := grd (isb y0) (some y0)
set_option maxHeartbeats 4000000 in
set_option maxRecDepth 100000 in
theorem sX5_isVisited_16 {K : MCx} {G : Lay} (X : Cx K G RX5 cX5_isVisited 2 (some .boolean) 0 0) (k0 : Nat) (hk0 : isSearch G k0) (h : Int64) (σ : cS) (y0 : Int32) : Sm K G TT (QM K G (fun r : Int32 => ((some (.int r), h, σ) : Option Value × Int64 × cS))) 2 16 [] [.int y0] h σ (fX5_isVisited_16 σ k0 y0) := by
  unfold fX5_isVisited_16
  exact z_zret X rfl dX5_isVisited_16
def fX5_isVisited_0 (σ : cS) (k0 : Nat) (x1 : Int32)  : Option Int32 := if ((σ k0 5) &&& ((1 : Int32) <<< (x1 &&& 31))) = 0 then (fX5_isVisited_16 σ k0 (0 : Int32)) else (fX5_isVisited_16 σ k0 (1 : Int32))
set_option maxHeartbeats 4000000 in
set_option maxRecDepth 100000 in
theorem sX5_isVisited_0 {K : MCx} {G : Lay} (X : Cx K G RX5 cX5_isVisited 2 (some .boolean) 0 0) (k0 : Nat) (hk0 : isSearch G k0) (h : Int64) (σ : cS) (x1 : Int32) : Sm K G TT (QM K G (fun r : Int32 => ((some (.int r), h, σ) : Option Value × Int64 × cS))) 2 0 [(0, .ref (la G k0)), (1, .int x1)] [] h σ (fX5_isVisited_0 σ k0 x1) := by
  unfold fX5_isVisited_0
  refine z_aload_n X dX5_isVisited_0 0 rfl ?_
  refine z_get X inlX5 rfl hk0.1 (ce5 hk0.1 _ _) 5 (by decide) q_15_3 rfl dX5_isVisited_1 ?_
  refine z_iconst (v := (1 : Int32)) X dX5_isVisited_4 (by decide) ?_
  refine z_iload_n X dX5_isVisited_5 1 rfl ?_
  refine z_ishl X dX5_isVisited_6 ?_
  refine z_iand X dX5_isVisited_7 ?_
  refine z_if_eq X 15 dX5_isVisited_8 (by decide) ?_ ?_
  · refine z_iconst (v := (0 : Int32)) X dX5_isVisited_15 (by decide) ?_
    exact z_sub [] rfl (sX5_isVisited_16 X k0 hk0 h σ (0 : Int32))
  · refine z_iconst (v := (1 : Int32)) X dX5_isVisited_11 (by decide) ?_
    refine z_goto X 16 dX5_isVisited_12 (by decide) ?_
    exact z_sub [] rfl (sX5_isVisited_16 X k0 hk0 h σ (1 : Int32))
def fX5_isVisited (σ : cS) (k0 : Nat) (x1 : Int32) : Option Int32 := fX5_isVisited_0 σ k0 x1
set_option maxHeartbeats 4000000 in
set_option maxRecDepth 100000 in
theorem ctX5_isVisited (l : Launch) (G : Lay) (hi : Inj G) (h : Int64) (σ : cS) (k0 : Nat) (hk0 : isSearch G k0) (x1 : Int32) : ∀ r, fX5_isVisited σ k0 x1 = some r → CM l yX5_isVisited cX5_isVisited 2 (some .boolean) 0 0 G [.ref (la G k0), .int x1] h σ (some (.int r), h, σ) := by
  refine cm_of (g := (fun r : Int32 => ((some (.int r), h, σ) : Option Value × Int64 × cS))) (by decide) hi (Nat.le_of_ble_eq_true rfl) (fun K hKl X => ?_)
  unfold fX5_isVisited
  exact z_sub [0, 1] rfl (sX5_isVisited_0 X k0 hk0 h σ x1)
def fX5_visit_60 (L : Nat → Nat) (k0 : Nat) (σ : cS) : Option cS := some σ
set_option maxHeartbeats 4000000 in
set_option maxRecDepth 100000 in
theorem sX5_visit_60 {K : MCx} {G : Lay} (X : Cx K G RX5 cX5_visit 4 none 1 22) (k0 : Nat) (hk0 : isSearch G k0) (h : Int64) (σ : cS) : Sm K G TT (QM K G (fun r : cS => ((none, h, r) : Option Value × Int64 × cS))) 4 60 [] [] h σ (fX5_visit_60 (ll G) k0 σ) := by
  unfold fX5_visit_60
  exact z_vret X rfl dX5_visit_60
def fX5_visit_0 (L : Nat → Nat) (k0 : Nat) (x1 : Int32) (x2 : Int32) (x3 : Int32) (σ : cS) : Option cS := Option.bind (fX5_isVisited σ k0 x1) (fun r1 => if r1 = 0 then (bnd (st2 σ k0 5 ((σ k0 5) ||| ((1 : Int32) <<< (x1 &&& 31)))) (fun σ2 => Option.bind (fX4_set L σ2 (k0 + 1) (σ2 k0 4) x1) (fun r3 => Option.bind (fX4_set L r3 (k0 + 3) x1 x2) (fun r4 => Option.bind (fX4_set L r4 (k0 + 5) x1 x3) (fun r5 => bnd (st2 r5 k0 4 ((r5 k0 4) + (1 : Int32))) (fun σ6 => fX5_visit_60 L k0 σ6)))))) else (fX5_visit_60 L k0 σ))
set_option maxHeartbeats 4000000 in
set_option maxRecDepth 100000 in
theorem sX5_visit_0 {K : MCx} {G : Lay} (X : Cx K G RX5 cX5_visit 4 none 1 22) (k0 : Nat) (hk0 : isSearch G k0) (h : Int64) (x1 : Int32) (x2 : Int32) (x3 : Int32) (σ : cS) : Sm K G TT (QM K G (fun r : cS => ((none, h, r) : Option Value × Int64 × cS))) 4 0 [(0, .ref (la G k0)), (1, .int x1), (2, .int x2), (3, .int x3)] [] h σ (fX5_visit_0 (ll G) k0 x1 x2 x3 σ) := by
  unfold fX5_visit_0
  refine z_aload_n X dX5_visit_0 0 rfl ?_
  refine z_iload_n X dX5_visit_1 1 rfl ?_
  refine z_callV0 X (g := (fun r1 : Int32 => ((some (.int r1), h, σ) : Option Value × Int64 × cS))) (st := []) (st1 := (fun r1 : Int32 => [.int r1])) (rmf := 0) (rml := 0) [.int x1] k0 cal_X5_isVisited q_15_8 ⟨Nat.le_of_ble_eq_true rfl, Nat.le_of_ble_eq_true rfl⟩ rfl rfl (Nat.le_of_ble_eq_true rfl) rfl hk0.1 (ce5 hk0.1 _ _) (ctX5_isVisited (kl K) G X.2.2.2.2.2.2.2.1 h σ k0 hk0 x1) dX5_visit_2 (fun _ => rfl) (fun r1 => ?_)
  refine z_if_ne X 60 dX5_visit_5 (by decide) ?_ ?_
  · refine z_aload_n X dX5_visit_8 0 rfl ?_
    refine z_dup X dX5_visit_9 rfl ?_
    refine z_get X inlX5 rfl hk0.1 (ce5 hk0.1 _ _) 5 (by decide) q_15_3 rfl dX5_visit_10 ?_
    refine z_iconst (v := (1 : Int32)) X dX5_visit_13 (by decide) ?_
    refine z_iload_n X dX5_visit_14 1 rfl ?_
    refine z_ishl X dX5_visit_15 ?_
    refine z_ior X dX5_visit_16 ?_
    refine z_put X inlX5 rfl hk0.1 (ce5 hk0.1 _ _) 5 (by decide) q_15_3 tyX5 tyX5_ok nmX5 rfl (cp5 hk0.1 _ _ _ 5 (by decide)) rfl rfl (Nat.le_of_ble_eq_true rfl) dX5_visit_17 (fun σ2 => ?_)
    refine z_aload_n X dX5_visit_20 0 rfl ?_
    refine z_get X inlX5 rfl hk0.1 (ce5 hk0.1 _ _) 0 (by decide) q_3_18 rfl dX5_visit_21 ?_
    refine z_aload_n X dX5_visit_24 0 rfl ?_
    refine z_get X inlX5 rfl hk0.1 (ce5 hk0.1 _ _) 4 (by decide) q_15_2 rfl dX5_visit_25 ?_
    refine z_iload_n X dX5_visit_28 1 rfl ?_
    refine z_callV0 X (g := (fun r3 : cS => ((none, h, r3) : Option Value × Int64 × cS))) (st := []) (st1 := (fun r3 : cS => [])) (rmf := 0) (rml := 0) [.int (σ2 k0 4), .int x1] (k0 + 1) cal_X4_set q_15_12 ⟨Nat.le_of_ble_eq_true rfl, Nat.le_of_ble_eq_true rfl⟩ rfl rfl (Nat.le_of_ble_eq_true rfl) rfl hk0.2.1.1 (ce4 hk0.2.1.1 _ _) (ctX4_set (kl K) G X.2.2.2.2.2.2.2.1 h σ2 (k0 + 1) hk0.2.1 (σ2 k0 4) x1) dX5_visit_29 (fun _ => rfl) (fun r3 => ?_)
    refine z_aload_n X dX5_visit_32 0 rfl ?_
    refine z_get X inlX5 rfl hk0.1 (ce5 hk0.1 _ _) 1 (by decide) q_3_19 rfl dX5_visit_33 ?_
    refine z_iload_n X dX5_visit_36 1 rfl ?_
    refine z_iload_n X dX5_visit_37 2 rfl ?_
    refine z_callV0 X (g := (fun r4 : cS => ((none, h, r4) : Option Value × Int64 × cS))) (st := []) (st1 := (fun r4 : cS => [])) (rmf := 0) (rml := 0) [.int x1, .int x2] (k0 + 3) cal_X4_set q_15_12 ⟨Nat.le_of_ble_eq_true rfl, Nat.le_of_ble_eq_true rfl⟩ rfl rfl (Nat.le_of_ble_eq_true rfl) rfl hk0.2.2.1.1 (ce4 hk0.2.2.1.1 _ _) (ctX4_set (kl K) G X.2.2.2.2.2.2.2.1 h r3 (k0 + 3) hk0.2.2.1 x1 x2) dX5_visit_38 (fun _ => rfl) (fun r4 => ?_)
    refine z_aload_n X dX5_visit_41 0 rfl ?_
    refine z_get X inlX5 rfl hk0.1 (ce5 hk0.1 _ _) 2 (by decide) q_3_20 rfl dX5_visit_42 ?_
    refine z_iload_n X dX5_visit_45 1 rfl ?_
    refine z_iload_n X dX5_visit_46 3 rfl ?_
    refine z_callV0 X (g := (fun r5 : cS => ((none, h, r5) : Option Value × Int64 × cS))) (st := []) (st1 := (fun r5 : cS => [])) (rmf := 0) (rml := 0) [.int x1, .int x3] (k0 + 5) cal_X4_set q_15_12 ⟨Nat.le_of_ble_eq_true rfl, Nat.le_of_ble_eq_true rfl⟩ rfl rfl (Nat.le_of_ble_eq_true rfl) rfl hk0.2.2.2.1 (ce4 hk0.2.2.2.1 _ _) (ctX4_set (kl K) G X.2.2.2.2.2.2.2.1 h r4 (k0 + 5) hk0.2.2.2 x1 x3) dX5_visit_47 (fun _ => rfl) (fun r5 => ?_)
    refine z_aload_n X dX5_visit_50 0 rfl ?_
    refine z_dup X dX5_visit_51 rfl ?_
    refine z_get X inlX5 rfl hk0.1 (ce5 hk0.1 _ _) 4 (by decide) q_15_2 rfl dX5_visit_52 ?_
    refine z_iconst (v := (1 : Int32)) X dX5_visit_55 (by decide) ?_
    refine z_iadd X dX5_visit_56 ?_
    refine z_put X inlX5 rfl hk0.1 (ce5 hk0.1 _ _) 4 (by decide) q_15_2 tyX5 tyX5_ok nmX5 rfl (cp5 hk0.1 _ _ _ 4 (by decide)) rfl rfl (Nat.le_of_ble_eq_true rfl) dX5_visit_57 (fun σ6 => ?_)
    exact z_sub [] rfl (sX5_visit_60 X k0 hk0 h σ6)
  · exact z_sub [] rfl (sX5_visit_60 X k0 hk0 h σ)
def fX5_visit (L : Nat → Nat) (σ : cS) (k0 : Nat) (x1 : Int32) (x2 : Int32) (x3 : Int32) : Option cS := fX5_visit_0 L k0 x1 x2 x3 σ
set_option maxHeartbeats 4000000 in
set_option maxRecDepth 100000 in
theorem ctX5_visit (l : Launch) (G : Lay) (hi : Inj G) (h : Int64) (σ : cS) (k0 : Nat) (hk0 : isSearch G k0) (x1 : Int32) (x2 : Int32) (x3 : Int32) : ∀ r, fX5_visit (ll G) σ k0 x1 x2 x3 = some r → CM l yX5_visit cX5_visit 4 none 1 22 G [.ref (la G k0), .int x1, .int x2, .int x3] h σ (none, h, r) := by
  refine cm_of (g := (fun r : cS => ((none, h, r) : Option Value × Int64 × cS))) (by decide) hi (Nat.le_of_ble_eq_true rfl) (fun K hKl X => ?_)
  unfold fX5_visit
  exact z_sub [0, 1, 2, 3] rfl (sX5_visit_0 X k0 hk0 h x1 x2 x3 σ)
def fX5_visitFrom_100 (L : Nat → Nat) (Nf : Nat) (k0 : Nat) (k1 : Nat) (σ : cS) : Option cS := some σ
set_option maxHeartbeats 4000000 in
set_option maxRecDepth 100000 in
theorem sX5_visitFrom_100 {K : MCx} {G : Lay} (X : Cx K G RX5 cX5_visitFrom 6 none 2 45) (Nf : Nat) (k0 : Nat) (hk0 : isSearch G k0) (k1 : Nat) (hk1 : isGraph G k1) (h : Int64) (σ : cS) : Sm K G TT (QM K G (fun r : cS => ((none, h, r) : Option Value × Int64 × cS))) 6 100 [] [] h σ (fX5_visitFrom_100 (ll G) Nf k0 k1 σ) := by
  unfold fX5_visitFrom_100
  exact z_vret X rfl dX5_visitFrom_100
def fX5_visitFrom_88 (L : Nat → Nat) (Nf : Nat) (k0 : Nat) (k1 : Nat) (self24 : Int32 → cS → Option cS) (self51 : Int32 → Int32 → Int32 → cS → Option cS) (x3 : Int32) (x4 : Int32) (x5 : Int32) (σ : cS) : Option cS := bnd (x5 + (1 : Int32)) (fun t1 => self51 x3 x4 t1 σ)
set_option maxHeartbeats 4000000 in
set_option maxRecDepth 100000 in
theorem sX5_visitFrom_88 {K : MCx} {G : Lay} (X : Cx K G RX5 cX5_visitFrom 6 none 2 45) (Nf : Nat) (k0 : Nat) (hk0 : isSearch G k0) (k1 : Nat) (hk1 : isGraph G k1) (h : Int64) (self24 : Int32 → cS → Option cS) (hself24 : ∀ (x3 : Int32) (σ : cS), Sm K G TT (QM K G (fun r : cS => ((none, h, r) : Option Value × Int64 × cS))) 6 24 [(0, .ref (la G k0)), (1, .ref (la G k1)), (3, .int x3)] [] h σ (self24 x3 σ)) (self51 : Int32 → Int32 → Int32 → cS → Option cS) (hself51 : ∀ (x3 : Int32) (x4 : Int32) (x5 : Int32) (σ : cS), Sm K G TT (QM K G (fun r : cS => ((none, h, r) : Option Value × Int64 × cS))) 6 51 [(0, .ref (la G k0)), (1, .ref (la G k1)), (3, .int x3), (4, .int x4), (5, .int x5)] [] h σ (self51 x3 x4 x5 σ)) (x3 : Int32) (x4 : Int32) (x5 : Int32) (σ : cS) : Sm K G TT (QM K G (fun r : cS => ((none, h, r) : Option Value × Int64 × cS))) 6 88 [(0, .ref (la G k0)), (1, .ref (la G k1)), (3, .int x3), (4, .int x4), (5, .int x5)] [] h σ (fX5_visitFrom_88 (ll G) Nf k0 k1 self24 self51 x3 x4 x5 σ) := by
  unfold fX5_visitFrom_88
  refine z_iinc X (fun t1 => [(5, .int t1), (0, .ref (la G k0)), (1, .ref (la G k1)), (3, .int x3), (4, .int x4)]) dX5_visitFrom_88 4 rfl (by decide) (by decide) (fun _ => rfl) (fun t1 => ?_)
  refine z_goto X 51 dX5_visitFrom_91 (by decide) ?_
  exact z_sub [1, 2, 3, 4, 0] rfl (hself51 x3 x4 t1 σ)
def fX5_visitFrom_51 (L : Nat → Nat) (Nf : Nat) (k0 : Nat) (k1 : Nat) (self24 : Int32 → cS → Option cS) : Nat → Int32 → Int32 → Int32 → cS → Option cS
  | 0, _, _, _, _ => none
  | n + 1, x3, x4, x5, σ => if (σ k1 8) ≤ x5 then (bnd (x3 + (1 : Int32)) (fun t1 => self24 t1 σ)) else (Option.bind (fX4_get L σ (k1 + 7) x5) (fun r2 => if r2 = x4 then (Option.bind (fX0_endNotHolding L σ k1 x5) (fun r3 => Option.bind (fX5_visit L σ k0 r3 x5 x4) (fun r4 => fX5_visitFrom_88 L Nf k0 k1 self24 (fX5_visitFrom_51 L Nf k0 k1 self24 n) x3 x4 x5 r4))) else (fX5_visitFrom_88 L Nf k0 k1 self24 (fX5_visitFrom_51 L Nf k0 k1 self24 n) x3 x4 x5 σ)))
set_option maxHeartbeats 4000000 in
set_option maxRecDepth 100000 in
theorem sX5_visitFrom_51 {K : MCx} {G : Lay} (X : Cx K G RX5 cX5_visitFrom 6 none 2 45) (Nf : Nat) (k0 : Nat) (hk0 : isSearch G k0) (k1 : Nat) (hk1 : isGraph G k1) (h : Int64) (self24 : Int32 → cS → Option cS) (hself24 : ∀ (x3 : Int32) (σ : cS), Sm K G TT (QM K G (fun r : cS => ((none, h, r) : Option Value × Int64 × cS))) 6 24 [(0, .ref (la G k0)), (1, .ref (la G k1)), (3, .int x3)] [] h σ (self24 x3 σ)) : ∀ (n : Nat) (x3 : Int32) (x4 : Int32) (x5 : Int32) (σ : cS), Sm K G TT (QM K G (fun r : cS => ((none, h, r) : Option Value × Int64 × cS))) 6 51 [(0, .ref (la G k0)), (1, .ref (la G k1)), (3, .int x3), (4, .int x4), (5, .int x5)] [] h σ (fX5_visitFrom_51 (ll G) Nf k0 k1 self24 n x3 x4 x5 σ) := by
  intro n
  induction n with
  | zero => intros; exact z_none
  | succ n ih =>
    intro x3 x4 x5 σ
    unfold fX5_visitFrom_51
    refine z_iload X dX5_visitFrom_51 4 rfl ?_
    refine z_aload_n X dX5_visitFrom_53 1 rfl ?_
    refine z_getN X inlX0 rfl hk1.1 (ce0 hk1.1 _ _) 8 (by decide) n_13 rfl dX5_visitFrom_54 ?_
    refine z_icmp_ge X 94 dX5_visitFrom_57 (by decide) ?_ ?_
    · refine z_iinc X (fun t1 => [(3, .int t1), (0, .ref (la G k0)), (1, .ref (la G k1)), (4, .int x4), (5, .int x5)]) dX5_visitFrom_94 2 rfl (by decide) (by decide) (fun _ => rfl) (fun t1 => ?_)
      refine z_goto X 24 dX5_visitFrom_97 (by decide) ?_
      exact z_sub [1, 2, 0] rfl (hself24 t1 σ)
    · refine z_aload_n X dX5_visitFrom_60 1 rfl ?_
      refine z_getN X inlX0 rfl hk1.1 (ce0 hk1.1 _ _) 3 (by decide) n_3 rfl dX5_visitFrom_61 ?_
      refine z_iload X dX5_visitFrom_64 4 rfl ?_
      refine z_callV0 X (g := (fun r2 : Int32 => ((some (.int r2), h, σ) : Option Value × Int64 × cS))) (st := []) (st1 := (fun r2 : Int32 => [.int r2])) (rmf := 0) (rml := 0) [.int x5] (k1 + 7) cal_X4_get q_15_13 ⟨Nat.le_of_ble_eq_true rfl, Nat.le_of_ble_eq_true rfl⟩ rfl rfl (Nat.le_of_ble_eq_true rfl) rfl hk1.2.2.2.2.1.1 (ce4 hk1.2.2.2.2.1.1 _ _) (ctX4_get (kl K) G X.2.2.2.2.2.2.2.1 h σ (k1 + 7) hk1.2.2.2.2.1 x5) dX5_visitFrom_66 (fun _ => rfl) (fun r2 => ?_)
      refine z_iload X dX5_visitFrom_69 3 rfl ?_
      refine z_icmp_ne X 88 dX5_visitFrom_71 (by decide) ?_ ?_
      · refine z_aload_n X dX5_visitFrom_74 0 rfl ?_
        refine z_aload_n X dX5_visitFrom_75 1 rfl ?_
        refine z_iload X dX5_visitFrom_76 4 rfl ?_
        refine z_callV0 X (g := (fun r3 : Int32 => ((some (.int r3), h, σ) : Option Value × Int64 × cS))) (st := [.ref (la G k0)]) (st1 := (fun r3 : Int32 => [.int r3, .ref (la G k0)])) (rmf := 1) (rml := 21) [.int x5] k1 cal_X0_endNotHolding q_15_14 ⟨Nat.le_of_ble_eq_true rfl, Nat.le_of_ble_eq_true rfl⟩ rfl rfl (Nat.le_of_ble_eq_true rfl) rfl hk1.1 (ce0 hk1.1 _ _) (ctX0_endNotHolding (kl K) G X.2.2.2.2.2.2.2.1 h σ k1 hk1 x5) dX5_visitFrom_78 (fun _ => rfl) (fun r3 => ?_)
        refine z_iload X dX5_visitFrom_81 4 rfl ?_
        refine z_iload X dX5_visitFrom_83 3 rfl ?_
        refine z_callV0 X (g := (fun r4 : cS => ((none, h, r4) : Option Value × Int64 × cS))) (st := []) (st1 := (fun r4 : cS => [])) (rmf := 1) (rml := 22) [.int r3, .int x5, .int x4] k0 cal_X5_visit q_15_4 ⟨Nat.le_of_ble_eq_true rfl, Nat.le_of_ble_eq_true rfl⟩ rfl rfl (Nat.le_of_ble_eq_true rfl) rfl hk0.1 (ce5 hk0.1 _ _) (ctX5_visit (kl K) G X.2.2.2.2.2.2.2.1 h σ k0 hk0 r3 x5 x4) dX5_visitFrom_85 (fun _ => rfl) (fun r4 => ?_)
        exact z_sub [0, 1, 2, 3, 4] rfl (sX5_visitFrom_88 X Nf k0 hk0 k1 hk1 h self24 hself24 (fX5_visitFrom_51 (ll G) Nf k0 k1 self24 n) ih x3 x4 x5 r4)
      · exact z_sub [0, 1, 2, 3, 4] rfl (sX5_visitFrom_88 X Nf k0 hk0 k1 hk1 h self24 hself24 (fX5_visitFrom_51 (ll G) Nf k0 k1 self24 n) ih x3 x4 x5 σ)
def fX5_visitFrom_24 (L : Nat → Nat) (Nf : Nat) (k0 : Nat) (k1 : Nat) : Nat → Int32 → cS → Option cS
  | 0, _, _ => none
  | n + 1, x3, σ => if (σ k0 4) ≤ x3 then (fX5_visitFrom_100 L Nf k0 k1 σ) else (if (12 : Int32) ≤ x3 then (fX5_visitFrom_100 L Nf k0 k1 σ) else (Option.bind (fX4_get L σ (k0 + 1) x3) (fun r1 => fX5_visitFrom_51 L Nf k0 k1 (fX5_visitFrom_24 L Nf k0 k1 n) Nf x3 r1 (0 : Int32) σ)))
set_option maxHeartbeats 4000000 in
set_option maxRecDepth 100000 in
theorem sX5_visitFrom_24 {K : MCx} {G : Lay} (X : Cx K G RX5 cX5_visitFrom 6 none 2 45) (Nf : Nat) (k0 : Nat) (hk0 : isSearch G k0) (k1 : Nat) (hk1 : isGraph G k1) (h : Int64) : ∀ (n : Nat) (x3 : Int32) (σ : cS), Sm K G TT (QM K G (fun r : cS => ((none, h, r) : Option Value × Int64 × cS))) 6 24 [(0, .ref (la G k0)), (1, .ref (la G k1)), (3, .int x3)] [] h σ (fX5_visitFrom_24 (ll G) Nf k0 k1 n x3 σ) := by
  intro n
  induction n with
  | zero => intros; exact z_none
  | succ n ih =>
    intro x3 σ
    unfold fX5_visitFrom_24
    refine z_iload_n X dX5_visitFrom_24 2 rfl ?_
    refine z_aload_n X dX5_visitFrom_25 0 rfl ?_
    refine z_get X inlX5 rfl hk0.1 (ce5 hk0.1 _ _) 4 (by decide) q_15_2 rfl dX5_visitFrom_26 ?_
    refine z_icmp_ge X 100 dX5_visitFrom_29 (by decide) ?_ ?_
    · exact z_sub [] rfl (sX5_visitFrom_100 X Nf k0 hk0 k1 hk1 h σ)
    · refine z_iload_n X dX5_visitFrom_32 2 rfl ?_
      refine z_bipush (v := (12 : Int32)) X dX5_visitFrom_33 (by decide) ?_
      refine z_icmp_ge X 100 dX5_visitFrom_35 (by decide) ?_ ?_
      · exact z_sub [] rfl (sX5_visitFrom_100 X Nf k0 hk0 k1 hk1 h σ)
      · refine z_aload_n X dX5_visitFrom_38 0 rfl ?_
        refine z_get X inlX5 rfl hk0.1 (ce5 hk0.1 _ _) 0 (by decide) q_3_18 rfl dX5_visitFrom_39 ?_
        refine z_iload_n X dX5_visitFrom_42 2 rfl ?_
        refine z_callV0 X (g := (fun r1 : Int32 => ((some (.int r1), h, σ) : Option Value × Int64 × cS))) (st := []) (st1 := (fun r1 : Int32 => [.int r1])) (rmf := 0) (rml := 0) [.int x3] (k0 + 1) cal_X4_get q_15_13 ⟨Nat.le_of_ble_eq_true rfl, Nat.le_of_ble_eq_true rfl⟩ rfl rfl (Nat.le_of_ble_eq_true rfl) rfl hk0.2.1.1 (ce4 hk0.2.1.1 _ _) (ctX4_get (kl K) G X.2.2.2.2.2.2.2.1 h σ (k0 + 1) hk0.2.1 x3) dX5_visitFrom_43 (fun _ => rfl) (fun r1 => ?_)
        refine z_istore X [(4, .int r1), (0, .ref (la G k0)), (1, .ref (la G k1)), (3, .int x3)] dX5_visitFrom_46 (by decide) rfl ?_
        refine z_iconst (v := (0 : Int32)) X dX5_visitFrom_48 (by decide) ?_
        refine z_istore X [(5, .int (0 : Int32)), (4, .int r1), (0, .ref (la G k0)), (1, .ref (la G k1)), (3, .int x3)] dX5_visitFrom_49 (by decide) rfl ?_
        exact z_sub [2, 3, 4, 1, 0] rfl (sX5_visitFrom_51 X Nf k0 hk0 k1 hk1 h (fX5_visitFrom_24 (ll G) Nf k0 k1 n) ih Nf x3 r1 (0 : Int32) σ)
def fX5_visitFrom_0 (L : Nat → Nat) (Nf : Nat) (k0 : Nat) (k1 : Nat) (x2 : Int32) (σ : cS) : Option cS := bnd (st2 σ k0 3 x2) (fun σ1 => bnd (st2 σ1 k0 4 (0 : Int32)) (fun σ2 => bnd (st2 σ2 k0 5 (0 : Int32)) (fun σ3 => Option.bind (fX5_visit L σ3 k0 x2 (-1 : Int32) (-1 : Int32)) (fun r4 => fX5_visitFrom_24 L Nf k0 k1 Nf (0 : Int32) r4))))
set_option maxHeartbeats 4000000 in
set_option maxRecDepth 100000 in
theorem sX5_visitFrom_0 {K : MCx} {G : Lay} (X : Cx K G RX5 cX5_visitFrom 6 none 2 45) (Nf : Nat) (k0 : Nat) (hk0 : isSearch G k0) (k1 : Nat) (hk1 : isGraph G k1) (h : Int64) (x2 : Int32) (σ : cS) : Sm K G TT (QM K G (fun r : cS => ((none, h, r) : Option Value × Int64 × cS))) 6 0 [(0, .ref (la G k0)), (1, .ref (la G k1)), (2, .int x2)] [] h σ (fX5_visitFrom_0 (ll G) Nf k0 k1 x2 σ) := by
  unfold fX5_visitFrom_0
  refine z_aload_n X dX5_visitFrom_0 0 rfl ?_
  refine z_iload_n X dX5_visitFrom_1 2 rfl ?_
  refine z_put X inlX5 rfl hk0.1 (ce5 hk0.1 _ _) 3 (by decide) q_15_1 tyX5 tyX5_ok nmX5 rfl (cp5 hk0.1 _ _ _ 3 (by decide)) rfl rfl (Nat.le_of_ble_eq_true rfl) dX5_visitFrom_2 (fun σ1 => ?_)
  refine z_aload_n X dX5_visitFrom_5 0 rfl ?_
  refine z_iconst (v := (0 : Int32)) X dX5_visitFrom_6 (by decide) ?_
  refine z_put X inlX5 rfl hk0.1 (ce5 hk0.1 _ _) 4 (by decide) q_15_2 tyX5 tyX5_ok nmX5 rfl (cp5 hk0.1 _ _ _ 4 (by decide)) rfl rfl (Nat.le_of_ble_eq_true rfl) dX5_visitFrom_7 (fun σ2 => ?_)
  refine z_aload_n X dX5_visitFrom_10 0 rfl ?_
  refine z_iconst (v := (0 : Int32)) X dX5_visitFrom_11 (by decide) ?_
  refine z_put X inlX5 rfl hk0.1 (ce5 hk0.1 _ _) 5 (by decide) q_15_3 tyX5 tyX5_ok nmX5 rfl (cp5 hk0.1 _ _ _ 5 (by decide)) rfl rfl (Nat.le_of_ble_eq_true rfl) dX5_visitFrom_12 (fun σ3 => ?_)
  refine z_aload_n X dX5_visitFrom_15 0 rfl ?_
  refine z_iload_n X dX5_visitFrom_16 2 rfl ?_
  refine z_iconst (v := (-1 : Int32)) X dX5_visitFrom_17 (by decide) ?_
  refine z_iconst (v := (-1 : Int32)) X dX5_visitFrom_18 (by decide) ?_
  refine z_callV0 X (g := (fun r4 : cS => ((none, h, r4) : Option Value × Int64 × cS))) (st := []) (st1 := (fun r4 : cS => [])) (rmf := 1) (rml := 22) [.int x2, .int (-1 : Int32), .int (-1 : Int32)] k0 cal_X5_visit q_15_4 ⟨Nat.le_of_ble_eq_true rfl, Nat.le_of_ble_eq_true rfl⟩ rfl rfl (Nat.le_of_ble_eq_true rfl) rfl hk0.1 (ce5 hk0.1 _ _) (ctX5_visit (kl K) G X.2.2.2.2.2.2.2.1 h σ3 k0 hk0 x2 (-1 : Int32) (-1 : Int32)) dX5_visitFrom_19 (fun _ => rfl) (fun r4 => ?_)
  refine z_iconst (v := (0 : Int32)) X dX5_visitFrom_22 (by decide) ?_
  refine z_istore_n X [(3, .int (0 : Int32)), (0, .ref (la G k0)), (1, .ref (la G k1)), (2, .int x2)] dX5_visitFrom_23 (by decide) rfl ?_
  exact z_sub [1, 2, 0] rfl (sX5_visitFrom_24 X Nf k0 hk0 k1 hk1 h Nf (0 : Int32) r4)
def fX5_visitFrom (L : Nat → Nat) (Nf : Nat) (σ : cS) (k0 : Nat) (k1 : Nat) (x2 : Int32) : Option cS := fX5_visitFrom_0 L Nf k0 k1 x2 σ
set_option maxHeartbeats 4000000 in
set_option maxRecDepth 100000 in
theorem ctX5_visitFrom (l : Launch) (G : Lay) (hi : Inj G) (Nf : Nat) (h : Int64) (σ : cS) (k0 : Nat) (hk0 : isSearch G k0) (k1 : Nat) (hk1 : isGraph G k1) (x2 : Int32) : ∀ r, fX5_visitFrom (ll G) Nf σ k0 k1 x2 = some r → CM l yX5_visitFrom cX5_visitFrom 6 none 2 45 G [.ref (la G k0), .ref (la G k1), .int x2] h σ (none, h, r) := by
  refine cm_of (g := (fun r : cS => ((none, h, r) : Option Value × Int64 × cS))) (by decide) hi (Nat.le_of_ble_eq_true rfl) (fun K hKl X => ?_)
  unfold fX5_visitFrom
  exact z_sub [0, 1, 2] rfl (sX5_visitFrom_0 X Nf k0 hk0 k1 hk1 h x2 σ)
def fX5_lengthTo_43 (L : Nat → Nat) (Nf : Nat) (σ : cS) (k0 : Nat) (x2 : Int32)  : Option Int32 := some x2
set_option maxHeartbeats 4000000 in
set_option maxRecDepth 100000 in
theorem sX5_lengthTo_43 {K : MCx} {G : Lay} (X : Cx K G RX5 cX5_lengthTo 4 (some .int) 1 21) (Nf : Nat) (k0 : Nat) (hk0 : isSearch G k0) (h : Int64) (σ : cS) (x2 : Int32) : Sm K G TT (QM K G (fun r : Int32 => ((some (.int r), h, σ) : Option Value × Int64 × cS))) 4 43 [(2, .int x2)] [] h σ (fX5_lengthTo_43 (ll G) Nf σ k0 x2) := by
  unfold fX5_lengthTo_43
  refine z_iload_n X dX5_lengthTo_43 0 rfl ?_
  exact z_iret X rfl dX5_lengthTo_44
def fX5_lengthTo_14 (L : Nat → Nat) (Nf : Nat) (σ : cS) (k0 : Nat) : Nat → Int32 → Int32 → Option Int32
  | 0, _, _ => none
  | n + 1, x2, x3 => if x3 = (σ k0 3) then (fX5_lengthTo_43 L Nf σ k0 x2) else (if (12 : Int32) ≤ x2 then (fX5_lengthTo_43 L Nf σ k0 x2) else (bnd (x2 + (1 : Int32)) (fun t1 => Option.bind (fX4_get L σ (k0 + 5) x3) (fun r2 => fX5_lengthTo_14 L Nf σ k0 n t1 r2))))
set_option maxHeartbeats 4000000 in
set_option maxRecDepth 100000 in
theorem sX5_lengthTo_14 {K : MCx} {G : Lay} (X : Cx K G RX5 cX5_lengthTo 4 (some .int) 1 21) (Nf : Nat) (k0 : Nat) (hk0 : isSearch G k0) (h : Int64) (σ : cS) : ∀ (n : Nat) (x2 : Int32) (x3 : Int32), Sm K G TT (QM K G (fun r : Int32 => ((some (.int r), h, σ) : Option Value × Int64 × cS))) 4 14 [(0, .ref (la G k0)), (2, .int x2), (3, .int x3)] [] h σ (fX5_lengthTo_14 (ll G) Nf σ k0 n x2 x3) := by
  intro n
  induction n with
  | zero => intros; exact z_none
  | succ n ih =>
    intro x2 x3
    unfold fX5_lengthTo_14
    refine z_iload_n X dX5_lengthTo_14 2 rfl ?_
    refine z_aload_n X dX5_lengthTo_15 0 rfl ?_
    refine z_get X inlX5 rfl hk0.1 (ce5 hk0.1 _ _) 3 (by decide) q_15_1 rfl dX5_lengthTo_16 ?_
    refine z_icmp_eq X 43 dX5_lengthTo_19 (by decide) ?_ ?_
    · exact z_sub [1] rfl (sX5_lengthTo_43 X Nf k0 hk0 h σ x2)
    · refine z_iload_n X dX5_lengthTo_22 1 rfl ?_
      refine z_bipush (v := (12 : Int32)) X dX5_lengthTo_23 (by decide) ?_
      refine z_icmp_ge X 43 dX5_lengthTo_25 (by decide) ?_ ?_
      · exact z_sub [1] rfl (sX5_lengthTo_43 X Nf k0 hk0 h σ x2)
      · refine z_iinc X (fun t1 => [(2, .int t1), (0, .ref (la G k0)), (3, .int x3)]) dX5_lengthTo_28 1 rfl (by decide) (by decide) (fun _ => rfl) (fun t1 => ?_)
        refine z_aload_n X dX5_lengthTo_31 1 rfl ?_
        refine z_get X inlX5 rfl hk0.1 (ce5 hk0.1 _ _) 2 (by decide) q_3_20 rfl dX5_lengthTo_32 ?_
        refine z_iload_n X dX5_lengthTo_35 2 rfl ?_
        refine z_callV0 X (g := (fun r2 : Int32 => ((some (.int r2), h, σ) : Option Value × Int64 × cS))) (st := []) (st1 := (fun r2 : Int32 => [.int r2])) (rmf := 0) (rml := 0) [.int x3] (k0 + 5) cal_X4_get q_15_13 ⟨Nat.le_of_ble_eq_true rfl, Nat.le_of_ble_eq_true rfl⟩ rfl rfl (Nat.le_of_ble_eq_true rfl) rfl hk0.2.2.2.1 (ce4 hk0.2.2.2.1 _ _) (ctX4_get (kl K) G X.2.2.2.2.2.2.2.1 h σ (k0 + 5) hk0.2.2.2 x3) dX5_lengthTo_36 (fun _ => rfl) (fun r2 => ?_)
        refine z_istore_n X [(3, .int r2), (2, .int t1), (0, .ref (la G k0))] dX5_lengthTo_39 (by decide) rfl ?_
        refine z_goto X 14 dX5_lengthTo_40 (by decide) ?_
        exact z_sub [2, 1, 0] rfl (ih t1 r2)
def fX5_lengthTo_0 (L : Nat → Nat) (Nf : Nat) (σ : cS) (k0 : Nat) (x1 : Int32)  : Option Int32 := Option.bind (fX5_isVisited σ k0 x1) (fun r1 => if r1 = 0 then (some (-1 : Int32)) else (fX5_lengthTo_14 L Nf σ k0 Nf (0 : Int32) x1))
set_option maxHeartbeats 4000000 in
set_option maxRecDepth 100000 in
theorem sX5_lengthTo_0 {K : MCx} {G : Lay} (X : Cx K G RX5 cX5_lengthTo 4 (some .int) 1 21) (Nf : Nat) (k0 : Nat) (hk0 : isSearch G k0) (h : Int64) (σ : cS) (x1 : Int32) : Sm K G TT (QM K G (fun r : Int32 => ((some (.int r), h, σ) : Option Value × Int64 × cS))) 4 0 [(0, .ref (la G k0)), (1, .int x1)] [] h σ (fX5_lengthTo_0 (ll G) Nf σ k0 x1) := by
  unfold fX5_lengthTo_0
  refine z_aload_n X dX5_lengthTo_0 0 rfl ?_
  refine z_iload_n X dX5_lengthTo_1 1 rfl ?_
  refine z_callV0 X (g := (fun r1 : Int32 => ((some (.int r1), h, σ) : Option Value × Int64 × cS))) (st := []) (st1 := (fun r1 : Int32 => [.int r1])) (rmf := 0) (rml := 0) [.int x1] k0 cal_X5_isVisited q_15_8 ⟨Nat.le_of_ble_eq_true rfl, Nat.le_of_ble_eq_true rfl⟩ rfl rfl (Nat.le_of_ble_eq_true rfl) rfl hk0.1 (ce5 hk0.1 _ _) (ctX5_isVisited (kl K) G X.2.2.2.2.2.2.2.1 h σ k0 hk0 x1) dX5_lengthTo_2 (fun _ => rfl) (fun r1 => ?_)
  refine z_if_ne X 10 dX5_lengthTo_5 (by decide) ?_ ?_
  · refine z_iconst (v := (-1 : Int32)) X dX5_lengthTo_8 (by decide) ?_
    exact z_iret X rfl dX5_lengthTo_9
  · refine z_iconst (v := (0 : Int32)) X dX5_lengthTo_10 (by decide) ?_
    refine z_istore_n X [(2, .int (0 : Int32)), (0, .ref (la G k0)), (1, .int x1)] dX5_lengthTo_11 (by decide) rfl ?_
    refine z_iload_n X dX5_lengthTo_12 2 rfl ?_
    refine z_istore_n X [(3, .int x1), (2, .int (0 : Int32)), (0, .ref (la G k0)), (1, .int x1)] dX5_lengthTo_13 (by decide) rfl ?_
    exact z_sub [2, 1, 0] rfl (sX5_lengthTo_14 X Nf k0 hk0 h σ Nf (0 : Int32) x1)
def fX5_lengthTo (L : Nat → Nat) (Nf : Nat) (σ : cS) (k0 : Nat) (x1 : Int32) : Option Int32 := fX5_lengthTo_0 L Nf σ k0 x1
set_option maxHeartbeats 4000000 in
set_option maxRecDepth 100000 in
theorem ctX5_lengthTo (l : Launch) (G : Lay) (hi : Inj G) (Nf : Nat) (h : Int64) (σ : cS) (k0 : Nat) (hk0 : isSearch G k0) (x1 : Int32) : ∀ r, fX5_lengthTo (ll G) Nf σ k0 x1 = some r → CM l yX5_lengthTo cX5_lengthTo 4 (some .int) 1 21 G [.ref (la G k0), .int x1] h σ (some (.int r), h, σ) := by
  refine cm_of (g := (fun r : Int32 => ((some (.int r), h, σ) : Option Value × Int64 × cS))) (by decide) hi (Nat.le_of_ble_eq_true rfl) (fun K hKl X => ?_)
  unfold fX5_lengthTo
  exact z_sub [0, 1] rfl (sX5_lengthTo_0 X Nf k0 hk0 h σ x1)
def fX5_slotOnPathTo_25 (L : Nat → Nat) (Nf : Nat) (σ : cS) (k0 : Nat) : Nat → Int32 → Int32 → Int32 → Option Int32
  | 0, _, _, _ => none
  | n + 1, x2, x4, x5 => if x5 ≤ x2 then (Option.bind (fX4_get L σ (k0 + 3) x4) (fun r1 => some r1)) else (Option.bind (fX4_get L σ (k0 + 5) x4) (fun r2 => bnd (x5 + (-1 : Int32)) (fun t3 => fX5_slotOnPathTo_25 L Nf σ k0 n x2 r2 t3)))
set_option maxHeartbeats 4000000 in
set_option maxRecDepth 100000 in
theorem sX5_slotOnPathTo_25 {K : MCx} {G : Lay} (X : Cx K G RX5 cX5_slotOnPathTo 6 (some .int) 2 44) (Nf : Nat) (k0 : Nat) (hk0 : isSearch G k0) (h : Int64) (σ : cS) : ∀ (n : Nat) (x2 : Int32) (x4 : Int32) (x5 : Int32), Sm K G TT (QM K G (fun r : Int32 => ((some (.int r), h, σ) : Option Value × Int64 × cS))) 6 25 [(0, .ref (la G k0)), (2, .int x2), (4, .int x4), (5, .int x5)] [] h σ (fX5_slotOnPathTo_25 (ll G) Nf σ k0 n x2 x4 x5) := by
  intro n
  induction n with
  | zero => intros; exact z_none
  | succ n ih =>
    intro x2 x4 x5
    unfold fX5_slotOnPathTo_25
    refine z_iload X dX5_slotOnPathTo_25 3 rfl ?_
    refine z_iload_n X dX5_slotOnPathTo_27 1 rfl ?_
    refine z_icmp_le X 48 dX5_slotOnPathTo_28 (by decide) ?_ ?_
    · refine z_aload_n X dX5_slotOnPathTo_48 0 rfl ?_
      refine z_get X inlX5 rfl hk0.1 (ce5 hk0.1 _ _) 1 (by decide) q_3_19 rfl dX5_slotOnPathTo_49 ?_
      refine z_iload X dX5_slotOnPathTo_52 2 rfl ?_
      refine z_callV0 X (g := (fun r1 : Int32 => ((some (.int r1), h, σ) : Option Value × Int64 × cS))) (st := []) (st1 := (fun r1 : Int32 => [.int r1])) (rmf := 0) (rml := 0) [.int x4] (k0 + 3) cal_X4_get q_15_13 ⟨Nat.le_of_ble_eq_true rfl, Nat.le_of_ble_eq_true rfl⟩ rfl rfl (Nat.le_of_ble_eq_true rfl) rfl hk0.2.2.1.1 (ce4 hk0.2.2.1.1 _ _) (ctX4_get (kl K) G X.2.2.2.2.2.2.2.1 h σ (k0 + 3) hk0.2.2.1 x4) dX5_slotOnPathTo_54 (fun _ => rfl) (fun r1 => ?_)
      exact z_iret X rfl dX5_slotOnPathTo_57
    · refine z_aload_n X dX5_slotOnPathTo_31 0 rfl ?_
      refine z_get X inlX5 rfl hk0.1 (ce5 hk0.1 _ _) 2 (by decide) q_3_20 rfl dX5_slotOnPathTo_32 ?_
      refine z_iload X dX5_slotOnPathTo_35 2 rfl ?_
      refine z_callV0 X (g := (fun r2 : Int32 => ((some (.int r2), h, σ) : Option Value × Int64 × cS))) (st := []) (st1 := (fun r2 : Int32 => [.int r2])) (rmf := 0) (rml := 0) [.int x4] (k0 + 5) cal_X4_get q_15_13 ⟨Nat.le_of_ble_eq_true rfl, Nat.le_of_ble_eq_true rfl⟩ rfl rfl (Nat.le_of_ble_eq_true rfl) rfl hk0.2.2.2.1 (ce4 hk0.2.2.2.1 _ _) (ctX4_get (kl K) G X.2.2.2.2.2.2.2.1 h σ (k0 + 5) hk0.2.2.2 x4) dX5_slotOnPathTo_37 (fun _ => rfl) (fun r2 => ?_)
      refine z_istore X [(4, .int r2), (0, .ref (la G k0)), (2, .int x2), (5, .int x5)] dX5_slotOnPathTo_40 (by decide) rfl ?_
      refine z_iinc X (fun t3 => [(5, .int t3), (4, .int r2), (0, .ref (la G k0)), (2, .int x2)]) dX5_slotOnPathTo_42 3 rfl (by decide) (by decide) (fun _ => rfl) (fun t3 => ?_)
      refine z_goto X 25 dX5_slotOnPathTo_45 (by decide) ?_
      exact z_sub [2, 3, 1, 0] rfl (ih x2 r2 t3)
def fX5_slotOnPathTo_15 (L : Nat → Nat) (Nf : Nat) (σ : cS) (k0 : Nat)  : Option Int32 := some (-1 : Int32)
set_option maxHeartbeats 4000000 in
set_option maxRecDepth 100000 in
theorem sX5_slotOnPathTo_15 {K : MCx} {G : Lay} (X : Cx K G RX5 cX5_slotOnPathTo 6 (some .int) 2 44) (Nf : Nat) (k0 : Nat) (hk0 : isSearch G k0) (h : Int64) (σ : cS) : Sm K G TT (QM K G (fun r : Int32 => ((some (.int r), h, σ) : Option Value × Int64 × cS))) 6 15 [] [] h σ (fX5_slotOnPathTo_15 (ll G) Nf σ k0) := by
  unfold fX5_slotOnPathTo_15
  refine z_iconst (v := (-1 : Int32)) X dX5_slotOnPathTo_15 (by decide) ?_
  exact z_iret X rfl dX5_slotOnPathTo_16
def fX5_slotOnPathTo_0 (L : Nat → Nat) (Nf : Nat) (σ : cS) (k0 : Nat) (x1 : Int32) (x2 : Int32)  : Option Int32 := Option.bind (fX5_lengthTo L Nf σ k0 x1) (fun r1 => if x2 < 0 then (fX5_slotOnPathTo_15 L Nf σ k0) else (if x2 < r1 then (bnd ((r1 - (1 : Int32))) (fun t2 => fX5_slotOnPathTo_25 L Nf σ k0 Nf x2 x1 t2)) else (fX5_slotOnPathTo_15 L Nf σ k0)))
set_option maxHeartbeats 4000000 in
set_option maxRecDepth 100000 in
theorem sX5_slotOnPathTo_0 {K : MCx} {G : Lay} (X : Cx K G RX5 cX5_slotOnPathTo 6 (some .int) 2 44) (Nf : Nat) (k0 : Nat) (hk0 : isSearch G k0) (h : Int64) (σ : cS) (x1 : Int32) (x2 : Int32) : Sm K G TT (QM K G (fun r : Int32 => ((some (.int r), h, σ) : Option Value × Int64 × cS))) 6 0 [(0, .ref (la G k0)), (1, .int x1), (2, .int x2)] [] h σ (fX5_slotOnPathTo_0 (ll G) Nf σ k0 x1 x2) := by
  unfold fX5_slotOnPathTo_0
  refine z_aload_n X dX5_slotOnPathTo_0 0 rfl ?_
  refine z_iload_n X dX5_slotOnPathTo_1 1 rfl ?_
  refine z_callV0 X (g := (fun r1 : Int32 => ((some (.int r1), h, σ) : Option Value × Int64 × cS))) (st := []) (st1 := (fun r1 : Int32 => [.int r1])) (rmf := 1) (rml := 21) [.int x1] k0 cal_X5_lengthTo q_16_2 ⟨Nat.le_of_ble_eq_true rfl, Nat.le_of_ble_eq_true rfl⟩ rfl rfl (Nat.le_of_ble_eq_true rfl) rfl hk0.1 (ce5 hk0.1 _ _) (ctX5_lengthTo (kl K) G X.2.2.2.2.2.2.2.1 Nf h σ k0 hk0 x1) dX5_slotOnPathTo_2 (fun _ => rfl) (fun r1 => ?_)
  refine z_istore_n X [(3, .int r1), (0, .ref (la G k0)), (1, .int x1), (2, .int x2)] dX5_slotOnPathTo_5 (by decide) rfl ?_
  refine z_iload_n X dX5_slotOnPathTo_6 3 rfl ?_
  refine z_if_lt X 15 dX5_slotOnPathTo_7 (by decide) ?_ ?_
  · exact z_sub [] rfl (sX5_slotOnPathTo_15 X Nf k0 hk0 h σ)
  · refine z_iload_n X dX5_slotOnPathTo_10 3 rfl ?_
    refine z_iload_n X dX5_slotOnPathTo_11 0 rfl ?_
    refine z_icmp_lt X 17 dX5_slotOnPathTo_12 (by decide) ?_ ?_
    · refine z_iload_n X dX5_slotOnPathTo_17 2 rfl ?_
      refine z_istore X [(4, .int x1), (3, .int r1), (0, .ref (la G k0)), (1, .int x1), (2, .int x2)] dX5_slotOnPathTo_18 (by decide) rfl ?_
      refine z_iload_n X dX5_slotOnPathTo_20 1 rfl ?_
      refine z_iconst (v := (1 : Int32)) X dX5_slotOnPathTo_21 (by decide) ?_
      refine z_isub X dX5_slotOnPathTo_22 ?_
      refine z_nm (fun t2 => ?_)
      refine z_istore X [(5, .int t2), (4, .int x1), (3, .int r1), (0, .ref (la G k0)), (1, .int x1), (2, .int x2)] dX5_slotOnPathTo_23 (by decide) rfl ?_
      exact z_sub [3, 5, 1, 0] rfl (sX5_slotOnPathTo_25 X Nf k0 hk0 h σ Nf x2 x1 t2)
    · exact z_sub [] rfl (sX5_slotOnPathTo_15 X Nf k0 hk0 h σ)
def fX5_slotOnPathTo (L : Nat → Nat) (Nf : Nat) (σ : cS) (k0 : Nat) (x1 : Int32) (x2 : Int32) : Option Int32 := fX5_slotOnPathTo_0 L Nf σ k0 x1 x2
set_option maxHeartbeats 4000000 in
set_option maxRecDepth 100000 in
theorem ctX5_slotOnPathTo (l : Launch) (G : Lay) (hi : Inj G) (Nf : Nat) (h : Int64) (σ : cS) (k0 : Nat) (hk0 : isSearch G k0) (x1 : Int32) (x2 : Int32) : ∀ r, fX5_slotOnPathTo (ll G) Nf σ k0 x1 x2 = some r → CM l yX5_slotOnPathTo cX5_slotOnPathTo 6 (some .int) 2 44 G [.ref (la G k0), .int x1, .int x2] h σ (some (.int r), h, σ) := by
  refine cm_of (g := (fun r : Int32 => ((some (.int r), h, σ) : Option Value × Int64 × cS))) (by decide) hi (Nat.le_of_ble_eq_true rfl) (fun K hKl X => ?_)
  unfold fX5_slotOnPathTo
  exact z_sub [0, 1, 2] rfl (sX5_slotOnPathTo_0 X Nf k0 hk0 h σ x1 x2)
def fX5_firstLighter_16 (L : Nat → Nat) (Nf : Nat) (σ : cS) (k0 : Nat) (k1 : Nat) : Nat → Int32 → Int32 → Option Int32
  | 0, _, _ => none
  | n + 1, x2, x3 => if (σ k0 4) ≤ x3 then (some (-1 : Int32)) else (Option.bind (fX4_get L σ (k0 + 1) x3) (fun r1 => Option.bind (fX4_get L σ (k1 + 11) r1) (fun r2 => if x2 < r2 then (bnd (x3 + (1 : Int32)) (fun t3 => fX5_firstLighter_16 L Nf σ k0 k1 n x2 t3)) else (Option.bind (fX4_get L σ (k0 + 1) x3) (fun r4 => some r4)))))
set_option maxHeartbeats 4000000 in
set_option maxRecDepth 100000 in
theorem sX5_firstLighter_16 {K : MCx} {G : Lay} (X : Cx K G RX5 cX5_firstLighter 4 (some .int) 1 21) (Nf : Nat) (k0 : Nat) (hk0 : isSearch G k0) (k1 : Nat) (hk1 : isGraph G k1) (h : Int64) (σ : cS) : ∀ (n : Nat) (x2 : Int32) (x3 : Int32), Sm K G TT (QM K G (fun r : Int32 => ((some (.int r), h, σ) : Option Value × Int64 × cS))) 4 16 [(0, .ref (la G k0)), (1, .ref (la G k1)), (2, .int x2), (3, .int x3)] [] h σ (fX5_firstLighter_16 (ll G) Nf σ k0 k1 n x2 x3) := by
  intro n
  induction n with
  | zero => intros; exact z_none
  | succ n ih =>
    intro x2 x3
    unfold fX5_firstLighter_16
    refine z_iload_n X dX5_firstLighter_16 3 rfl ?_
    refine z_aload_n X dX5_firstLighter_17 0 rfl ?_
    refine z_get X inlX5 rfl hk0.1 (ce5 hk0.1 _ _) 4 (by decide) q_15_2 rfl dX5_firstLighter_18 ?_
    refine z_icmp_ge X 58 dX5_firstLighter_21 (by decide) ?_ ?_
    · refine z_iconst (v := (-1 : Int32)) X dX5_firstLighter_58 (by decide) ?_
      exact z_iret X rfl dX5_firstLighter_59
    · refine z_aload_n X dX5_firstLighter_24 1 rfl ?_
      refine z_getN X inlX0 rfl hk1.1 (ce0 hk1.1 _ _) 5 (by decide) n_6 rfl dX5_firstLighter_25 ?_
      refine z_aload_n X dX5_firstLighter_28 0 rfl ?_
      refine z_get X inlX5 rfl hk0.1 (ce5 hk0.1 _ _) 0 (by decide) q_3_18 rfl dX5_firstLighter_29 ?_
      refine z_iload_n X dX5_firstLighter_32 3 rfl ?_
      refine z_callV0 X (g := (fun r1 : Int32 => ((some (.int r1), h, σ) : Option Value × Int64 × cS))) (st := [.ref (la G (k1 + 11))]) (st1 := (fun r1 : Int32 => [.int r1, .ref (la G (k1 + 11))])) (rmf := 0) (rml := 0) [.int x3] (k0 + 1) cal_X4_get q_15_13 ⟨Nat.le_of_ble_eq_true rfl, Nat.le_of_ble_eq_true rfl⟩ rfl rfl (Nat.le_of_ble_eq_true rfl) rfl hk0.2.1.1 (ce4 hk0.2.1.1 _ _) (ctX4_get (kl K) G X.2.2.2.2.2.2.2.1 h σ (k0 + 1) hk0.2.1 x3) dX5_firstLighter_33 (fun _ => rfl) (fun r1 => ?_)
      refine z_callV0 X (g := (fun r2 : Int32 => ((some (.int r2), h, σ) : Option Value × Int64 × cS))) (st := []) (st1 := (fun r2 : Int32 => [.int r2])) (rmf := 0) (rml := 0) [.int r1] (k1 + 11) cal_X4_get q_15_13 ⟨Nat.le_of_ble_eq_true rfl, Nat.le_of_ble_eq_true rfl⟩ rfl rfl (Nat.le_of_ble_eq_true rfl) rfl hk1.2.2.2.2.2.2.1.1 (ce4 hk1.2.2.2.2.2.2.1.1 _ _) (ctX4_get (kl K) G X.2.2.2.2.2.2.2.1 h σ (k1 + 11) hk1.2.2.2.2.2.2.1 r1) dX5_firstLighter_36 (fun _ => rfl) (fun r2 => ?_)
      refine z_iload_n X dX5_firstLighter_39 2 rfl ?_
      refine z_icmp_gt X 52 dX5_firstLighter_40 (by decide) ?_ ?_
      · refine z_iinc X (fun t3 => [(3, .int t3), (0, .ref (la G k0)), (1, .ref (la G k1)), (2, .int x2)]) dX5_firstLighter_52 3 rfl (by decide) (by decide) (fun _ => rfl) (fun t3 => ?_)
        refine z_goto X 16 dX5_firstLighter_55 (by decide) ?_
        exact z_sub [1, 2, 3, 0] rfl (ih x2 t3)
      · refine z_aload_n X dX5_firstLighter_43 0 rfl ?_
        refine z_get X inlX5 rfl hk0.1 (ce5 hk0.1 _ _) 0 (by decide) q_3_18 rfl dX5_firstLighter_44 ?_
        refine z_iload_n X dX5_firstLighter_47 3 rfl ?_
        refine z_callV0 X (g := (fun r4 : Int32 => ((some (.int r4), h, σ) : Option Value × Int64 × cS))) (st := []) (st1 := (fun r4 : Int32 => [.int r4])) (rmf := 0) (rml := 0) [.int x3] (k0 + 1) cal_X4_get q_15_13 ⟨Nat.le_of_ble_eq_true rfl, Nat.le_of_ble_eq_true rfl⟩ rfl rfl (Nat.le_of_ble_eq_true rfl) rfl hk0.2.1.1 (ce4 hk0.2.1.1 _ _) (ctX4_get (kl K) G X.2.2.2.2.2.2.2.1 h σ (k0 + 1) hk0.2.1 x3) dX5_firstLighter_48 (fun _ => rfl) (fun r4 => ?_)
        exact z_iret X rfl dX5_firstLighter_51
def fX5_firstLighter_0 (L : Nat → Nat) (Nf : Nat) (σ : cS) (k0 : Nat) (k1 : Nat)  : Option Int32 := Option.bind (fX4_get L σ (k1 + 11) (σ k0 3)) (fun r1 => bnd ((r1 - (2 : Int32))) (fun t2 => fX5_firstLighter_16 L Nf σ k0 k1 Nf t2 (0 : Int32)))
set_option maxHeartbeats 4000000 in
set_option maxRecDepth 100000 in
theorem sX5_firstLighter_0 {K : MCx} {G : Lay} (X : Cx K G RX5 cX5_firstLighter 4 (some .int) 1 21) (Nf : Nat) (k0 : Nat) (hk0 : isSearch G k0) (k1 : Nat) (hk1 : isGraph G k1) (h : Int64) (σ : cS) : Sm K G TT (QM K G (fun r : Int32 => ((some (.int r), h, σ) : Option Value × Int64 × cS))) 4 0 [(0, .ref (la G k0)), (1, .ref (la G k1))] [] h σ (fX5_firstLighter_0 (ll G) Nf σ k0 k1) := by
  unfold fX5_firstLighter_0
  refine z_aload_n X dX5_firstLighter_0 1 rfl ?_
  refine z_getN X inlX0 rfl hk1.1 (ce0 hk1.1 _ _) 5 (by decide) n_6 rfl dX5_firstLighter_1 ?_
  refine z_aload_n X dX5_firstLighter_4 0 rfl ?_
  refine z_get X inlX5 rfl hk0.1 (ce5 hk0.1 _ _) 3 (by decide) q_15_1 rfl dX5_firstLighter_5 ?_
  refine z_callV0 X (g := (fun r1 : Int32 => ((some (.int r1), h, σ) : Option Value × Int64 × cS))) (st := []) (st1 := (fun r1 : Int32 => [.int r1])) (rmf := 0) (rml := 0) [.int (σ k0 3)] (k1 + 11) cal_X4_get q_15_13 ⟨Nat.le_of_ble_eq_true rfl, Nat.le_of_ble_eq_true rfl⟩ rfl rfl (Nat.le_of_ble_eq_true rfl) rfl hk1.2.2.2.2.2.2.1.1 (ce4 hk1.2.2.2.2.2.2.1.1 _ _) (ctX4_get (kl K) G X.2.2.2.2.2.2.2.1 h σ (k1 + 11) hk1.2.2.2.2.2.2.1 (σ k0 3)) dX5_firstLighter_8 (fun _ => rfl) (fun r1 => ?_)
  refine z_iconst (v := (2 : Int32)) X dX5_firstLighter_11 (by decide) ?_
  refine z_isub X dX5_firstLighter_12 ?_
  refine z_nm (fun t2 => ?_)
  refine z_istore_n X [(2, .int t2), (0, .ref (la G k0)), (1, .ref (la G k1))] dX5_firstLighter_13 (by decide) rfl ?_
  refine z_iconst (v := (0 : Int32)) X dX5_firstLighter_14 (by decide) ?_
  refine z_istore_n X [(3, .int (0 : Int32)), (2, .int t2), (0, .ref (la G k0)), (1, .ref (la G k1))] dX5_firstLighter_15 (by decide) rfl ?_
  exact z_sub [2, 3, 1, 0] rfl (sX5_firstLighter_16 X Nf k0 hk0 k1 hk1 h σ Nf t2 (0 : Int32))
def fX5_firstLighter (L : Nat → Nat) (Nf : Nat) (σ : cS) (k0 : Nat) (k1 : Nat) : Option Int32 := fX5_firstLighter_0 L Nf σ k0 k1
set_option maxHeartbeats 4000000 in
set_option maxRecDepth 100000 in
theorem ctX5_firstLighter (l : Launch) (G : Lay) (hi : Inj G) (Nf : Nat) (h : Int64) (σ : cS) (k0 : Nat) (hk0 : isSearch G k0) (k1 : Nat) (hk1 : isGraph G k1) : ∀ r, fX5_firstLighter (ll G) Nf σ k0 k1 = some r → CM l yX5_firstLighter cX5_firstLighter 4 (some .int) 1 21 G [.ref (la G k0), .ref (la G k1)] h σ (some (.int r), h, σ) := by
  refine cm_of (g := (fun r : Int32 => ((some (.int r), h, σ) : Option Value × Int64 × cS))) (by decide) hi (Nat.le_of_ble_eq_true rfl) (fun K hKl X => ?_)
  unfold fX5_firstLighter
  exact z_sub [0, 1] rfl (sX5_firstLighter_0 X Nf k0 hk0 k1 hk1 h σ)
def fX5_flipPathTo_12 (L : Nat → Nat) (Nf : Nat) (k0 : Nat) (k1 : Nat) : Nat → Int32 → Int32 → Int32 → cS → Option (Int32 × cS)
  | 0, _, _, _, _ => none
  | n + 1, x3, x4, x5, σ => if x3 ≤ x5 then (some (x3, σ)) else (Option.bind (fX4_get L σ (k0 + 3) x4) (fun r1 => Option.bind (fX0_flip L σ k1 r1) (fun r2 => Option.bind (fX4_get L r2.2 (k0 + 5) x4) (fun r3 => bnd (x5 + (1 : Int32)) (fun t4 => fX5_flipPathTo_12 L Nf k0 k1 n x3 r3 t4 r2.2)))))
set_option maxHeartbeats 4000000 in
set_option maxRecDepth 100000 in
theorem sX5_flipPathTo_12 {K : MCx} {G : Lay} (X : Cx K G RX5 cX5_flipPathTo 6 (some .int) 2 45) (Nf : Nat) (k0 : Nat) (hk0 : isSearch G k0) (k1 : Nat) (hk1 : isGraph G k1) (h : Int64) : ∀ (n : Nat) (x3 : Int32) (x4 : Int32) (x5 : Int32) (σ : cS), Sm K G TT (QM K G (fun r : (Int32 × cS) => ((some (.int r.1), h, r.2) : Option Value × Int64 × cS))) 6 12 [(0, .ref (la G k0)), (1, .ref (la G k1)), (3, .int x3), (4, .int x4), (5, .int x5)] [] h σ (fX5_flipPathTo_12 (ll G) Nf k0 k1 n x3 x4 x5 σ) := by
  intro n
  induction n with
  | zero => intros; exact z_none
  | succ n ih =>
    intro x3 x4 x5 σ
    unfold fX5_flipPathTo_12
    refine z_iload X dX5_flipPathTo_12 4 rfl ?_
    refine z_iload_n X dX5_flipPathTo_14 2 rfl ?_
    refine z_icmp_ge X 49 dX5_flipPathTo_15 (by decide) ?_ ?_
    · refine z_iload_n X dX5_flipPathTo_49 2 rfl ?_
      exact z_iret X rfl dX5_flipPathTo_50
    · refine z_aload_n X dX5_flipPathTo_18 1 rfl ?_
      refine z_aload_n X dX5_flipPathTo_19 0 rfl ?_
      refine z_get X inlX5 rfl hk0.1 (ce5 hk0.1 _ _) 1 (by decide) q_3_19 rfl dX5_flipPathTo_20 ?_
      refine z_iload X dX5_flipPathTo_23 3 rfl ?_
      refine z_callV0 X (g := (fun r1 : Int32 => ((some (.int r1), h, σ) : Option Value × Int64 × cS))) (st := [.ref (la G k1)]) (st1 := (fun r1 : Int32 => [.int r1, .ref (la G k1)])) (rmf := 0) (rml := 0) [.int x4] (k0 + 3) cal_X4_get q_15_13 ⟨Nat.le_of_ble_eq_true rfl, Nat.le_of_ble_eq_true rfl⟩ rfl rfl (Nat.le_of_ble_eq_true rfl) rfl hk0.2.2.1.1 (ce4 hk0.2.2.1.1 _ _) (ctX4_get (kl K) G X.2.2.2.2.2.2.2.1 h σ (k0 + 3) hk0.2.2.1 x4) dX5_flipPathTo_25 (fun _ => rfl) (fun r1 => ?_)
      refine z_callV0 X (g := (fun r2 : (Int32 × cS) => ((some (.int r2.1), h, r2.2) : Option Value × Int64 × cS))) (st := []) (st1 := (fun r2 : (Int32 × cS) => [.int r2.1])) (rmf := 1) (rml := 22) [.int r1] k1 cal_X0_flip q_16_6 ⟨Nat.le_of_ble_eq_true rfl, Nat.le_of_ble_eq_true rfl⟩ rfl rfl (Nat.le_of_ble_eq_true rfl) rfl hk1.1 (ce0 hk1.1 _ _) (ctX0_flip (kl K) G X.2.2.2.2.2.2.2.1 h σ k1 hk1 r1) dX5_flipPathTo_28 (fun _ => rfl) (fun r2 => ?_)
      refine z_pop X dX5_flipPathTo_31 rfl ?_
      refine z_aload_n X dX5_flipPathTo_32 0 rfl ?_
      refine z_get X inlX5 rfl hk0.1 (ce5 hk0.1 _ _) 2 (by decide) q_3_20 rfl dX5_flipPathTo_33 ?_
      refine z_iload X dX5_flipPathTo_36 3 rfl ?_
      refine z_callV0 X (g := (fun r3 : Int32 => ((some (.int r3), h, r2.2) : Option Value × Int64 × cS))) (st := []) (st1 := (fun r3 : Int32 => [.int r3])) (rmf := 0) (rml := 0) [.int x4] (k0 + 5) cal_X4_get q_15_13 ⟨Nat.le_of_ble_eq_true rfl, Nat.le_of_ble_eq_true rfl⟩ rfl rfl (Nat.le_of_ble_eq_true rfl) rfl hk0.2.2.2.1 (ce4 hk0.2.2.2.1 _ _) (ctX4_get (kl K) G X.2.2.2.2.2.2.2.1 h r2.2 (k0 + 5) hk0.2.2.2 x4) dX5_flipPathTo_38 (fun _ => rfl) (fun r3 => ?_)
      refine z_istore X [(4, .int r3), (0, .ref (la G k0)), (1, .ref (la G k1)), (3, .int x3), (5, .int x5)] dX5_flipPathTo_41 (by decide) rfl ?_
      refine z_iinc X (fun t4 => [(5, .int t4), (4, .int r3), (0, .ref (la G k0)), (1, .ref (la G k1)), (3, .int x3)]) dX5_flipPathTo_43 4 rfl (by decide) (by decide) (fun _ => rfl) (fun t4 => ?_)
      refine z_goto X 12 dX5_flipPathTo_46 (by decide) ?_
      exact z_sub [2, 3, 4, 1, 0] rfl (ih x3 r3 t4 r2.2)
def fX5_flipPathTo_0 (L : Nat → Nat) (Nf : Nat) (k0 : Nat) (k1 : Nat) (x2 : Int32) (σ : cS) : Option (Int32 × cS) := Option.bind (fX5_lengthTo L Nf σ k0 x2) (fun r1 => fX5_flipPathTo_12 L Nf k0 k1 Nf r1 x2 (0 : Int32) σ)
set_option maxHeartbeats 4000000 in
set_option maxRecDepth 100000 in
theorem sX5_flipPathTo_0 {K : MCx} {G : Lay} (X : Cx K G RX5 cX5_flipPathTo 6 (some .int) 2 45) (Nf : Nat) (k0 : Nat) (hk0 : isSearch G k0) (k1 : Nat) (hk1 : isGraph G k1) (h : Int64) (x2 : Int32) (σ : cS) : Sm K G TT (QM K G (fun r : (Int32 × cS) => ((some (.int r.1), h, r.2) : Option Value × Int64 × cS))) 6 0 [(0, .ref (la G k0)), (1, .ref (la G k1)), (2, .int x2)] [] h σ (fX5_flipPathTo_0 (ll G) Nf k0 k1 x2 σ) := by
  unfold fX5_flipPathTo_0
  refine z_aload_n X dX5_flipPathTo_0 0 rfl ?_
  refine z_iload_n X dX5_flipPathTo_1 2 rfl ?_
  refine z_callV0 X (g := (fun r1 : Int32 => ((some (.int r1), h, σ) : Option Value × Int64 × cS))) (st := []) (st1 := (fun r1 : Int32 => [.int r1])) (rmf := 1) (rml := 21) [.int x2] k0 cal_X5_lengthTo q_16_2 ⟨Nat.le_of_ble_eq_true rfl, Nat.le_of_ble_eq_true rfl⟩ rfl rfl (Nat.le_of_ble_eq_true rfl) rfl hk0.1 (ce5 hk0.1 _ _) (ctX5_lengthTo (kl K) G X.2.2.2.2.2.2.2.1 Nf h σ k0 hk0 x2) dX5_flipPathTo_2 (fun _ => rfl) (fun r1 => ?_)
  refine z_istore_n X [(3, .int r1), (0, .ref (la G k0)), (1, .ref (la G k1)), (2, .int x2)] dX5_flipPathTo_5 (by decide) rfl ?_
  refine z_iload_n X dX5_flipPathTo_6 3 rfl ?_
  refine z_istore X [(4, .int x2), (3, .int r1), (0, .ref (la G k0)), (1, .ref (la G k1)), (2, .int x2)] dX5_flipPathTo_7 (by decide) rfl ?_
  refine z_iconst (v := (0 : Int32)) X dX5_flipPathTo_9 (by decide) ?_
  refine z_istore X [(5, .int (0 : Int32)), (4, .int x2), (3, .int r1), (0, .ref (la G k0)), (1, .ref (la G k1)), (2, .int x2)] dX5_flipPathTo_10 (by decide) rfl ?_
  exact z_sub [3, 4, 2, 1, 0] rfl (sX5_flipPathTo_12 X Nf k0 hk0 k1 hk1 h Nf r1 x2 (0 : Int32) σ)
def fX5_flipPathTo (L : Nat → Nat) (Nf : Nat) (σ : cS) (k0 : Nat) (k1 : Nat) (x2 : Int32) : Option (Int32 × cS) := fX5_flipPathTo_0 L Nf k0 k1 x2 σ
set_option maxHeartbeats 4000000 in
set_option maxRecDepth 100000 in
theorem ctX5_flipPathTo (l : Launch) (G : Lay) (hi : Inj G) (Nf : Nat) (h : Int64) (σ : cS) (k0 : Nat) (hk0 : isSearch G k0) (k1 : Nat) (hk1 : isGraph G k1) (x2 : Int32) : ∀ r, fX5_flipPathTo (ll G) Nf σ k0 k1 x2 = some r → CM l yX5_flipPathTo cX5_flipPathTo 6 (some .int) 2 45 G [.ref (la G k0), .ref (la G k1), .int x2] h σ (some (.int r.1), h, r.2) := by
  refine cm_of (g := (fun r : (Int32 × cS) => ((some (.int r.1), h, r.2) : Option Value × Int64 × cS))) (by decide) hi (Nat.le_of_ble_eq_true rfl) (fun K hKl X => ?_)
  unfold fX5_flipPathTo
  exact z_sub [0, 1, 2] rfl (sX5_flipPathTo_0 X Nf k0 hk0 k1 hk1 h x2 σ)
def fX5_relieveNode_27 (L : Nat → Nat) (Nf : Nat) (k0 : Nat) (k1 : Nat) (y0 : Int32) (σ : cS) : Option (Int32 × cS) := some (y0, σ)
set_option maxHeartbeats 4000000 in
set_option maxRecDepth 100000 in
theorem sX5_relieveNode_27 {K : MCx} {G : Lay} (X : Cx K G RX5 cX5_relieveNode 4 (some .int) 3 70) (Nf : Nat) (k0 : Nat) (hk0 : isSearch G k0) (k1 : Nat) (hk1 : isGraph G k1) (h : Int64) (y0 : Int32) (σ : cS) : Sm K G TT (QM K G (fun r : (Int32 × cS) => ((some (.int r.1), h, r.2) : Option Value × Int64 × cS))) 4 27 [] [.int y0] h σ (fX5_relieveNode_27 (ll G) Nf k0 k1 y0 σ) := by
  unfold fX5_relieveNode_27
  exact z_iret X rfl dX5_relieveNode_27
def fX5_relieveNode_0 (L : Nat → Nat) (Nf : Nat) (k0 : Nat) (k1 : Nat) (x2 : Int32) (σ : cS) : Option (Int32 × cS) := Option.bind (fX5_visitFrom L Nf σ k0 k1 x2) (fun r1 => Option.bind (fX5_firstLighter L Nf r1 k0 k1) (fun r2 => if r2 = (-1 : Int32) then (fX5_relieveNode_27 L Nf k0 k1 (0 : Int32) r1) else (Option.bind (fX5_flipPathTo L Nf r1 k0 k1 r2) (fun r3 => fX5_relieveNode_27 L Nf k0 k1 r3.1 r3.2))))
set_option maxHeartbeats 4000000 in
set_option maxRecDepth 100000 in
theorem sX5_relieveNode_0 {K : MCx} {G : Lay} (X : Cx K G RX5 cX5_relieveNode 4 (some .int) 3 70) (Nf : Nat) (k0 : Nat) (hk0 : isSearch G k0) (k1 : Nat) (hk1 : isGraph G k1) (h : Int64) (x2 : Int32) (σ : cS) : Sm K G TT (QM K G (fun r : (Int32 × cS) => ((some (.int r.1), h, r.2) : Option Value × Int64 × cS))) 4 0 [(0, .ref (la G k0)), (1, .ref (la G k1)), (2, .int x2)] [] h σ (fX5_relieveNode_0 (ll G) Nf k0 k1 x2 σ) := by
  unfold fX5_relieveNode_0
  refine z_aload_n X dX5_relieveNode_0 0 rfl ?_
  refine z_aload_n X dX5_relieveNode_1 1 rfl ?_
  refine z_iload_n X dX5_relieveNode_2 2 rfl ?_
  refine z_callV0 X (g := (fun r1 : cS => ((none, h, r1) : Option Value × Int64 × cS))) (st := []) (st1 := (fun r1 : cS => [])) (rmf := 2) (rml := 45) [.ref (la G k1), .int x2] k0 cal_X5_visitFrom q_14_21 ⟨Nat.le_of_ble_eq_true rfl, Nat.le_of_ble_eq_true rfl⟩ rfl rfl (Nat.le_of_ble_eq_true rfl) rfl hk0.1 (ce5 hk0.1 _ _) (ctX5_visitFrom (kl K) G X.2.2.2.2.2.2.2.1 Nf h σ k0 hk0 k1 hk1 x2) dX5_relieveNode_3 (fun _ => rfl) (fun r1 => ?_)
  refine z_aload_n X dX5_relieveNode_6 0 rfl ?_
  refine z_aload_n X dX5_relieveNode_7 1 rfl ?_
  refine z_callV0 X (g := (fun r2 : Int32 => ((some (.int r2), h, r1) : Option Value × Int64 × cS))) (st := []) (st1 := (fun r2 : Int32 => [.int r2])) (rmf := 1) (rml := 21) [.ref (la G k1)] k0 cal_X5_firstLighter q_15_18 ⟨Nat.le_of_ble_eq_true rfl, Nat.le_of_ble_eq_true rfl⟩ rfl rfl (Nat.le_of_ble_eq_true rfl) rfl hk0.1 (ce5 hk0.1 _ _) (ctX5_firstLighter (kl K) G X.2.2.2.2.2.2.2.1 Nf h r1 k0 hk0 k1 hk1 ) dX5_relieveNode_8 (fun _ => rfl) (fun r2 => ?_)
  refine z_istore_n X [(3, .int r2), (0, .ref (la G k0)), (1, .ref (la G k1)), (2, .int x2)] dX5_relieveNode_11 (by decide) rfl ?_
  refine z_iload_n X dX5_relieveNode_12 0 rfl ?_
  refine z_iconst (v := (-1 : Int32)) X dX5_relieveNode_13 (by decide) ?_
  refine z_icmp_ne X 21 dX5_relieveNode_14 (by decide) ?_ ?_
  · refine z_iconst (v := (0 : Int32)) X dX5_relieveNode_17 (by decide) ?_
    refine z_goto X 27 dX5_relieveNode_18 (by decide) ?_
    exact z_sub [] rfl (sX5_relieveNode_27 X Nf k0 hk0 k1 hk1 h (0 : Int32) r1)
  · refine z_aload_n X dX5_relieveNode_21 1 rfl ?_
    refine z_aload_n X dX5_relieveNode_22 2 rfl ?_
    refine z_iload_n X dX5_relieveNode_23 0 rfl ?_
    refine z_callV0 X (g := (fun r3 : (Int32 × cS) => ((some (.int r3.1), h, r3.2) : Option Value × Int64 × cS))) (st := []) (st1 := (fun r3 : (Int32 × cS) => [.int r3.1])) (rmf := 2) (rml := 45) [.ref (la G k1), .int r2] k0 cal_X5_flipPathTo q_15_22 ⟨Nat.le_of_ble_eq_true rfl, Nat.le_of_ble_eq_true rfl⟩ rfl rfl (Nat.le_of_ble_eq_true rfl) rfl hk0.1 (ce5 hk0.1 _ _) (ctX5_flipPathTo (kl K) G X.2.2.2.2.2.2.2.1 Nf h r1 k0 hk0 k1 hk1 r2) dX5_relieveNode_24 (fun _ => rfl) (fun r3 => ?_)
    exact z_sub [] rfl (sX5_relieveNode_27 X Nf k0 hk0 k1 hk1 h r3.1 r3.2)
def fX5_relieveNode (L : Nat → Nat) (Nf : Nat) (σ : cS) (k0 : Nat) (k1 : Nat) (x2 : Int32) : Option (Int32 × cS) := fX5_relieveNode_0 L Nf k0 k1 x2 σ
set_option maxHeartbeats 4000000 in
set_option maxRecDepth 100000 in
theorem ctX5_relieveNode (l : Launch) (G : Lay) (hi : Inj G) (Nf : Nat) (h : Int64) (σ : cS) (k0 : Nat) (hk0 : isSearch G k0) (k1 : Nat) (hk1 : isGraph G k1) (x2 : Int32) : ∀ r, fX5_relieveNode (ll G) Nf σ k0 k1 x2 = some r → CM l yX5_relieveNode cX5_relieveNode 4 (some .int) 3 70 G [.ref (la G k0), .ref (la G k1), .int x2] h σ (some (.int r.1), h, r.2) := by
  refine cm_of (g := (fun r : (Int32 × cS) => ((some (.int r.1), h, r.2) : Option Value × Int64 × cS))) (by decide) hi (Nat.le_of_ble_eq_true rfl) (fun K hKl X => ?_)
  unfold fX5_relieveNode
  exact z_sub [0, 1, 2] rfl (sX5_relieveNode_0 X Nf k0 hk0 k1 hk1 h x2 σ)
def fX5_evenOut_68 (L : Nat → Nat) (Nf : Nat) (k0 : Nat) (k1 : Nat) (x2 : Int32) (σ : cS) : Option (Int32 × cS) := some (x2, σ)
set_option maxHeartbeats 4000000 in
set_option maxRecDepth 100000 in
theorem sX5_evenOut_68 {K : MCx} {G : Lay} (X : Cx K G RX5 cX5_evenOut 5 (some .int) 4 93) (Nf : Nat) (k0 : Nat) (hk0 : isSearch G k0) (k1 : Nat) (hk1 : isGraph G k1) (h : Int64) (x2 : Int32) (σ : cS) : Sm K G TT (QM K G (fun r : (Int32 × cS) => ((some (.int r.1), h, r.2) : Option Value × Int64 × cS))) 5 68 [(2, .int x2)] [] h σ (fX5_evenOut_68 (ll G) Nf k0 k1 x2 σ) := by
  unfold fX5_evenOut_68
  refine z_iload_n X dX5_evenOut_68 0 rfl ?_
  exact z_iret X rfl dX5_evenOut_69
def fX5_evenOut_62 (L : Nat → Nat) (Nf : Nat) (k0 : Nat) (k1 : Nat) (self10 : Int32 → Int32 → Int32 → cS → Option (Int32 × cS)) (x2 : Int32) (x3 : Int32) (x4 : Int32) (σ : cS) : Option (Int32 × cS) := bnd (x4 + (1 : Int32)) (fun t1 => self10 x2 x3 t1 σ)
set_option maxHeartbeats 4000000 in
set_option maxRecDepth 100000 in
theorem sX5_evenOut_62 {K : MCx} {G : Lay} (X : Cx K G RX5 cX5_evenOut 5 (some .int) 4 93) (Nf : Nat) (k0 : Nat) (hk0 : isSearch G k0) (k1 : Nat) (hk1 : isGraph G k1) (h : Int64) (self10 : Int32 → Int32 → Int32 → cS → Option (Int32 × cS)) (hself10 : ∀ (x2 : Int32) (x3 : Int32) (x4 : Int32) (σ : cS), Sm K G TT (QM K G (fun r : (Int32 × cS) => ((some (.int r.1), h, r.2) : Option Value × Int64 × cS))) 5 10 [(0, .ref (la G k0)), (1, .ref (la G k1)), (2, .int x2), (3, .int x3), (4, .int x4)] [] h σ (self10 x2 x3 x4 σ)) (x2 : Int32) (x3 : Int32) (x4 : Int32) (σ : cS) : Sm K G TT (QM K G (fun r : (Int32 × cS) => ((some (.int r.1), h, r.2) : Option Value × Int64 × cS))) 5 62 [(0, .ref (la G k0)), (1, .ref (la G k1)), (2, .int x2), (3, .int x3), (4, .int x4)] [] h σ (fX5_evenOut_62 (ll G) Nf k0 k1 self10 x2 x3 x4 σ) := by
  unfold fX5_evenOut_62
  refine z_iinc X (fun t1 => [(4, .int t1), (0, .ref (la G k0)), (1, .ref (la G k1)), (2, .int x2), (3, .int x3)]) dX5_evenOut_62 4 rfl (by decide) (by decide) (fun _ => rfl) (fun t1 => ?_)
  refine z_goto X 10 dX5_evenOut_65 (by decide) ?_
  exact z_sub [1, 2, 3, 4, 0] rfl (hself10 x2 x3 t1 σ)
def fX5_evenOut_10 (L : Nat → Nat) (Nf : Nat) (k0 : Nat) (k1 : Nat) : Nat → Int32 → Int32 → Int32 → cS → Option (Int32 × cS)
  | 0, _, _, _, _ => none
  | n + 1, x2, x3, x4, σ => if (σ k1 7) ≤ x4 then (fX5_evenOut_68 L Nf k0 k1 x2 σ) else (if (1000000 : Int32) ≤ x2 then (fX5_evenOut_68 L Nf k0 k1 x2 σ) else (Option.bind (fX4_get L σ (k1 + 11) x4) (fun r1 => if r1 = x3 then (Option.bind (fX5_relieveNode L Nf σ k0 k1 x4) (fun r2 => if r2.1 ≤ 0 then (fX5_evenOut_62 L Nf k0 k1 (fX5_evenOut_10 L Nf k0 k1 n) x2 x3 x4 r2.2) else (bnd (x2 + (1 : Int32)) (fun t3 => Option.bind (fX0_greatestLoad L Nf r2.2 k1) (fun r4 => fX5_evenOut_10 L Nf k0 k1 n t3 r4 (0 : Int32) r2.2))))) else (fX5_evenOut_62 L Nf k0 k1 (fX5_evenOut_10 L Nf k0 k1 n) x2 x3 x4 σ))))
set_option maxHeartbeats 4000000 in
set_option maxRecDepth 100000 in
theorem sX5_evenOut_10 {K : MCx} {G : Lay} (X : Cx K G RX5 cX5_evenOut 5 (some .int) 4 93) (Nf : Nat) (k0 : Nat) (hk0 : isSearch G k0) (k1 : Nat) (hk1 : isGraph G k1) (h : Int64) : ∀ (n : Nat) (x2 : Int32) (x3 : Int32) (x4 : Int32) (σ : cS), Sm K G TT (QM K G (fun r : (Int32 × cS) => ((some (.int r.1), h, r.2) : Option Value × Int64 × cS))) 5 10 [(0, .ref (la G k0)), (1, .ref (la G k1)), (2, .int x2), (3, .int x3), (4, .int x4)] [] h σ (fX5_evenOut_10 (ll G) Nf k0 k1 n x2 x3 x4 σ) := by
  intro n
  induction n with
  | zero => intros; exact z_none
  | succ n ih =>
    intro x2 x3 x4 σ
    unfold fX5_evenOut_10
    refine z_iload X dX5_evenOut_10 4 rfl ?_
    refine z_aload_n X dX5_evenOut_12 1 rfl ?_
    refine z_getN X inlX0 rfl hk1.1 (ce0 hk1.1 _ _) 7 (by decide) n_10 rfl dX5_evenOut_13 ?_
    refine z_icmp_ge X 68 dX5_evenOut_16 (by decide) ?_ ?_
    · exact z_sub [2] rfl (sX5_evenOut_68 X Nf k0 hk0 k1 hk1 h x2 σ)
    · refine z_iload_n X dX5_evenOut_19 2 rfl ?_
      refine z_ldc X q_16_11 dX5_evenOut_20 ?_
      refine z_icmp_ge X 68 dX5_evenOut_22 (by decide) ?_ ?_
      · exact z_sub [2] rfl (sX5_evenOut_68 X Nf k0 hk0 k1 hk1 h x2 σ)
      · refine z_aload_n X dX5_evenOut_25 1 rfl ?_
        refine z_getN X inlX0 rfl hk1.1 (ce0 hk1.1 _ _) 5 (by decide) n_6 rfl dX5_evenOut_26 ?_
        refine z_iload X dX5_evenOut_29 4 rfl ?_
        refine z_callV0 X (g := (fun r1 : Int32 => ((some (.int r1), h, σ) : Option Value × Int64 × cS))) (st := []) (st1 := (fun r1 : Int32 => [.int r1])) (rmf := 0) (rml := 0) [.int x4] (k1 + 11) cal_X4_get q_15_13 ⟨Nat.le_of_ble_eq_true rfl, Nat.le_of_ble_eq_true rfl⟩ rfl rfl (Nat.le_of_ble_eq_true rfl) rfl hk1.2.2.2.2.2.2.1.1 (ce4 hk1.2.2.2.2.2.2.1.1 _ _) (ctX4_get (kl K) G X.2.2.2.2.2.2.2.1 h σ (k1 + 11) hk1.2.2.2.2.2.2.1 x4) dX5_evenOut_31 (fun _ => rfl) (fun r1 => ?_)
        refine z_iload_n X dX5_evenOut_34 3 rfl ?_
        refine z_icmp_ne X 62 dX5_evenOut_35 (by decide) ?_ ?_
        · refine z_aload_n X dX5_evenOut_38 0 rfl ?_
          refine z_aload_n X dX5_evenOut_39 1 rfl ?_
          refine z_iload X dX5_evenOut_40 4 rfl ?_
          refine z_callV0 X (g := (fun r2 : (Int32 × cS) => ((some (.int r2.1), h, r2.2) : Option Value × Int64 × cS))) (st := []) (st1 := (fun r2 : (Int32 × cS) => [.int r2.1])) (rmf := 3) (rml := 70) [.ref (la G k1), .int x4] k0 cal_X5_relieveNode q_16_13 ⟨Nat.le_of_ble_eq_true rfl, Nat.le_of_ble_eq_true rfl⟩ rfl rfl (Nat.le_of_ble_eq_true rfl) rfl hk0.1 (ce5 hk0.1 _ _) (ctX5_relieveNode (kl K) G X.2.2.2.2.2.2.2.1 Nf h σ k0 hk0 k1 hk1 x4) dX5_evenOut_42 (fun _ => rfl) (fun r2 => ?_)
          refine z_if_le X 62 dX5_evenOut_45 (by decide) ?_ ?_
          · exact z_sub [0, 1, 2, 3, 4] rfl (sX5_evenOut_62 X Nf k0 hk0 k1 hk1 h (fX5_evenOut_10 (ll G) Nf k0 k1 n) ih x2 x3 x4 r2.2)
          · refine z_iinc X (fun t3 => [(2, .int t3), (0, .ref (la G k0)), (1, .ref (la G k1)), (3, .int x3), (4, .int x4)]) dX5_evenOut_48 2 rfl (by decide) (by decide) (fun _ => rfl) (fun t3 => ?_)
            refine z_aload_n X dX5_evenOut_51 2 rfl ?_
            refine z_callV0 X (g := (fun r4 : Int32 => ((some (.int r4), h, r2.2) : Option Value × Int64 × cS))) (st := []) (st1 := (fun r4 : Int32 => [.int r4])) (rmf := 1) (rml := 21) [] k1 cal_X0_greatestLoad q_16_12 ⟨Nat.le_of_ble_eq_true rfl, Nat.le_of_ble_eq_true rfl⟩ rfl rfl (Nat.le_of_ble_eq_true rfl) rfl hk1.1 (ce0 hk1.1 _ _) (ctX0_greatestLoad (kl K) G X.2.2.2.2.2.2.2.1 Nf h r2.2 k1 hk1 ) dX5_evenOut_52 (fun _ => rfl) (fun r4 => ?_)
            refine z_istore_n X [(3, .int r4), (2, .int t3), (0, .ref (la G k0)), (1, .ref (la G k1)), (4, .int x4)] dX5_evenOut_55 (by decide) rfl ?_
            refine z_iconst (v := (0 : Int32)) X dX5_evenOut_56 (by decide) ?_
            refine z_istore X [(4, .int (0 : Int32)), (3, .int r4), (2, .int t3), (0, .ref (la G k0)), (1, .ref (la G k1))] dX5_evenOut_57 (by decide) rfl ?_
            refine z_goto X 10 dX5_evenOut_59 (by decide) ?_
            exact z_sub [3, 4, 2, 1, 0] rfl (ih t3 r4 (0 : Int32) r2.2)
        · exact z_sub [0, 1, 2, 3, 4] rfl (sX5_evenOut_62 X Nf k0 hk0 k1 hk1 h (fX5_evenOut_10 (ll G) Nf k0 k1 n) ih x2 x3 x4 σ)
def fX5_evenOut_0 (L : Nat → Nat) (Nf : Nat) (k0 : Nat) (k1 : Nat) (σ : cS) : Option (Int32 × cS) := Option.bind (fX0_greatestLoad L Nf σ k1) (fun r1 => fX5_evenOut_10 L Nf k0 k1 Nf (0 : Int32) r1 (0 : Int32) σ)
set_option maxHeartbeats 4000000 in
set_option maxRecDepth 100000 in
theorem sX5_evenOut_0 {K : MCx} {G : Lay} (X : Cx K G RX5 cX5_evenOut 5 (some .int) 4 93) (Nf : Nat) (k0 : Nat) (hk0 : isSearch G k0) (k1 : Nat) (hk1 : isGraph G k1) (h : Int64) (σ : cS) : Sm K G TT (QM K G (fun r : (Int32 × cS) => ((some (.int r.1), h, r.2) : Option Value × Int64 × cS))) 5 0 [(0, .ref (la G k0)), (1, .ref (la G k1))] [] h σ (fX5_evenOut_0 (ll G) Nf k0 k1 σ) := by
  unfold fX5_evenOut_0
  refine z_iconst (v := (0 : Int32)) X dX5_evenOut_0 (by decide) ?_
  refine z_istore_n X [(2, .int (0 : Int32)), (0, .ref (la G k0)), (1, .ref (la G k1))] dX5_evenOut_1 (by decide) rfl ?_
  refine z_aload_n X dX5_evenOut_2 2 rfl ?_
  refine z_callV0 X (g := (fun r1 : Int32 => ((some (.int r1), h, σ) : Option Value × Int64 × cS))) (st := []) (st1 := (fun r1 : Int32 => [.int r1])) (rmf := 1) (rml := 21) [] k1 cal_X0_greatestLoad q_16_12 ⟨Nat.le_of_ble_eq_true rfl, Nat.le_of_ble_eq_true rfl⟩ rfl rfl (Nat.le_of_ble_eq_true rfl) rfl hk1.1 (ce0 hk1.1 _ _) (ctX0_greatestLoad (kl K) G X.2.2.2.2.2.2.2.1 Nf h σ k1 hk1 ) dX5_evenOut_3 (fun _ => rfl) (fun r1 => ?_)
  refine z_istore_n X [(3, .int r1), (2, .int (0 : Int32)), (0, .ref (la G k0)), (1, .ref (la G k1))] dX5_evenOut_6 (by decide) rfl ?_
  refine z_iconst (v := (0 : Int32)) X dX5_evenOut_7 (by decide) ?_
  refine z_istore X [(4, .int (0 : Int32)), (3, .int r1), (2, .int (0 : Int32)), (0, .ref (la G k0)), (1, .ref (la G k1))] dX5_evenOut_8 (by decide) rfl ?_
  exact z_sub [3, 4, 2, 1, 0] rfl (sX5_evenOut_10 X Nf k0 hk0 k1 hk1 h Nf (0 : Int32) r1 (0 : Int32) σ)
def fX5_evenOut (L : Nat → Nat) (Nf : Nat) (σ : cS) (k0 : Nat) (k1 : Nat) : Option (Int32 × cS) := fX5_evenOut_0 L Nf k0 k1 σ
set_option maxHeartbeats 4000000 in
set_option maxRecDepth 100000 in
theorem ctX5_evenOut (l : Launch) (G : Lay) (hi : Inj G) (Nf : Nat) (h : Int64) (σ : cS) (k0 : Nat) (hk0 : isSearch G k0) (k1 : Nat) (hk1 : isGraph G k1) : ∀ r, fX5_evenOut (ll G) Nf σ k0 k1 = some r → CM l yX5_evenOut cX5_evenOut 5 (some .int) 4 93 G [.ref (la G k0), .ref (la G k1)] h σ (some (.int r.1), h, r.2) := by
  refine cm_of (g := (fun r : (Int32 × cS) => ((some (.int r.1), h, r.2) : Option Value × Int64 × cS))) (by decide) hi (Nat.le_of_ble_eq_true rfl) (fun K hKl X => ?_)
  unfold fX5_evenOut
  exact z_sub [0, 1] rfl (sX5_evenOut_0 X Nf k0 hk0 k1 hk1 h σ)
