theorem q_5_7 : Cond.methodLink RX6 261 yX1_restore ∈ wsL_law := seg_5 _ (List.mem_of_getElem? (i := 7) rfl)
theorem q_5_8 : Cond.instanceMethod yX1_restore ∈ wsL_law := seg_5 _ (List.mem_of_getElem? (i := 8) rfl)
theorem q_5_9 : Cond.selects RX1 yX1_restore yX1_restore ∈ wsL_law := seg_5 _ (List.mem_of_getElem? (i := 9) rfl)
theorem q_5_10 : Cond.code yX1_restore cX1_restore 3 none ∈ wsL_law := seg_5 _ (List.mem_of_getElem? (i := 10) rfl)
theorem q_10_19 : Cond.methodLink RX6 244 yX2_findSyntaxError ∈ wsL_law := seg_10 _ (List.mem_of_getElem? (i := 19) rfl)
theorem q_10_20 : Cond.instanceMethod yX2_findSyntaxError ∈ wsL_law := seg_10 _ (List.mem_of_getElem? (i := 20) rfl)
theorem q_10_21 : Cond.selects RX2 yX2_findSyntaxError yX2_findSyntaxError ∈ wsL_law := seg_10 _ (List.mem_of_getElem? (i := 21) rfl)
theorem q_10_22 : Cond.code yX2_findSyntaxError cX2_findSyntaxError 3 (some .int) ∈ wsL_law := seg_10 _ (List.mem_of_getElem? (i := 22) rfl)
theorem q_12_19 : Cond.methodLink RX6 247 yX2_rewind ∈ wsL_law := seg_12 _ (List.mem_of_getElem? (i := 19) rfl)
theorem q_12_20 : Cond.methodLink RX6 250 yX2_readOrder ∈ wsL_law := seg_12 _ (List.mem_of_getElem? (i := 20) rfl)
theorem q_12_21 : Cond.methodLink RX6 253 yX6_obeyOrder ∈ wsL_law := seg_12 _ (List.mem_of_getElem? (i := 21) rfl)
theorem q_12_22 : Cond.instanceMethod yX6_obeyOrder ∈ wsL_law := seg_12 _ (List.mem_of_getElem? (i := 22) rfl)
theorem q_12_23 : Cond.selects RX6 yX6_obeyOrder yX6_obeyOrder ∈ wsL_law := seg_12 _ (List.mem_of_getElem? (i := 23) rfl)
theorem q_13_0 : Cond.code yX6_obeyOrder cX6_obeyOrder 1 (some .boolean) ∈ wsL_law := seg_13 _ (List.mem_of_getElem? (i := 0) rfl)
theorem q_13_1 : Cond.methodLink RX6 315 yX6_obeyAdding ∈ wsL_law := seg_13 _ (List.mem_of_getElem? (i := 1) rfl)
theorem q_13_2 : Cond.instanceMethod yX6_obeyAdding ∈ wsL_law := seg_13 _ (List.mem_of_getElem? (i := 2) rfl)
theorem q_13_3 : Cond.selects RX6 yX6_obeyAdding yX6_obeyAdding ∈ wsL_law := seg_13 _ (List.mem_of_getElem? (i := 3) rfl)
theorem q_13_4 : Cond.code yX6_obeyAdding cX6_obeyAdding 3 (some .boolean) ∈ wsL_law := seg_13 _ (List.mem_of_getElem? (i := 4) rfl)
theorem q_14_1 : Cond.methodLink RX6 322 yX6_obeyForEdge ∈ wsL_law := seg_14 _ (List.mem_of_getElem? (i := 1) rfl)
theorem q_14_2 : Cond.instanceMethod yX6_obeyForEdge ∈ wsL_law := seg_14 _ (List.mem_of_getElem? (i := 2) rfl)
theorem q_14_3 : Cond.selects RX6 yX6_obeyForEdge yX6_obeyForEdge ∈ wsL_law := seg_14 _ (List.mem_of_getElem? (i := 3) rfl)
theorem q_14_4 : Cond.code yX6_obeyForEdge cX6_obeyForEdge 3 (some .boolean) ∈ wsL_law := seg_14 _ (List.mem_of_getElem? (i := 4) rfl)
theorem q_14_17 : Cond.methodLink RX6 325 yX5_relieveNode ∈ wsL_law := seg_14 _ (List.mem_of_getElem? (i := 17) rfl)
theorem q_16_14 : Cond.methodLink RX6 328 yX6_obeyCapacity ∈ wsL_law := seg_16 _ (List.mem_of_getElem? (i := 14) rfl)
theorem q_16_15 : Cond.instanceMethod yX6_obeyCapacity ∈ wsL_law := seg_16 _ (List.mem_of_getElem? (i := 15) rfl)
theorem q_16_16 : Cond.selects RX6 yX6_obeyCapacity yX6_obeyCapacity ∈ wsL_law := seg_16 _ (List.mem_of_getElem? (i := 16) rfl)
theorem q_16_17 : Cond.code yX6_obeyCapacity cX6_obeyCapacity 3 (some .boolean) ∈ wsL_law := seg_16 _ (List.mem_of_getElem? (i := 17) rfl)
theorem cal_X6_obeyAdding : Cal yX6_obeyAdding RX6 cX6_obeyAdding 3 (some .boolean) 2 := ⟨q_13_4, q_13_2, q_13_3, q_1_2, by decide +kernel⟩
theorem cal_X6_obeyCapacity : Cal yX6_obeyCapacity RX6 cX6_obeyCapacity 3 (some .boolean) 2 := ⟨q_16_17, q_16_15, q_16_16, q_1_2, by decide +kernel⟩
theorem cal_X6_obeyForEdge : Cal yX6_obeyForEdge RX6 cX6_obeyForEdge 3 (some .boolean) 2 := ⟨q_14_4, q_14_2, q_14_3, q_1_2, by decide +kernel⟩
theorem cal_X2_findSyntaxError : Cal yX2_findSyntaxError RX2 cX2_findSyntaxError 3 (some .int) 0 := ⟨q_10_22, q_10_20, q_10_21, q_2_1, by decide +kernel⟩
theorem cal_X6_obeyOrder : Cal yX6_obeyOrder RX6 cX6_obeyOrder 1 (some .boolean) 0 := ⟨q_13_0, q_12_22, q_12_23, q_1_2, by decide +kernel⟩
theorem cal_X1_restore : Cal yX1_restore RX1 cX1_restore 3 none 1 := ⟨q_5_10, q_5_8, q_5_9, q_2_5, by decide +kernel⟩
def fX6_obeyAdding_37 (L : Nat → Nat) (k0 : Nat) (σ : cS) : Option (Int32 × cS) := grd (isb (0 : Int32)) (some ((0 : Int32), σ))
set_option maxHeartbeats 4000000 in
set_option maxRecDepth 100000 in
theorem sX6_obeyAdding_37 {K : MCx} {G : Lay} (X : Cx K G RX6 cX6_obeyAdding 3 (some .boolean) 2 47) (k0 : Nat) (hk0 : isEH G k0) (h : Int64) (σ : cS) : Sm K G TT (QM K G (fun r : (Int32 × cS) => ((some (.int r.1), h, r.2) : Option Value × Int64 × cS))) 3 37 [] [] h σ (fX6_obeyAdding_37 (ll G) k0 σ) := by
  unfold fX6_obeyAdding_37
  refine z_iconst (v := (0 : Int32)) X dX6_obeyAdding_37 (by decide) ?_
  exact z_zret X rfl dX6_obeyAdding_38
def fX6_obeyAdding_0 (L : Nat → Nat) (k0 : Nat) (x1 : Int32) (x2 : Int32) (σ : cS) : Option (Int32 × cS) := Option.bind (fX0_hasNode σ 0 x1) (fun r1 => if r1 = 0 then (fX6_obeyAdding_37 L k0 σ) else (Option.bind (fX0_hasNode σ 0 x2) (fun r2 => if r2 = 0 then (fX6_obeyAdding_37 L k0 σ) else (if x1 = x2 then (fX6_obeyAdding_37 L k0 σ) else (Option.bind (fX0_isFull σ 0) (fun r3 => if r3 = 0 then (Option.bind (fX0_join L σ 0 x1 x2) (fun r4 => grd (isb (1 : Int32)) (some ((1 : Int32), r4.2)))) else (fX6_obeyAdding_37 L k0 σ)))))))
set_option maxHeartbeats 4000000 in
set_option maxRecDepth 100000 in
theorem sX6_obeyAdding_0 {K : MCx} {G : Lay} (X : Cx K G RX6 cX6_obeyAdding 3 (some .boolean) 2 47) (k0 : Nat) (hk0 : isEH G k0) (h : Int64) (x1 : Int32) (x2 : Int32) (σ : cS) : Sm K G TT (QM K G (fun r : (Int32 × cS) => ((some (.int r.1), h, r.2) : Option Value × Int64 × cS))) 3 0 [(0, .ref (la G k0)), (1, .int x1), (2, .int x2)] [] h σ (fX6_obeyAdding_0 (ll G) k0 x1 x2 σ) := by
  unfold fX6_obeyAdding_0
  refine z_aload_n X dX6_obeyAdding_0 0 rfl ?_
  refine z_get X inlX6 rfl hk0.1 (ce6 hk0.1 _ _) 0 (by decide) q_1_13 rfl dX6_obeyAdding_1 ?_
  refine z_iload_n X dX6_obeyAdding_4 1 rfl ?_
  refine z_callV0 X (g := (fun r1 : Int32 => ((some (.int r1), h, σ) : Option Value × Int64 × cS))) (st := []) (st1 := (fun r1 : Int32 => [.int r1])) (rmf := 0) (rml := 0) [.int x1] 0 cal_X0_hasNode q_13_5 ⟨Nat.le_of_ble_eq_true rfl, Nat.le_of_ble_eq_true rfl⟩ rfl rfl (Nat.le_of_ble_eq_true rfl) rfl hk0.2.1.1 (ce0 hk0.2.1.1 _ _) (ctX0_hasNode (kl K) G X.2.2.2.2.2.2.2.1 h σ 0 hk0.2.1 x1) dX6_obeyAdding_5 (fun _ => rfl) (fun r1 => ?_)
  refine z_if_eq X 37 dX6_obeyAdding_8 (by decide) ?_ ?_
  · exact z_sub [] rfl (sX6_obeyAdding_37 X k0 hk0 h σ)
  · refine z_aload_n X dX6_obeyAdding_11 0 rfl ?_
    refine z_get X inlX6 rfl hk0.1 (ce6 hk0.1 _ _) 0 (by decide) q_1_13 rfl dX6_obeyAdding_12 ?_
    refine z_iload_n X dX6_obeyAdding_15 2 rfl ?_
    refine z_callV0 X (g := (fun r2 : Int32 => ((some (.int r2), h, σ) : Option Value × Int64 × cS))) (st := []) (st1 := (fun r2 : Int32 => [.int r2])) (rmf := 0) (rml := 0) [.int x2] 0 cal_X0_hasNode q_13_5 ⟨Nat.le_of_ble_eq_true rfl, Nat.le_of_ble_eq_true rfl⟩ rfl rfl (Nat.le_of_ble_eq_true rfl) rfl hk0.2.1.1 (ce0 hk0.2.1.1 _ _) (ctX0_hasNode (kl K) G X.2.2.2.2.2.2.2.1 h σ 0 hk0.2.1 x2) dX6_obeyAdding_16 (fun _ => rfl) (fun r2 => ?_)
    refine z_if_eq X 37 dX6_obeyAdding_19 (by decide) ?_ ?_
    · exact z_sub [] rfl (sX6_obeyAdding_37 X k0 hk0 h σ)
    · refine z_iload_n X dX6_obeyAdding_22 1 rfl ?_
      refine z_iload_n X dX6_obeyAdding_23 2 rfl ?_
      refine z_icmp_eq X 37 dX6_obeyAdding_24 (by decide) ?_ ?_
      · exact z_sub [] rfl (sX6_obeyAdding_37 X k0 hk0 h σ)
      · refine z_aload_n X dX6_obeyAdding_27 0 rfl ?_
        refine z_get X inlX6 rfl hk0.1 (ce6 hk0.1 _ _) 0 (by decide) q_1_13 rfl dX6_obeyAdding_28 ?_
        refine z_callV0 X (g := (fun r3 : Int32 => ((some (.int r3), h, σ) : Option Value × Int64 × cS))) (st := []) (st1 := (fun r3 : Int32 => [.int r3])) (rmf := 0) (rml := 0) [] 0 cal_X0_isFull q_13_9 ⟨Nat.le_of_ble_eq_true rfl, Nat.le_of_ble_eq_true rfl⟩ rfl rfl (Nat.le_of_ble_eq_true rfl) rfl hk0.2.1.1 (ce0 hk0.2.1.1 _ _) (ctX0_isFull (kl K) G X.2.2.2.2.2.2.2.1 h σ 0 hk0.2.1 ) dX6_obeyAdding_31 (fun _ => rfl) (fun r3 => ?_)
        refine z_if_eq X 39 dX6_obeyAdding_34 (by decide) ?_ ?_
        · refine z_aload_n X dX6_obeyAdding_39 0 rfl ?_
          refine z_get X inlX6 rfl hk0.1 (ce6 hk0.1 _ _) 0 (by decide) q_1_13 rfl dX6_obeyAdding_40 ?_
          refine z_iload_n X dX6_obeyAdding_43 1 rfl ?_
          refine z_iload_n X dX6_obeyAdding_44 2 rfl ?_
          refine z_callV0 X (g := (fun r4 : (Int32 × cS) => ((some (.int r4.1), h, r4.2) : Option Value × Int64 × cS))) (st := []) (st1 := (fun r4 : (Int32 × cS) => [.int r4.1])) (rmf := 1) (rml := 22) [.int x1, .int x2] 0 cal_X0_join q_13_13 ⟨Nat.le_of_ble_eq_true rfl, Nat.le_of_ble_eq_true rfl⟩ rfl rfl (Nat.le_of_ble_eq_true rfl) rfl hk0.2.1.1 (ce0 hk0.2.1.1 _ _) (ctX0_join (kl K) G X.2.2.2.2.2.2.2.1 h σ 0 hk0.2.1 x1 x2) dX6_obeyAdding_45 (fun _ => rfl) (fun r4 => ?_)
          refine z_pop X dX6_obeyAdding_48 rfl ?_
          refine z_iconst (v := (1 : Int32)) X dX6_obeyAdding_49 (by decide) ?_
          exact z_zret X rfl dX6_obeyAdding_50
        · exact z_sub [] rfl (sX6_obeyAdding_37 X k0 hk0 h σ)
def fX6_obeyAdding (L : Nat → Nat) (σ : cS) (k0 : Nat) (x1 : Int32) (x2 : Int32) : Option (Int32 × cS) := fX6_obeyAdding_0 L k0 x1 x2 σ
set_option maxHeartbeats 4000000 in
set_option maxRecDepth 100000 in
theorem ctX6_obeyAdding (l : Launch) (G : Lay) (hi : Inj G) (h : Int64) (σ : cS) (k0 : Nat) (hk0 : isEH G k0) (x1 : Int32) (x2 : Int32) : ∀ r, fX6_obeyAdding (ll G) σ k0 x1 x2 = some r → CM l yX6_obeyAdding cX6_obeyAdding 3 (some .boolean) 2 47 G [.ref (la G k0), .int x1, .int x2] h σ (some (.int r.1), h, r.2) := by
  refine cm_of (g := (fun r : (Int32 × cS) => ((some (.int r.1), h, r.2) : Option Value × Int64 × cS))) (by decide) hi (Nat.le_of_ble_eq_true rfl) (fun K hKl X => ?_)
  unfold fX6_obeyAdding
  exact z_sub [0, 1, 2] rfl (sX6_obeyAdding_0 X k0 hk0 h x1 x2 σ)
def fX6_obeyForEdge_34 (L : Nat → Nat) (Nf : Nat) (k0 : Nat) (σ : cS) : Option (Int32 × cS) := grd (isb (1 : Int32)) (some ((1 : Int32), σ))
set_option maxHeartbeats 4000000 in
set_option maxRecDepth 100000 in
theorem sX6_obeyForEdge_34 {K : MCx} {G : Lay} (X : Cx K G RX6 cX6_obeyForEdge 3 (some .boolean) 2 45) (Nf : Nat) (k0 : Nat) (hk0 : isEH G k0) (h : Int64) (σ : cS) : Sm K G TT (QM K G (fun r : (Int32 × cS) => ((some (.int r.1), h, r.2) : Option Value × Int64 × cS))) 3 34 [] [] h σ (fX6_obeyForEdge_34 (ll G) Nf k0 σ) := by
  unfold fX6_obeyForEdge_34
  refine z_iconst (v := (1 : Int32)) X dX6_obeyForEdge_34 (by decide) ?_
  exact z_zret X rfl dX6_obeyForEdge_35
def fX6_obeyForEdge_0 (L : Nat → Nat) (Nf : Nat) (k0 : Nat) (x1 : Int32) (x2 : Int32) (σ : cS) : Option (Int32 × cS) := if x2 = (-1 : Int32) then (grd (isb (0 : Int32)) (some ((0 : Int32), σ))) else (if x1 = (45 : Int32) then (Option.bind (fX0_cut L Nf σ 0 x2) (fun r2 => fX6_obeyForEdge_34 L Nf k0 r2.2)) else (Option.bind (fX0_flip L σ 0 x2) (fun r1 => fX6_obeyForEdge_34 L Nf k0 r1.2)))
set_option maxHeartbeats 4000000 in
set_option maxRecDepth 100000 in
theorem sX6_obeyForEdge_0 {K : MCx} {G : Lay} (X : Cx K G RX6 cX6_obeyForEdge 3 (some .boolean) 2 45) (Nf : Nat) (k0 : Nat) (hk0 : isEH G k0) (h : Int64) (x1 : Int32) (x2 : Int32) (σ : cS) : Sm K G TT (QM K G (fun r : (Int32 × cS) => ((some (.int r.1), h, r.2) : Option Value × Int64 × cS))) 3 0 [(0, .ref (la G k0)), (1, .int x1), (2, .int x2)] [] h σ (fX6_obeyForEdge_0 (ll G) Nf k0 x1 x2 σ) := by
  unfold fX6_obeyForEdge_0
  refine z_iload_n X dX6_obeyForEdge_0 2 rfl ?_
  refine z_iconst (v := (-1 : Int32)) X dX6_obeyForEdge_1 (by decide) ?_
  refine z_icmp_ne X 7 dX6_obeyForEdge_2 (by decide) ?_ ?_
  · refine z_iconst (v := (0 : Int32)) X dX6_obeyForEdge_5 (by decide) ?_
    exact z_zret X rfl dX6_obeyForEdge_6
  · refine z_iload_n X dX6_obeyForEdge_7 1 rfl ?_
    refine z_bipush (v := (45 : Int32)) X dX6_obeyForEdge_8 (by decide) ?_
    refine z_icmp_ne X 25 dX6_obeyForEdge_10 (by decide) ?_ ?_
    · refine z_aload_n X dX6_obeyForEdge_13 0 rfl ?_
      refine z_get X inlX6 rfl hk0.1 (ce6 hk0.1 _ _) 0 (by decide) q_1_13 rfl dX6_obeyForEdge_14 ?_
      refine z_iload_n X dX6_obeyForEdge_17 2 rfl ?_
      refine z_callV0 X (g := (fun r2 : (Int32 × cS) => ((some (.int r2.1), h, r2.2) : Option Value × Int64 × cS))) (st := []) (st1 := (fun r2 : (Int32 × cS) => [.int r2.1])) (rmf := 1) (rml := 22) [.int x2] 0 cal_X0_cut q_14_5 ⟨Nat.le_of_ble_eq_true rfl, Nat.le_of_ble_eq_true rfl⟩ rfl rfl (Nat.le_of_ble_eq_true rfl) rfl hk0.2.1.1 (ce0 hk0.2.1.1 _ _) (ctX0_cut (kl K) G X.2.2.2.2.2.2.2.1 Nf h σ 0 hk0.2.1 x2) dX6_obeyForEdge_18 (fun _ => rfl) (fun r2 => ?_)
      refine z_pop X dX6_obeyForEdge_21 rfl ?_
      refine z_goto X 34 dX6_obeyForEdge_22 (by decide) ?_
      exact z_sub [] rfl (sX6_obeyForEdge_34 X Nf k0 hk0 h r2.2)
    · refine z_aload_n X dX6_obeyForEdge_25 0 rfl ?_
      refine z_get X inlX6 rfl hk0.1 (ce6 hk0.1 _ _) 0 (by decide) q_1_13 rfl dX6_obeyForEdge_26 ?_
      refine z_iload_n X dX6_obeyForEdge_29 2 rfl ?_
      refine z_callV0 X (g := (fun r1 : (Int32 × cS) => ((some (.int r1.1), h, r1.2) : Option Value × Int64 × cS))) (st := []) (st1 := (fun r1 : (Int32 × cS) => [.int r1.1])) (rmf := 1) (rml := 22) [.int x2] 0 cal_X0_flip q_14_13 ⟨Nat.le_of_ble_eq_true rfl, Nat.le_of_ble_eq_true rfl⟩ rfl rfl (Nat.le_of_ble_eq_true rfl) rfl hk0.2.1.1 (ce0 hk0.2.1.1 _ _) (ctX0_flip (kl K) G X.2.2.2.2.2.2.2.1 h σ 0 hk0.2.1 x2) dX6_obeyForEdge_30 (fun _ => rfl) (fun r1 => ?_)
      refine z_pop X dX6_obeyForEdge_33 rfl ?_
      exact z_sub [] rfl (sX6_obeyForEdge_34 X Nf k0 hk0 h r1.2)
def fX6_obeyForEdge (L : Nat → Nat) (Nf : Nat) (σ : cS) (k0 : Nat) (x1 : Int32) (x2 : Int32) : Option (Int32 × cS) := fX6_obeyForEdge_0 L Nf k0 x1 x2 σ
set_option maxHeartbeats 4000000 in
set_option maxRecDepth 100000 in
theorem ctX6_obeyForEdge (l : Launch) (G : Lay) (hi : Inj G) (Nf : Nat) (h : Int64) (σ : cS) (k0 : Nat) (hk0 : isEH G k0) (x1 : Int32) (x2 : Int32) : ∀ r, fX6_obeyForEdge (ll G) Nf σ k0 x1 x2 = some r → CM l yX6_obeyForEdge cX6_obeyForEdge 3 (some .boolean) 2 45 G [.ref (la G k0), .int x1, .int x2] h σ (some (.int r.1), h, r.2) := by
  refine cm_of (g := (fun r : (Int32 × cS) => ((some (.int r.1), h, r.2) : Option Value × Int64 × cS))) (by decide) hi (Nat.le_of_ble_eq_true rfl) (fun K hKl X => ?_)
  unfold fX6_obeyForEdge
  exact z_sub [0, 1, 2] rfl (sX6_obeyForEdge_0 X Nf k0 hk0 h x1 x2 σ)
def fX6_obeyOrder_152 (L : Nat → Nat) (Nf : Nat) (k0 : Nat) (y0 : Int32) (σ : cS) : Option (Int32 × cS) := grd (isb y0) (some (y0, σ))
set_option maxHeartbeats 4000000 in
set_option maxRecDepth 100000 in
theorem sX6_obeyOrder_152 {K : MCx} {G : Lay} (X : Cx K G RX6 cX6_obeyOrder 1 (some .boolean) 5 117) (Nf : Nat) (k0 : Nat) (hk0 : isEH G k0) (h : Int64) (y0 : Int32) (σ : cS) : Sm K G TT (QM K G (fun r : (Int32 × cS) => ((some (.int r.1), h, r.2) : Option Value × Int64 × cS))) 1 152 [] [.int y0] h σ (fX6_obeyOrder_152 (ll G) Nf k0 y0 σ) := by
  unfold fX6_obeyOrder_152
  exact z_zret X rfl dX6_obeyOrder_152
def fX6_obeyOrder_151 (L : Nat → Nat) (Nf : Nat) (k0 : Nat) (σ : cS) : Option (Int32 × cS) := fX6_obeyOrder_152 L Nf k0 (0 : Int32) σ
set_option maxHeartbeats 4000000 in
set_option maxRecDepth 100000 in
theorem sX6_obeyOrder_151 {K : MCx} {G : Lay} (X : Cx K G RX6 cX6_obeyOrder 1 (some .boolean) 5 117) (Nf : Nat) (k0 : Nat) (hk0 : isEH G k0) (h : Int64) (σ : cS) : Sm K G TT (QM K G (fun r : (Int32 × cS) => ((some (.int r.1), h, r.2) : Option Value × Int64 × cS))) 1 151 [] [] h σ (fX6_obeyOrder_151 (ll G) Nf k0 σ) := by
  unfold fX6_obeyOrder_151
  refine z_iconst (v := (0 : Int32)) X dX6_obeyOrder_151 (by decide) ?_
  exact z_sub [] rfl (sX6_obeyOrder_152 X Nf k0 hk0 h (0 : Int32) σ)
def fX6_obeyOrder_0 (L : Nat → Nat) (Nf : Nat) (k0 : Nat) (σ : cS) : Option (Int32 × cS) := if (σ 102 4) = (43 : Int32) then (Option.bind (fX6_obeyAdding L σ k0 (σ 102 5) (σ 102 6)) (fun r1 => grd (isb r1.1) (some (r1.1, r1.2)))) else (if (σ 102 4) = (45 : Int32) then (Option.bind (fX0_slotOf L Nf σ 0 (σ 102 7)) (fun r2 => Option.bind (fX6_obeyForEdge L Nf σ k0 (σ 102 4) r2) (fun r3 => grd (isb r3.1) (some (r3.1, r3.2))))) else (if (σ 102 4) = (98 : Int32) then (Option.bind (fX5_evenOut L Nf σ 90 0) (fun r4 => grd (isb (1 : Int32)) (some ((1 : Int32), r4.2)))) else (if (σ 102 4) = (99 : Int32) then (Option.bind (fX6_obeyCapacity L σ k0 (σ 102 5) (σ 102 7)) (fun r5 => grd (isb r5.1) (some (r5.1, r5.2)))) else (if (σ 102 4) = (114 : Int32) then (Option.bind (fX0_hasNode σ 0 (σ 102 5)) (fun r6 => if r6 = 0 then (fX6_obeyOrder_151 L Nf k0 σ) else (Option.bind (fX5_relieveNode L Nf σ 90 0 (σ 102 5)) (fun r7 => if r7.1 ≤ 0 then (fX6_obeyOrder_151 L Nf k0 r7.2) else (fX6_obeyOrder_152 L Nf k0 (1 : Int32) r7.2))))) else (if (σ 102 4) = (116 : Int32) then (Option.bind (fX0_slotOf L Nf σ 0 (σ 102 7)) (fun r8 => Option.bind (fX6_obeyForEdge L Nf σ k0 (σ 102 4) r8) (fun r9 => grd (isb r9.1) (some (r9.1, r9.2))))) else (grd (isb (0 : Int32)) (some ((0 : Int32), σ))))))))
set_option maxHeartbeats 4000000 in
set_option maxRecDepth 100000 in
theorem sX6_obeyOrder_0 {K : MCx} {G : Lay} (X : Cx K G RX6 cX6_obeyOrder 1 (some .boolean) 5 117) (Nf : Nat) (k0 : Nat) (hk0 : isEH G k0) (h : Int64) (σ : cS) : Sm K G TT (QM K G (fun r : (Int32 × cS) => ((some (.int r.1), h, r.2) : Option Value × Int64 × cS))) 1 0 [(0, .ref (la G k0))] [] h σ (fX6_obeyOrder_0 (ll G) Nf k0 σ) := by
  unfold fX6_obeyOrder_0
  refine z_aload_n X dX6_obeyOrder_0 0 rfl ?_
  refine z_get X inlX6 rfl hk0.1 (ce6 hk0.1 _ _) 4 (by decide) q_2_2 rfl dX6_obeyOrder_1 ?_
  refine z_getN X inlX2 rfl hk0.2.2.2.2.2.1.1 (ce2 hk0.2.2.2.2.2.1.1 _ _) 4 (by decide) n_20 rfl dX6_obeyOrder_4 ?_
  refine z_ite (fun c0 => ?_) (fun c0 => ?_)
  · refine z_lsw (off := 57) X 64 dX6_obeyOrder_7 (by decide) (by rw [c0]; decide) (by decide) ?_
    refine z_aload_n X dX6_obeyOrder_64 0 rfl ?_
    refine z_aload_n X dX6_obeyOrder_65 0 rfl ?_
    refine z_get X inlX6 rfl hk0.1 (ce6 hk0.1 _ _) 4 (by decide) q_2_2 rfl dX6_obeyOrder_66 ?_
    refine z_getN X inlX2 rfl hk0.2.2.2.2.2.1.1 (ce2 hk0.2.2.2.2.2.1.1 _ _) 5 (by decide) n_21 rfl dX6_obeyOrder_69 ?_
    refine z_aload_n X dX6_obeyOrder_72 0 rfl ?_
    refine z_get X inlX6 rfl hk0.1 (ce6 hk0.1 _ _) 4 (by decide) q_2_2 rfl dX6_obeyOrder_73 ?_
    refine z_getN X inlX2 rfl hk0.2.2.2.2.2.1.1 (ce2 hk0.2.2.2.2.2.1.1 _ _) 6 (by decide) n_22 rfl dX6_obeyOrder_76 ?_
    refine z_callV0 X (g := (fun r1 : (Int32 × cS) => ((some (.int r1.1), h, r1.2) : Option Value × Int64 × cS))) (st := []) (st1 := (fun r1 : (Int32 × cS) => [.int r1.1])) (rmf := 2) (rml := 47) [.int (σ 102 5), .int (σ 102 6)] k0 cal_X6_obeyAdding q_13_1 ⟨Nat.le_of_ble_eq_true rfl, Nat.le_of_ble_eq_true rfl⟩ rfl rfl (Nat.le_of_ble_eq_true rfl) rfl hk0.1 (ce6 hk0.1 _ _) (ctX6_obeyAdding (kl K) G X.2.2.2.2.2.2.2.1 h σ k0 hk0 (σ 102 5) (σ 102 6)) dX6_obeyOrder_79 (fun _ => rfl) (fun r1 => ?_)
    exact z_zret X rfl dX6_obeyOrder_82
  · refine z_ite (fun c1 => ?_) (fun c1 => ?_)
    · refine z_lsw (off := 76) X 83 dX6_obeyOrder_7 (by decide) (by rw [c1]; decide) (by decide) ?_
      refine z_aload_n X dX6_obeyOrder_83 0 rfl ?_
      refine z_aload_n X dX6_obeyOrder_84 0 rfl ?_
      refine z_get X inlX6 rfl hk0.1 (ce6 hk0.1 _ _) 4 (by decide) q_2_2 rfl dX6_obeyOrder_85 ?_
      refine z_getN X inlX2 rfl hk0.2.2.2.2.2.1.1 (ce2 hk0.2.2.2.2.2.1.1 _ _) 4 (by decide) n_20 rfl dX6_obeyOrder_88 ?_
      refine z_aload_n X dX6_obeyOrder_91 0 rfl ?_
      refine z_get X inlX6 rfl hk0.1 (ce6 hk0.1 _ _) 0 (by decide) q_1_13 rfl dX6_obeyOrder_92 ?_
      refine z_aload_n X dX6_obeyOrder_95 0 rfl ?_
      refine z_get X inlX6 rfl hk0.1 (ce6 hk0.1 _ _) 4 (by decide) q_2_2 rfl dX6_obeyOrder_96 ?_
      refine z_getN X inlX2 rfl hk0.2.2.2.2.2.1.1 (ce2 hk0.2.2.2.2.2.1.1 _ _) 7 (by decide) n_23 rfl dX6_obeyOrder_99 ?_
      refine z_callV0 X (g := (fun r2 : Int32 => ((some (.int r2), h, σ) : Option Value × Int64 × cS))) (st := [.int (σ 102 4), .ref (la G k0)]) (st1 := (fun r2 : Int32 => [.int r2, .int (σ 102 4), .ref (la G k0)])) (rmf := 1) (rml := 21) [.int (σ 102 7)] 0 cal_X0_slotOf q_13_21 ⟨Nat.le_of_ble_eq_true rfl, Nat.le_of_ble_eq_true rfl⟩ rfl rfl (Nat.le_of_ble_eq_true rfl) rfl hk0.2.1.1 (ce0 hk0.2.1.1 _ _) (ctX0_slotOf (kl K) G X.2.2.2.2.2.2.2.1 Nf h σ 0 hk0.2.1 (σ 102 7)) dX6_obeyOrder_102 (fun _ => rfl) (fun r2 => ?_)
      refine z_callV0 X (g := (fun r3 : (Int32 × cS) => ((some (.int r3.1), h, r3.2) : Option Value × Int64 × cS))) (st := []) (st1 := (fun r3 : (Int32 × cS) => [.int r3.1])) (rmf := 2) (rml := 45) [.int (σ 102 4), .int r2] k0 cal_X6_obeyForEdge q_14_1 ⟨Nat.le_of_ble_eq_true rfl, Nat.le_of_ble_eq_true rfl⟩ rfl rfl (Nat.le_of_ble_eq_true rfl) rfl hk0.1 (ce6 hk0.1 _ _) (ctX6_obeyForEdge (kl K) G X.2.2.2.2.2.2.2.1 Nf h σ k0 hk0 (σ 102 4) r2) dX6_obeyOrder_105 (fun _ => rfl) (fun r3 => ?_)
      exact z_zret X rfl dX6_obeyOrder_108
    · refine z_ite (fun c2 => ?_) (fun c2 => ?_)
      · refine z_lsw (off := 146) X 153 dX6_obeyOrder_7 (by decide) (by rw [c2]; decide) (by decide) ?_
        refine z_aload_n X dX6_obeyOrder_153 0 rfl ?_
        refine z_get X inlX6 rfl hk0.1 (ce6 hk0.1 _ _) 2 (by decide) q_1_18 rfl dX6_obeyOrder_154 ?_
        refine z_aload_n X dX6_obeyOrder_157 0 rfl ?_
        refine z_get X inlX6 rfl hk0.1 (ce6 hk0.1 _ _) 0 (by decide) q_1_13 rfl dX6_obeyOrder_158 ?_
        refine z_callV0 X (g := (fun r4 : (Int32 × cS) => ((some (.int r4.1), h, r4.2) : Option Value × Int64 × cS))) (st := []) (st1 := (fun r4 : (Int32 × cS) => [.int r4.1])) (rmf := 4) (rml := 93) [.ref (la G 0)] 90 cal_X5_evenOut q_16_7 ⟨Nat.le_of_ble_eq_true rfl, Nat.le_of_ble_eq_true rfl⟩ rfl rfl (Nat.le_of_ble_eq_true rfl) rfl hk0.2.2.2.1.1 (ce5 hk0.2.2.2.1.1 _ _) (ctX5_evenOut (kl K) G X.2.2.2.2.2.2.2.1 Nf h σ 90 hk0.2.2.2.1 0 hk0.2.1 ) dX6_obeyOrder_161 (fun _ => rfl) (fun r4 => ?_)
        refine z_pop X dX6_obeyOrder_164 rfl ?_
        refine z_iconst (v := (1 : Int32)) X dX6_obeyOrder_165 (by decide) ?_
        exact z_zret X rfl dX6_obeyOrder_166
      · refine z_ite (fun c3 => ?_) (fun c3 => ?_)
        · refine z_lsw (off := 160) X 167 dX6_obeyOrder_7 (by decide) (by rw [c3]; decide) (by decide) ?_
          refine z_aload_n X dX6_obeyOrder_167 0 rfl ?_
          refine z_aload_n X dX6_obeyOrder_168 0 rfl ?_
          refine z_get X inlX6 rfl hk0.1 (ce6 hk0.1 _ _) 4 (by decide) q_2_2 rfl dX6_obeyOrder_169 ?_
          refine z_getN X inlX2 rfl hk0.2.2.2.2.2.1.1 (ce2 hk0.2.2.2.2.2.1.1 _ _) 5 (by decide) n_21 rfl dX6_obeyOrder_172 ?_
          refine z_aload_n X dX6_obeyOrder_175 0 rfl ?_
          refine z_get X inlX6 rfl hk0.1 (ce6 hk0.1 _ _) 4 (by decide) q_2_2 rfl dX6_obeyOrder_176 ?_
          refine z_getN X inlX2 rfl hk0.2.2.2.2.2.1.1 (ce2 hk0.2.2.2.2.2.1.1 _ _) 7 (by decide) n_23 rfl dX6_obeyOrder_179 ?_
          refine z_callV0 X (g := (fun r5 : (Int32 × cS) => ((some (.int r5.1), h, r5.2) : Option Value × Int64 × cS))) (st := []) (st1 := (fun r5 : (Int32 × cS) => [.int r5.1])) (rmf := 1) (rml := 22) [.int (σ 102 5), .int (σ 102 7)] k0 cal_X6_obeyCapacity q_16_14 ⟨Nat.le_of_ble_eq_true rfl, Nat.le_of_ble_eq_true rfl⟩ rfl rfl (Nat.le_of_ble_eq_true rfl) rfl hk0.1 (ce6 hk0.1 _ _) (ctX6_obeyCapacity (kl K) G X.2.2.2.2.2.2.2.1 h σ k0 hk0 (σ 102 5) (σ 102 7)) dX6_obeyOrder_182 (fun _ => rfl) (fun r5 => ?_)
          exact z_zret X rfl dX6_obeyOrder_185
        · refine z_ite (fun c4 => ?_) (fun c4 => ?_)
          · refine z_lsw (off := 102) X 109 dX6_obeyOrder_7 (by decide) (by rw [c4]; decide) (by decide) ?_
            refine z_aload_n X dX6_obeyOrder_109 0 rfl ?_
            refine z_get X inlX6 rfl hk0.1 (ce6 hk0.1 _ _) 0 (by decide) q_1_13 rfl dX6_obeyOrder_110 ?_
            refine z_aload_n X dX6_obeyOrder_113 0 rfl ?_
            refine z_get X inlX6 rfl hk0.1 (ce6 hk0.1 _ _) 4 (by decide) q_2_2 rfl dX6_obeyOrder_114 ?_
            refine z_getN X inlX2 rfl hk0.2.2.2.2.2.1.1 (ce2 hk0.2.2.2.2.2.1.1 _ _) 5 (by decide) n_21 rfl dX6_obeyOrder_117 ?_
            refine z_callV0 X (g := (fun r6 : Int32 => ((some (.int r6), h, σ) : Option Value × Int64 × cS))) (st := []) (st1 := (fun r6 : Int32 => [.int r6])) (rmf := 0) (rml := 0) [.int (σ 102 5)] 0 cal_X0_hasNode q_13_5 ⟨Nat.le_of_ble_eq_true rfl, Nat.le_of_ble_eq_true rfl⟩ rfl rfl (Nat.le_of_ble_eq_true rfl) rfl hk0.2.1.1 (ce0 hk0.2.1.1 _ _) (ctX0_hasNode (kl K) G X.2.2.2.2.2.2.2.1 h σ 0 hk0.2.1 (σ 102 5)) dX6_obeyOrder_120 (fun _ => rfl) (fun r6 => ?_)
            refine z_if_eq X 151 dX6_obeyOrder_123 (by decide) ?_ ?_
            · exact z_sub [] rfl (sX6_obeyOrder_151 X Nf k0 hk0 h σ)
            · refine z_aload_n X dX6_obeyOrder_126 0 rfl ?_
              refine z_get X inlX6 rfl hk0.1 (ce6 hk0.1 _ _) 2 (by decide) q_1_18 rfl dX6_obeyOrder_127 ?_
              refine z_aload_n X dX6_obeyOrder_130 0 rfl ?_
              refine z_get X inlX6 rfl hk0.1 (ce6 hk0.1 _ _) 0 (by decide) q_1_13 rfl dX6_obeyOrder_131 ?_
              refine z_aload_n X dX6_obeyOrder_134 0 rfl ?_
              refine z_get X inlX6 rfl hk0.1 (ce6 hk0.1 _ _) 4 (by decide) q_2_2 rfl dX6_obeyOrder_135 ?_
              refine z_getN X inlX2 rfl hk0.2.2.2.2.2.1.1 (ce2 hk0.2.2.2.2.2.1.1 _ _) 5 (by decide) n_21 rfl dX6_obeyOrder_138 ?_
              refine z_callV0 X (g := (fun r7 : (Int32 × cS) => ((some (.int r7.1), h, r7.2) : Option Value × Int64 × cS))) (st := []) (st1 := (fun r7 : (Int32 × cS) => [.int r7.1])) (rmf := 3) (rml := 70) [.ref (la G 0), .int (σ 102 5)] 90 cal_X5_relieveNode q_14_17 ⟨Nat.le_of_ble_eq_true rfl, Nat.le_of_ble_eq_true rfl⟩ rfl rfl (Nat.le_of_ble_eq_true rfl) rfl hk0.2.2.2.1.1 (ce5 hk0.2.2.2.1.1 _ _) (ctX5_relieveNode (kl K) G X.2.2.2.2.2.2.2.1 Nf h σ 90 hk0.2.2.2.1 0 hk0.2.1 (σ 102 5)) dX6_obeyOrder_141 (fun _ => rfl) (fun r7 => ?_)
              refine z_if_le X 151 dX6_obeyOrder_144 (by decide) ?_ ?_
              · exact z_sub [] rfl (sX6_obeyOrder_151 X Nf k0 hk0 h r7.2)
              · refine z_iconst (v := (1 : Int32)) X dX6_obeyOrder_147 (by decide) ?_
                refine z_goto X 152 dX6_obeyOrder_148 (by decide) ?_
                exact z_sub [] rfl (sX6_obeyOrder_152 X Nf k0 hk0 h (1 : Int32) r7.2)
          · refine z_ite (fun c5 => ?_) (fun c5 => ?_)
            · refine z_lsw (off := 76) X 83 dX6_obeyOrder_7 (by decide) (by rw [c5]; decide) (by decide) ?_
              refine z_aload_n X dX6_obeyOrder_83 0 rfl ?_
              refine z_aload_n X dX6_obeyOrder_84 0 rfl ?_
              refine z_get X inlX6 rfl hk0.1 (ce6 hk0.1 _ _) 4 (by decide) q_2_2 rfl dX6_obeyOrder_85 ?_
              refine z_getN X inlX2 rfl hk0.2.2.2.2.2.1.1 (ce2 hk0.2.2.2.2.2.1.1 _ _) 4 (by decide) n_20 rfl dX6_obeyOrder_88 ?_
              refine z_aload_n X dX6_obeyOrder_91 0 rfl ?_
              refine z_get X inlX6 rfl hk0.1 (ce6 hk0.1 _ _) 0 (by decide) q_1_13 rfl dX6_obeyOrder_92 ?_
              refine z_aload_n X dX6_obeyOrder_95 0 rfl ?_
              refine z_get X inlX6 rfl hk0.1 (ce6 hk0.1 _ _) 4 (by decide) q_2_2 rfl dX6_obeyOrder_96 ?_
              refine z_getN X inlX2 rfl hk0.2.2.2.2.2.1.1 (ce2 hk0.2.2.2.2.2.1.1 _ _) 7 (by decide) n_23 rfl dX6_obeyOrder_99 ?_
              refine z_callV0 X (g := (fun r8 : Int32 => ((some (.int r8), h, σ) : Option Value × Int64 × cS))) (st := [.int (σ 102 4), .ref (la G k0)]) (st1 := (fun r8 : Int32 => [.int r8, .int (σ 102 4), .ref (la G k0)])) (rmf := 1) (rml := 21) [.int (σ 102 7)] 0 cal_X0_slotOf q_13_21 ⟨Nat.le_of_ble_eq_true rfl, Nat.le_of_ble_eq_true rfl⟩ rfl rfl (Nat.le_of_ble_eq_true rfl) rfl hk0.2.1.1 (ce0 hk0.2.1.1 _ _) (ctX0_slotOf (kl K) G X.2.2.2.2.2.2.2.1 Nf h σ 0 hk0.2.1 (σ 102 7)) dX6_obeyOrder_102 (fun _ => rfl) (fun r8 => ?_)
              refine z_callV0 X (g := (fun r9 : (Int32 × cS) => ((some (.int r9.1), h, r9.2) : Option Value × Int64 × cS))) (st := []) (st1 := (fun r9 : (Int32 × cS) => [.int r9.1])) (rmf := 2) (rml := 45) [.int (σ 102 4), .int r8] k0 cal_X6_obeyForEdge q_14_1 ⟨Nat.le_of_ble_eq_true rfl, Nat.le_of_ble_eq_true rfl⟩ rfl rfl (Nat.le_of_ble_eq_true rfl) rfl hk0.1 (ce6 hk0.1 _ _) (ctX6_obeyForEdge (kl K) G X.2.2.2.2.2.2.2.1 Nf h σ k0 hk0 (σ 102 4) r8) dX6_obeyOrder_105 (fun _ => rfl) (fun r9 => ?_)
              exact z_zret X rfl dX6_obeyOrder_108
            · refine z_lsw (off := 179) X 186 dX6_obeyOrder_7 (by decide) (by refine (lv_osw (k := (43 : Int32)) c0 (by decide)).trans ?_; refine (lv_osw (k := (45 : Int32)) c1 (by decide)).trans ?_; refine (lv_osw (k := (98 : Int32)) c2 (by decide)).trans ?_; refine (lv_osw (k := (99 : Int32)) c3 (by decide)).trans ?_; refine (lv_osw (k := (114 : Int32)) c4 (by decide)).trans ?_; refine (lv_osw (k := (116 : Int32)) c5 (by decide)).trans ?_; rfl) (by decide) ?_
              refine z_iconst (v := (0 : Int32)) X dX6_obeyOrder_186 (by decide) ?_
              exact z_zret X rfl dX6_obeyOrder_187
def fX6_obeyOrder (L : Nat → Nat) (Nf : Nat) (σ : cS) (k0 : Nat) : Option (Int32 × cS) := fX6_obeyOrder_0 L Nf k0 σ
set_option maxHeartbeats 4000000 in
set_option maxRecDepth 100000 in
theorem ctX6_obeyOrder (l : Launch) (G : Lay) (hi : Inj G) (Nf : Nat) (h : Int64) (σ : cS) (k0 : Nat) (hk0 : isEH G k0) : ∀ r, fX6_obeyOrder (ll G) Nf σ k0 = some r → CM l yX6_obeyOrder cX6_obeyOrder 1 (some .boolean) 5 117 G [.ref (la G k0)] h σ (some (.int r.1), h, r.2) := by
  refine cm_of (g := (fun r : (Int32 × cS) => ((some (.int r.1), h, r.2) : Option Value × Int64 × cS))) (by decide) hi (Nat.le_of_ble_eq_true rfl) (fun K hKl X => ?_)
  unfold fX6_obeyOrder
  exact z_sub [0] rfl (sX6_obeyOrder_0 X Nf k0 hk0 h σ)
def fX6_carryOut_74 (L : Nat → Nat) (Nf : Nat) (k0 : Nat) (x2 : Int32) (σ : cS) : Option (Int32 × cS) := some (x2, σ)
set_option maxHeartbeats 4000000 in
set_option maxRecDepth 100000 in
theorem sX6_carryOut_74 {K : MCx} {G : Lay} (X : Cx K G RX6 cX6_carryOut 3 (some .int) 6 137) (Nf : Nat) (k0 : Nat) (hk0 : isEH G k0) (h : Int64) (x2 : Int32) (σ : cS) : Sm K G TT (QM K G (fun r : (Int32 × cS) => ((some (.int r.1), h, r.2) : Option Value × Int64 × cS))) 3 74 [(2, .int x2)] [] h σ (fX6_carryOut_74 (ll G) Nf k0 x2 σ) := by
  unfold fX6_carryOut_74
  refine z_iload_n X dX6_carryOut_74 0 rfl ?_
  exact z_iret X rfl dX6_carryOut_75
def fX6_carryOut_45 (L : Nat → Nat) (Nf : Nat) (k0 : Nat) : Nat → Int32 → cS → Option (Int32 × cS)
  | 0, _, _ => none
  | n + 1, x2, σ => if (100 : Int32) ≤ x2 then (fX6_carryOut_74 L Nf k0 x2 σ) else (Option.bind (fX2_readOrder L Nf σ 102) (fun r1 => if r1.1 = 0 then (fX6_carryOut_74 L Nf k0 x2 r1.2) else (Option.bind (fX6_obeyOrder L Nf r1.2 k0) (fun r2 => if r2.1 = 0 then (fX6_carryOut_74 L Nf k0 x2 r2.2) else (bnd (x2 + (1 : Int32)) (fun t3 => fX6_carryOut_45 L Nf k0 n t3 r2.2))))))
set_option maxHeartbeats 4000000 in
set_option maxRecDepth 100000 in
theorem sX6_carryOut_45 {K : MCx} {G : Lay} (X : Cx K G RX6 cX6_carryOut 3 (some .int) 6 137) (Nf : Nat) (k0 : Nat) (hk0 : isEH G k0) (h : Int64) : ∀ (n : Nat) (x2 : Int32) (σ : cS), Sm K G TT (QM K G (fun r : (Int32 × cS) => ((some (.int r.1), h, r.2) : Option Value × Int64 × cS))) 3 45 [(0, .ref (la G k0)), (2, .int x2)] [] h σ (fX6_carryOut_45 (ll G) Nf k0 n x2 σ) := by
  intro n
  induction n with
  | zero => intros; exact z_none
  | succ n ih =>
    intro x2 σ
    unfold fX6_carryOut_45
    refine z_iload_n X dX6_carryOut_45 1 rfl ?_
    refine z_bipush (v := (100 : Int32)) X dX6_carryOut_46 (by decide) ?_
    refine z_icmp_ge X 74 dX6_carryOut_48 (by decide) ?_ ?_
    · exact z_sub [1] rfl (sX6_carryOut_74 X Nf k0 hk0 h x2 σ)
    · refine z_aload_n X dX6_carryOut_51 0 rfl ?_
      refine z_get X inlX6 rfl hk0.1 (ce6 hk0.1 _ _) 4 (by decide) q_2_2 rfl dX6_carryOut_52 ?_
      refine z_callV0 X (g := (fun r1 : (Int32 × cS) => ((some (.int r1.1), h, r1.2) : Option Value × Int64 × cS))) (st := []) (st1 := (fun r1 : (Int32 × cS) => [.int r1.1])) (rmf := 4) (rml := 86) [] 102 cal_X2_readOrder q_12_20 ⟨Nat.le_of_ble_eq_true rfl, Nat.le_of_ble_eq_true rfl⟩ rfl rfl (Nat.le_of_ble_eq_true rfl) rfl hk0.2.2.2.2.2.1.1 (ce2 hk0.2.2.2.2.2.1.1 _ _) (ctX2_readOrder (kl K) G X.2.2.2.2.2.2.2.1 Nf h σ 102 hk0.2.2.2.2.2.1 ) dX6_carryOut_55 (fun _ => rfl) (fun r1 => ?_)
      refine z_if_eq X 74 dX6_carryOut_58 (by decide) ?_ ?_
      · exact z_sub [1] rfl (sX6_carryOut_74 X Nf k0 hk0 h x2 r1.2)
      · refine z_aload_n X dX6_carryOut_61 0 rfl ?_
        refine z_callV0 X (g := (fun r2 : (Int32 × cS) => ((some (.int r2.1), h, r2.2) : Option Value × Int64 × cS))) (st := []) (st1 := (fun r2 : (Int32 × cS) => [.int r2.1])) (rmf := 5) (rml := 117) [] k0 cal_X6_obeyOrder q_12_21 ⟨Nat.le_of_ble_eq_true rfl, Nat.le_of_ble_eq_true rfl⟩ rfl rfl (Nat.le_of_ble_eq_true rfl) rfl hk0.1 (ce6 hk0.1 _ _) (ctX6_obeyOrder (kl K) G X.2.2.2.2.2.2.2.1 Nf h r1.2 k0 hk0 ) dX6_carryOut_62 (fun _ => rfl) (fun r2 => ?_)
        refine z_if_eq X 74 dX6_carryOut_65 (by decide) ?_ ?_
        · exact z_sub [1] rfl (sX6_carryOut_74 X Nf k0 hk0 h x2 r2.2)
        · refine z_iinc X (fun t3 => [(2, .int t3), (0, .ref (la G k0))]) dX6_carryOut_68 1 rfl (by decide) (by decide) (fun _ => rfl) (fun t3 => ?_)
          refine z_goto X 45 dX6_carryOut_71 (by decide) ?_
          exact z_sub [1, 0] rfl (ih t3 r2.2)
def fX6_carryOut_0 (L : Nat → Nat) (Nf : Nat) (k0 : Nat) (σ : cS) : Option (Int32 × cS) := Option.bind (fX2_findSyntaxError L Nf σ 102) (fun r1 => if r1.1 = (-1 : Int32) then (Option.bind (fX1_save L Nf r1.2 105 0) (fun r2 => Option.bind (fX3_forget r2 97) (fun r3 => Option.bind (fX2_rewind r3 102) (fun r4 => fX6_carryOut_45 L Nf k0 Nf (0 : Int32) r4)))) else (some (((-10 : Int32) - r1.1), r1.2)))
set_option maxHeartbeats 4000000 in
set_option maxRecDepth 100000 in
theorem sX6_carryOut_0 {K : MCx} {G : Lay} (X : Cx K G RX6 cX6_carryOut 3 (some .int) 6 137) (Nf : Nat) (k0 : Nat) (hk0 : isEH G k0) (h : Int64) (σ : cS) : Sm K G TT (QM K G (fun r : (Int32 × cS) => ((some (.int r.1), h, r.2) : Option Value × Int64 × cS))) 3 0 [(0, .ref (la G k0))] [] h σ (fX6_carryOut_0 (ll G) Nf k0 σ) := by
  unfold fX6_carryOut_0
  refine z_aload_n X dX6_carryOut_0 0 rfl ?_
  refine z_get X inlX6 rfl hk0.1 (ce6 hk0.1 _ _) 4 (by decide) q_2_2 rfl dX6_carryOut_1 ?_
  refine z_callV0 X (g := (fun r1 : (Int32 × cS) => ((some (.int r1.1), h, r1.2) : Option Value × Int64 × cS))) (st := []) (st1 := (fun r1 : (Int32 × cS) => [.int r1.1])) (rmf := 5) (rml := 106) [] 102 cal_X2_findSyntaxError q_10_19 ⟨Nat.le_of_ble_eq_true rfl, Nat.le_of_ble_eq_true rfl⟩ rfl rfl (Nat.le_of_ble_eq_true rfl) rfl hk0.2.2.2.2.2.1.1 (ce2 hk0.2.2.2.2.2.1.1 _ _) (ctX2_findSyntaxError (kl K) G X.2.2.2.2.2.2.2.1 Nf h σ 102 hk0.2.2.2.2.2.1 ) dX6_carryOut_4 (fun _ => rfl) (fun r1 => ?_)
  refine z_istore_n X [(1, .int r1.1), (0, .ref (la G k0))] dX6_carryOut_7 (by decide) rfl ?_
  refine z_iload_n X dX6_carryOut_8 0 rfl ?_
  refine z_iconst (v := (-1 : Int32)) X dX6_carryOut_9 (by decide) ?_
  refine z_icmp_eq X 18 dX6_carryOut_10 (by decide) ?_ ?_
  · refine z_aload_n X dX6_carryOut_18 1 rfl ?_
    refine z_get X inlX6 rfl hk0.1 (ce6 hk0.1 _ _) 5 (by decide) q_2_6 rfl dX6_carryOut_19 ?_
    refine z_aload_n X dX6_carryOut_22 1 rfl ?_
    refine z_get X inlX6 rfl hk0.1 (ce6 hk0.1 _ _) 0 (by decide) q_1_13 rfl dX6_carryOut_23 ?_
    refine z_callV0 X (g := (fun r2 : cS => ((none, h, r2) : Option Value × Int64 × cS))) (st := []) (st1 := (fun r2 : cS => [])) (rmf := 2) (rml := 43) [.ref (la G 0)] 105 cal_X1_save q_12_14 ⟨Nat.le_of_ble_eq_true rfl, Nat.le_of_ble_eq_true rfl⟩ rfl rfl (Nat.le_of_ble_eq_true rfl) rfl hk0.2.2.2.2.2.2.1 (ce1 hk0.2.2.2.2.2.2.1 _ _) (ctX1_save (kl K) G X.2.2.2.2.2.2.2.1 Nf h r1.2 105 hk0.2.2.2.2.2.2 0 hk0.2.1 ) dX6_carryOut_26 (fun _ => rfl) (fun r2 => ?_)
    refine z_aload_n X dX6_carryOut_29 1 rfl ?_
    refine z_get X inlX6 rfl hk0.1 (ce6 hk0.1 _ _) 3 (by decide) q_1_22 rfl dX6_carryOut_30 ?_
    refine z_callV0 X (g := (fun r3 : cS => ((none, h, r3) : Option Value × Int64 × cS))) (st := []) (st1 := (fun r3 : cS => [])) (rmf := 0) (rml := 0) [] 97 cal_X3_forget q_5_21 ⟨Nat.le_of_ble_eq_true rfl, Nat.le_of_ble_eq_true rfl⟩ rfl rfl (Nat.le_of_ble_eq_true rfl) rfl hk0.2.2.2.2.1.1 (ce3 hk0.2.2.2.2.1.1 _ _) (ctX3_forget (kl K) G X.2.2.2.2.2.2.2.1 h r2 97 hk0.2.2.2.2.1 ) dX6_carryOut_33 (fun _ => rfl) (fun r3 => ?_)
    refine z_aload_n X dX6_carryOut_36 1 rfl ?_
    refine z_get X inlX6 rfl hk0.1 (ce6 hk0.1 _ _) 4 (by decide) q_2_2 rfl dX6_carryOut_37 ?_
    refine z_callV0 X (g := (fun r4 : cS => ((none, h, r4) : Option Value × Int64 × cS))) (st := []) (st1 := (fun r4 : cS => [])) (rmf := 0) (rml := 0) [] 102 cal_X2_rewind q_12_19 ⟨Nat.le_of_ble_eq_true rfl, Nat.le_of_ble_eq_true rfl⟩ rfl rfl (Nat.le_of_ble_eq_true rfl) rfl hk0.2.2.2.2.2.1.1 (ce2 hk0.2.2.2.2.2.1.1 _ _) (ctX2_rewind (kl K) G X.2.2.2.2.2.2.2.1 h r3 102 hk0.2.2.2.2.2.1 ) dX6_carryOut_40 (fun _ => rfl) (fun r4 => ?_)
    refine z_iconst (v := (0 : Int32)) X dX6_carryOut_43 (by decide) ?_
    refine z_istore_n X [(2, .int (0 : Int32)), (1, .int r1.1), (0, .ref (la G k0))] dX6_carryOut_44 (by decide) rfl ?_
    exact z_sub [2, 0] rfl (sX6_carryOut_45 X Nf k0 hk0 h Nf (0 : Int32) r4)
  · refine z_bipush (v := (-10 : Int32)) X dX6_carryOut_13 (by decide) ?_
    refine z_iload_n X dX6_carryOut_15 0 rfl ?_
    refine z_isub X dX6_carryOut_16 ?_
    exact z_iret X rfl dX6_carryOut_17
def fX6_carryOut (L : Nat → Nat) (Nf : Nat) (σ : cS) (k0 : Nat) : Option (Int32 × cS) := fX6_carryOut_0 L Nf k0 σ
set_option maxHeartbeats 4000000 in
set_option maxRecDepth 100000 in
theorem ctX6_carryOut (l : Launch) (G : Lay) (hi : Inj G) (Nf : Nat) (h : Int64) (σ : cS) (k0 : Nat) (hk0 : isEH G k0) : ∀ r, fX6_carryOut (ll G) Nf σ k0 = some r → CM l yX6_carryOut cX6_carryOut 3 (some .int) 6 137 G [.ref (la G k0)] h σ (some (.int r.1), h, r.2) := by
  refine cm_of (g := (fun r : (Int32 × cS) => ((some (.int r.1), h, r.2) : Option Value × Int64 × cS))) (by decide) hi (Nat.le_of_ble_eq_true rfl) (fun K hKl X => ?_)
  unfold fX6_carryOut
  exact z_sub [0] rfl (sX6_carryOut_0 X Nf k0 hk0 h σ)
def fX6_undo_0 (L : Nat → Nat) (Nf : Nat) (k0 : Nat) (σ : cS) : Option ((Int32 × cS) ⊕ (Nat × cS)) := if (σ 105 2) = 0 then (some (.inr (2, σ))) else (Option.bind (fX1_restore L Nf σ 105 0) (fun r1 => Option.bind (fX3_forget r1 97) (fun r2 => some (.inl ((r2 105 2), r2)))))
set_option maxHeartbeats 4000000 in
set_option maxRecDepth 100000 in
theorem sX6_undo_0 {K : MCx} {G : Lay} (X : Cx K G RX6 cX6_undo 1 (some .int) 6 90) (Nf : Nat) (k0 : Nat) (hk0 : isEH G k0) (h : Int64) (σ : cS) : Sm K G (PX K G) (QX K G (fun r : (Int32 × cS) => ((some (.int r.1), h, r.2) : Option Value × Int64 × cS)) (fun r : Nat × cS => ((exN r.1, h, r.2) : String × Int64 × cS))) 1 0 [(0, .ref (la G k0))] [] h σ (fX6_undo_0 (ll G) Nf k0 σ) := by
  unfold fX6_undo_0
  refine z_aload_n X dX6_undo_0 0 rfl ?_
  refine z_get X inlX6 rfl hk0.1 (ce6 hk0.1 _ _) 5 (by decide) q_2_6 rfl dX6_undo_1 ?_
  refine z_getN X inlX1 rfl hk0.2.2.2.2.2.2.1 (ce1 hk0.2.2.2.2.2.2.1 _ _) 2 (by decide) n_24 rfl dX6_undo_4 ?_
  refine z_if_ne X 21 dX6_undo_7 (by decide) ?_ ?_
  · exact z_throwW X (List.mem_of_getElem? (i := 10) rfl) th_2 q_5_5 q_5_6 dX6_undo_10 dX6_undo_13 dX6_undo_14 dX6_undo_17 dX6_undo_20 rfl (by decide) (Nat.le_of_ble_eq_true rfl)
  · refine z_aload_n X dX6_undo_21 0 rfl ?_
    refine z_get X inlX6 rfl hk0.1 (ce6 hk0.1 _ _) 5 (by decide) q_2_6 rfl dX6_undo_22 ?_
    refine z_aload_n X dX6_undo_25 0 rfl ?_
    refine z_get X inlX6 rfl hk0.1 (ce6 hk0.1 _ _) 0 (by decide) q_1_13 rfl dX6_undo_26 ?_
    refine z_callV0 X (g := (fun r1 : cS => ((none, h, r1) : Option Value × Int64 × cS))) (st := []) (st1 := (fun r1 : cS => [])) (rmf := 2) (rml := 43) [.ref (la G 0)] 105 cal_X1_restore q_5_7 ⟨Nat.le_of_ble_eq_true rfl, Nat.le_of_ble_eq_true rfl⟩ rfl rfl (Nat.le_of_ble_eq_true rfl) rfl hk0.2.2.2.2.2.2.1 (ce1 hk0.2.2.2.2.2.2.1 _ _) (ctX1_restore (kl K) G X.2.2.2.2.2.2.2.1 Nf h σ 105 hk0.2.2.2.2.2.2 0 hk0.2.1 ) dX6_undo_29 (fun _ => rfl) (fun r1 => ?_)
    refine z_aload_n X dX6_undo_32 0 rfl ?_
    refine z_get X inlX6 rfl hk0.1 (ce6 hk0.1 _ _) 3 (by decide) q_1_22 rfl dX6_undo_33 ?_
    refine z_callV0 X (g := (fun r2 : cS => ((none, h, r2) : Option Value × Int64 × cS))) (st := []) (st1 := (fun r2 : cS => [])) (rmf := 0) (rml := 0) [] 97 cal_X3_forget q_5_21 ⟨Nat.le_of_ble_eq_true rfl, Nat.le_of_ble_eq_true rfl⟩ rfl rfl (Nat.le_of_ble_eq_true rfl) rfl hk0.2.2.2.2.1.1 (ce3 hk0.2.2.2.2.1.1 _ _) (ctX3_forget (kl K) G X.2.2.2.2.2.2.2.1 h r1 97 hk0.2.2.2.2.1 ) dX6_undo_36 (fun _ => rfl) (fun r2 => ?_)
    refine z_aload_n X dX6_undo_39 0 rfl ?_
    refine z_get X inlX6 rfl hk0.1 (ce6 hk0.1 _ _) 5 (by decide) q_2_6 rfl dX6_undo_40 ?_
    refine z_getN X inlX1 rfl hk0.2.2.2.2.2.2.1 (ce1 hk0.2.2.2.2.2.2.1 _ _) 2 (by decide) n_24 rfl dX6_undo_43 ?_
    exact z_xiret X rfl dX6_undo_46
def fX6_undo (L : Nat → Nat) (Nf : Nat) (σ : cS) (k0 : Nat) : Option ((Int32 × cS) ⊕ (Nat × cS)) := fX6_undo_0 L Nf k0 σ
set_option maxHeartbeats 4000000 in
set_option maxRecDepth 100000 in
theorem ctX6_undo_n (l : Launch) (G : Lay) (hi : Inj G) (Nf : Nat) (h : Int64) (σ : cS) (k0 : Nat) (hk0 : isEH G k0) : ∀ r, fX6_undo (ll G) Nf σ k0 = some (.inl r) → CM l yX6_undo cX6_undo 1 (some .int) 6 90 G [.ref (la G k0)] h σ (some (.int r.1), h, r.2) := by
  refine cm_ofX (g := (fun r : (Int32 × cS) => ((some (.int r.1), h, r.2) : Option Value × Int64 × cS))) (gx := (fun r : Nat × cS => ((exN r.1, h, r.2) : String × Int64 × cS))) (by decide) hi (Nat.le_of_ble_eq_true rfl) (fun K hKl X => ?_)
  unfold fX6_undo
  exact z_sub [0] rfl (sX6_undo_0 X Nf k0 hk0 h σ)
set_option maxHeartbeats 4000000 in
set_option maxRecDepth 100000 in
theorem ctX6_undo_x (l : Launch) (G : Lay) (hi : Inj G) (Nf : Nat) (h : Int64) (σ : cS) (k0 : Nat) (hk0 : isEH G k0) (hfl : l.stackTraces = false) : ∀ r, fX6_undo (ll G) Nf σ k0 = some (.inr r) → CX l yX6_undo cX6_undo 1 (some .int) 6 90 G [.ref (la G k0)] h σ (exN r.1, h, r.2) := by
  refine cx_of (g := (fun r : (Int32 × cS) => ((some (.int r.1), h, r.2) : Option Value × Int64 × cS))) (gx := (fun r : Nat × cS => ((exN r.1, h, r.2) : String × Int64 × cS))) (by decide) hi hfl (Nat.le_of_ble_eq_true rfl) (fun K hKl X => ?_)
  unfold fX6_undo
  exact z_sub [0] rfl (sX6_undo_0 X Nf k0 hk0 h σ)
