theorem q_1_2 : Cond.initialized RX6 ∈ wsL_law := seg_1 _ (List.mem_of_getElem? (i := 2) rfl)
theorem q_1_13 : Cond.fieldLink RX6 10 "EdgeHolders" "graph" "LEdgeHolders$Graph;" ∈ wsL_law := seg_1 _ (List.mem_of_getElem? (i := 13) rfl)
theorem q_1_18 : Cond.fieldLink RX6 22 "EdgeHolders" "search" "LEdgeHolders$Search;" ∈ wsL_law := seg_1 _ (List.mem_of_getElem? (i := 18) rfl)
theorem q_1_22 : Cond.fieldLink RX6 29 "EdgeHolders" "parts" "LEdgeHolders$PartTable;" ∈ wsL_law := seg_1 _ (List.mem_of_getElem? (i := 22) rfl)
theorem q_2_5 : Cond.initialized RX1 ∈ wsL_law := seg_2 _ (List.mem_of_getElem? (i := 5) rfl)
theorem q_2_6 : Cond.fieldLink RX6 43 "EdgeHolders" "history" "LEdgeHolders$History;" ∈ wsL_law := seg_2 _ (List.mem_of_getElem? (i := 6) rfl)
theorem q_3_3 : Cond.instanceMethod yX0_restart ∈ wsL_law := seg_3 _ (List.mem_of_getElem? (i := 3) rfl)
theorem q_3_4 : Cond.selects RX0 yX0_restart yX0_restart ∈ wsL_law := seg_3 _ (List.mem_of_getElem? (i := 4) rfl)
theorem q_3_5 : Cond.code yX0_restart cX0_restart 2 none ∈ wsL_law := seg_3 _ (List.mem_of_getElem? (i := 5) rfl)
theorem q_5_5 : Cond.classLink RX6 80 "java/lang/IllegalStateException" ∈ wsL_law := seg_5 _ (List.mem_of_getElem? (i := 5) rfl)
theorem q_5_6 : Cond.initialized "java/lang/IllegalStateException" ∈ wsL_law := seg_5 _ (List.mem_of_getElem? (i := 6) rfl)
theorem q_5_21 : Cond.methodLink RX6 66 yX3_forget ∈ wsL_law := seg_5 _ (List.mem_of_getElem? (i := 21) rfl)
theorem q_5_22 : Cond.instanceMethod yX3_forget ∈ wsL_law := seg_5 _ (List.mem_of_getElem? (i := 22) rfl)
theorem q_5_23 : Cond.selects RX3 yX3_forget yX3_forget ∈ wsL_law := seg_5 _ (List.mem_of_getElem? (i := 23) rfl)
theorem q_6_0 : Cond.code yX3_forget cX3_forget 1 none ∈ wsL_law := seg_6 _ (List.mem_of_getElem? (i := 0) rfl)
theorem q_6_6 : Cond.classLink RX6 47 "java/lang/IllegalArgumentException" ∈ wsL_law := seg_6 _ (List.mem_of_getElem? (i := 6) rfl)
theorem q_6_7 : Cond.initialized "java/lang/IllegalArgumentException" ∈ wsL_law := seg_6 _ (List.mem_of_getElem? (i := 7) rfl)
theorem q_6_8 : Cond.methodLink RX6 172 yX0_greatestLoad ∈ wsL_law := seg_6 _ (List.mem_of_getElem? (i := 8) rfl)
theorem q_6_20 : Cond.methodLink RX6 176 yX0_leastLoad ∈ wsL_law := seg_6 _ (List.mem_of_getElem? (i := 20) rfl)
theorem q_6_21 : Cond.instanceMethod yX0_leastLoad ∈ wsL_law := seg_6 _ (List.mem_of_getElem? (i := 21) rfl)
theorem q_6_22 : Cond.selects RX0 yX0_leastLoad yX0_leastLoad ∈ wsL_law := seg_6 _ (List.mem_of_getElem? (i := 22) rfl)
theorem q_6_23 : Cond.code yX0_leastLoad cX0_leastLoad 3 (some .int) ∈ wsL_law := seg_6 _ (List.mem_of_getElem? (i := 23) rfl)
theorem q_7_3 : Cond.methodLink RX6 179 yX0_squaresOfLoads ∈ wsL_law := seg_7 _ (List.mem_of_getElem? (i := 3) rfl)
theorem q_7_4 : Cond.instanceMethod yX0_squaresOfLoads ∈ wsL_law := seg_7 _ (List.mem_of_getElem? (i := 4) rfl)
theorem q_7_5 : Cond.selects RX0 yX0_squaresOfLoads yX0_squaresOfLoads ∈ wsL_law := seg_7 _ (List.mem_of_getElem? (i := 5) rfl)
theorem q_7_6 : Cond.code yX0_squaresOfLoads cX0_squaresOfLoads 3 (some .int) ∈ wsL_law := seg_7 _ (List.mem_of_getElem? (i := 6) rfl)
theorem q_7_7 : Cond.methodLink RX6 188 yX0_overloadedNodes ∈ wsL_law := seg_7 _ (List.mem_of_getElem? (i := 7) rfl)
theorem q_7_8 : Cond.instanceMethod yX0_overloadedNodes ∈ wsL_law := seg_7 _ (List.mem_of_getElem? (i := 8) rfl)
theorem q_7_9 : Cond.selects RX0 yX0_overloadedNodes yX0_overloadedNodes ∈ wsL_law := seg_7 _ (List.mem_of_getElem? (i := 9) rfl)
theorem q_7_10 : Cond.code yX0_overloadedNodes cX0_overloadedNodes 3 (some .int) ∈ wsL_law := seg_7 _ (List.mem_of_getElem? (i := 10) rfl)
theorem q_9_17 : Cond.methodLink RX6 139 yJ6_bitCount_0f7a4 ∈ wsL_law := seg_9 _ (List.mem_of_getElem? (i := 17) rfl)
theorem q_10_14 : Cond.methodLink RX6 122 yX4_get ∈ wsL_law := seg_10 _ (List.mem_of_getElem? (i := 14) rfl)
theorem q_12_14 : Cond.methodLink RX6 58 yX1_save ∈ wsL_law := seg_12 _ (List.mem_of_getElem? (i := 14) rfl)
theorem q_12_15 : Cond.instanceMethod yX1_save ∈ wsL_law := seg_12 _ (List.mem_of_getElem? (i := 15) rfl)
theorem q_12_16 : Cond.selects RX1 yX1_save yX1_save ∈ wsL_law := seg_12 _ (List.mem_of_getElem? (i := 16) rfl)
theorem q_12_17 : Cond.code yX1_save cX1_save 2 none ∈ wsL_law := seg_12 _ (List.mem_of_getElem? (i := 17) rfl)
theorem q_13_5 : Cond.methodLink RX6 290 yX0_hasNode ∈ wsL_law := seg_13 _ (List.mem_of_getElem? (i := 5) rfl)
theorem q_13_6 : Cond.instanceMethod yX0_hasNode ∈ wsL_law := seg_13 _ (List.mem_of_getElem? (i := 6) rfl)
theorem q_13_7 : Cond.selects RX0 yX0_hasNode yX0_hasNode ∈ wsL_law := seg_13 _ (List.mem_of_getElem? (i := 7) rfl)
theorem q_13_8 : Cond.code yX0_hasNode cX0_hasNode 2 (some .boolean) ∈ wsL_law := seg_13 _ (List.mem_of_getElem? (i := 8) rfl)
theorem q_13_9 : Cond.methodLink RX6 76 yX0_isFull ∈ wsL_law := seg_13 _ (List.mem_of_getElem? (i := 9) rfl)
theorem q_13_10 : Cond.instanceMethod yX0_isFull ∈ wsL_law := seg_13 _ (List.mem_of_getElem? (i := 10) rfl)
theorem q_13_11 : Cond.selects RX0 yX0_isFull yX0_isFull ∈ wsL_law := seg_13 _ (List.mem_of_getElem? (i := 11) rfl)
theorem q_13_12 : Cond.code yX0_isFull cX0_isFull 1 (some .boolean) ∈ wsL_law := seg_13 _ (List.mem_of_getElem? (i := 12) rfl)
theorem q_13_13 : Cond.methodLink RX6 85 yX0_join ∈ wsL_law := seg_13 _ (List.mem_of_getElem? (i := 13) rfl)
theorem q_13_14 : Cond.instanceMethod yX0_join ∈ wsL_law := seg_13 _ (List.mem_of_getElem? (i := 14) rfl)
theorem q_13_15 : Cond.selects RX0 yX0_join yX0_join ∈ wsL_law := seg_13 _ (List.mem_of_getElem? (i := 15) rfl)
theorem q_13_16 : Cond.code yX0_join cX0_join 6 (some .int) ∈ wsL_law := seg_13 _ (List.mem_of_getElem? (i := 16) rfl)
theorem q_13_21 : Cond.methodLink RX6 298 yX0_slotOf ∈ wsL_law := seg_13 _ (List.mem_of_getElem? (i := 21) rfl)
theorem q_13_22 : Cond.instanceMethod yX0_slotOf ∈ wsL_law := seg_13 _ (List.mem_of_getElem? (i := 22) rfl)
theorem q_13_23 : Cond.selects RX0 yX0_slotOf yX0_slotOf ∈ wsL_law := seg_13 _ (List.mem_of_getElem? (i := 23) rfl)
theorem q_14_0 : Cond.code yX0_slotOf cX0_slotOf 3 (some .int) ∈ wsL_law := seg_14 _ (List.mem_of_getElem? (i := 0) rfl)
theorem q_14_5 : Cond.methodLink RX6 93 yX0_cut ∈ wsL_law := seg_14 _ (List.mem_of_getElem? (i := 5) rfl)
theorem q_14_6 : Cond.instanceMethod yX0_cut ∈ wsL_law := seg_14 _ (List.mem_of_getElem? (i := 6) rfl)
theorem q_14_7 : Cond.selects RX0 yX0_cut yX0_cut ∈ wsL_law := seg_14 _ (List.mem_of_getElem? (i := 7) rfl)
theorem q_14_8 : Cond.code yX0_cut cX0_cut 3 (some .int) ∈ wsL_law := seg_14 _ (List.mem_of_getElem? (i := 8) rfl)
theorem q_14_13 : Cond.methodLink RX6 96 yX0_flip ∈ wsL_law := seg_14 _ (List.mem_of_getElem? (i := 13) rfl)
theorem q_16_7 : Cond.methodLink RX6 113 yX5_evenOut ∈ wsL_law := seg_16 _ (List.mem_of_getElem? (i := 7) rfl)
theorem q_16_8 : Cond.instanceMethod yX5_evenOut ∈ wsL_law := seg_16 _ (List.mem_of_getElem? (i := 8) rfl)
theorem q_16_9 : Cond.selects RX5 yX5_evenOut yX5_evenOut ∈ wsL_law := seg_16 _ (List.mem_of_getElem? (i := 9) rfl)
theorem q_16_10 : Cond.code yX5_evenOut cX5_evenOut 5 (some .int) ∈ wsL_law := seg_16 _ (List.mem_of_getElem? (i := 10) rfl)
theorem q_16_18 : Cond.methodLink RX6 127 yX4_set ∈ wsL_law := seg_16 _ (List.mem_of_getElem? (i := 18) rfl)
theorem q_17_7 : Cond.methodLink RX6 69 yX6_checkNode ∈ wsL_law := seg_17 _ (List.mem_of_getElem? (i := 7) rfl)
theorem q_17_8 : Cond.instanceMethod yX6_checkNode ∈ wsL_law := seg_17 _ (List.mem_of_getElem? (i := 8) rfl)
theorem q_17_9 : Cond.selects RX6 yX6_checkNode yX6_checkNode ∈ wsL_law := seg_17 _ (List.mem_of_getElem? (i := 9) rfl)
theorem q_17_10 : Cond.code yX6_checkNode cX6_checkNode 2 none ∈ wsL_law := seg_17 _ (List.mem_of_getElem? (i := 10) rfl)
theorem q_17_11 : Cond.classLink RX6 161 "java/lang/IndexOutOfBoundsException" ∈ wsL_law := seg_17 _ (List.mem_of_getElem? (i := 11) rfl)
theorem q_17_12 : Cond.initialized "java/lang/IndexOutOfBoundsException" ∈ wsL_law := seg_17 _ (List.mem_of_getElem? (i := 12) rfl)
theorem q_17_13 : Cond.methodLink RX6 133 yX0_edgesOf ∈ wsL_law := seg_17 _ (List.mem_of_getElem? (i := 13) rfl)
theorem q_17_14 : Cond.instanceMethod yX0_edgesOf ∈ wsL_law := seg_17 _ (List.mem_of_getElem? (i := 14) rfl)
theorem q_17_15 : Cond.selects RX0 yX0_edgesOf yX0_edgesOf ∈ wsL_law := seg_17 _ (List.mem_of_getElem? (i := 15) rfl)
theorem q_17_16 : Cond.code yX0_edgesOf cX0_edgesOf 4 (some .int) ∈ wsL_law := seg_17 _ (List.mem_of_getElem? (i := 16) rfl)
theorem q_17_17 : Cond.methodLink RX6 136 yX0_neighboursOf ∈ wsL_law := seg_17 _ (List.mem_of_getElem? (i := 17) rfl)
theorem q_17_18 : Cond.instanceMethod yX0_neighboursOf ∈ wsL_law := seg_17 _ (List.mem_of_getElem? (i := 18) rfl)
theorem q_17_19 : Cond.selects RX0 yX0_neighboursOf yX0_neighboursOf ∈ wsL_law := seg_17 _ (List.mem_of_getElem? (i := 19) rfl)
theorem q_17_20 : Cond.code yX0_neighboursOf cX0_neighboursOf 4 (some .int) ∈ wsL_law := seg_17 _ (List.mem_of_getElem? (i := 20) rfl)
theorem q_17_21 : Cond.methodLink RX6 99 yX5_visitFrom ∈ wsL_law := seg_17 _ (List.mem_of_getElem? (i := 21) rfl)
theorem q_18_6 : Cond.methodLink RX6 89 yX6_checkedSlot ∈ wsL_law := seg_18 _ (List.mem_of_getElem? (i := 6) rfl)
theorem q_18_7 : Cond.instanceMethod yX6_checkedSlot ∈ wsL_law := seg_18 _ (List.mem_of_getElem? (i := 7) rfl)
theorem q_18_8 : Cond.selects RX6 yX6_checkedSlot yX6_checkedSlot ∈ wsL_law := seg_18 _ (List.mem_of_getElem? (i := 8) rfl)
theorem q_18_9 : Cond.code yX6_checkedSlot cX6_checkedSlot 3 (some .int) ∈ wsL_law := seg_18 _ (List.mem_of_getElem? (i := 9) rfl)
theorem q_18_10 : Cond.classLink RX6 301 "java/util/NoSuchElementException" ∈ wsL_law := seg_18 _ (List.mem_of_getElem? (i := 10) rfl)
theorem q_18_11 : Cond.initialized "java/util/NoSuchElementException" ∈ wsL_law := seg_18 _ (List.mem_of_getElem? (i := 11) rfl)
theorem q_18_20 : Cond.methodLink RX6 62 yX0_restart ∈ wsL_law := seg_18 _ (List.mem_of_getElem? (i := 20) rfl)
theorem q_19_5 : Cond.methodLink RX6 72 yX6_checkDifferent ∈ wsL_law := seg_19 _ (List.mem_of_getElem? (i := 5) rfl)
theorem q_19_6 : Cond.static yX6_checkDifferent ∈ wsL_law := seg_19 _ (List.mem_of_getElem? (i := 6) rfl)
theorem q_19_7 : Cond.code yX6_checkDifferent cX6_checkDifferent 2 none ∈ wsL_law := seg_19 _ (List.mem_of_getElem? (i := 7) rfl)
theorem q_20_6 : Cond.methodLink RX6 103 yX5_firstLighter ∈ wsL_law := seg_20 _ (List.mem_of_getElem? (i := 6) rfl)
theorem q_20_7 : Cond.methodLink RX6 109 yX5_flipPathTo ∈ wsL_law := seg_20 _ (List.mem_of_getElem? (i := 7) rfl)
theorem cal_X0_restart : Cal yX0_restart RX0 cX0_restart 2 none 1 := ⟨q_3_5, q_3_3, q_3_4, q_1_12, by decide +kernel⟩
theorem cal_X1_save : Cal yX1_save RX1 cX1_save 2 none 1 := ⟨q_12_17, q_12_15, q_12_16, q_2_5, by decide +kernel⟩
theorem cal_X3_forget : Cal yX3_forget RX3 cX3_forget 1 none 0 := ⟨q_6_0, q_5_22, q_5_23, q_1_21, by decide +kernel⟩
theorem cal_X0_hasNode : Cal yX0_hasNode RX0 cX0_hasNode 2 (some .boolean) 1 := ⟨q_13_8, q_13_6, q_13_7, q_1_12, by decide +kernel⟩
theorem cal_X0_isFull : Cal yX0_isFull RX0 cX0_isFull 1 (some .boolean) 0 := ⟨q_13_12, q_13_10, q_13_11, q_1_12, by decide +kernel⟩
theorem cal_X0_join : Cal yX0_join RX0 cX0_join 6 (some .int) 2 := ⟨q_13_16, q_13_14, q_13_15, q_1_12, by decide +kernel⟩
theorem cal_X6_checkDifferent : CalS yX6_checkDifferent cX6_checkDifferent 2 none 2 := ⟨q_19_7, q_19_6, q_1_2, by decide +kernel⟩
theorem cal_X6_checkNode : Cal yX6_checkNode RX6 cX6_checkNode 2 none 1 := ⟨q_17_10, q_17_8, q_17_9, q_1_2, by decide +kernel⟩
theorem cal_X0_slotOf : Cal yX0_slotOf RX0 cX0_slotOf 3 (some .int) 1 := ⟨q_14_0, q_13_22, q_13_23, q_1_12, by decide +kernel⟩
theorem cal_X0_cut : Cal yX0_cut RX0 cX0_cut 3 (some .int) 1 := ⟨q_14_8, q_14_6, q_14_7, q_1_12, by decide +kernel⟩
theorem cal_X6_checkedSlot : Cal yX6_checkedSlot RX6 cX6_checkedSlot 3 (some .int) 1 := ⟨q_18_9, q_18_7, q_18_8, q_1_2, by decide +kernel⟩
theorem cal_X5_evenOut : Cal yX5_evenOut RX5 cX5_evenOut 5 (some .int) 1 := ⟨q_16_10, q_16_8, q_16_9, q_1_17, by decide +kernel⟩
theorem cal_X0_edgesOf : Cal yX0_edgesOf RX0 cX0_edgesOf 4 (some .int) 1 := ⟨q_17_16, q_17_14, q_17_15, q_1_12, by decide +kernel⟩
theorem cal_X0_neighboursOf : Cal yX0_neighboursOf RX0 cX0_neighboursOf 4 (some .int) 1 := ⟨q_17_20, q_17_18, q_17_19, q_1_12, by decide +kernel⟩
theorem cal_X0_leastLoad : Cal yX0_leastLoad RX0 cX0_leastLoad 3 (some .int) 0 := ⟨q_6_23, q_6_21, q_6_22, q_1_12, by decide +kernel⟩
theorem cal_X0_overloadedNodes : Cal yX0_overloadedNodes RX0 cX0_overloadedNodes 3 (some .int) 0 := ⟨q_7_10, q_7_8, q_7_9, q_1_12, by decide +kernel⟩
theorem cal_X0_squaresOfLoads : Cal yX0_squaresOfLoads RX0 cX0_squaresOfLoads 3 (some .int) 0 := ⟨q_7_6, q_7_4, q_7_5, q_1_12, by decide +kernel⟩
def fX6_begin_11 (L : Nat → Nat) (Nf : Nat) (k0 : Nat) (σ : cS) : Option ((Int32 × cS) ⊕ (Nat × cS)) := some (.inr (1, σ))
set_option maxHeartbeats 4000000 in
set_option maxRecDepth 100000 in
theorem sX6_begin_11 {K : MCx} {G : Lay} (X : Cx K G RX6 cX6_begin 3 (some .int) 6 90) (Nf : Nat) (k0 : Nat) (hk0 : isEH G k0) (h : Int64) (σ : cS) : Sm K G (PX K G) (QX K G (fun r : (Int32 × cS) => ((some (.int r.1), h, r.2) : Option Value × Int64 × cS)) (fun r : Nat × cS => ((exN r.1, h, r.2) : String × Int64 × cS))) 3 11 [] [] h σ (fX6_begin_11 (ll G) Nf k0 σ) := by
  unfold fX6_begin_11
  exact z_throw X (List.mem_of_getElem? (i := 0) rfl) th_1 q_6_6 q_6_7 dX6_begin_11 dX6_begin_14 dX6_begin_15 dX6_begin_17 dX6_begin_20 rfl (by decide) (Nat.le_of_ble_eq_true rfl)
def fX6_begin_0 (L : Nat → Nat) (Nf : Nat) (k0 : Nat) (x1 : Int32) (σ : cS) : Option ((Int32 × cS) ⊕ (Nat × cS)) := if x1 < (2 : Int32) then (fX6_begin_11 L Nf k0 σ) else (if x1 ≤ (12 : Int32) then (bnd ((σ 0 8)) (fun t1 => Option.bind (fX1_save L Nf σ 105 0) (fun r2 => Option.bind (fX0_restart L Nf r2 0 x1) (fun r3 => Option.bind (fX3_forget r3 97) (fun r4 => some (.inl (t1, r4))))))) else (fX6_begin_11 L Nf k0 σ))
set_option maxHeartbeats 4000000 in
set_option maxRecDepth 100000 in
theorem sX6_begin_0 {K : MCx} {G : Lay} (X : Cx K G RX6 cX6_begin 3 (some .int) 6 90) (Nf : Nat) (k0 : Nat) (hk0 : isEH G k0) (h : Int64) (x1 : Int32) (σ : cS) : Sm K G (PX K G) (QX K G (fun r : (Int32 × cS) => ((some (.int r.1), h, r.2) : Option Value × Int64 × cS)) (fun r : Nat × cS => ((exN r.1, h, r.2) : String × Int64 × cS))) 3 0 [(0, .ref (la G k0)), (1, .int x1)] [] h σ (fX6_begin_0 (ll G) Nf k0 x1 σ) := by
  unfold fX6_begin_0
  refine z_iload_n X dX6_begin_0 1 rfl ?_
  refine z_iconst (v := (2 : Int32)) X dX6_begin_1 (by decide) ?_
  refine z_icmp_lt X 11 dX6_begin_2 (by decide) ?_ ?_
  · exact z_sub [] rfl (sX6_begin_11 X Nf k0 hk0 h σ)
  · refine z_iload_n X dX6_begin_5 1 rfl ?_
    refine z_bipush (v := (12 : Int32)) X dX6_begin_6 (by decide) ?_
    refine z_icmp_le X 21 dX6_begin_8 (by decide) ?_ ?_
    · refine z_aload_n X dX6_begin_21 0 rfl ?_
      refine z_get X inlX6 rfl hk0.1 (ce6 hk0.1 _ _) 0 (by decide) q_1_13 rfl dX6_begin_22 ?_
      refine z_getN X inlX0 rfl hk0.2.1.1 (ce0 hk0.2.1.1 _ _) 8 (by decide) n_12 rfl dX6_begin_25 ?_
      refine z_nm (fun t1 => ?_)
      refine z_istore_n X [(2, .int t1), (0, .ref (la G k0)), (1, .int x1)] dX6_begin_28 (by decide) rfl ?_
      refine z_aload_n X dX6_begin_29 1 rfl ?_
      refine z_get X inlX6 rfl hk0.1 (ce6 hk0.1 _ _) 5 (by decide) q_2_6 rfl dX6_begin_30 ?_
      refine z_aload_n X dX6_begin_33 1 rfl ?_
      refine z_get X inlX6 rfl hk0.1 (ce6 hk0.1 _ _) 0 (by decide) q_1_13 rfl dX6_begin_34 ?_
      refine z_callV0 X (g := (fun r2 : cS => ((none, h, r2) : Option Value × Int64 × cS))) (st := []) (st1 := (fun r2 : cS => [])) (rmf := 2) (rml := 43) [.ref (la G 0)] 105 cal_X1_save q_12_14 ⟨Nat.le_of_ble_eq_true rfl, Nat.le_of_ble_eq_true rfl⟩ rfl rfl (Nat.le_of_ble_eq_true rfl) rfl hk0.2.2.2.2.2.2.1 (ce1 hk0.2.2.2.2.2.2.1 _ _) (ctX1_save (kl K) G X.2.2.2.2.2.2.2.1 Nf h σ 105 hk0.2.2.2.2.2.2 0 hk0.2.1 ) dX6_begin_37 (fun _ => rfl) (fun r2 => ?_)
      refine z_aload_n X dX6_begin_40 1 rfl ?_
      refine z_get X inlX6 rfl hk0.1 (ce6 hk0.1 _ _) 0 (by decide) q_1_13 rfl dX6_begin_41 ?_
      refine z_iload_n X dX6_begin_44 2 rfl ?_
      refine z_callV0 X (g := (fun r3 : cS => ((none, h, r3) : Option Value × Int64 × cS))) (st := []) (st1 := (fun r3 : cS => [])) (rmf := 1) (rml := 22) [.int x1] 0 cal_X0_restart q_18_20 ⟨Nat.le_of_ble_eq_true rfl, Nat.le_of_ble_eq_true rfl⟩ rfl rfl (Nat.le_of_ble_eq_true rfl) rfl hk0.2.1.1 (ce0 hk0.2.1.1 _ _) (ctX0_restart (kl K) G X.2.2.2.2.2.2.2.1 Nf h r2 0 hk0.2.1 x1) dX6_begin_45 (fun _ => rfl) (fun r3 => ?_)
      refine z_aload_n X dX6_begin_48 1 rfl ?_
      refine z_get X inlX6 rfl hk0.1 (ce6 hk0.1 _ _) 3 (by decide) q_1_22 rfl dX6_begin_49 ?_
      refine z_callV0 X (g := (fun r4 : cS => ((none, h, r4) : Option Value × Int64 × cS))) (st := []) (st1 := (fun r4 : cS => [])) (rmf := 0) (rml := 0) [] 97 cal_X3_forget q_5_21 ⟨Nat.le_of_ble_eq_true rfl, Nat.le_of_ble_eq_true rfl⟩ rfl rfl (Nat.le_of_ble_eq_true rfl) rfl hk0.2.2.2.2.1.1 (ce3 hk0.2.2.2.2.1.1 _ _) (ctX3_forget (kl K) G X.2.2.2.2.2.2.2.1 h r3 97 hk0.2.2.2.2.1 ) dX6_begin_52 (fun _ => rfl) (fun r4 => ?_)
      refine z_iload_n X dX6_begin_55 0 rfl ?_
      exact z_xiret X rfl dX6_begin_56
    · exact z_sub [] rfl (sX6_begin_11 X Nf k0 hk0 h σ)
def fX6_begin (L : Nat → Nat) (Nf : Nat) (σ : cS) (k0 : Nat) (x1 : Int32) : Option ((Int32 × cS) ⊕ (Nat × cS)) := fX6_begin_0 L Nf k0 x1 σ
set_option maxHeartbeats 4000000 in
set_option maxRecDepth 100000 in
theorem ctX6_begin_n (l : Launch) (G : Lay) (hi : Inj G) (Nf : Nat) (h : Int64) (σ : cS) (k0 : Nat) (hk0 : isEH G k0) (x1 : Int32) : ∀ r, fX6_begin (ll G) Nf σ k0 x1 = some (.inl r) → CM l yX6_begin cX6_begin 3 (some .int) 6 90 G [.ref (la G k0), .int x1] h σ (some (.int r.1), h, r.2) := by
  refine cm_ofX (g := (fun r : (Int32 × cS) => ((some (.int r.1), h, r.2) : Option Value × Int64 × cS))) (gx := (fun r : Nat × cS => ((exN r.1, h, r.2) : String × Int64 × cS))) (by decide) hi (Nat.le_of_ble_eq_true rfl) (fun K hKl X => ?_)
  unfold fX6_begin
  exact z_sub [0, 1] rfl (sX6_begin_0 X Nf k0 hk0 h x1 σ)
set_option maxHeartbeats 4000000 in
set_option maxRecDepth 100000 in
theorem ctX6_begin_x (l : Launch) (G : Lay) (hi : Inj G) (Nf : Nat) (h : Int64) (σ : cS) (k0 : Nat) (hk0 : isEH G k0) (x1 : Int32) (hfl : l.stackTraces = false) : ∀ r, fX6_begin (ll G) Nf σ k0 x1 = some (.inr r) → CX l yX6_begin cX6_begin 3 (some .int) 6 90 G [.ref (la G k0), .int x1] h σ (exN r.1, h, r.2) := by
  refine cx_of (g := (fun r : (Int32 × cS) => ((some (.int r.1), h, r.2) : Option Value × Int64 × cS))) (gx := (fun r : Nat × cS => ((exN r.1, h, r.2) : String × Int64 × cS))) (by decide) hi hfl (Nat.le_of_ble_eq_true rfl) (fun K hKl X => ?_)
  unfold fX6_begin
  exact z_sub [0, 1] rfl (sX6_begin_0 X Nf k0 hk0 h x1 σ)
def fX6_checkNode_0 (σ : cS) (k0 : Nat) (x1 : Int32)  : Option (Unit ⊕ Nat) := Option.bind (fX0_hasNode σ 0 x1) (fun r1 => if r1 = 0 then (some (.inr 3)) else (some (.inl ())))
set_option maxHeartbeats 4000000 in
set_option maxRecDepth 100000 in
theorem sX6_checkNode_0 {K : MCx} {G : Lay} (X : Cx K G RX6 cX6_checkNode 2 none 6 90) (k0 : Nat) (hk0 : isEH G k0) (h : Int64) (σ : cS) (x1 : Int32) : Sm K G (PX K G) (QX K G (fun r : Unit => ((none, h, σ) : Option Value × Int64 × cS)) (fun r : Nat => ((exN r, h, σ) : String × Int64 × cS))) 2 0 [(0, .ref (la G k0)), (1, .int x1)] [] h σ (fX6_checkNode_0 σ k0 x1) := by
  unfold fX6_checkNode_0
  refine z_aload_n X dX6_checkNode_0 0 rfl ?_
  refine z_get X inlX6 rfl hk0.1 (ce6 hk0.1 _ _) 0 (by decide) q_1_13 rfl dX6_checkNode_1 ?_
  refine z_iload_n X dX6_checkNode_4 1 rfl ?_
  refine z_callV0 X (g := (fun r1 : Int32 => ((some (.int r1), h, σ) : Option Value × Int64 × cS))) (st := []) (st1 := (fun r1 : Int32 => [.int r1])) (rmf := 0) (rml := 0) [.int x1] 0 cal_X0_hasNode q_13_5 ⟨Nat.le_of_ble_eq_true rfl, Nat.le_of_ble_eq_true rfl⟩ rfl rfl (Nat.le_of_ble_eq_true rfl) rfl hk0.2.1.1 (ce0 hk0.2.1.1 _ _) (ctX0_hasNode (kl K) G X.2.2.2.2.2.2.2.1 h σ 0 hk0.2.1 x1) dX6_checkNode_5 (fun _ => rfl) (fun r1 => ?_)
  refine z_if_ne X 22 dX6_checkNode_8 (by decide) ?_ ?_
  · exact z_throwW X (List.mem_of_getElem? (i := 11) rfl) th_3 q_17_11 q_17_12 dX6_checkNode_11 dX6_checkNode_14 dX6_checkNode_15 dX6_checkNode_18 dX6_checkNode_21 rfl (by decide) (Nat.le_of_ble_eq_true rfl)
  · exact z_xvret X rfl dX6_checkNode_22
def fX6_checkNode (σ : cS) (k0 : Nat) (x1 : Int32) : Option (Unit ⊕ Nat) := fX6_checkNode_0 σ k0 x1
set_option maxHeartbeats 4000000 in
set_option maxRecDepth 100000 in
theorem ctX6_checkNode_n (l : Launch) (G : Lay) (hi : Inj G) (h : Int64) (σ : cS) (k0 : Nat) (hk0 : isEH G k0) (x1 : Int32) : ∀ r, fX6_checkNode σ k0 x1 = some (.inl r) → CM l yX6_checkNode cX6_checkNode 2 none 6 90 G [.ref (la G k0), .int x1] h σ (none, h, σ) := by
  refine cm_ofX (g := (fun r : Unit => ((none, h, σ) : Option Value × Int64 × cS))) (gx := (fun r : Nat => ((exN r, h, σ) : String × Int64 × cS))) (by decide) hi (Nat.le_of_ble_eq_true rfl) (fun K hKl X => ?_)
  unfold fX6_checkNode
  exact z_sub [0, 1] rfl (sX6_checkNode_0 X k0 hk0 h σ x1)
set_option maxHeartbeats 4000000 in
set_option maxRecDepth 100000 in
theorem ctX6_checkNode_x (l : Launch) (G : Lay) (hi : Inj G) (h : Int64) (σ : cS) (k0 : Nat) (hk0 : isEH G k0) (x1 : Int32) (hfl : l.stackTraces = false) : ∀ r, fX6_checkNode σ k0 x1 = some (.inr r) → CX l yX6_checkNode cX6_checkNode 2 none 6 90 G [.ref (la G k0), .int x1] h σ (exN r, h, σ) := by
  refine cx_of (g := (fun r : Unit => ((none, h, σ) : Option Value × Int64 × cS))) (gx := (fun r : Nat => ((exN r, h, σ) : String × Int64 × cS))) (by decide) hi hfl (Nat.le_of_ble_eq_true rfl) (fun K hKl X => ?_)
  unfold fX6_checkNode
  exact z_sub [0, 1] rfl (sX6_checkNode_0 X k0 hk0 h σ x1)
def fX6_checkDifferent_0 (σ : cS) (x0 : Int32) (x1 : Int32)  : Option (Unit ⊕ Nat) := if x0 = x1 then (some (.inr 1)) else (some (.inl ()))
set_option maxHeartbeats 4000000 in
set_option maxRecDepth 100000 in
theorem sX6_checkDifferent_0 {K : MCx} {G : Lay} (X : Cx K G RX6 cX6_checkDifferent 2 none 6 90)  (h : Int64) (σ : cS) (x0 : Int32) (x1 : Int32) : Sm K G (PX K G) (QX K G (fun r : Unit => ((none, h, σ) : Option Value × Int64 × cS)) (fun r : Nat => ((exN r, h, σ) : String × Int64 × cS))) 2 0 [(0, .int x0), (1, .int x1)] [] h σ (fX6_checkDifferent_0 σ x0 x1) := by
  unfold fX6_checkDifferent_0
  refine z_iload_n X dX6_checkDifferent_0 0 rfl ?_
  refine z_iload_n X dX6_checkDifferent_1 1 rfl ?_
  refine z_icmp_ne X 16 dX6_checkDifferent_2 (by decide) ?_ ?_
  · exact z_throwW X (List.mem_of_getElem? (i := 12) rfl) th_1 q_6_6 q_6_7 dX6_checkDifferent_5 dX6_checkDifferent_8 dX6_checkDifferent_9 dX6_checkDifferent_12 dX6_checkDifferent_15 rfl (by decide) (Nat.le_of_ble_eq_true rfl)
  · exact z_xvret X rfl dX6_checkDifferent_16
def fX6_checkDifferent (σ : cS) (x0 : Int32) (x1 : Int32) : Option (Unit ⊕ Nat) := fX6_checkDifferent_0 σ x0 x1
set_option maxHeartbeats 4000000 in
set_option maxRecDepth 100000 in
theorem ctX6_checkDifferent_n (l : Launch) (G : Lay) (hi : Inj G) (h : Int64) (σ : cS)  (x0 : Int32) (x1 : Int32) : ∀ r, fX6_checkDifferent σ x0 x1 = some (.inl r) → CM l yX6_checkDifferent cX6_checkDifferent 2 none 6 90 G [.int x0, .int x1] h σ (none, h, σ) := by
  refine cm_ofX (g := (fun r : Unit => ((none, h, σ) : Option Value × Int64 × cS))) (gx := (fun r : Nat => ((exN r, h, σ) : String × Int64 × cS))) (by decide) hi (Nat.le_of_ble_eq_true rfl) (fun K hKl X => ?_)
  unfold fX6_checkDifferent
  exact z_sub [0, 1] rfl (sX6_checkDifferent_0 X  h σ x0 x1)
set_option maxHeartbeats 4000000 in
set_option maxRecDepth 100000 in
theorem ctX6_checkDifferent_x (l : Launch) (G : Lay) (hi : Inj G) (h : Int64) (σ : cS)  (x0 : Int32) (x1 : Int32) (hfl : l.stackTraces = false) : ∀ r, fX6_checkDifferent σ x0 x1 = some (.inr r) → CX l yX6_checkDifferent cX6_checkDifferent 2 none 6 90 G [.int x0, .int x1] h σ (exN r, h, σ) := by
  refine cx_of (g := (fun r : Unit => ((none, h, σ) : Option Value × Int64 × cS))) (gx := (fun r : Nat => ((exN r, h, σ) : String × Int64 × cS))) (by decide) hi hfl (Nat.le_of_ble_eq_true rfl) (fun K hKl X => ?_)
  unfold fX6_checkDifferent
  exact z_sub [0, 1] rfl (sX6_checkDifferent_0 X  h σ x0 x1)
def fX6_add_0 (L : Nat → Nat) (Nf : Nat) (k0 : Nat) (x1 : Int32) (x2 : Int32) (σ : cS) : Option ((Int32 × cS) ⊕ (Nat × cS)) := xbn (fX6_checkNode σ k0 x1) (fun r : Nat => (r, σ)) (fun r1 => xbn (fX6_checkNode σ k0 x2) (fun r : Nat => (r, σ)) (fun r2 => xbn (fX6_checkDifferent σ x1 x2) (fun r : Nat => (r, σ)) (fun r3 => Option.bind (fX0_isFull σ 0) (fun r4 => if r4 = 0 then (Option.bind (fX1_save L Nf σ 105 0) (fun r5 => Option.bind (fX3_forget r5 97) (fun r6 => Option.bind (fX0_join L r6 0 x1 x2) (fun r7 => some (.inl (r7.1, r7.2)))))) else (some (.inr (2, σ)))))))
set_option maxHeartbeats 4000000 in
set_option maxRecDepth 100000 in
theorem sX6_add_0 {K : MCx} {G : Lay} (X : Cx K G RX6 cX6_add 3 (some .int) 7 111) (Nf : Nat) (k0 : Nat) (hk0 : isEH G k0) (h : Int64) (x1 : Int32) (x2 : Int32) (σ : cS) : Sm K G (PX K G) (QX K G (fun r : (Int32 × cS) => ((some (.int r.1), h, r.2) : Option Value × Int64 × cS)) (fun r : Nat × cS => ((exN r.1, h, r.2) : String × Int64 × cS))) 3 0 [(0, .ref (la G k0)), (1, .int x1), (2, .int x2)] [] h σ (fX6_add_0 (ll G) Nf k0 x1 x2 σ) := by
  unfold fX6_add_0
  refine z_aload_n X dX6_add_0 0 rfl ?_
  refine z_iload_n X dX6_add_1 1 rfl ?_
  refine z_callVX X (g := (fun r1 : Unit => ((none, h, σ) : Option Value × Int64 × cS))) (st := []) (st1 := (fun r1 : Unit => [])) (rmf := 6) (rml := 90) (gx := (fun r : Nat => ((exN r, h, σ) : String × Int64 × cS))) [.int x1] k0 cal_X6_checkNode q_17_7 ⟨Nat.le_of_ble_eq_true rfl, Nat.le_of_ble_eq_true rfl⟩ rfl rfl (Nat.le_of_ble_eq_true rfl) rfl hk0.1 (ce6 hk0.1 _ _) (ctX6_checkNode_n (kl K) G X.2.2.2.2.2.2.2.1 h σ k0 hk0 x1) (ctX6_checkNode_x (kl K) G X.2.2.2.2.2.2.2.1 h σ k0 hk0 x1) dX6_add_2 (fun _ => rfl) (fun _ => rfl) (fun r1 => ?_)
  refine z_aload_n X dX6_add_5 0 rfl ?_
  refine z_iload_n X dX6_add_6 2 rfl ?_
  refine z_callVX X (g := (fun r2 : Unit => ((none, h, σ) : Option Value × Int64 × cS))) (st := []) (st1 := (fun r2 : Unit => [])) (rmf := 6) (rml := 90) (gx := (fun r : Nat => ((exN r, h, σ) : String × Int64 × cS))) [.int x2] k0 cal_X6_checkNode q_17_7 ⟨Nat.le_of_ble_eq_true rfl, Nat.le_of_ble_eq_true rfl⟩ rfl rfl (Nat.le_of_ble_eq_true rfl) rfl hk0.1 (ce6 hk0.1 _ _) (ctX6_checkNode_n (kl K) G X.2.2.2.2.2.2.2.1 h σ k0 hk0 x2) (ctX6_checkNode_x (kl K) G X.2.2.2.2.2.2.2.1 h σ k0 hk0 x2) dX6_add_7 (fun _ => rfl) (fun _ => rfl) (fun r2 => ?_)
  refine z_iload_n X dX6_add_10 1 rfl ?_
  refine z_iload_n X dX6_add_11 2 rfl ?_
  refine z_callSX X (g := (fun r3 : Unit => ((none, h, σ) : Option Value × Int64 × cS))) (st := []) (st1 := (fun r3 : Unit => [])) (rmf := 6) (rml := 90) (gx := (fun r : Nat => ((exN r, h, σ) : String × Int64 × cS))) [.int x1, .int x2] cal_X6_checkDifferent q_19_5 ⟨Nat.le_of_ble_eq_true rfl, Nat.le_of_ble_eq_true rfl⟩ rfl rfl (Nat.le_of_ble_eq_true rfl) (ctX6_checkDifferent_n (kl K) G X.2.2.2.2.2.2.2.1 h σ x1 x2) (ctX6_checkDifferent_x (kl K) G X.2.2.2.2.2.2.2.1 h σ x1 x2) dX6_add_12 (fun _ => rfl) (fun _ => rfl) (fun r3 => ?_)
  refine z_aload_n X dX6_add_15 0 rfl ?_
  refine z_get X inlX6 rfl hk0.1 (ce6 hk0.1 _ _) 0 (by decide) q_1_13 rfl dX6_add_16 ?_
  refine z_callV0 X (g := (fun r4 : Int32 => ((some (.int r4), h, σ) : Option Value × Int64 × cS))) (st := []) (st1 := (fun r4 : Int32 => [.int r4])) (rmf := 0) (rml := 0) [] 0 cal_X0_isFull q_13_9 ⟨Nat.le_of_ble_eq_true rfl, Nat.le_of_ble_eq_true rfl⟩ rfl rfl (Nat.le_of_ble_eq_true rfl) rfl hk0.2.1.1 (ce0 hk0.2.1.1 _ _) (ctX0_isFull (kl K) G X.2.2.2.2.2.2.2.1 h σ 0 hk0.2.1 ) dX6_add_19 (fun _ => rfl) (fun r4 => ?_)
  refine z_if_eq X 35 dX6_add_22 (by decide) ?_ ?_
  · refine z_aload_n X dX6_add_35 0 rfl ?_
    refine z_get X inlX6 rfl hk0.1 (ce6 hk0.1 _ _) 5 (by decide) q_2_6 rfl dX6_add_36 ?_
    refine z_aload_n X dX6_add_39 0 rfl ?_
    refine z_get X inlX6 rfl hk0.1 (ce6 hk0.1 _ _) 0 (by decide) q_1_13 rfl dX6_add_40 ?_
    refine z_callV0 X (g := (fun r5 : cS => ((none, h, r5) : Option Value × Int64 × cS))) (st := []) (st1 := (fun r5 : cS => [])) (rmf := 2) (rml := 43) [.ref (la G 0)] 105 cal_X1_save q_12_14 ⟨Nat.le_of_ble_eq_true rfl, Nat.le_of_ble_eq_true rfl⟩ rfl rfl (Nat.le_of_ble_eq_true rfl) rfl hk0.2.2.2.2.2.2.1 (ce1 hk0.2.2.2.2.2.2.1 _ _) (ctX1_save (kl K) G X.2.2.2.2.2.2.2.1 Nf h σ 105 hk0.2.2.2.2.2.2 0 hk0.2.1 ) dX6_add_43 (fun _ => rfl) (fun r5 => ?_)
    refine z_aload_n X dX6_add_46 0 rfl ?_
    refine z_get X inlX6 rfl hk0.1 (ce6 hk0.1 _ _) 3 (by decide) q_1_22 rfl dX6_add_47 ?_
    refine z_callV0 X (g := (fun r6 : cS => ((none, h, r6) : Option Value × Int64 × cS))) (st := []) (st1 := (fun r6 : cS => [])) (rmf := 0) (rml := 0) [] 97 cal_X3_forget q_5_21 ⟨Nat.le_of_ble_eq_true rfl, Nat.le_of_ble_eq_true rfl⟩ rfl rfl (Nat.le_of_ble_eq_true rfl) rfl hk0.2.2.2.2.1.1 (ce3 hk0.2.2.2.2.1.1 _ _) (ctX3_forget (kl K) G X.2.2.2.2.2.2.2.1 h r5 97 hk0.2.2.2.2.1 ) dX6_add_50 (fun _ => rfl) (fun r6 => ?_)
    refine z_aload_n X dX6_add_53 0 rfl ?_
    refine z_get X inlX6 rfl hk0.1 (ce6 hk0.1 _ _) 0 (by decide) q_1_13 rfl dX6_add_54 ?_
    refine z_iload_n X dX6_add_57 1 rfl ?_
    refine z_iload_n X dX6_add_58 2 rfl ?_
    refine z_callV0 X (g := (fun r7 : (Int32 × cS) => ((some (.int r7.1), h, r7.2) : Option Value × Int64 × cS))) (st := []) (st1 := (fun r7 : (Int32 × cS) => [.int r7.1])) (rmf := 1) (rml := 22) [.int x1, .int x2] 0 cal_X0_join q_13_13 ⟨Nat.le_of_ble_eq_true rfl, Nat.le_of_ble_eq_true rfl⟩ rfl rfl (Nat.le_of_ble_eq_true rfl) rfl hk0.2.1.1 (ce0 hk0.2.1.1 _ _) (ctX0_join (kl K) G X.2.2.2.2.2.2.2.1 h r6 0 hk0.2.1 x1 x2) dX6_add_59 (fun _ => rfl) (fun r7 => ?_)
    exact z_xiret X rfl dX6_add_62
  · exact z_throw X (List.mem_of_getElem? (i := 1) rfl) th_2 q_5_5 q_5_6 dX6_add_25 dX6_add_28 dX6_add_29 dX6_add_31 dX6_add_34 rfl (by decide) (Nat.le_of_ble_eq_true rfl)
def fX6_add (L : Nat → Nat) (Nf : Nat) (σ : cS) (k0 : Nat) (x1 : Int32) (x2 : Int32) : Option ((Int32 × cS) ⊕ (Nat × cS)) := fX6_add_0 L Nf k0 x1 x2 σ
set_option maxHeartbeats 4000000 in
set_option maxRecDepth 100000 in
theorem ctX6_add_n (l : Launch) (G : Lay) (hi : Inj G) (Nf : Nat) (h : Int64) (σ : cS) (k0 : Nat) (hk0 : isEH G k0) (x1 : Int32) (x2 : Int32) : ∀ r, fX6_add (ll G) Nf σ k0 x1 x2 = some (.inl r) → CM l yX6_add cX6_add 3 (some .int) 7 111 G [.ref (la G k0), .int x1, .int x2] h σ (some (.int r.1), h, r.2) := by
  refine cm_ofX (g := (fun r : (Int32 × cS) => ((some (.int r.1), h, r.2) : Option Value × Int64 × cS))) (gx := (fun r : Nat × cS => ((exN r.1, h, r.2) : String × Int64 × cS))) (by decide) hi (Nat.le_of_ble_eq_true rfl) (fun K hKl X => ?_)
  unfold fX6_add
  exact z_sub [0, 1, 2] rfl (sX6_add_0 X Nf k0 hk0 h x1 x2 σ)
set_option maxHeartbeats 4000000 in
set_option maxRecDepth 100000 in
theorem ctX6_add_x (l : Launch) (G : Lay) (hi : Inj G) (Nf : Nat) (h : Int64) (σ : cS) (k0 : Nat) (hk0 : isEH G k0) (x1 : Int32) (x2 : Int32) (hfl : l.stackTraces = false) : ∀ r, fX6_add (ll G) Nf σ k0 x1 x2 = some (.inr r) → CX l yX6_add cX6_add 3 (some .int) 7 111 G [.ref (la G k0), .int x1, .int x2] h σ (exN r.1, h, r.2) := by
  refine cx_of (g := (fun r : (Int32 × cS) => ((some (.int r.1), h, r.2) : Option Value × Int64 × cS))) (gx := (fun r : Nat × cS => ((exN r.1, h, r.2) : String × Int64 × cS))) (by decide) hi hfl (Nat.le_of_ble_eq_true rfl) (fun K hKl X => ?_)
  unfold fX6_add
  exact z_sub [0, 1, 2] rfl (sX6_add_0 X Nf k0 hk0 h x1 x2 σ)
def fX6_checkedSlot_0 (L : Nat → Nat) (Nf : Nat) (σ : cS) (k0 : Nat) (x1 : Int32)  : Option (Int32 ⊕ Nat) := Option.bind (fX0_slotOf L Nf σ 0 x1) (fun r1 => if r1 = (-1 : Int32) then (some (.inr 4)) else (some (.inl r1)))
set_option maxHeartbeats 4000000 in
set_option maxRecDepth 100000 in
theorem sX6_checkedSlot_0 {K : MCx} {G : Lay} (X : Cx K G RX6 cX6_checkedSlot 3 (some .int) 6 90) (Nf : Nat) (k0 : Nat) (hk0 : isEH G k0) (h : Int64) (σ : cS) (x1 : Int32) : Sm K G (PX K G) (QX K G (fun r : Int32 => ((some (.int r), h, σ) : Option Value × Int64 × cS)) (fun r : Nat => ((exN r, h, σ) : String × Int64 × cS))) 3 0 [(0, .ref (la G k0)), (1, .int x1)] [] h σ (fX6_checkedSlot_0 (ll G) Nf σ k0 x1) := by
  unfold fX6_checkedSlot_0
  refine z_aload_n X dX6_checkedSlot_0 0 rfl ?_
  refine z_get X inlX6 rfl hk0.1 (ce6 hk0.1 _ _) 0 (by decide) q_1_13 rfl dX6_checkedSlot_1 ?_
  refine z_iload_n X dX6_checkedSlot_4 1 rfl ?_
  refine z_callV0 X (g := (fun r1 : Int32 => ((some (.int r1), h, σ) : Option Value × Int64 × cS))) (st := []) (st1 := (fun r1 : Int32 => [.int r1])) (rmf := 1) (rml := 21) [.int x1] 0 cal_X0_slotOf q_13_21 ⟨Nat.le_of_ble_eq_true rfl, Nat.le_of_ble_eq_true rfl⟩ rfl rfl (Nat.le_of_ble_eq_true rfl) rfl hk0.2.1.1 (ce0 hk0.2.1.1 _ _) (ctX0_slotOf (kl K) G X.2.2.2.2.2.2.2.1 Nf h σ 0 hk0.2.1 x1) dX6_checkedSlot_5 (fun _ => rfl) (fun r1 => ?_)
  refine z_istore_n X [(2, .int r1), (0, .ref (la G k0)), (1, .int x1)] dX6_checkedSlot_8 (by decide) rfl ?_
  refine z_iload_n X dX6_checkedSlot_9 0 rfl ?_
  refine z_iconst (v := (-1 : Int32)) X dX6_checkedSlot_10 (by decide) ?_
  refine z_icmp_ne X 25 dX6_checkedSlot_11 (by decide) ?_ ?_
  · exact z_throwNW X (List.mem_of_getElem? (i := 13) rfl) th_4 q_18_10 q_18_11 dX6_checkedSlot_14 dX6_checkedSlot_17 dX6_checkedSlot_18 dX6_checkedSlot_21 dX6_checkedSlot_24 rfl (by decide) (Nat.le_of_ble_eq_true rfl)
  · refine z_iload_n X dX6_checkedSlot_25 0 rfl ?_
    exact z_xiret X rfl dX6_checkedSlot_26
def fX6_checkedSlot (L : Nat → Nat) (Nf : Nat) (σ : cS) (k0 : Nat) (x1 : Int32) : Option (Int32 ⊕ Nat) := fX6_checkedSlot_0 L Nf σ k0 x1
set_option maxHeartbeats 4000000 in
set_option maxRecDepth 100000 in
theorem ctX6_checkedSlot_n (l : Launch) (G : Lay) (hi : Inj G) (Nf : Nat) (h : Int64) (σ : cS) (k0 : Nat) (hk0 : isEH G k0) (x1 : Int32) : ∀ r, fX6_checkedSlot (ll G) Nf σ k0 x1 = some (.inl r) → CM l yX6_checkedSlot cX6_checkedSlot 3 (some .int) 6 90 G [.ref (la G k0), .int x1] h σ (some (.int r), h, σ) := by
  refine cm_ofX (g := (fun r : Int32 => ((some (.int r), h, σ) : Option Value × Int64 × cS))) (gx := (fun r : Nat => ((exN r, h, σ) : String × Int64 × cS))) (by decide) hi (Nat.le_of_ble_eq_true rfl) (fun K hKl X => ?_)
  unfold fX6_checkedSlot
  exact z_sub [0, 1] rfl (sX6_checkedSlot_0 X Nf k0 hk0 h σ x1)
set_option maxHeartbeats 4000000 in
set_option maxRecDepth 100000 in
theorem ctX6_checkedSlot_x (l : Launch) (G : Lay) (hi : Inj G) (Nf : Nat) (h : Int64) (σ : cS) (k0 : Nat) (hk0 : isEH G k0) (x1 : Int32) (hfl : l.stackTraces = false) : ∀ r, fX6_checkedSlot (ll G) Nf σ k0 x1 = some (.inr r) → CX l yX6_checkedSlot cX6_checkedSlot 3 (some .int) 6 90 G [.ref (la G k0), .int x1] h σ (exN r, h, σ) := by
  refine cx_of (g := (fun r : Int32 => ((some (.int r), h, σ) : Option Value × Int64 × cS))) (gx := (fun r : Nat => ((exN r, h, σ) : String × Int64 × cS))) (by decide) hi hfl (Nat.le_of_ble_eq_true rfl) (fun K hKl X => ?_)
  unfold fX6_checkedSlot
  exact z_sub [0, 1] rfl (sX6_checkedSlot_0 X Nf k0 hk0 h σ x1)
def fX6_remove_0 (L : Nat → Nat) (Nf : Nat) (k0 : Nat) (x1 : Int32) (σ : cS) : Option ((Int32 × cS) ⊕ (Nat × cS)) := xbn (fX6_checkedSlot L Nf σ k0 x1) (fun r : Nat => (r, σ)) (fun r1 => Option.bind (fX1_save L Nf σ 105 0) (fun r2 => Option.bind (fX3_forget r2 97) (fun r3 => Option.bind (fX0_cut L Nf r3 0 r1) (fun r4 => some (.inl (r4.1, r4.2))))))
set_option maxHeartbeats 4000000 in
set_option maxRecDepth 100000 in
theorem sX6_remove_0 {K : MCx} {G : Lay} (X : Cx K G RX6 cX6_remove 3 (some .int) 7 112) (Nf : Nat) (k0 : Nat) (hk0 : isEH G k0) (h : Int64) (x1 : Int32) (σ : cS) : Sm K G (PX K G) (QX K G (fun r : (Int32 × cS) => ((some (.int r.1), h, r.2) : Option Value × Int64 × cS)) (fun r : Nat × cS => ((exN r.1, h, r.2) : String × Int64 × cS))) 3 0 [(0, .ref (la G k0)), (1, .int x1)] [] h σ (fX6_remove_0 (ll G) Nf k0 x1 σ) := by
  unfold fX6_remove_0
  refine z_aload_n X dX6_remove_0 0 rfl ?_
  refine z_iload_n X dX6_remove_1 1 rfl ?_
  refine z_callVX X (g := (fun r1 : Int32 => ((some (.int r1), h, σ) : Option Value × Int64 × cS))) (st := []) (st1 := (fun r1 : Int32 => [.int r1])) (rmf := 6) (rml := 90) (gx := (fun r : Nat => ((exN r, h, σ) : String × Int64 × cS))) [.int x1] k0 cal_X6_checkedSlot q_18_6 ⟨Nat.le_of_ble_eq_true rfl, Nat.le_of_ble_eq_true rfl⟩ rfl rfl (Nat.le_of_ble_eq_true rfl) rfl hk0.1 (ce6 hk0.1 _ _) (ctX6_checkedSlot_n (kl K) G X.2.2.2.2.2.2.2.1 Nf h σ k0 hk0 x1) (ctX6_checkedSlot_x (kl K) G X.2.2.2.2.2.2.2.1 Nf h σ k0 hk0 x1) dX6_remove_2 (fun _ => rfl) (fun _ => rfl) (fun r1 => ?_)
  refine z_istore_n X [(2, .int r1), (0, .ref (la G k0)), (1, .int x1)] dX6_remove_5 (by decide) rfl ?_
  refine z_aload_n X dX6_remove_6 1 rfl ?_
  refine z_get X inlX6 rfl hk0.1 (ce6 hk0.1 _ _) 5 (by decide) q_2_6 rfl dX6_remove_7 ?_
  refine z_aload_n X dX6_remove_10 1 rfl ?_
  refine z_get X inlX6 rfl hk0.1 (ce6 hk0.1 _ _) 0 (by decide) q_1_13 rfl dX6_remove_11 ?_
  refine z_callV0 X (g := (fun r2 : cS => ((none, h, r2) : Option Value × Int64 × cS))) (st := []) (st1 := (fun r2 : cS => [])) (rmf := 2) (rml := 43) [.ref (la G 0)] 105 cal_X1_save q_12_14 ⟨Nat.le_of_ble_eq_true rfl, Nat.le_of_ble_eq_true rfl⟩ rfl rfl (Nat.le_of_ble_eq_true rfl) rfl hk0.2.2.2.2.2.2.1 (ce1 hk0.2.2.2.2.2.2.1 _ _) (ctX1_save (kl K) G X.2.2.2.2.2.2.2.1 Nf h σ 105 hk0.2.2.2.2.2.2 0 hk0.2.1 ) dX6_remove_14 (fun _ => rfl) (fun r2 => ?_)
  refine z_aload_n X dX6_remove_17 1 rfl ?_
  refine z_get X inlX6 rfl hk0.1 (ce6 hk0.1 _ _) 3 (by decide) q_1_22 rfl dX6_remove_18 ?_
  refine z_callV0 X (g := (fun r3 : cS => ((none, h, r3) : Option Value × Int64 × cS))) (st := []) (st1 := (fun r3 : cS => [])) (rmf := 0) (rml := 0) [] 97 cal_X3_forget q_5_21 ⟨Nat.le_of_ble_eq_true rfl, Nat.le_of_ble_eq_true rfl⟩ rfl rfl (Nat.le_of_ble_eq_true rfl) rfl hk0.2.2.2.2.1.1 (ce3 hk0.2.2.2.2.1.1 _ _) (ctX3_forget (kl K) G X.2.2.2.2.2.2.2.1 h r2 97 hk0.2.2.2.2.1 ) dX6_remove_21 (fun _ => rfl) (fun r3 => ?_)
  refine z_aload_n X dX6_remove_24 1 rfl ?_
  refine z_get X inlX6 rfl hk0.1 (ce6 hk0.1 _ _) 0 (by decide) q_1_13 rfl dX6_remove_25 ?_
  refine z_iload_n X dX6_remove_28 0 rfl ?_
  refine z_callV0 X (g := (fun r4 : (Int32 × cS) => ((some (.int r4.1), h, r4.2) : Option Value × Int64 × cS))) (st := []) (st1 := (fun r4 : (Int32 × cS) => [.int r4.1])) (rmf := 1) (rml := 22) [.int r1] 0 cal_X0_cut q_14_5 ⟨Nat.le_of_ble_eq_true rfl, Nat.le_of_ble_eq_true rfl⟩ rfl rfl (Nat.le_of_ble_eq_true rfl) rfl hk0.2.1.1 (ce0 hk0.2.1.1 _ _) (ctX0_cut (kl K) G X.2.2.2.2.2.2.2.1 Nf h r3 0 hk0.2.1 r1) dX6_remove_29 (fun _ => rfl) (fun r4 => ?_)
  exact z_xiret X rfl dX6_remove_32
def fX6_remove (L : Nat → Nat) (Nf : Nat) (σ : cS) (k0 : Nat) (x1 : Int32) : Option ((Int32 × cS) ⊕ (Nat × cS)) := fX6_remove_0 L Nf k0 x1 σ
set_option maxHeartbeats 4000000 in
set_option maxRecDepth 100000 in
theorem ctX6_remove_n (l : Launch) (G : Lay) (hi : Inj G) (Nf : Nat) (h : Int64) (σ : cS) (k0 : Nat) (hk0 : isEH G k0) (x1 : Int32) : ∀ r, fX6_remove (ll G) Nf σ k0 x1 = some (.inl r) → CM l yX6_remove cX6_remove 3 (some .int) 7 112 G [.ref (la G k0), .int x1] h σ (some (.int r.1), h, r.2) := by
  refine cm_ofX (g := (fun r : (Int32 × cS) => ((some (.int r.1), h, r.2) : Option Value × Int64 × cS))) (gx := (fun r : Nat × cS => ((exN r.1, h, r.2) : String × Int64 × cS))) (by decide) hi (Nat.le_of_ble_eq_true rfl) (fun K hKl X => ?_)
  unfold fX6_remove
  exact z_sub [0, 1] rfl (sX6_remove_0 X Nf k0 hk0 h x1 σ)
set_option maxHeartbeats 4000000 in
set_option maxRecDepth 100000 in
theorem ctX6_remove_x (l : Launch) (G : Lay) (hi : Inj G) (Nf : Nat) (h : Int64) (σ : cS) (k0 : Nat) (hk0 : isEH G k0) (x1 : Int32) (hfl : l.stackTraces = false) : ∀ r, fX6_remove (ll G) Nf σ k0 x1 = some (.inr r) → CX l yX6_remove cX6_remove 3 (some .int) 7 112 G [.ref (la G k0), .int x1] h σ (exN r.1, h, r.2) := by
  refine cx_of (g := (fun r : (Int32 × cS) => ((some (.int r.1), h, r.2) : Option Value × Int64 × cS))) (gx := (fun r : Nat × cS => ((exN r.1, h, r.2) : String × Int64 × cS))) (by decide) hi hfl (Nat.le_of_ble_eq_true rfl) (fun K hKl X => ?_)
  unfold fX6_remove
  exact z_sub [0, 1] rfl (sX6_remove_0 X Nf k0 hk0 h x1 σ)
def fX6_turn_0 (L : Nat → Nat) (Nf : Nat) (k0 : Nat) (x1 : Int32) (σ : cS) : Option ((Int32 × cS) ⊕ (Nat × cS)) := xbn (fX6_checkedSlot L Nf σ k0 x1) (fun r : Nat => (r, σ)) (fun r1 => Option.bind (fX1_save L Nf σ 105 0) (fun r2 => Option.bind (fX0_flip L r2 0 r1) (fun r3 => some (.inl (r3.1, r3.2)))))
set_option maxHeartbeats 4000000 in
set_option maxRecDepth 100000 in
theorem sX6_turn_0 {K : MCx} {G : Lay} (X : Cx K G RX6 cX6_turn 3 (some .int) 7 112) (Nf : Nat) (k0 : Nat) (hk0 : isEH G k0) (h : Int64) (x1 : Int32) (σ : cS) : Sm K G (PX K G) (QX K G (fun r : (Int32 × cS) => ((some (.int r.1), h, r.2) : Option Value × Int64 × cS)) (fun r : Nat × cS => ((exN r.1, h, r.2) : String × Int64 × cS))) 3 0 [(0, .ref (la G k0)), (1, .int x1)] [] h σ (fX6_turn_0 (ll G) Nf k0 x1 σ) := by
  unfold fX6_turn_0
  refine z_aload_n X dX6_turn_0 0 rfl ?_
  refine z_iload_n X dX6_turn_1 1 rfl ?_
  refine z_callVX X (g := (fun r1 : Int32 => ((some (.int r1), h, σ) : Option Value × Int64 × cS))) (st := []) (st1 := (fun r1 : Int32 => [.int r1])) (rmf := 6) (rml := 90) (gx := (fun r : Nat => ((exN r, h, σ) : String × Int64 × cS))) [.int x1] k0 cal_X6_checkedSlot q_18_6 ⟨Nat.le_of_ble_eq_true rfl, Nat.le_of_ble_eq_true rfl⟩ rfl rfl (Nat.le_of_ble_eq_true rfl) rfl hk0.1 (ce6 hk0.1 _ _) (ctX6_checkedSlot_n (kl K) G X.2.2.2.2.2.2.2.1 Nf h σ k0 hk0 x1) (ctX6_checkedSlot_x (kl K) G X.2.2.2.2.2.2.2.1 Nf h σ k0 hk0 x1) dX6_turn_2 (fun _ => rfl) (fun _ => rfl) (fun r1 => ?_)
  refine z_istore_n X [(2, .int r1), (0, .ref (la G k0)), (1, .int x1)] dX6_turn_5 (by decide) rfl ?_
  refine z_aload_n X dX6_turn_6 1 rfl ?_
  refine z_get X inlX6 rfl hk0.1 (ce6 hk0.1 _ _) 5 (by decide) q_2_6 rfl dX6_turn_7 ?_
  refine z_aload_n X dX6_turn_10 1 rfl ?_
  refine z_get X inlX6 rfl hk0.1 (ce6 hk0.1 _ _) 0 (by decide) q_1_13 rfl dX6_turn_11 ?_
  refine z_callV0 X (g := (fun r2 : cS => ((none, h, r2) : Option Value × Int64 × cS))) (st := []) (st1 := (fun r2 : cS => [])) (rmf := 2) (rml := 43) [.ref (la G 0)] 105 cal_X1_save q_12_14 ⟨Nat.le_of_ble_eq_true rfl, Nat.le_of_ble_eq_true rfl⟩ rfl rfl (Nat.le_of_ble_eq_true rfl) rfl hk0.2.2.2.2.2.2.1 (ce1 hk0.2.2.2.2.2.2.1 _ _) (ctX1_save (kl K) G X.2.2.2.2.2.2.2.1 Nf h σ 105 hk0.2.2.2.2.2.2 0 hk0.2.1 ) dX6_turn_14 (fun _ => rfl) (fun r2 => ?_)
  refine z_aload_n X dX6_turn_17 1 rfl ?_
  refine z_get X inlX6 rfl hk0.1 (ce6 hk0.1 _ _) 0 (by decide) q_1_13 rfl dX6_turn_18 ?_
  refine z_iload_n X dX6_turn_21 0 rfl ?_
  refine z_callV0 X (g := (fun r3 : (Int32 × cS) => ((some (.int r3.1), h, r3.2) : Option Value × Int64 × cS))) (st := []) (st1 := (fun r3 : (Int32 × cS) => [.int r3.1])) (rmf := 1) (rml := 22) [.int r1] 0 cal_X0_flip q_14_13 ⟨Nat.le_of_ble_eq_true rfl, Nat.le_of_ble_eq_true rfl⟩ rfl rfl (Nat.le_of_ble_eq_true rfl) rfl hk0.2.1.1 (ce0 hk0.2.1.1 _ _) (ctX0_flip (kl K) G X.2.2.2.2.2.2.2.1 h r2 0 hk0.2.1 r1) dX6_turn_22 (fun _ => rfl) (fun r3 => ?_)
  exact z_xiret X rfl dX6_turn_25
def fX6_turn (L : Nat → Nat) (Nf : Nat) (σ : cS) (k0 : Nat) (x1 : Int32) : Option ((Int32 × cS) ⊕ (Nat × cS)) := fX6_turn_0 L Nf k0 x1 σ
set_option maxHeartbeats 4000000 in
set_option maxRecDepth 100000 in
theorem ctX6_turn_n (l : Launch) (G : Lay) (hi : Inj G) (Nf : Nat) (h : Int64) (σ : cS) (k0 : Nat) (hk0 : isEH G k0) (x1 : Int32) : ∀ r, fX6_turn (ll G) Nf σ k0 x1 = some (.inl r) → CM l yX6_turn cX6_turn 3 (some .int) 7 112 G [.ref (la G k0), .int x1] h σ (some (.int r.1), h, r.2) := by
  refine cm_ofX (g := (fun r : (Int32 × cS) => ((some (.int r.1), h, r.2) : Option Value × Int64 × cS))) (gx := (fun r : Nat × cS => ((exN r.1, h, r.2) : String × Int64 × cS))) (by decide) hi (Nat.le_of_ble_eq_true rfl) (fun K hKl X => ?_)
  unfold fX6_turn
  exact z_sub [0, 1] rfl (sX6_turn_0 X Nf k0 hk0 h x1 σ)
set_option maxHeartbeats 4000000 in
set_option maxRecDepth 100000 in
theorem ctX6_turn_x (l : Launch) (G : Lay) (hi : Inj G) (Nf : Nat) (h : Int64) (σ : cS) (k0 : Nat) (hk0 : isEH G k0) (x1 : Int32) (hfl : l.stackTraces = false) : ∀ r, fX6_turn (ll G) Nf σ k0 x1 = some (.inr r) → CX l yX6_turn cX6_turn 3 (some .int) 7 112 G [.ref (la G k0), .int x1] h σ (exN r.1, h, r.2) := by
  refine cx_of (g := (fun r : (Int32 × cS) => ((some (.int r.1), h, r.2) : Option Value × Int64 × cS))) (gx := (fun r : Nat × cS => ((exN r.1, h, r.2) : String × Int64 × cS))) (by decide) hi hfl (Nat.le_of_ble_eq_true rfl) (fun K hKl X => ?_)
  unfold fX6_turn
  exact z_sub [0, 1] rfl (sX6_turn_0 X Nf k0 hk0 h x1 σ)
def fX6_relieve_0 (L : Nat → Nat) (Nf : Nat) (k0 : Nat) (x1 : Int32) (σ : cS) : Option ((Int32 × cS) ⊕ (Nat × cS)) := xbn (fX6_checkNode σ k0 x1) (fun r : Nat => (r, σ)) (fun r1 => Option.bind (fX5_visitFrom L Nf σ 90 0 x1) (fun r2 => Option.bind (fX5_firstLighter L Nf r2 90 0) (fun r3 => if r3 = (-1 : Int32) then (some (.inr (2, r2))) else (Option.bind (fX1_save L Nf r2 105 0) (fun r4 => Option.bind (fX5_flipPathTo L Nf r4 90 0 r3) (fun r5 => some (.inl (r5.1, r5.2))))))))
set_option maxHeartbeats 4000000 in
set_option maxRecDepth 100000 in
theorem sX6_relieve_0 {K : MCx} {G : Lay} (X : Cx K G RX6 cX6_relieve 3 (some .int) 7 111) (Nf : Nat) (k0 : Nat) (hk0 : isEH G k0) (h : Int64) (x1 : Int32) (σ : cS) : Sm K G (PX K G) (QX K G (fun r : (Int32 × cS) => ((some (.int r.1), h, r.2) : Option Value × Int64 × cS)) (fun r : Nat × cS => ((exN r.1, h, r.2) : String × Int64 × cS))) 3 0 [(0, .ref (la G k0)), (1, .int x1)] [] h σ (fX6_relieve_0 (ll G) Nf k0 x1 σ) := by
  unfold fX6_relieve_0
  refine z_aload_n X dX6_relieve_0 0 rfl ?_
  refine z_iload_n X dX6_relieve_1 1 rfl ?_
  refine z_callVX X (g := (fun r1 : Unit => ((none, h, σ) : Option Value × Int64 × cS))) (st := []) (st1 := (fun r1 : Unit => [])) (rmf := 6) (rml := 90) (gx := (fun r : Nat => ((exN r, h, σ) : String × Int64 × cS))) [.int x1] k0 cal_X6_checkNode q_17_7 ⟨Nat.le_of_ble_eq_true rfl, Nat.le_of_ble_eq_true rfl⟩ rfl rfl (Nat.le_of_ble_eq_true rfl) rfl hk0.1 (ce6 hk0.1 _ _) (ctX6_checkNode_n (kl K) G X.2.2.2.2.2.2.2.1 h σ k0 hk0 x1) (ctX6_checkNode_x (kl K) G X.2.2.2.2.2.2.2.1 h σ k0 hk0 x1) dX6_relieve_2 (fun _ => rfl) (fun _ => rfl) (fun r1 => ?_)
  refine z_aload_n X dX6_relieve_5 0 rfl ?_
  refine z_get X inlX6 rfl hk0.1 (ce6 hk0.1 _ _) 2 (by decide) q_1_18 rfl dX6_relieve_6 ?_
  refine z_aload_n X dX6_relieve_9 0 rfl ?_
  refine z_get X inlX6 rfl hk0.1 (ce6 hk0.1 _ _) 0 (by decide) q_1_13 rfl dX6_relieve_10 ?_
  refine z_iload_n X dX6_relieve_13 1 rfl ?_
  refine z_callV0 X (g := (fun r2 : cS => ((none, h, r2) : Option Value × Int64 × cS))) (st := []) (st1 := (fun r2 : cS => [])) (rmf := 2) (rml := 45) [.ref (la G 0), .int x1] 90 cal_X5_visitFrom q_17_21 ⟨Nat.le_of_ble_eq_true rfl, Nat.le_of_ble_eq_true rfl⟩ rfl rfl (Nat.le_of_ble_eq_true rfl) rfl hk0.2.2.2.1.1 (ce5 hk0.2.2.2.1.1 _ _) (ctX5_visitFrom (kl K) G X.2.2.2.2.2.2.2.1 Nf h σ 90 hk0.2.2.2.1 0 hk0.2.1 x1) dX6_relieve_14 (fun _ => rfl) (fun r2 => ?_)
  refine z_aload_n X dX6_relieve_17 0 rfl ?_
  refine z_get X inlX6 rfl hk0.1 (ce6 hk0.1 _ _) 2 (by decide) q_1_18 rfl dX6_relieve_18 ?_
  refine z_aload_n X dX6_relieve_21 0 rfl ?_
  refine z_get X inlX6 rfl hk0.1 (ce6 hk0.1 _ _) 0 (by decide) q_1_13 rfl dX6_relieve_22 ?_
  refine z_callV0 X (g := (fun r3 : Int32 => ((some (.int r3), h, r2) : Option Value × Int64 × cS))) (st := []) (st1 := (fun r3 : Int32 => [.int r3])) (rmf := 1) (rml := 21) [.ref (la G 0)] 90 cal_X5_firstLighter q_20_6 ⟨Nat.le_of_ble_eq_true rfl, Nat.le_of_ble_eq_true rfl⟩ rfl rfl (Nat.le_of_ble_eq_true rfl) rfl hk0.2.2.2.1.1 (ce5 hk0.2.2.2.1.1 _ _) (ctX5_firstLighter (kl K) G X.2.2.2.2.2.2.2.1 Nf h r2 90 hk0.2.2.2.1 0 hk0.2.1 ) dX6_relieve_25 (fun _ => rfl) (fun r3 => ?_)
  refine z_istore_n X [(2, .int r3), (0, .ref (la G k0)), (1, .int x1)] dX6_relieve_28 (by decide) rfl ?_
  refine z_iload_n X dX6_relieve_29 0 rfl ?_
  refine z_iconst (v := (-1 : Int32)) X dX6_relieve_30 (by decide) ?_
  refine z_icmp_ne X 44 dX6_relieve_31 (by decide) ?_ ?_
  · exact z_throw X (List.mem_of_getElem? (i := 2) rfl) th_2 q_5_5 q_5_6 dX6_relieve_34 dX6_relieve_37 dX6_relieve_38 dX6_relieve_40 dX6_relieve_43 rfl (by decide) (Nat.le_of_ble_eq_true rfl)
  · refine z_aload_n X dX6_relieve_44 1 rfl ?_
    refine z_get X inlX6 rfl hk0.1 (ce6 hk0.1 _ _) 5 (by decide) q_2_6 rfl dX6_relieve_45 ?_
    refine z_aload_n X dX6_relieve_48 1 rfl ?_
    refine z_get X inlX6 rfl hk0.1 (ce6 hk0.1 _ _) 0 (by decide) q_1_13 rfl dX6_relieve_49 ?_
    refine z_callV0 X (g := (fun r4 : cS => ((none, h, r4) : Option Value × Int64 × cS))) (st := []) (st1 := (fun r4 : cS => [])) (rmf := 2) (rml := 43) [.ref (la G 0)] 105 cal_X1_save q_12_14 ⟨Nat.le_of_ble_eq_true rfl, Nat.le_of_ble_eq_true rfl⟩ rfl rfl (Nat.le_of_ble_eq_true rfl) rfl hk0.2.2.2.2.2.2.1 (ce1 hk0.2.2.2.2.2.2.1 _ _) (ctX1_save (kl K) G X.2.2.2.2.2.2.2.1 Nf h r2 105 hk0.2.2.2.2.2.2 0 hk0.2.1 ) dX6_relieve_52 (fun _ => rfl) (fun r4 => ?_)
    refine z_aload_n X dX6_relieve_55 1 rfl ?_
    refine z_get X inlX6 rfl hk0.1 (ce6 hk0.1 _ _) 2 (by decide) q_1_18 rfl dX6_relieve_56 ?_
    refine z_aload_n X dX6_relieve_59 1 rfl ?_
    refine z_get X inlX6 rfl hk0.1 (ce6 hk0.1 _ _) 0 (by decide) q_1_13 rfl dX6_relieve_60 ?_
    refine z_iload_n X dX6_relieve_63 0 rfl ?_
    refine z_callV0 X (g := (fun r5 : (Int32 × cS) => ((some (.int r5.1), h, r5.2) : Option Value × Int64 × cS))) (st := []) (st1 := (fun r5 : (Int32 × cS) => [.int r5.1])) (rmf := 2) (rml := 45) [.ref (la G 0), .int r3] 90 cal_X5_flipPathTo q_20_7 ⟨Nat.le_of_ble_eq_true rfl, Nat.le_of_ble_eq_true rfl⟩ rfl rfl (Nat.le_of_ble_eq_true rfl) rfl hk0.2.2.2.1.1 (ce5 hk0.2.2.2.1.1 _ _) (ctX5_flipPathTo (kl K) G X.2.2.2.2.2.2.2.1 Nf h r4 90 hk0.2.2.2.1 0 hk0.2.1 r3) dX6_relieve_64 (fun _ => rfl) (fun r5 => ?_)
    exact z_xiret X rfl dX6_relieve_67
def fX6_relieve (L : Nat → Nat) (Nf : Nat) (σ : cS) (k0 : Nat) (x1 : Int32) : Option ((Int32 × cS) ⊕ (Nat × cS)) := fX6_relieve_0 L Nf k0 x1 σ
set_option maxHeartbeats 4000000 in
set_option maxRecDepth 100000 in
theorem ctX6_relieve_n (l : Launch) (G : Lay) (hi : Inj G) (Nf : Nat) (h : Int64) (σ : cS) (k0 : Nat) (hk0 : isEH G k0) (x1 : Int32) : ∀ r, fX6_relieve (ll G) Nf σ k0 x1 = some (.inl r) → CM l yX6_relieve cX6_relieve 3 (some .int) 7 111 G [.ref (la G k0), .int x1] h σ (some (.int r.1), h, r.2) := by
  refine cm_ofX (g := (fun r : (Int32 × cS) => ((some (.int r.1), h, r.2) : Option Value × Int64 × cS))) (gx := (fun r : Nat × cS => ((exN r.1, h, r.2) : String × Int64 × cS))) (by decide) hi (Nat.le_of_ble_eq_true rfl) (fun K hKl X => ?_)
  unfold fX6_relieve
  exact z_sub [0, 1] rfl (sX6_relieve_0 X Nf k0 hk0 h x1 σ)
set_option maxHeartbeats 4000000 in
set_option maxRecDepth 100000 in
theorem ctX6_relieve_x (l : Launch) (G : Lay) (hi : Inj G) (Nf : Nat) (h : Int64) (σ : cS) (k0 : Nat) (hk0 : isEH G k0) (x1 : Int32) (hfl : l.stackTraces = false) : ∀ r, fX6_relieve (ll G) Nf σ k0 x1 = some (.inr r) → CX l yX6_relieve cX6_relieve 3 (some .int) 7 111 G [.ref (la G k0), .int x1] h σ (exN r.1, h, r.2) := by
  refine cx_of (g := (fun r : (Int32 × cS) => ((some (.int r.1), h, r.2) : Option Value × Int64 × cS))) (gx := (fun r : Nat × cS => ((exN r.1, h, r.2) : String × Int64 × cS))) (by decide) hi hfl (Nat.le_of_ble_eq_true rfl) (fun K hKl X => ?_)
  unfold fX6_relieve
  exact z_sub [0, 1] rfl (sX6_relieve_0 X Nf k0 hk0 h x1 σ)
def fX6_balance_0 (L : Nat → Nat) (Nf : Nat) (k0 : Nat) (σ : cS) : Option (Int32 × cS) := Option.bind (fX1_save L Nf σ 105 0) (fun r1 => Option.bind (fX5_evenOut L Nf r1 90 0) (fun r2 => some (r2.1, r2.2)))
set_option maxHeartbeats 4000000 in
set_option maxRecDepth 100000 in
theorem sX6_balance_0 {K : MCx} {G : Lay} (X : Cx K G RX6 cX6_balance 1 (some .int) 5 117) (Nf : Nat) (k0 : Nat) (hk0 : isEH G k0) (h : Int64) (σ : cS) : Sm K G TT (QM K G (fun r : (Int32 × cS) => ((some (.int r.1), h, r.2) : Option Value × Int64 × cS))) 1 0 [(0, .ref (la G k0))] [] h σ (fX6_balance_0 (ll G) Nf k0 σ) := by
  unfold fX6_balance_0
  refine z_aload_n X dX6_balance_0 0 rfl ?_
  refine z_get X inlX6 rfl hk0.1 (ce6 hk0.1 _ _) 5 (by decide) q_2_6 rfl dX6_balance_1 ?_
  refine z_aload_n X dX6_balance_4 0 rfl ?_
  refine z_get X inlX6 rfl hk0.1 (ce6 hk0.1 _ _) 0 (by decide) q_1_13 rfl dX6_balance_5 ?_
  refine z_callV0 X (g := (fun r1 : cS => ((none, h, r1) : Option Value × Int64 × cS))) (st := []) (st1 := (fun r1 : cS => [])) (rmf := 2) (rml := 43) [.ref (la G 0)] 105 cal_X1_save q_12_14 ⟨Nat.le_of_ble_eq_true rfl, Nat.le_of_ble_eq_true rfl⟩ rfl rfl (Nat.le_of_ble_eq_true rfl) rfl hk0.2.2.2.2.2.2.1 (ce1 hk0.2.2.2.2.2.2.1 _ _) (ctX1_save (kl K) G X.2.2.2.2.2.2.2.1 Nf h σ 105 hk0.2.2.2.2.2.2 0 hk0.2.1 ) dX6_balance_8 (fun _ => rfl) (fun r1 => ?_)
  refine z_aload_n X dX6_balance_11 0 rfl ?_
  refine z_get X inlX6 rfl hk0.1 (ce6 hk0.1 _ _) 2 (by decide) q_1_18 rfl dX6_balance_12 ?_
  refine z_aload_n X dX6_balance_15 0 rfl ?_
  refine z_get X inlX6 rfl hk0.1 (ce6 hk0.1 _ _) 0 (by decide) q_1_13 rfl dX6_balance_16 ?_
  refine z_callV0 X (g := (fun r2 : (Int32 × cS) => ((some (.int r2.1), h, r2.2) : Option Value × Int64 × cS))) (st := []) (st1 := (fun r2 : (Int32 × cS) => [.int r2.1])) (rmf := 4) (rml := 93) [.ref (la G 0)] 90 cal_X5_evenOut q_16_7 ⟨Nat.le_of_ble_eq_true rfl, Nat.le_of_ble_eq_true rfl⟩ rfl rfl (Nat.le_of_ble_eq_true rfl) rfl hk0.2.2.2.1.1 (ce5 hk0.2.2.2.1.1 _ _) (ctX5_evenOut (kl K) G X.2.2.2.2.2.2.2.1 Nf h r1 90 hk0.2.2.2.1 0 hk0.2.1 ) dX6_balance_19 (fun _ => rfl) (fun r2 => ?_)
  exact z_iret X rfl dX6_balance_22
def fX6_balance (L : Nat → Nat) (Nf : Nat) (σ : cS) (k0 : Nat) : Option (Int32 × cS) := fX6_balance_0 L Nf k0 σ
set_option maxHeartbeats 4000000 in
set_option maxRecDepth 100000 in
theorem ctX6_balance (l : Launch) (G : Lay) (hi : Inj G) (Nf : Nat) (h : Int64) (σ : cS) (k0 : Nat) (hk0 : isEH G k0) : ∀ r, fX6_balance (ll G) Nf σ k0 = some r → CM l yX6_balance cX6_balance 1 (some .int) 5 117 G [.ref (la G k0)] h σ (some (.int r.1), h, r.2) := by
  refine cm_of (g := (fun r : (Int32 × cS) => ((some (.int r.1), h, r.2) : Option Value × Int64 × cS))) (by decide) hi (Nat.le_of_ble_eq_true rfl) (fun K hKl X => ?_)
  unfold fX6_balance
  exact z_sub [0] rfl (sX6_balance_0 X Nf k0 hk0 h σ)
def fX6_setCapacity_15 (L : Nat → Nat) (Nf : Nat) (k0 : Nat) (σ : cS) : Option ((Int32 × cS) ⊕ (Nat × cS)) := some (.inr (1, σ))
set_option maxHeartbeats 4000000 in
set_option maxRecDepth 100000 in
theorem sX6_setCapacity_15 {K : MCx} {G : Lay} (X : Cx K G RX6 cX6_setCapacity 4 (some .int) 7 111) (Nf : Nat) (k0 : Nat) (hk0 : isEH G k0) (h : Int64) (σ : cS) : Sm K G (PX K G) (QX K G (fun r : (Int32 × cS) => ((some (.int r.1), h, r.2) : Option Value × Int64 × cS)) (fun r : Nat × cS => ((exN r.1, h, r.2) : String × Int64 × cS))) 4 15 [] [] h σ (fX6_setCapacity_15 (ll G) Nf k0 σ) := by
  unfold fX6_setCapacity_15
  exact z_throw X (List.mem_of_getElem? (i := 3) rfl) th_1 q_6_6 q_6_7 dX6_setCapacity_15 dX6_setCapacity_18 dX6_setCapacity_19 dX6_setCapacity_21 dX6_setCapacity_24 rfl (by decide) (Nat.le_of_ble_eq_true rfl)
def fX6_setCapacity_0 (L : Nat → Nat) (Nf : Nat) (k0 : Nat) (x1 : Int32) (x2 : Int32) (σ : cS) : Option ((Int32 × cS) ⊕ (Nat × cS)) := xbn (fX6_checkNode σ k0 x1) (fun r : Nat => (r, σ)) (fun r1 => if x2 < 0 then (fX6_setCapacity_15 L Nf k0 σ) else (if x2 ≤ (40 : Int32) then (Option.bind (fX4_get L σ 13 x1) (fun r2 => Option.bind (fX1_save L Nf σ 105 0) (fun r3 => Option.bind (fX4_set L r3 13 x1 x2) (fun r4 => some (.inl (r2, r4)))))) else (fX6_setCapacity_15 L Nf k0 σ)))
set_option maxHeartbeats 4000000 in
set_option maxRecDepth 100000 in
theorem sX6_setCapacity_0 {K : MCx} {G : Lay} (X : Cx K G RX6 cX6_setCapacity 4 (some .int) 7 111) (Nf : Nat) (k0 : Nat) (hk0 : isEH G k0) (h : Int64) (x1 : Int32) (x2 : Int32) (σ : cS) : Sm K G (PX K G) (QX K G (fun r : (Int32 × cS) => ((some (.int r.1), h, r.2) : Option Value × Int64 × cS)) (fun r : Nat × cS => ((exN r.1, h, r.2) : String × Int64 × cS))) 4 0 [(0, .ref (la G k0)), (1, .int x1), (2, .int x2)] [] h σ (fX6_setCapacity_0 (ll G) Nf k0 x1 x2 σ) := by
  unfold fX6_setCapacity_0
  refine z_aload_n X dX6_setCapacity_0 0 rfl ?_
  refine z_iload_n X dX6_setCapacity_1 1 rfl ?_
  refine z_callVX X (g := (fun r1 : Unit => ((none, h, σ) : Option Value × Int64 × cS))) (st := []) (st1 := (fun r1 : Unit => [])) (rmf := 6) (rml := 90) (gx := (fun r : Nat => ((exN r, h, σ) : String × Int64 × cS))) [.int x1] k0 cal_X6_checkNode q_17_7 ⟨Nat.le_of_ble_eq_true rfl, Nat.le_of_ble_eq_true rfl⟩ rfl rfl (Nat.le_of_ble_eq_true rfl) rfl hk0.1 (ce6 hk0.1 _ _) (ctX6_checkNode_n (kl K) G X.2.2.2.2.2.2.2.1 h σ k0 hk0 x1) (ctX6_checkNode_x (kl K) G X.2.2.2.2.2.2.2.1 h σ k0 hk0 x1) dX6_setCapacity_2 (fun _ => rfl) (fun _ => rfl) (fun r1 => ?_)
  refine z_iload_n X dX6_setCapacity_5 2 rfl ?_
  refine z_if_lt X 15 dX6_setCapacity_6 (by decide) ?_ ?_
  · exact z_sub [] rfl (sX6_setCapacity_15 X Nf k0 hk0 h σ)
  · refine z_iload_n X dX6_setCapacity_9 2 rfl ?_
    refine z_bipush (v := (40 : Int32)) X dX6_setCapacity_10 (by decide) ?_
    refine z_icmp_le X 25 dX6_setCapacity_12 (by decide) ?_ ?_
    · refine z_aload_n X dX6_setCapacity_25 0 rfl ?_
      refine z_get X inlX6 rfl hk0.1 (ce6 hk0.1 _ _) 0 (by decide) q_1_13 rfl dX6_setCapacity_26 ?_
      refine z_getN X inlX0 rfl hk0.2.1.1 (ce0 hk0.2.1.1 _ _) 6 (by decide) n_8 rfl dX6_setCapacity_29 ?_
      refine z_iload_n X dX6_setCapacity_32 1 rfl ?_
      refine z_callV0 X (g := (fun r2 : Int32 => ((some (.int r2), h, σ) : Option Value × Int64 × cS))) (st := []) (st1 := (fun r2 : Int32 => [.int r2])) (rmf := 0) (rml := 0) [.int x1] 13 cal_X4_get q_10_14 ⟨Nat.le_of_ble_eq_true rfl, Nat.le_of_ble_eq_true rfl⟩ rfl rfl (Nat.le_of_ble_eq_true rfl) rfl hk0.2.1.2.2.2.2.2.2.2.1 (ce4 hk0.2.1.2.2.2.2.2.2.2.1 _ _) (ctX4_get (kl K) G X.2.2.2.2.2.2.2.1 h σ 13 hk0.2.1.2.2.2.2.2.2.2 x1) dX6_setCapacity_33 (fun _ => rfl) (fun r2 => ?_)
      refine z_istore_n X [(3, .int r2), (0, .ref (la G k0)), (1, .int x1), (2, .int x2)] dX6_setCapacity_36 (by decide) rfl ?_
      refine z_aload_n X dX6_setCapacity_37 1 rfl ?_
      refine z_get X inlX6 rfl hk0.1 (ce6 hk0.1 _ _) 5 (by decide) q_2_6 rfl dX6_setCapacity_38 ?_
      refine z_aload_n X dX6_setCapacity_41 1 rfl ?_
      refine z_get X inlX6 rfl hk0.1 (ce6 hk0.1 _ _) 0 (by decide) q_1_13 rfl dX6_setCapacity_42 ?_
      refine z_callV0 X (g := (fun r3 : cS => ((none, h, r3) : Option Value × Int64 × cS))) (st := []) (st1 := (fun r3 : cS => [])) (rmf := 2) (rml := 43) [.ref (la G 0)] 105 cal_X1_save q_12_14 ⟨Nat.le_of_ble_eq_true rfl, Nat.le_of_ble_eq_true rfl⟩ rfl rfl (Nat.le_of_ble_eq_true rfl) rfl hk0.2.2.2.2.2.2.1 (ce1 hk0.2.2.2.2.2.2.1 _ _) (ctX1_save (kl K) G X.2.2.2.2.2.2.2.1 Nf h σ 105 hk0.2.2.2.2.2.2 0 hk0.2.1 ) dX6_setCapacity_45 (fun _ => rfl) (fun r3 => ?_)
      refine z_aload_n X dX6_setCapacity_48 1 rfl ?_
      refine z_get X inlX6 rfl hk0.1 (ce6 hk0.1 _ _) 0 (by decide) q_1_13 rfl dX6_setCapacity_49 ?_
      refine z_getN X inlX0 rfl hk0.2.1.1 (ce0 hk0.2.1.1 _ _) 6 (by decide) n_8 rfl dX6_setCapacity_52 ?_
      refine z_iload_n X dX6_setCapacity_55 2 rfl ?_
      refine z_iload_n X dX6_setCapacity_56 3 rfl ?_
      refine z_callV0 X (g := (fun r4 : cS => ((none, h, r4) : Option Value × Int64 × cS))) (st := []) (st1 := (fun r4 : cS => [])) (rmf := 0) (rml := 0) [.int x1, .int x2] 13 cal_X4_set q_16_18 ⟨Nat.le_of_ble_eq_true rfl, Nat.le_of_ble_eq_true rfl⟩ rfl rfl (Nat.le_of_ble_eq_true rfl) rfl hk0.2.1.2.2.2.2.2.2.2.1 (ce4 hk0.2.1.2.2.2.2.2.2.2.1 _ _) (ctX4_set (kl K) G X.2.2.2.2.2.2.2.1 h r3 13 hk0.2.1.2.2.2.2.2.2.2 x1 x2) dX6_setCapacity_57 (fun _ => rfl) (fun r4 => ?_)
      refine z_iload_n X dX6_setCapacity_60 0 rfl ?_
      exact z_xiret X rfl dX6_setCapacity_61
    · exact z_sub [] rfl (sX6_setCapacity_15 X Nf k0 hk0 h σ)
def fX6_setCapacity (L : Nat → Nat) (Nf : Nat) (σ : cS) (k0 : Nat) (x1 : Int32) (x2 : Int32) : Option ((Int32 × cS) ⊕ (Nat × cS)) := fX6_setCapacity_0 L Nf k0 x1 x2 σ
set_option maxHeartbeats 4000000 in
set_option maxRecDepth 100000 in
theorem ctX6_setCapacity_n (l : Launch) (G : Lay) (hi : Inj G) (Nf : Nat) (h : Int64) (σ : cS) (k0 : Nat) (hk0 : isEH G k0) (x1 : Int32) (x2 : Int32) : ∀ r, fX6_setCapacity (ll G) Nf σ k0 x1 x2 = some (.inl r) → CM l yX6_setCapacity cX6_setCapacity 4 (some .int) 7 111 G [.ref (la G k0), .int x1, .int x2] h σ (some (.int r.1), h, r.2) := by
  refine cm_ofX (g := (fun r : (Int32 × cS) => ((some (.int r.1), h, r.2) : Option Value × Int64 × cS))) (gx := (fun r : Nat × cS => ((exN r.1, h, r.2) : String × Int64 × cS))) (by decide) hi (Nat.le_of_ble_eq_true rfl) (fun K hKl X => ?_)
  unfold fX6_setCapacity
  exact z_sub [0, 1, 2] rfl (sX6_setCapacity_0 X Nf k0 hk0 h x1 x2 σ)
set_option maxHeartbeats 4000000 in
set_option maxRecDepth 100000 in
theorem ctX6_setCapacity_x (l : Launch) (G : Lay) (hi : Inj G) (Nf : Nat) (h : Int64) (σ : cS) (k0 : Nat) (hk0 : isEH G k0) (x1 : Int32) (x2 : Int32) (hfl : l.stackTraces = false) : ∀ r, fX6_setCapacity (ll G) Nf σ k0 x1 x2 = some (.inr r) → CX l yX6_setCapacity cX6_setCapacity 4 (some .int) 7 111 G [.ref (la G k0), .int x1, .int x2] h σ (exN r.1, h, r.2) := by
  refine cx_of (g := (fun r : (Int32 × cS) => ((some (.int r.1), h, r.2) : Option Value × Int64 × cS))) (gx := (fun r : Nat × cS => ((exN r.1, h, r.2) : String × Int64 × cS))) (by decide) hi hfl (Nat.le_of_ble_eq_true rfl) (fun K hKl X => ?_)
  unfold fX6_setCapacity
  exact z_sub [0, 1, 2] rfl (sX6_setCapacity_0 X Nf k0 hk0 h x1 x2 σ)
def fX6_node_0 (L : Nat → Nat) (Nf : Nat) (k0 : Nat) (x1 : Int32) (x2 : Int32) (σ : cS) : Option ((Int32 × cS) ⊕ (Nat × cS)) := xbn (fX6_checkNode σ k0 x1) (fun r : Nat => (r, σ)) (fun r1 => if x2 = (0 : Int32) then (Option.bind (fX4_get L σ 11 x1) (fun r2 => some (.inl (r2, σ)))) else (if x2 = (1 : Int32) then (Option.bind (fX0_edgesOf L Nf σ 0 x1) (fun r3 => some (.inl (r3, σ)))) else (if x2 = (2 : Int32) then (Option.bind (fX4_get L σ 13 x1) (fun r4 => some (.inl (r4, σ)))) else (if x2 = (3 : Int32) then (Option.bind (fX0_neighboursOf L Nf σ 0 x1) (fun r5 => Option.bind (fJ6_bitCount_0f7a4 σ r5) (fun r6 => some (.inl (r6, σ))))) else (if x2 = (4 : Int32) then (Option.bind (fX5_visitFrom L Nf σ 90 0 x1) (fun r7 => some (.inl ((r7 90 5), r7)))) else (some (.inr (1, σ))))))))
set_option maxHeartbeats 4000000 in
set_option maxRecDepth 100000 in
theorem sX6_node_0 {K : MCx} {G : Lay} (X : Cx K G RX6 cX6_node 3 (some .int) 7 111) (Nf : Nat) (k0 : Nat) (hk0 : isEH G k0) (h : Int64) (x1 : Int32) (x2 : Int32) (σ : cS) : Sm K G (PX K G) (QX K G (fun r : (Int32 × cS) => ((some (.int r.1), h, r.2) : Option Value × Int64 × cS)) (fun r : Nat × cS => ((exN r.1, h, r.2) : String × Int64 × cS))) 3 0 [(0, .ref (la G k0)), (1, .int x1), (2, .int x2)] [] h σ (fX6_node_0 (ll G) Nf k0 x1 x2 σ) := by
  unfold fX6_node_0
  refine z_aload_n X dX6_node_0 0 rfl ?_
  refine z_iload_n X dX6_node_1 1 rfl ?_
  refine z_callVX X (g := (fun r1 : Unit => ((none, h, σ) : Option Value × Int64 × cS))) (st := []) (st1 := (fun r1 : Unit => [])) (rmf := 6) (rml := 90) (gx := (fun r : Nat => ((exN r, h, σ) : String × Int64 × cS))) [.int x1] k0 cal_X6_checkNode q_17_7 ⟨Nat.le_of_ble_eq_true rfl, Nat.le_of_ble_eq_true rfl⟩ rfl rfl (Nat.le_of_ble_eq_true rfl) rfl hk0.1 (ce6 hk0.1 _ _) (ctX6_checkNode_n (kl K) G X.2.2.2.2.2.2.2.1 h σ k0 hk0 x1) (ctX6_checkNode_x (kl K) G X.2.2.2.2.2.2.2.1 h σ k0 hk0 x1) dX6_node_2 (fun _ => rfl) (fun _ => rfl) (fun r1 => ?_)
  refine z_iload_n X dX6_node_5 2 rfl ?_
  refine z_ite (fun c0 => ?_) (fun c0 => ?_)
  · refine z_tsIn (off := 34) X 40 dX6_node_6 (by rw [c0]; decide) (by rw [c0]; decide) (by rw [c0]; rfl) (by decide) ?_
    refine z_aload_n X dX6_node_40 0 rfl ?_
    refine z_get X inlX6 rfl hk0.1 (ce6 hk0.1 _ _) 0 (by decide) q_1_13 rfl dX6_node_41 ?_
    refine z_getN X inlX0 rfl hk0.2.1.1 (ce0 hk0.2.1.1 _ _) 5 (by decide) n_7 rfl dX6_node_44 ?_
    refine z_iload_n X dX6_node_47 1 rfl ?_
    refine z_callV0 X (g := (fun r2 : Int32 => ((some (.int r2), h, σ) : Option Value × Int64 × cS))) (st := []) (st1 := (fun r2 : Int32 => [.int r2])) (rmf := 0) (rml := 0) [.int x1] 11 cal_X4_get q_10_14 ⟨Nat.le_of_ble_eq_true rfl, Nat.le_of_ble_eq_true rfl⟩ rfl rfl (Nat.le_of_ble_eq_true rfl) rfl hk0.2.1.2.2.2.2.2.2.1.1 (ce4 hk0.2.1.2.2.2.2.2.2.1.1 _ _) (ctX4_get (kl K) G X.2.2.2.2.2.2.2.1 h σ 11 hk0.2.1.2.2.2.2.2.2.1 x1) dX6_node_48 (fun _ => rfl) (fun r2 => ?_)
    exact z_xiret X rfl dX6_node_51
  · refine z_ite (fun c1 => ?_) (fun c1 => ?_)
    · refine z_tsIn (off := 46) X 52 dX6_node_6 (by rw [c1]; decide) (by rw [c1]; decide) (by rw [c1]; rfl) (by decide) ?_
      refine z_aload_n X dX6_node_52 0 rfl ?_
      refine z_get X inlX6 rfl hk0.1 (ce6 hk0.1 _ _) 0 (by decide) q_1_13 rfl dX6_node_53 ?_
      refine z_iload_n X dX6_node_56 1 rfl ?_
      refine z_callV0 X (g := (fun r3 : Int32 => ((some (.int r3), h, σ) : Option Value × Int64 × cS))) (st := []) (st1 := (fun r3 : Int32 => [.int r3])) (rmf := 2) (rml := 42) [.int x1] 0 cal_X0_edgesOf q_17_13 ⟨Nat.le_of_ble_eq_true rfl, Nat.le_of_ble_eq_true rfl⟩ rfl rfl (Nat.le_of_ble_eq_true rfl) rfl hk0.2.1.1 (ce0 hk0.2.1.1 _ _) (ctX0_edgesOf (kl K) G X.2.2.2.2.2.2.2.1 Nf h σ 0 hk0.2.1 x1) dX6_node_57 (fun _ => rfl) (fun r3 => ?_)
      exact z_xiret X rfl dX6_node_60
    · refine z_ite (fun c2 => ?_) (fun c2 => ?_)
      · refine z_tsIn (off := 55) X 61 dX6_node_6 (by rw [c2]; decide) (by rw [c2]; decide) (by rw [c2]; rfl) (by decide) ?_
        refine z_aload_n X dX6_node_61 0 rfl ?_
        refine z_get X inlX6 rfl hk0.1 (ce6 hk0.1 _ _) 0 (by decide) q_1_13 rfl dX6_node_62 ?_
        refine z_getN X inlX0 rfl hk0.2.1.1 (ce0 hk0.2.1.1 _ _) 6 (by decide) n_8 rfl dX6_node_65 ?_
        refine z_iload_n X dX6_node_68 1 rfl ?_
        refine z_callV0 X (g := (fun r4 : Int32 => ((some (.int r4), h, σ) : Option Value × Int64 × cS))) (st := []) (st1 := (fun r4 : Int32 => [.int r4])) (rmf := 0) (rml := 0) [.int x1] 13 cal_X4_get q_10_14 ⟨Nat.le_of_ble_eq_true rfl, Nat.le_of_ble_eq_true rfl⟩ rfl rfl (Nat.le_of_ble_eq_true rfl) rfl hk0.2.1.2.2.2.2.2.2.2.1 (ce4 hk0.2.1.2.2.2.2.2.2.2.1 _ _) (ctX4_get (kl K) G X.2.2.2.2.2.2.2.1 h σ 13 hk0.2.1.2.2.2.2.2.2.2 x1) dX6_node_69 (fun _ => rfl) (fun r4 => ?_)
        exact z_xiret X rfl dX6_node_72
      · refine z_ite (fun c3 => ?_) (fun c3 => ?_)
        · refine z_tsIn (off := 67) X 73 dX6_node_6 (by rw [c3]; decide) (by rw [c3]; decide) (by rw [c3]; rfl) (by decide) ?_
          refine z_aload_n X dX6_node_73 0 rfl ?_
          refine z_get X inlX6 rfl hk0.1 (ce6 hk0.1 _ _) 0 (by decide) q_1_13 rfl dX6_node_74 ?_
          refine z_iload_n X dX6_node_77 1 rfl ?_
          refine z_callV0 X (g := (fun r5 : Int32 => ((some (.int r5), h, σ) : Option Value × Int64 × cS))) (st := []) (st1 := (fun r5 : Int32 => [.int r5])) (rmf := 2) (rml := 42) [.int x1] 0 cal_X0_neighboursOf q_17_17 ⟨Nat.le_of_ble_eq_true rfl, Nat.le_of_ble_eq_true rfl⟩ rfl rfl (Nat.le_of_ble_eq_true rfl) rfl hk0.2.1.1 (ce0 hk0.2.1.1 _ _) (ctX0_neighboursOf (kl K) G X.2.2.2.2.2.2.2.1 Nf h σ 0 hk0.2.1 x1) dX6_node_78 (fun _ => rfl) (fun r5 => ?_)
          refine z_callS0 X (g := (fun r6 : Int32 => ((some (.int r6), h, σ) : Option Value × Int64 × cS))) (st := []) (st1 := (fun r6 : Int32 => [.int r6])) (rmf := 0) (rml := 0) [.int r5] cal_J6_bitCount_0f7a4 q_9_17 ⟨Nat.le_of_ble_eq_true rfl, Nat.le_of_ble_eq_true rfl⟩ rfl rfl (Nat.le_of_ble_eq_true rfl) (ctJ6_bitCount_0f7a4 (kl K) G X.2.2.2.2.2.2.2.1 h σ r5) dX6_node_81 (fun _ => rfl) (fun r6 => ?_)
          exact z_xiret X rfl dX6_node_84
        · refine z_ite (fun c4 => ?_) (fun c4 => ?_)
          · refine z_tsIn (off := 79) X 85 dX6_node_6 (by rw [c4]; decide) (by rw [c4]; decide) (by rw [c4]; rfl) (by decide) ?_
            refine z_aload_n X dX6_node_85 0 rfl ?_
            refine z_get X inlX6 rfl hk0.1 (ce6 hk0.1 _ _) 2 (by decide) q_1_18 rfl dX6_node_86 ?_
            refine z_aload_n X dX6_node_89 0 rfl ?_
            refine z_get X inlX6 rfl hk0.1 (ce6 hk0.1 _ _) 0 (by decide) q_1_13 rfl dX6_node_90 ?_
            refine z_iload_n X dX6_node_93 1 rfl ?_
            refine z_callV0 X (g := (fun r7 : cS => ((none, h, r7) : Option Value × Int64 × cS))) (st := []) (st1 := (fun r7 : cS => [])) (rmf := 2) (rml := 45) [.ref (la G 0), .int x1] 90 cal_X5_visitFrom q_17_21 ⟨Nat.le_of_ble_eq_true rfl, Nat.le_of_ble_eq_true rfl⟩ rfl rfl (Nat.le_of_ble_eq_true rfl) rfl hk0.2.2.2.1.1 (ce5 hk0.2.2.2.1.1 _ _) (ctX5_visitFrom (kl K) G X.2.2.2.2.2.2.2.1 Nf h σ 90 hk0.2.2.2.1 0 hk0.2.1 x1) dX6_node_94 (fun _ => rfl) (fun r7 => ?_)
            refine z_aload_n X dX6_node_97 0 rfl ?_
            refine z_get X inlX6 rfl hk0.1 (ce6 hk0.1 _ _) 2 (by decide) q_1_18 rfl dX6_node_98 ?_
            refine z_getN X inlX5 rfl hk0.2.2.2.1.1 (ce5 hk0.2.2.2.1.1 _ _) 5 (by decide) n_16 rfl dX6_node_101 ?_
            exact z_xiret X rfl dX6_node_104
          · refine z_tsOut X 105 dX6_node_6 (by decide) (ts_out_0_4 c0 c1 c2 c3 c4) ?_
            exact z_throw X (List.mem_of_getElem? (i := 4) rfl) th_1 q_6_6 q_6_7 dX6_node_105 dX6_node_108 dX6_node_109 dX6_node_111 dX6_node_114 rfl (by decide) (Nat.le_of_ble_eq_true rfl)
def fX6_node (L : Nat → Nat) (Nf : Nat) (σ : cS) (k0 : Nat) (x1 : Int32) (x2 : Int32) : Option ((Int32 × cS) ⊕ (Nat × cS)) := fX6_node_0 L Nf k0 x1 x2 σ
set_option maxHeartbeats 4000000 in
set_option maxRecDepth 100000 in
theorem ctX6_node_n (l : Launch) (G : Lay) (hi : Inj G) (Nf : Nat) (h : Int64) (σ : cS) (k0 : Nat) (hk0 : isEH G k0) (x1 : Int32) (x2 : Int32) : ∀ r, fX6_node (ll G) Nf σ k0 x1 x2 = some (.inl r) → CM l yX6_node cX6_node 3 (some .int) 7 111 G [.ref (la G k0), .int x1, .int x2] h σ (some (.int r.1), h, r.2) := by
  refine cm_ofX (g := (fun r : (Int32 × cS) => ((some (.int r.1), h, r.2) : Option Value × Int64 × cS))) (gx := (fun r : Nat × cS => ((exN r.1, h, r.2) : String × Int64 × cS))) (by decide) hi (Nat.le_of_ble_eq_true rfl) (fun K hKl X => ?_)
  unfold fX6_node
  exact z_sub [0, 1, 2] rfl (sX6_node_0 X Nf k0 hk0 h x1 x2 σ)
set_option maxHeartbeats 4000000 in
set_option maxRecDepth 100000 in
theorem ctX6_node_x (l : Launch) (G : Lay) (hi : Inj G) (Nf : Nat) (h : Int64) (σ : cS) (k0 : Nat) (hk0 : isEH G k0) (x1 : Int32) (x2 : Int32) (hfl : l.stackTraces = false) : ∀ r, fX6_node (ll G) Nf σ k0 x1 x2 = some (.inr r) → CX l yX6_node cX6_node 3 (some .int) 7 111 G [.ref (la G k0), .int x1, .int x2] h σ (exN r.1, h, r.2) := by
  refine cx_of (g := (fun r : (Int32 × cS) => ((some (.int r.1), h, r.2) : Option Value × Int64 × cS))) (gx := (fun r : Nat × cS => ((exN r.1, h, r.2) : String × Int64 × cS))) (by decide) hi hfl (Nat.le_of_ble_eq_true rfl) (fun K hKl X => ?_)
  unfold fX6_node
  exact z_sub [0, 1, 2] rfl (sX6_node_0 X Nf k0 hk0 h x1 x2 σ)
def fX6_edge_0 (L : Nat → Nat) (Nf : Nat) (σ : cS) (k0 : Nat) (x1 : Int32) (x2 : Int32)  : Option (Int32 ⊕ Nat) := xbn (fX6_checkedSlot L Nf σ k0 x1) (fun r => r) (fun r1 => if x2 = (0 : Int32) then (Option.bind (fX4_get L σ 3 r1) (fun r2 => some (.inl r2))) else (if x2 = (1 : Int32) then (Option.bind (fX4_get L σ 5 r1) (fun r3 => some (.inl r3))) else (if x2 = (2 : Int32) then (Option.bind (fX4_get L σ 7 r1) (fun r4 => some (.inl r4))) else (if x2 = (3 : Int32) then (Option.bind (fX4_get L σ 9 r1) (fun r5 => some (.inl r5))) else (some (.inr 1))))))
set_option maxHeartbeats 4000000 in
set_option maxRecDepth 100000 in
theorem sX6_edge_0 {K : MCx} {G : Lay} (X : Cx K G RX6 cX6_edge 4 (some .int) 7 112) (Nf : Nat) (k0 : Nat) (hk0 : isEH G k0) (h : Int64) (σ : cS) (x1 : Int32) (x2 : Int32) : Sm K G (PX K G) (QX K G (fun r : Int32 => ((some (.int r), h, σ) : Option Value × Int64 × cS)) (fun r : Nat => ((exN r, h, σ) : String × Int64 × cS))) 4 0 [(0, .ref (la G k0)), (1, .int x1), (2, .int x2)] [] h σ (fX6_edge_0 (ll G) Nf σ k0 x1 x2) := by
  unfold fX6_edge_0
  refine z_aload_n X dX6_edge_0 0 rfl ?_
  refine z_iload_n X dX6_edge_1 1 rfl ?_
  refine z_callVX X (g := (fun r1 : Int32 => ((some (.int r1), h, σ) : Option Value × Int64 × cS))) (st := []) (st1 := (fun r1 : Int32 => [.int r1])) (rmf := 6) (rml := 90) (gx := (fun r : Nat => ((exN r, h, σ) : String × Int64 × cS))) [.int x1] k0 cal_X6_checkedSlot q_18_6 ⟨Nat.le_of_ble_eq_true rfl, Nat.le_of_ble_eq_true rfl⟩ rfl rfl (Nat.le_of_ble_eq_true rfl) rfl hk0.1 (ce6 hk0.1 _ _) (ctX6_checkedSlot_n (kl K) G X.2.2.2.2.2.2.2.1 Nf h σ k0 hk0 x1) (ctX6_checkedSlot_x (kl K) G X.2.2.2.2.2.2.2.1 Nf h σ k0 hk0 x1) dX6_edge_2 (fun _ => rfl) (fun _ => rfl) (fun r1 => ?_)
  refine z_istore_n X [(3, .int r1), (0, .ref (la G k0)), (1, .int x1), (2, .int x2)] dX6_edge_5 (by decide) rfl ?_
  refine z_iload_n X dX6_edge_6 3 rfl ?_
  refine z_ite (fun c0 => ?_) (fun c0 => ?_)
  · refine z_tsIn (off := 29) X 36 dX6_edge_7 (by rw [c0]; decide) (by rw [c0]; decide) (by rw [c0]; rfl) (by decide) ?_
    refine z_aload_n X dX6_edge_36 1 rfl ?_
    refine z_get X inlX6 rfl hk0.1 (ce6 hk0.1 _ _) 0 (by decide) q_1_13 rfl dX6_edge_37 ?_
    refine z_getN X inlX0 rfl hk0.2.1.1 (ce0 hk0.2.1.1 _ _) 1 (by decide) n_1 rfl dX6_edge_40 ?_
    refine z_iload_n X dX6_edge_43 0 rfl ?_
    refine z_callV0 X (g := (fun r2 : Int32 => ((some (.int r2), h, σ) : Option Value × Int64 × cS))) (st := []) (st1 := (fun r2 : Int32 => [.int r2])) (rmf := 0) (rml := 0) [.int r1] 3 cal_X4_get q_10_14 ⟨Nat.le_of_ble_eq_true rfl, Nat.le_of_ble_eq_true rfl⟩ rfl rfl (Nat.le_of_ble_eq_true rfl) rfl hk0.2.1.2.2.1.1 (ce4 hk0.2.1.2.2.1.1 _ _) (ctX4_get (kl K) G X.2.2.2.2.2.2.2.1 h σ 3 hk0.2.1.2.2.1 r1) dX6_edge_44 (fun _ => rfl) (fun r2 => ?_)
    exact z_xiret X rfl dX6_edge_47
  · refine z_ite (fun c1 => ?_) (fun c1 => ?_)
    · refine z_tsIn (off := 41) X 48 dX6_edge_7 (by rw [c1]; decide) (by rw [c1]; decide) (by rw [c1]; rfl) (by decide) ?_
      refine z_aload_n X dX6_edge_48 1 rfl ?_
      refine z_get X inlX6 rfl hk0.1 (ce6 hk0.1 _ _) 0 (by decide) q_1_13 rfl dX6_edge_49 ?_
      refine z_getN X inlX0 rfl hk0.2.1.1 (ce0 hk0.2.1.1 _ _) 2 (by decide) n_2 rfl dX6_edge_52 ?_
      refine z_iload_n X dX6_edge_55 0 rfl ?_
      refine z_callV0 X (g := (fun r3 : Int32 => ((some (.int r3), h, σ) : Option Value × Int64 × cS))) (st := []) (st1 := (fun r3 : Int32 => [.int r3])) (rmf := 0) (rml := 0) [.int r1] 5 cal_X4_get q_10_14 ⟨Nat.le_of_ble_eq_true rfl, Nat.le_of_ble_eq_true rfl⟩ rfl rfl (Nat.le_of_ble_eq_true rfl) rfl hk0.2.1.2.2.2.1.1 (ce4 hk0.2.1.2.2.2.1.1 _ _) (ctX4_get (kl K) G X.2.2.2.2.2.2.2.1 h σ 5 hk0.2.1.2.2.2.1 r1) dX6_edge_56 (fun _ => rfl) (fun r3 => ?_)
      exact z_xiret X rfl dX6_edge_59
    · refine z_ite (fun c2 => ?_) (fun c2 => ?_)
      · refine z_tsIn (off := 53) X 60 dX6_edge_7 (by rw [c2]; decide) (by rw [c2]; decide) (by rw [c2]; rfl) (by decide) ?_
        refine z_aload_n X dX6_edge_60 1 rfl ?_
        refine z_get X inlX6 rfl hk0.1 (ce6 hk0.1 _ _) 0 (by decide) q_1_13 rfl dX6_edge_61 ?_
        refine z_getN X inlX0 rfl hk0.2.1.1 (ce0 hk0.2.1.1 _ _) 3 (by decide) n_4 rfl dX6_edge_64 ?_
        refine z_iload_n X dX6_edge_67 0 rfl ?_
        refine z_callV0 X (g := (fun r4 : Int32 => ((some (.int r4), h, σ) : Option Value × Int64 × cS))) (st := []) (st1 := (fun r4 : Int32 => [.int r4])) (rmf := 0) (rml := 0) [.int r1] 7 cal_X4_get q_10_14 ⟨Nat.le_of_ble_eq_true rfl, Nat.le_of_ble_eq_true rfl⟩ rfl rfl (Nat.le_of_ble_eq_true rfl) rfl hk0.2.1.2.2.2.2.1.1 (ce4 hk0.2.1.2.2.2.2.1.1 _ _) (ctX4_get (kl K) G X.2.2.2.2.2.2.2.1 h σ 7 hk0.2.1.2.2.2.2.1 r1) dX6_edge_68 (fun _ => rfl) (fun r4 => ?_)
        exact z_xiret X rfl dX6_edge_71
      · refine z_ite (fun c3 => ?_) (fun c3 => ?_)
        · refine z_tsIn (off := 65) X 72 dX6_edge_7 (by rw [c3]; decide) (by rw [c3]; decide) (by rw [c3]; rfl) (by decide) ?_
          refine z_aload_n X dX6_edge_72 1 rfl ?_
          refine z_get X inlX6 rfl hk0.1 (ce6 hk0.1 _ _) 0 (by decide) q_1_13 rfl dX6_edge_73 ?_
          refine z_getN X inlX0 rfl hk0.2.1.1 (ce0 hk0.2.1.1 _ _) 4 (by decide) n_5 rfl dX6_edge_76 ?_
          refine z_iload_n X dX6_edge_79 0 rfl ?_
          refine z_callV0 X (g := (fun r5 : Int32 => ((some (.int r5), h, σ) : Option Value × Int64 × cS))) (st := []) (st1 := (fun r5 : Int32 => [.int r5])) (rmf := 0) (rml := 0) [.int r1] 9 cal_X4_get q_10_14 ⟨Nat.le_of_ble_eq_true rfl, Nat.le_of_ble_eq_true rfl⟩ rfl rfl (Nat.le_of_ble_eq_true rfl) rfl hk0.2.1.2.2.2.2.2.1.1 (ce4 hk0.2.1.2.2.2.2.2.1.1 _ _) (ctX4_get (kl K) G X.2.2.2.2.2.2.2.1 h σ 9 hk0.2.1.2.2.2.2.2.1 r1) dX6_edge_80 (fun _ => rfl) (fun r5 => ?_)
          exact z_xiret X rfl dX6_edge_83
        · refine z_tsOut X 84 dX6_edge_7 (by decide) (ts_out_0_3 c0 c1 c2 c3) ?_
          exact z_throw X (List.mem_of_getElem? (i := 4) rfl) th_1 q_6_6 q_6_7 dX6_edge_84 dX6_edge_87 dX6_edge_88 dX6_edge_90 dX6_edge_93 rfl (by decide) (Nat.le_of_ble_eq_true rfl)
def fX6_edge (L : Nat → Nat) (Nf : Nat) (σ : cS) (k0 : Nat) (x1 : Int32) (x2 : Int32) : Option (Int32 ⊕ Nat) := fX6_edge_0 L Nf σ k0 x1 x2
set_option maxHeartbeats 4000000 in
set_option maxRecDepth 100000 in
theorem ctX6_edge_n (l : Launch) (G : Lay) (hi : Inj G) (Nf : Nat) (h : Int64) (σ : cS) (k0 : Nat) (hk0 : isEH G k0) (x1 : Int32) (x2 : Int32) : ∀ r, fX6_edge (ll G) Nf σ k0 x1 x2 = some (.inl r) → CM l yX6_edge cX6_edge 4 (some .int) 7 112 G [.ref (la G k0), .int x1, .int x2] h σ (some (.int r), h, σ) := by
  refine cm_ofX (g := (fun r : Int32 => ((some (.int r), h, σ) : Option Value × Int64 × cS))) (gx := (fun r : Nat => ((exN r, h, σ) : String × Int64 × cS))) (by decide) hi (Nat.le_of_ble_eq_true rfl) (fun K hKl X => ?_)
  unfold fX6_edge
  exact z_sub [0, 1, 2] rfl (sX6_edge_0 X Nf k0 hk0 h σ x1 x2)
set_option maxHeartbeats 4000000 in
set_option maxRecDepth 100000 in
theorem ctX6_edge_x (l : Launch) (G : Lay) (hi : Inj G) (Nf : Nat) (h : Int64) (σ : cS) (k0 : Nat) (hk0 : isEH G k0) (x1 : Int32) (x2 : Int32) (hfl : l.stackTraces = false) : ∀ r, fX6_edge (ll G) Nf σ k0 x1 x2 = some (.inr r) → CX l yX6_edge cX6_edge 4 (some .int) 7 112 G [.ref (la G k0), .int x1, .int x2] h σ (exN r, h, σ) := by
  refine cx_of (g := (fun r : Int32 => ((some (.int r), h, σ) : Option Value × Int64 × cS))) (gx := (fun r : Nat => ((exN r, h, σ) : String × Int64 × cS))) (by decide) hi hfl (Nat.le_of_ble_eq_true rfl) (fun K hKl X => ?_)
  unfold fX6_edge
  exact z_sub [0, 1, 2] rfl (sX6_edge_0 X Nf k0 hk0 h σ x1 x2)
def fX6_edgeAt_15 (L : Nat → Nat) (σ : cS) (k0 : Nat)  : Option (Int32 ⊕ Nat) := some (.inr 3)
set_option maxHeartbeats 4000000 in
set_option maxRecDepth 100000 in
theorem sX6_edgeAt_15 {K : MCx} {G : Lay} (X : Cx K G RX6 cX6_edgeAt 2 (some .int) 6 90) (k0 : Nat) (hk0 : isEH G k0) (h : Int64) (σ : cS) : Sm K G (PX K G) (QX K G (fun r : Int32 => ((some (.int r), h, σ) : Option Value × Int64 × cS)) (fun r : Nat => ((exN r, h, σ) : String × Int64 × cS))) 2 15 [] [] h σ (fX6_edgeAt_15 (ll G) σ k0) := by
  unfold fX6_edgeAt_15
  exact z_throw X (List.mem_of_getElem? (i := 5) rfl) th_3 q_17_11 q_17_12 dX6_edgeAt_15 dX6_edgeAt_18 dX6_edgeAt_19 dX6_edgeAt_21 dX6_edgeAt_24 rfl (by decide) (Nat.le_of_ble_eq_true rfl)
def fX6_edgeAt_0 (L : Nat → Nat) (σ : cS) (k0 : Nat) (x1 : Int32)  : Option (Int32 ⊕ Nat) := if x1 < 0 then (fX6_edgeAt_15 L σ k0) else (if x1 < (σ 0 8) then (Option.bind (fX4_get L σ 1 x1) (fun r1 => some (.inl r1))) else (fX6_edgeAt_15 L σ k0))
set_option maxHeartbeats 4000000 in
set_option maxRecDepth 100000 in
theorem sX6_edgeAt_0 {K : MCx} {G : Lay} (X : Cx K G RX6 cX6_edgeAt 2 (some .int) 6 90) (k0 : Nat) (hk0 : isEH G k0) (h : Int64) (σ : cS) (x1 : Int32) : Sm K G (PX K G) (QX K G (fun r : Int32 => ((some (.int r), h, σ) : Option Value × Int64 × cS)) (fun r : Nat => ((exN r, h, σ) : String × Int64 × cS))) 2 0 [(0, .ref (la G k0)), (1, .int x1)] [] h σ (fX6_edgeAt_0 (ll G) σ k0 x1) := by
  unfold fX6_edgeAt_0
  refine z_iload_n X dX6_edgeAt_0 1 rfl ?_
  refine z_if_lt X 15 dX6_edgeAt_1 (by decide) ?_ ?_
  · exact z_sub [] rfl (sX6_edgeAt_15 X k0 hk0 h σ)
  · refine z_iload_n X dX6_edgeAt_4 1 rfl ?_
    refine z_aload_n X dX6_edgeAt_5 0 rfl ?_
    refine z_get X inlX6 rfl hk0.1 (ce6 hk0.1 _ _) 0 (by decide) q_1_13 rfl dX6_edgeAt_6 ?_
    refine z_getN X inlX0 rfl hk0.2.1.1 (ce0 hk0.2.1.1 _ _) 8 (by decide) n_12 rfl dX6_edgeAt_9 ?_
    refine z_icmp_lt X 25 dX6_edgeAt_12 (by decide) ?_ ?_
    · refine z_aload_n X dX6_edgeAt_25 0 rfl ?_
      refine z_get X inlX6 rfl hk0.1 (ce6 hk0.1 _ _) 0 (by decide) q_1_13 rfl dX6_edgeAt_26 ?_
      refine z_getN X inlX0 rfl hk0.2.1.1 (ce0 hk0.2.1.1 _ _) 0 (by decide) n_0 rfl dX6_edgeAt_29 ?_
      refine z_iload_n X dX6_edgeAt_32 1 rfl ?_
      refine z_callV0 X (g := (fun r1 : Int32 => ((some (.int r1), h, σ) : Option Value × Int64 × cS))) (st := []) (st1 := (fun r1 : Int32 => [.int r1])) (rmf := 0) (rml := 0) [.int x1] 1 cal_X4_get q_10_14 ⟨Nat.le_of_ble_eq_true rfl, Nat.le_of_ble_eq_true rfl⟩ rfl rfl (Nat.le_of_ble_eq_true rfl) rfl hk0.2.1.2.1.1 (ce4 hk0.2.1.2.1.1 _ _) (ctX4_get (kl K) G X.2.2.2.2.2.2.2.1 h σ 1 hk0.2.1.2.1 x1) dX6_edgeAt_33 (fun _ => rfl) (fun r1 => ?_)
      exact z_xiret X rfl dX6_edgeAt_36
    · exact z_sub [] rfl (sX6_edgeAt_15 X k0 hk0 h σ)
def fX6_edgeAt (L : Nat → Nat) (σ : cS) (k0 : Nat) (x1 : Int32) : Option (Int32 ⊕ Nat) := fX6_edgeAt_0 L σ k0 x1
set_option maxHeartbeats 4000000 in
set_option maxRecDepth 100000 in
theorem ctX6_edgeAt_n (l : Launch) (G : Lay) (hi : Inj G) (h : Int64) (σ : cS) (k0 : Nat) (hk0 : isEH G k0) (x1 : Int32) : ∀ r, fX6_edgeAt (ll G) σ k0 x1 = some (.inl r) → CM l yX6_edgeAt cX6_edgeAt 2 (some .int) 6 90 G [.ref (la G k0), .int x1] h σ (some (.int r), h, σ) := by
  refine cm_ofX (g := (fun r : Int32 => ((some (.int r), h, σ) : Option Value × Int64 × cS))) (gx := (fun r : Nat => ((exN r, h, σ) : String × Int64 × cS))) (by decide) hi (Nat.le_of_ble_eq_true rfl) (fun K hKl X => ?_)
  unfold fX6_edgeAt
  exact z_sub [0, 1] rfl (sX6_edgeAt_0 X k0 hk0 h σ x1)
set_option maxHeartbeats 4000000 in
set_option maxRecDepth 100000 in
theorem ctX6_edgeAt_x (l : Launch) (G : Lay) (hi : Inj G) (h : Int64) (σ : cS) (k0 : Nat) (hk0 : isEH G k0) (x1 : Int32) (hfl : l.stackTraces = false) : ∀ r, fX6_edgeAt (ll G) σ k0 x1 = some (.inr r) → CX l yX6_edgeAt cX6_edgeAt 2 (some .int) 6 90 G [.ref (la G k0), .int x1] h σ (exN r, h, σ) := by
  refine cx_of (g := (fun r : Int32 => ((some (.int r), h, σ) : Option Value × Int64 × cS))) (gx := (fun r : Nat => ((exN r, h, σ) : String × Int64 × cS))) (by decide) hi hfl (Nat.le_of_ble_eq_true rfl) (fun K hKl X => ?_)
  unfold fX6_edgeAt
  exact z_sub [0, 1] rfl (sX6_edgeAt_0 X k0 hk0 h σ x1)
def fX6_value_0 (L : Nat → Nat) (Nf : Nat) (σ : cS) (k0 : Nat) (x1 : Int32)  : Option (Int32 ⊕ Nat) := if x1 = (0 : Int32) then (some (.inl (σ 0 7))) else (if x1 = (1 : Int32) then (some (.inl (σ 0 8))) else (if x1 = (2 : Int32) then (Option.bind (fX0_greatestLoad L Nf σ 0) (fun r1 => some (.inl r1))) else (if x1 = (3 : Int32) then (Option.bind (fX0_leastLoad L Nf σ 0) (fun r2 => some (.inl r2))) else (if x1 = (4 : Int32) then (Option.bind (fX0_squaresOfLoads L Nf σ 0) (fun r3 => some (.inl r3))) else (if x1 = (5 : Int32) then (some (.inl (σ 0 10))) else (if x1 = (6 : Int32) then (some (.inl (σ 0 9))) else (if x1 = (7 : Int32) then (Option.bind (fX0_overloadedNodes L Nf σ 0) (fun r4 => some (.inl r4))) else (some (.inr 1)))))))))
set_option maxHeartbeats 4000000 in
set_option maxRecDepth 100000 in
theorem sX6_value_0 {K : MCx} {G : Lay} (X : Cx K G RX6 cX6_value 2 (some .int) 6 90) (Nf : Nat) (k0 : Nat) (hk0 : isEH G k0) (h : Int64) (σ : cS) (x1 : Int32) : Sm K G (PX K G) (QX K G (fun r : Int32 => ((some (.int r), h, σ) : Option Value × Int64 × cS)) (fun r : Nat => ((exN r, h, σ) : String × Int64 × cS))) 2 0 [(0, .ref (la G k0)), (1, .int x1)] [] h σ (fX6_value_0 (ll G) Nf σ k0 x1) := by
  unfold fX6_value_0
  refine z_iload_n X dX6_value_0 1 rfl ?_
  refine z_ite (fun c0 => ?_) (fun c0 => ?_)
  · refine z_tsIn (off := 47) X 48 dX6_value_1 (by rw [c0]; decide) (by rw [c0]; decide) (by rw [c0]; rfl) (by decide) ?_
    refine z_aload_n X dX6_value_48 0 rfl ?_
    refine z_get X inlX6 rfl hk0.1 (ce6 hk0.1 _ _) 0 (by decide) q_1_13 rfl dX6_value_49 ?_
    refine z_getN X inlX0 rfl hk0.2.1.1 (ce0 hk0.2.1.1 _ _) 7 (by decide) n_11 rfl dX6_value_52 ?_
    exact z_xiret X rfl dX6_value_55
  · refine z_ite (fun c1 => ?_) (fun c1 => ?_)
    · refine z_tsIn (off := 55) X 56 dX6_value_1 (by rw [c1]; decide) (by rw [c1]; decide) (by rw [c1]; rfl) (by decide) ?_
      refine z_aload_n X dX6_value_56 0 rfl ?_
      refine z_get X inlX6 rfl hk0.1 (ce6 hk0.1 _ _) 0 (by decide) q_1_13 rfl dX6_value_57 ?_
      refine z_getN X inlX0 rfl hk0.2.1.1 (ce0 hk0.2.1.1 _ _) 8 (by decide) n_12 rfl dX6_value_60 ?_
      exact z_xiret X rfl dX6_value_63
    · refine z_ite (fun c2 => ?_) (fun c2 => ?_)
      · refine z_tsIn (off := 63) X 64 dX6_value_1 (by rw [c2]; decide) (by rw [c2]; decide) (by rw [c2]; rfl) (by decide) ?_
        refine z_aload_n X dX6_value_64 0 rfl ?_
        refine z_get X inlX6 rfl hk0.1 (ce6 hk0.1 _ _) 0 (by decide) q_1_13 rfl dX6_value_65 ?_
        refine z_callV0 X (g := (fun r1 : Int32 => ((some (.int r1), h, σ) : Option Value × Int64 × cS))) (st := []) (st1 := (fun r1 : Int32 => [.int r1])) (rmf := 1) (rml := 21) [] 0 cal_X0_greatestLoad q_6_8 ⟨Nat.le_of_ble_eq_true rfl, Nat.le_of_ble_eq_true rfl⟩ rfl rfl (Nat.le_of_ble_eq_true rfl) rfl hk0.2.1.1 (ce0 hk0.2.1.1 _ _) (ctX0_greatestLoad (kl K) G X.2.2.2.2.2.2.2.1 Nf h σ 0 hk0.2.1 ) dX6_value_68 (fun _ => rfl) (fun r1 => ?_)
        exact z_xiret X rfl dX6_value_71
      · refine z_ite (fun c3 => ?_) (fun c3 => ?_)
        · refine z_tsIn (off := 71) X 72 dX6_value_1 (by rw [c3]; decide) (by rw [c3]; decide) (by rw [c3]; rfl) (by decide) ?_
          refine z_aload_n X dX6_value_72 0 rfl ?_
          refine z_get X inlX6 rfl hk0.1 (ce6 hk0.1 _ _) 0 (by decide) q_1_13 rfl dX6_value_73 ?_
          refine z_callV0 X (g := (fun r2 : Int32 => ((some (.int r2), h, σ) : Option Value × Int64 × cS))) (st := []) (st1 := (fun r2 : Int32 => [.int r2])) (rmf := 1) (rml := 21) [] 0 cal_X0_leastLoad q_6_20 ⟨Nat.le_of_ble_eq_true rfl, Nat.le_of_ble_eq_true rfl⟩ rfl rfl (Nat.le_of_ble_eq_true rfl) rfl hk0.2.1.1 (ce0 hk0.2.1.1 _ _) (ctX0_leastLoad (kl K) G X.2.2.2.2.2.2.2.1 Nf h σ 0 hk0.2.1 ) dX6_value_76 (fun _ => rfl) (fun r2 => ?_)
          exact z_xiret X rfl dX6_value_79
        · refine z_ite (fun c4 => ?_) (fun c4 => ?_)
          · refine z_tsIn (off := 79) X 80 dX6_value_1 (by rw [c4]; decide) (by rw [c4]; decide) (by rw [c4]; rfl) (by decide) ?_
            refine z_aload_n X dX6_value_80 0 rfl ?_
            refine z_get X inlX6 rfl hk0.1 (ce6 hk0.1 _ _) 0 (by decide) q_1_13 rfl dX6_value_81 ?_
            refine z_callV0 X (g := (fun r3 : Int32 => ((some (.int r3), h, σ) : Option Value × Int64 × cS))) (st := []) (st1 := (fun r3 : Int32 => [.int r3])) (rmf := 1) (rml := 21) [] 0 cal_X0_squaresOfLoads q_7_3 ⟨Nat.le_of_ble_eq_true rfl, Nat.le_of_ble_eq_true rfl⟩ rfl rfl (Nat.le_of_ble_eq_true rfl) rfl hk0.2.1.1 (ce0 hk0.2.1.1 _ _) (ctX0_squaresOfLoads (kl K) G X.2.2.2.2.2.2.2.1 Nf h σ 0 hk0.2.1 ) dX6_value_84 (fun _ => rfl) (fun r3 => ?_)
            exact z_xiret X rfl dX6_value_87
          · refine z_ite (fun c5 => ?_) (fun c5 => ?_)
            · refine z_tsIn (off := 87) X 88 dX6_value_1 (by rw [c5]; decide) (by rw [c5]; decide) (by rw [c5]; rfl) (by decide) ?_
              refine z_aload_n X dX6_value_88 0 rfl ?_
              refine z_get X inlX6 rfl hk0.1 (ce6 hk0.1 _ _) 0 (by decide) q_1_13 rfl dX6_value_89 ?_
              refine z_getN X inlX0 rfl hk0.2.1.1 (ce0 hk0.2.1.1 _ _) 10 (by decide) n_15 rfl dX6_value_92 ?_
              exact z_xiret X rfl dX6_value_95
            · refine z_ite (fun c6 => ?_) (fun c6 => ?_)
              · refine z_tsIn (off := 95) X 96 dX6_value_1 (by rw [c6]; decide) (by rw [c6]; decide) (by rw [c6]; rfl) (by decide) ?_
                refine z_aload_n X dX6_value_96 0 rfl ?_
                refine z_get X inlX6 rfl hk0.1 (ce6 hk0.1 _ _) 0 (by decide) q_1_13 rfl dX6_value_97 ?_
                refine z_getN X inlX0 rfl hk0.2.1.1 (ce0 hk0.2.1.1 _ _) 9 (by decide) n_14 rfl dX6_value_100 ?_
                exact z_xiret X rfl dX6_value_103
              · refine z_ite (fun c7 => ?_) (fun c7 => ?_)
                · refine z_tsIn (off := 103) X 104 dX6_value_1 (by rw [c7]; decide) (by rw [c7]; decide) (by rw [c7]; rfl) (by decide) ?_
                  refine z_aload_n X dX6_value_104 0 rfl ?_
                  refine z_get X inlX6 rfl hk0.1 (ce6 hk0.1 _ _) 0 (by decide) q_1_13 rfl dX6_value_105 ?_
                  refine z_callV0 X (g := (fun r4 : Int32 => ((some (.int r4), h, σ) : Option Value × Int64 × cS))) (st := []) (st1 := (fun r4 : Int32 => [.int r4])) (rmf := 1) (rml := 21) [] 0 cal_X0_overloadedNodes q_7_7 ⟨Nat.le_of_ble_eq_true rfl, Nat.le_of_ble_eq_true rfl⟩ rfl rfl (Nat.le_of_ble_eq_true rfl) rfl hk0.2.1.1 (ce0 hk0.2.1.1 _ _) (ctX0_overloadedNodes (kl K) G X.2.2.2.2.2.2.2.1 Nf h σ 0 hk0.2.1 ) dX6_value_108 (fun _ => rfl) (fun r4 => ?_)
                  exact z_xiret X rfl dX6_value_111
                · refine z_tsOut X 112 dX6_value_1 (by decide) (ts_out_0_7 c0 c1 c2 c3 c4 c5 c6 c7) ?_
                  exact z_throw X (List.mem_of_getElem? (i := 4) rfl) th_1 q_6_6 q_6_7 dX6_value_112 dX6_value_115 dX6_value_116 dX6_value_118 dX6_value_121 rfl (by decide) (Nat.le_of_ble_eq_true rfl)
def fX6_value (L : Nat → Nat) (Nf : Nat) (σ : cS) (k0 : Nat) (x1 : Int32) : Option (Int32 ⊕ Nat) := fX6_value_0 L Nf σ k0 x1
set_option maxHeartbeats 4000000 in
set_option maxRecDepth 100000 in
theorem ctX6_value_n (l : Launch) (G : Lay) (hi : Inj G) (Nf : Nat) (h : Int64) (σ : cS) (k0 : Nat) (hk0 : isEH G k0) (x1 : Int32) : ∀ r, fX6_value (ll G) Nf σ k0 x1 = some (.inl r) → CM l yX6_value cX6_value 2 (some .int) 6 90 G [.ref (la G k0), .int x1] h σ (some (.int r), h, σ) := by
  refine cm_ofX (g := (fun r : Int32 => ((some (.int r), h, σ) : Option Value × Int64 × cS))) (gx := (fun r : Nat => ((exN r, h, σ) : String × Int64 × cS))) (by decide) hi (Nat.le_of_ble_eq_true rfl) (fun K hKl X => ?_)
  unfold fX6_value
  exact z_sub [0, 1] rfl (sX6_value_0 X Nf k0 hk0 h σ x1)
set_option maxHeartbeats 4000000 in
set_option maxRecDepth 100000 in
theorem ctX6_value_x (l : Launch) (G : Lay) (hi : Inj G) (Nf : Nat) (h : Int64) (σ : cS) (k0 : Nat) (hk0 : isEH G k0) (x1 : Int32) (hfl : l.stackTraces = false) : ∀ r, fX6_value (ll G) Nf σ k0 x1 = some (.inr r) → CX l yX6_value cX6_value 2 (some .int) 6 90 G [.ref (la G k0), .int x1] h σ (exN r, h, σ) := by
  refine cx_of (g := (fun r : Int32 => ((some (.int r), h, σ) : Option Value × Int64 × cS))) (gx := (fun r : Nat => ((exN r, h, σ) : String × Int64 × cS))) (by decide) hi hfl (Nat.le_of_ble_eq_true rfl) (fun K hKl X => ?_)
  unfold fX6_value
  exact z_sub [0, 1] rfl (sX6_value_0 X Nf k0 hk0 h σ x1)
