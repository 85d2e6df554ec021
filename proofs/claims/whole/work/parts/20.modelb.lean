theorem q_5_8 : Cond.fieldLink RX7 22 "EdgeHoldersModel" "queue" "[I" ∈ wsL_law := seg_5 _ (List.mem_of_getElem? (i := 8) rfl)
theorem q_5_9 : Cond.fieldLink RX7 25 "EdgeHoldersModel" "by" "[I" ∈ wsL_law := seg_5 _ (List.mem_of_getElem? (i := 9) rfl)
theorem q_5_10 : Cond.methodLink RX7 28 yX7_begins ∈ wsL_law := seg_5 _ (List.mem_of_getElem? (i := 10) rfl)
theorem q_5_11 : Cond.instanceMethod yX7_begins ∈ wsL_law := seg_5 _ (List.mem_of_getElem? (i := 11) rfl)
theorem q_5_12 : Cond.selects RX7 yX7_begins yX7_begins ∈ wsL_law := seg_5 _ (List.mem_of_getElem? (i := 12) rfl)
theorem q_5_13 : Cond.code yX7_begins cX7_begins 3 none ∈ wsL_law := seg_5 _ (List.mem_of_getElem? (i := 13) rfl)
theorem q_7_13 : Cond.methodLink RX7 57 yX7_save ∈ wsL_law := seg_7 _ (List.mem_of_getElem? (i := 13) rfl)
theorem q_7_14 : Cond.instanceMethod yX7_save ∈ wsL_law := seg_7 _ (List.mem_of_getElem? (i := 14) rfl)
theorem q_7_15 : Cond.selects RX7 yX7_save yX7_save ∈ wsL_law := seg_7 _ (List.mem_of_getElem? (i := 15) rfl)
theorem q_7_16 : Cond.code yX7_save cX7_save 2 none ∈ wsL_law := seg_7 _ (List.mem_of_getElem? (i := 16) rfl)
theorem q_9_23 : Cond.methodLink RX7 64 yX7_refusesAdd ∈ wsL_law := seg_9 _ (List.mem_of_getElem? (i := 23) rfl)
theorem q_10_0 : Cond.instanceMethod yX7_refusesAdd ∈ wsL_law := seg_10 _ (List.mem_of_getElem? (i := 0) rfl)
theorem q_10_1 : Cond.selects RX7 yX7_refusesAdd yX7_refusesAdd ∈ wsL_law := seg_10 _ (List.mem_of_getElem? (i := 1) rfl)
theorem q_10_2 : Cond.code yX7_refusesAdd cX7_refusesAdd 3 (some .boolean) ∈ wsL_law := seg_10 _ (List.mem_of_getElem? (i := 2) rfl)
theorem q_10_3 : Cond.methodLink RX7 60 yX7_isNode ∈ wsL_law := seg_10 _ (List.mem_of_getElem? (i := 3) rfl)
theorem q_10_4 : Cond.instanceMethod yX7_isNode ∈ wsL_law := seg_10 _ (List.mem_of_getElem? (i := 4) rfl)
theorem q_10_5 : Cond.selects RX7 yX7_isNode yX7_isNode ∈ wsL_law := seg_10 _ (List.mem_of_getElem? (i := 5) rfl)
theorem q_10_6 : Cond.code yX7_isNode cX7_isNode 2 (some .boolean) ∈ wsL_law := seg_10 _ (List.mem_of_getElem? (i := 6) rfl)
theorem q_10_7 : Cond.methodLink RX7 68 yX7_adds ∈ wsL_law := seg_10 _ (List.mem_of_getElem? (i := 7) rfl)
theorem q_10_8 : Cond.instanceMethod yX7_adds ∈ wsL_law := seg_10 _ (List.mem_of_getElem? (i := 8) rfl)
theorem q_10_9 : Cond.selects RX7 yX7_adds yX7_adds ∈ wsL_law := seg_10 _ (List.mem_of_getElem? (i := 9) rfl)
theorem q_10_10 : Cond.code yX7_adds cX7_adds 4 (some .int) ∈ wsL_law := seg_10 _ (List.mem_of_getElem? (i := 10) rfl)
theorem q_10_11 : Cond.methodLink RX7 54 yX7_load ∈ wsL_law := seg_10 _ (List.mem_of_getElem? (i := 11) rfl)
theorem q_10_12 : Cond.instanceMethod yX7_load ∈ wsL_law := seg_10 _ (List.mem_of_getElem? (i := 12) rfl)
theorem q_10_13 : Cond.selects RX7 yX7_load yX7_load ∈ wsL_law := seg_10 _ (List.mem_of_getElem? (i := 13) rfl)
theorem q_10_14 : Cond.code yX7_load cX7_load 4 (some .int) ∈ wsL_law := seg_10 _ (List.mem_of_getElem? (i := 14) rfl)
theorem q_12_1 : Cond.methodLink RX7 75 yX7_refusesEdge ∈ wsL_law := seg_12 _ (List.mem_of_getElem? (i := 1) rfl)
theorem q_12_2 : Cond.instanceMethod yX7_refusesEdge ∈ wsL_law := seg_12 _ (List.mem_of_getElem? (i := 2) rfl)
theorem q_12_3 : Cond.selects RX7 yX7_refusesEdge yX7_refusesEdge ∈ wsL_law := seg_12 _ (List.mem_of_getElem? (i := 3) rfl)
theorem q_12_4 : Cond.code yX7_refusesEdge cX7_refusesEdge 2 (some .boolean) ∈ wsL_law := seg_12 _ (List.mem_of_getElem? (i := 4) rfl)
theorem q_12_5 : Cond.methodLink RX7 72 yX7_placeOf ∈ wsL_law := seg_12 _ (List.mem_of_getElem? (i := 5) rfl)
theorem q_12_6 : Cond.instanceMethod yX7_placeOf ∈ wsL_law := seg_12 _ (List.mem_of_getElem? (i := 6) rfl)
theorem q_12_7 : Cond.selects RX7 yX7_placeOf yX7_placeOf ∈ wsL_law := seg_12 _ (List.mem_of_getElem? (i := 7) rfl)
theorem q_12_8 : Cond.code yX7_placeOf cX7_placeOf 3 (some .int) ∈ wsL_law := seg_12 _ (List.mem_of_getElem? (i := 8) rfl)
theorem q_12_9 : Cond.methodLink RX7 78 yX7_removes ∈ wsL_law := seg_12 _ (List.mem_of_getElem? (i := 9) rfl)
theorem q_12_10 : Cond.instanceMethod yX7_removes ∈ wsL_law := seg_12 _ (List.mem_of_getElem? (i := 10) rfl)
theorem q_12_11 : Cond.selects RX7 yX7_removes yX7_removes ∈ wsL_law := seg_12 _ (List.mem_of_getElem? (i := 11) rfl)
theorem q_12_12 : Cond.code yX7_removes cX7_removes 5 (some .int) ∈ wsL_law := seg_12 _ (List.mem_of_getElem? (i := 12) rfl)
theorem q_13_4 : Cond.methodLink RX7 81 yX7_turns ∈ wsL_law := seg_13 _ (List.mem_of_getElem? (i := 4) rfl)
theorem q_13_5 : Cond.instanceMethod yX7_turns ∈ wsL_law := seg_13 _ (List.mem_of_getElem? (i := 5) rfl)
theorem q_13_6 : Cond.selects RX7 yX7_turns yX7_turns ∈ wsL_law := seg_13 _ (List.mem_of_getElem? (i := 6) rfl)
theorem q_13_7 : Cond.code yX7_turns cX7_turns 2 none ∈ wsL_law := seg_13 _ (List.mem_of_getElem? (i := 7) rfl)
theorem q_15_9 : Cond.methodLink RX7 96 yX7_reliefOf ∈ wsL_law := seg_15 _ (List.mem_of_getElem? (i := 9) rfl)
theorem q_15_10 : Cond.instanceMethod yX7_reliefOf ∈ wsL_law := seg_15 _ (List.mem_of_getElem? (i := 10) rfl)
theorem q_15_11 : Cond.selects RX7 yX7_reliefOf yX7_reliefOf ∈ wsL_law := seg_15 _ (List.mem_of_getElem? (i := 11) rfl)
theorem q_15_12 : Cond.code yX7_reliefOf cX7_reliefOf 4 (some .int) ∈ wsL_law := seg_15 _ (List.mem_of_getElem? (i := 12) rfl)
theorem q_15_13 : Cond.fieldLink RX7 84 "EdgeHoldersModel" "queueMany" "I" ∈ wsL_law := seg_15 _ (List.mem_of_getElem? (i := 13) rfl)
theorem q_15_14 : Cond.methodLink RX7 93 yX7_visits ∈ wsL_law := seg_15 _ (List.mem_of_getElem? (i := 14) rfl)
theorem q_15_15 : Cond.instanceMethod yX7_visits ∈ wsL_law := seg_15 _ (List.mem_of_getElem? (i := 15) rfl)
theorem q_15_16 : Cond.selects RX7 yX7_visits yX7_visits ∈ wsL_law := seg_15 _ (List.mem_of_getElem? (i := 16) rfl)
theorem q_15_17 : Cond.code yX7_visits cX7_visits 5 none ∈ wsL_law := seg_15 _ (List.mem_of_getElem? (i := 17) rfl)
theorem q_15_18 : Cond.fieldLink RX7 87 "EdgeHoldersModel" "visited" "I" ∈ wsL_law := seg_15 _ (List.mem_of_getElem? (i := 18) rfl)
theorem q_15_19 : Cond.methodLink RX7 90 yX7_other ∈ wsL_law := seg_15 _ (List.mem_of_getElem? (i := 19) rfl)
theorem q_15_20 : Cond.instanceMethod yX7_other ∈ wsL_law := seg_15 _ (List.mem_of_getElem? (i := 20) rfl)
theorem q_15_21 : Cond.selects RX7 yX7_other yX7_other ∈ wsL_law := seg_15 _ (List.mem_of_getElem? (i := 21) rfl)
theorem q_15_22 : Cond.code yX7_other cX7_other 2 (some .int) ∈ wsL_law := seg_15 _ (List.mem_of_getElem? (i := 22) rfl)
theorem q_15_23 : Cond.methodLink RX7 103 yX7_relieves ∈ wsL_law := seg_15 _ (List.mem_of_getElem? (i := 23) rfl)
theorem q_16_0 : Cond.instanceMethod yX7_relieves ∈ wsL_law := seg_16 _ (List.mem_of_getElem? (i := 0) rfl)
theorem q_16_1 : Cond.selects RX7 yX7_relieves yX7_relieves ∈ wsL_law := seg_16 _ (List.mem_of_getElem? (i := 1) rfl)
theorem q_16_2 : Cond.code yX7_relieves cX7_relieves 5 (some .int) ∈ wsL_law := seg_16 _ (List.mem_of_getElem? (i := 2) rfl)
theorem q_17_10 : Cond.methodLink RX7 99 yX7_greatest ∈ wsL_law := seg_17 _ (List.mem_of_getElem? (i := 10) rfl)
theorem q_17_11 : Cond.instanceMethod yX7_greatest ∈ wsL_law := seg_17 _ (List.mem_of_getElem? (i := 11) rfl)
theorem q_17_12 : Cond.selects RX7 yX7_greatest yX7_greatest ∈ wsL_law := seg_17 _ (List.mem_of_getElem? (i := 12) rfl)
theorem q_17_13 : Cond.code yX7_greatest cX7_greatest 3 (some .int) ∈ wsL_law := seg_17 _ (List.mem_of_getElem? (i := 13) rfl)
theorem cal_X7_load : Cal yX7_load RX7 cX7_load 4 (some .int) 1 := ⟨q_10_14, q_10_12, q_10_13, q_1_5, by decide +kernel⟩
theorem cal_X7_begins : Cal yX7_begins RX7 cX7_begins 3 none 1 := ⟨q_5_13, q_5_11, q_5_12, q_1_5, by decide +kernel⟩
theorem cal_X7_save : Cal yX7_save RX7 cX7_save 2 none 0 := ⟨q_7_16, q_7_14, q_7_15, q_1_5, by decide +kernel⟩
theorem cal_X7_isNode : Cal yX7_isNode RX7 cX7_isNode 2 (some .boolean) 1 := ⟨q_10_6, q_10_4, q_10_5, q_1_5, by decide +kernel⟩
theorem cal_X7_adds : Cal yX7_adds RX7 cX7_adds 4 (some .int) 2 := ⟨q_10_10, q_10_8, q_10_9, q_1_5, by decide +kernel⟩
theorem cal_X7_refusesAdd : Cal yX7_refusesAdd RX7 cX7_refusesAdd 3 (some .boolean) 2 := ⟨q_10_2, q_10_0, q_10_1, q_1_5, by decide +kernel⟩
theorem cal_X7_placeOf : Cal yX7_placeOf RX7 cX7_placeOf 3 (some .int) 1 := ⟨q_12_8, q_12_6, q_12_7, q_1_5, by decide +kernel⟩
theorem cal_X7_refusesEdge : Cal yX7_refusesEdge RX7 cX7_refusesEdge 2 (some .boolean) 1 := ⟨q_12_4, q_12_2, q_12_3, q_1_5, by decide +kernel⟩
theorem cal_X7_removes : Cal yX7_removes RX7 cX7_removes 5 (some .int) 1 := ⟨q_12_12, q_12_10, q_12_11, q_1_5, by decide +kernel⟩
theorem cal_X7_turns : Cal yX7_turns RX7 cX7_turns 2 none 1 := ⟨q_13_7, q_13_5, q_13_6, q_1_5, by decide +kernel⟩
theorem cal_X7_other : Cal yX7_other RX7 cX7_other 2 (some .int) 1 := ⟨q_15_22, q_15_20, q_15_21, q_1_5, by decide +kernel⟩
theorem cal_X7_visits : Cal yX7_visits RX7 cX7_visits 5 none 1 := ⟨q_15_17, q_15_15, q_15_16, q_1_5, by decide +kernel⟩
theorem cal_X7_reliefOf : Cal yX7_reliefOf RX7 cX7_reliefOf 4 (some .int) 1 := ⟨q_15_12, q_15_10, q_15_11, q_1_5, by decide +kernel⟩
theorem cal_X7_greatest : Cal yX7_greatest RX7 cX7_greatest 3 (some .int) 0 := ⟨q_17_13, q_17_11, q_17_12, q_1_5, by decide +kernel⟩
theorem cal_X7_relieves : Cal yX7_relieves RX7 cX7_relieves 5 (some .int) 1 := ⟨q_16_2, q_16_0, q_16_1, q_1_5, by decide +kernel⟩
def fX7_adds_69 (L : Nat → Nat) (Nf : Nat) (k0 : Nat) (x3 : Int32) (y1 : Int32) (y2 : Int32) (σ : cS) : Option (Int32 × cS) := grd (inb y1 (L (k0 + 1))) (bnd (st2 σ (k0 + 1) y1.toNatClampNeg y2) (fun σ1 => grd (inb ((176 : Int32) + x3) (L (k0 + 1))) (bnd (st2 σ1 (k0 + 1) ((176 : Int32) + x3).toNatClampNeg (0 : Int32)) (fun σ2 => grd (inb (3 : Int32) (L (k0 + 1))) (grd (inb (3 : Int32) (L (k0 + 1))) (bnd (st2 σ2 (k0 + 1) (3 : Int32).toNatClampNeg ((σ2 (k0 + 1) (3 : Int32).toNatClampNeg) + (1 : Int32))) (fun σ3 => grd (inb (1 : Int32) (L (k0 + 1))) (grd (inb (1 : Int32) (L (k0 + 1))) (bnd (st2 σ3 (k0 + 1) (1 : Int32).toNatClampNeg ((σ3 (k0 + 1) (1 : Int32).toNatClampNeg) + (1 : Int32))) (fun σ4 => grd (inb (1 : Int32) (L (k0 + 1))) (some (((σ4 (k0 + 1) (1 : Int32).toNatClampNeg) - (1 : Int32)), σ4))))))))))))
set_option maxHeartbeats 4000000 in
set_option maxRecDepth 100000 in
theorem sX7_adds_69 {K : MCx} {G : Lay} (X : Cx K G RX7 cX7_adds 4 (some .int) 2 44) (Nf : Nat) (k0 : Nat) (hk0 : isMod G k0) (h : Int64) (x3 : Int32) (y1 : Int32) (y2 : Int32) (σ : cS) : Sm K G TT (QM K G (fun r : (Int32 × cS) => ((some (.int r.1), h, r.2) : Option Value × Int64 × cS))) 4 69 [(0, .ref (la G k0)), (3, .int x3)] [.int y2, .int y1, .ref (la G (k0 + 1))] h σ (fX7_adds_69 (ll G) Nf k0 x3 y1 y2 σ) := by
  unfold fX7_adds_69
  refine z_iast X hk0.2.1 dX7_adds_69 (fun σ1 => ?_)
  refine z_aload_n X dX7_adds_70 0 rfl ?_
  refine z_get X inlX7 rfl hk0.1 (ce7 hk0.1 _ _) 0 (by decide) q_5_4 rfl dX7_adds_71 ?_
  refine z_sipush (v := (176 : Int32)) X dX7_adds_74 (by decide) ?_
  refine z_iload_n X dX7_adds_77 1 rfl ?_
  refine z_iadd X dX7_adds_78 ?_
  refine z_iconst (v := (0 : Int32)) X dX7_adds_79 (by decide) ?_
  refine z_iast X hk0.2.1 dX7_adds_80 (fun σ2 => ?_)
  refine z_aload_n X dX7_adds_81 0 rfl ?_
  refine z_get X inlX7 rfl hk0.1 (ce7 hk0.1 _ _) 0 (by decide) q_5_4 rfl dX7_adds_82 ?_
  refine z_iconst (v := (3 : Int32)) X dX7_adds_85 (by decide) ?_
  refine z_dup2 X dX7_adds_86 rfl rfl ?_
  refine z_iald X hk0.2.1 dX7_adds_87 ?_
  refine z_iconst (v := (1 : Int32)) X dX7_adds_88 (by decide) ?_
  refine z_iadd X dX7_adds_89 ?_
  refine z_iast X hk0.2.1 dX7_adds_90 (fun σ3 => ?_)
  refine z_aload_n X dX7_adds_91 0 rfl ?_
  refine z_get X inlX7 rfl hk0.1 (ce7 hk0.1 _ _) 0 (by decide) q_5_4 rfl dX7_adds_92 ?_
  refine z_iconst (v := (1 : Int32)) X dX7_adds_95 (by decide) ?_
  refine z_dup2 X dX7_adds_96 rfl rfl ?_
  refine z_iald X hk0.2.1 dX7_adds_97 ?_
  refine z_iconst (v := (1 : Int32)) X dX7_adds_98 (by decide) ?_
  refine z_iadd X dX7_adds_99 ?_
  refine z_iast X hk0.2.1 dX7_adds_100 (fun σ4 => ?_)
  refine z_aload_n X dX7_adds_101 0 rfl ?_
  refine z_get X inlX7 rfl hk0.1 (ce7 hk0.1 _ _) 0 (by decide) q_5_4 rfl dX7_adds_102 ?_
  refine z_iconst (v := (1 : Int32)) X dX7_adds_105 (by decide) ?_
  refine z_iald X hk0.2.1 dX7_adds_106 ?_
  refine z_iconst (v := (1 : Int32)) X dX7_adds_107 (by decide) ?_
  refine z_isub X dX7_adds_108 ?_
  exact z_iret X rfl dX7_adds_109
def fX7_adds_0 (L : Nat → Nat) (Nf : Nat) (k0 : Nat) (x1 : Int32) (x2 : Int32) (σ : cS) : Option (Int32 × cS) := grd (inb (3 : Int32) (L (k0 + 1))) (bnd ((σ (k0 + 1) (3 : Int32).toNatClampNeg)) (fun t1 => grd (inb (1 : Int32) (L (k0 + 1))) (grd (inb ((16 : Int32) + t1) (L (k0 + 1))) (bnd (st2 σ (k0 + 1) ((16 : Int32) + t1).toNatClampNeg (σ (k0 + 1) (1 : Int32).toNatClampNeg)) (fun σ2 => grd (inb ((56 : Int32) + t1) (L (k0 + 1))) (bnd (st2 σ2 (k0 + 1) ((56 : Int32) + t1).toNatClampNeg x1) (fun σ3 => grd (inb ((96 : Int32) + t1) (L (k0 + 1))) (bnd (st2 σ3 (k0 + 1) ((96 : Int32) + t1).toNatClampNeg x2) (fun σ4 => Option.bind (fX7_load L Nf σ4 k0 x2) (fun r5 => Option.bind (fX7_load L Nf σ4 k0 x1) (fun r6 => if r6 ≤ r5 then (fX7_adds_69 L Nf k0 t1 ((136 : Int32) + t1) (0 : Int32) σ4) else (fX7_adds_69 L Nf k0 t1 ((136 : Int32) + t1) (1 : Int32) σ4))))))))))))
set_option maxHeartbeats 4000000 in
set_option maxRecDepth 100000 in
theorem sX7_adds_0 {K : MCx} {G : Lay} (X : Cx K G RX7 cX7_adds 4 (some .int) 2 44) (Nf : Nat) (k0 : Nat) (hk0 : isMod G k0) (h : Int64) (x1 : Int32) (x2 : Int32) (σ : cS) : Sm K G TT (QM K G (fun r : (Int32 × cS) => ((some (.int r.1), h, r.2) : Option Value × Int64 × cS))) 4 0 [(0, .ref (la G k0)), (1, .int x1), (2, .int x2)] [] h σ (fX7_adds_0 (ll G) Nf k0 x1 x2 σ) := by
  unfold fX7_adds_0
  refine z_aload_n X dX7_adds_0 0 rfl ?_
  refine z_get X inlX7 rfl hk0.1 (ce7 hk0.1 _ _) 0 (by decide) q_5_4 rfl dX7_adds_1 ?_
  refine z_iconst (v := (3 : Int32)) X dX7_adds_4 (by decide) ?_
  refine z_iald X hk0.2.1 dX7_adds_5 ?_
  refine z_nm (fun t1 => ?_)
  refine z_istore_n X [(3, .int t1), (0, .ref (la G k0)), (1, .int x1), (2, .int x2)] dX7_adds_6 (by decide) rfl ?_
  refine z_aload_n X dX7_adds_7 1 rfl ?_
  refine z_get X inlX7 rfl hk0.1 (ce7 hk0.1 _ _) 0 (by decide) q_5_4 rfl dX7_adds_8 ?_
  refine z_bipush (v := (16 : Int32)) X dX7_adds_11 (by decide) ?_
  refine z_iload_n X dX7_adds_13 0 rfl ?_
  refine z_iadd X dX7_adds_14 ?_
  refine z_aload_n X dX7_adds_15 1 rfl ?_
  refine z_get X inlX7 rfl hk0.1 (ce7 hk0.1 _ _) 0 (by decide) q_5_4 rfl dX7_adds_16 ?_
  refine z_iconst (v := (1 : Int32)) X dX7_adds_19 (by decide) ?_
  refine z_iald X hk0.2.1 dX7_adds_20 ?_
  refine z_iast X hk0.2.1 dX7_adds_21 (fun σ2 => ?_)
  refine z_aload_n X dX7_adds_22 1 rfl ?_
  refine z_get X inlX7 rfl hk0.1 (ce7 hk0.1 _ _) 0 (by decide) q_5_4 rfl dX7_adds_23 ?_
  refine z_bipush (v := (56 : Int32)) X dX7_adds_26 (by decide) ?_
  refine z_iload_n X dX7_adds_28 0 rfl ?_
  refine z_iadd X dX7_adds_29 ?_
  refine z_iload_n X dX7_adds_30 2 rfl ?_
  refine z_iast X hk0.2.1 dX7_adds_31 (fun σ3 => ?_)
  refine z_aload_n X dX7_adds_32 1 rfl ?_
  refine z_get X inlX7 rfl hk0.1 (ce7 hk0.1 _ _) 0 (by decide) q_5_4 rfl dX7_adds_33 ?_
  refine z_bipush (v := (96 : Int32)) X dX7_adds_36 (by decide) ?_
  refine z_iload_n X dX7_adds_38 0 rfl ?_
  refine z_iadd X dX7_adds_39 ?_
  refine z_iload_n X dX7_adds_40 3 rfl ?_
  refine z_iast X hk0.2.1 dX7_adds_41 (fun σ4 => ?_)
  refine z_aload_n X dX7_adds_42 1 rfl ?_
  refine z_get X inlX7 rfl hk0.1 (ce7 hk0.1 _ _) 0 (by decide) q_5_4 rfl dX7_adds_43 ?_
  refine z_sipush (v := (136 : Int32)) X dX7_adds_46 (by decide) ?_
  refine z_iload_n X dX7_adds_49 0 rfl ?_
  refine z_iadd X dX7_adds_50 ?_
  refine z_aload_n X dX7_adds_51 1 rfl ?_
  refine z_iload_n X dX7_adds_52 3 rfl ?_
  refine z_callV0 X (g := (fun r5 : Int32 => ((some (.int r5), h, σ4) : Option Value × Int64 × cS))) (st := [.int ((136 : Int32) + t1), .ref (la G (k0 + 1))]) (st1 := (fun r5 : Int32 => [.int r5, .int ((136 : Int32) + t1), .ref (la G (k0 + 1))])) (rmf := 1) (rml := 21) [.int x2] k0 cal_X7_load q_10_11 ⟨Nat.le_of_ble_eq_true rfl, Nat.le_of_ble_eq_true rfl⟩ rfl rfl (Nat.le_of_ble_eq_true rfl) rfl hk0.1 (ce7 hk0.1 _ _) (ctX7_load (kl K) G X.2.2.2.2.2.2.2.1 Nf h σ4 k0 hk0 x2) dX7_adds_53 (fun _ => rfl) (fun r5 => ?_)
  refine z_aload_n X dX7_adds_56 1 rfl ?_
  refine z_iload_n X dX7_adds_57 2 rfl ?_
  refine z_callV0 X (g := (fun r6 : Int32 => ((some (.int r6), h, σ4) : Option Value × Int64 × cS))) (st := [.int r5, .int ((136 : Int32) + t1), .ref (la G (k0 + 1))]) (st1 := (fun r6 : Int32 => [.int r6, .int r5, .int ((136 : Int32) + t1), .ref (la G (k0 + 1))])) (rmf := 1) (rml := 21) [.int x1] k0 cal_X7_load q_10_11 ⟨Nat.le_of_ble_eq_true rfl, Nat.le_of_ble_eq_true rfl⟩ rfl rfl (Nat.le_of_ble_eq_true rfl) rfl hk0.1 (ce7 hk0.1 _ _) (ctX7_load (kl K) G X.2.2.2.2.2.2.2.1 Nf h σ4 k0 hk0 x1) dX7_adds_58 (fun _ => rfl) (fun r6 => ?_)
  refine z_icmp_ge X 68 dX7_adds_61 (by decide) ?_ ?_
  · refine z_iconst (v := (0 : Int32)) X dX7_adds_68 (by decide) ?_
    exact z_sub [1, 0] rfl (sX7_adds_69 X Nf k0 hk0 h t1 ((136 : Int32) + t1) (0 : Int32) σ4)
  · refine z_iconst (v := (1 : Int32)) X dX7_adds_64 (by decide) ?_
    refine z_goto X 69 dX7_adds_65 (by decide) ?_
    exact z_sub [1, 0] rfl (sX7_adds_69 X Nf k0 hk0 h t1 ((136 : Int32) + t1) (1 : Int32) σ4)
def fX7_adds (L : Nat → Nat) (Nf : Nat) (σ : cS) (k0 : Nat) (x1 : Int32) (x2 : Int32) : Option (Int32 × cS) := fX7_adds_0 L Nf k0 x1 x2 σ
set_option maxHeartbeats 4000000 in
set_option maxRecDepth 100000 in
theorem ctX7_adds (l : Launch) (G : Lay) (hi : Inj G) (Nf : Nat) (h : Int64) (σ : cS) (k0 : Nat) (hk0 : isMod G k0) (x1 : Int32) (x2 : Int32) : ∀ r, fX7_adds (ll G) Nf σ k0 x1 x2 = some r → CM l yX7_adds cX7_adds 4 (some .int) 2 44 G [.ref (la G k0), .int x1, .int x2] h σ (some (.int r.1), h, r.2) := by
  refine cm_of (g := (fun r : (Int32 × cS) => ((some (.int r.1), h, r.2) : Option Value × Int64 × cS))) (by decide) hi (Nat.le_of_ble_eq_true rfl) (fun K hKl X => ?_)
  unfold fX7_adds
  exact z_sub [0, 1, 2] rfl (sX7_adds_0 X Nf k0 hk0 h x1 x2 σ)
def fX7_removes_32 (L : Nat → Nat) (Nf : Nat) (k0 : Nat) (self18 : Int32 → Int32 → cS → Option (Int32 × cS)) : Nat → Int32 → Int32 → Int32 → cS → Option (Int32 × cS)
  | 0, _, _, _, _ => none
  | n + 1, x2, x3, x4, σ => if (216 : Int32) ≤ x4 then (bnd (x3 + (1 : Int32)) (fun t1 => self18 x2 t1 σ)) else (grd (inb ((x4 + x3) + (1 : Int32)) (L (k0 + 1))) (grd (inb (x4 + x3) (L (k0 + 1))) (bnd (st2 σ (k0 + 1) (x4 + x3).toNatClampNeg (σ (k0 + 1) ((x4 + x3) + (1 : Int32)).toNatClampNeg)) (fun σ2 => bnd (x4 + (40 : Int32)) (fun t3 => fX7_removes_32 L Nf k0 self18 n x2 x3 t3 σ2)))))
set_option maxHeartbeats 4000000 in
set_option maxRecDepth 100000 in
theorem sX7_removes_32 {K : MCx} {G : Lay} (X : Cx K G RX7 cX7_removes 5 (some .int) 1 21) (Nf : Nat) (k0 : Nat) (hk0 : isMod G k0) (h : Int64) (self18 : Int32 → Int32 → cS → Option (Int32 × cS)) (hself18 : ∀ (x2 : Int32) (x3 : Int32) (σ : cS), Sm K G TT (QM K G (fun r : (Int32 × cS) => ((some (.int r.1), h, r.2) : Option Value × Int64 × cS))) 5 18 [(0, .ref (la G k0)), (2, .int x2), (3, .int x3)] [] h σ (self18 x2 x3 σ)) : ∀ (n : Nat) (x2 : Int32) (x3 : Int32) (x4 : Int32) (σ : cS), Sm K G TT (QM K G (fun r : (Int32 × cS) => ((some (.int r.1), h, r.2) : Option Value × Int64 × cS))) 5 32 [(0, .ref (la G k0)), (2, .int x2), (3, .int x3), (4, .int x4)] [] h σ (fX7_removes_32 (ll G) Nf k0 self18 n x2 x3 x4 σ) := by
  intro n
  induction n with
  | zero => intros; exact z_none
  | succ n ih =>
    intro x2 x3 x4 σ
    unfold fX7_removes_32
    refine z_iload X dX7_removes_32 3 rfl ?_
    refine z_sipush (v := (216 : Int32)) X dX7_removes_34 (by decide) ?_
    refine z_icmp_ge X 66 dX7_removes_37 (by decide) ?_ ?_
    · refine z_iinc X (fun t1 => [(3, .int t1), (0, .ref (la G k0)), (2, .int x2), (4, .int x4)]) dX7_removes_66 2 rfl (by decide) (by decide) (fun _ => rfl) (fun t1 => ?_)
      refine z_goto X 18 dX7_removes_69 (by decide) ?_
      exact z_sub [1, 2, 0] rfl (hself18 x2 t1 σ)
    · refine z_aload_n X dX7_removes_40 0 rfl ?_
      refine z_get X inlX7 rfl hk0.1 (ce7 hk0.1 _ _) 0 (by decide) q_5_4 rfl dX7_removes_41 ?_
      refine z_iload X dX7_removes_44 3 rfl ?_
      refine z_iload_n X dX7_removes_46 2 rfl ?_
      refine z_iadd X dX7_removes_47 ?_
      refine z_aload_n X dX7_removes_48 0 rfl ?_
      refine z_get X inlX7 rfl hk0.1 (ce7 hk0.1 _ _) 0 (by decide) q_5_4 rfl dX7_removes_49 ?_
      refine z_iload X dX7_removes_52 3 rfl ?_
      refine z_iload_n X dX7_removes_54 2 rfl ?_
      refine z_iadd X dX7_removes_55 ?_
      refine z_iconst (v := (1 : Int32)) X dX7_removes_56 (by decide) ?_
      refine z_iadd X dX7_removes_57 ?_
      refine z_iald X hk0.2.1 dX7_removes_58 ?_
      refine z_iast X hk0.2.1 dX7_removes_59 (fun σ2 => ?_)
      refine z_iinc X (fun t3 => [(4, .int t3), (0, .ref (la G k0)), (2, .int x2), (3, .int x3)]) dX7_removes_60 3 rfl (by decide) (by decide) (fun _ => rfl) (fun t3 => ?_)
      refine z_goto X 32 dX7_removes_63 (by decide) ?_
      exact z_sub [1, 2, 3, 0] rfl (ih x2 x3 t3 σ2)
def fX7_removes_18 (L : Nat → Nat) (Nf : Nat) (k0 : Nat) : Nat → Int32 → Int32 → cS → Option (Int32 × cS)
  | 0, _, _, _ => none
  | n + 1, x2, x3, σ => grd (inb (3 : Int32) (L (k0 + 1))) (if (σ (k0 + 1) (3 : Int32).toNatClampNeg) ≤ x3 then (some (x2, σ)) else (fX7_removes_32 L Nf k0 (fX7_removes_18 L Nf k0 n) Nf x2 x3 (16 : Int32) σ))
set_option maxHeartbeats 4000000 in
set_option maxRecDepth 100000 in
theorem sX7_removes_18 {K : MCx} {G : Lay} (X : Cx K G RX7 cX7_removes 5 (some .int) 1 21) (Nf : Nat) (k0 : Nat) (hk0 : isMod G k0) (h : Int64) : ∀ (n : Nat) (x2 : Int32) (x3 : Int32) (σ : cS), Sm K G TT (QM K G (fun r : (Int32 × cS) => ((some (.int r.1), h, r.2) : Option Value × Int64 × cS))) 5 18 [(0, .ref (la G k0)), (2, .int x2), (3, .int x3)] [] h σ (fX7_removes_18 (ll G) Nf k0 n x2 x3 σ) := by
  intro n
  induction n with
  | zero => intros; exact z_none
  | succ n ih =>
    intro x2 x3 σ
    unfold fX7_removes_18
    refine z_iload_n X dX7_removes_18 2 rfl ?_
    refine z_aload_n X dX7_removes_19 0 rfl ?_
    refine z_get X inlX7 rfl hk0.1 (ce7 hk0.1 _ _) 0 (by decide) q_5_4 rfl dX7_removes_20 ?_
    refine z_iconst (v := (3 : Int32)) X dX7_removes_23 (by decide) ?_
    refine z_iald X hk0.2.1 dX7_removes_24 ?_
    refine z_icmp_ge X 72 dX7_removes_25 (by decide) ?_ ?_
    · refine z_iload_n X dX7_removes_72 1 rfl ?_
      exact z_iret X rfl dX7_removes_73
    · refine z_bipush (v := (16 : Int32)) X dX7_removes_28 (by decide) ?_
      refine z_istore X [(4, .int (16 : Int32)), (0, .ref (la G k0)), (2, .int x2), (3, .int x3)] dX7_removes_30 (by decide) rfl ?_
      exact z_sub [1, 2, 3, 0] rfl (sX7_removes_32 X Nf k0 hk0 h (fX7_removes_18 (ll G) Nf k0 n) ih Nf x2 x3 (16 : Int32) σ)
def fX7_removes_0 (L : Nat → Nat) (Nf : Nat) (k0 : Nat) (x1 : Int32) (σ : cS) : Option (Int32 × cS) := Option.bind (fX7_holder L σ k0 x1) (fun r1 => grd (inb (3 : Int32) (L (k0 + 1))) (grd (inb (3 : Int32) (L (k0 + 1))) (bnd (st2 σ (k0 + 1) (3 : Int32).toNatClampNeg ((σ (k0 + 1) (3 : Int32).toNatClampNeg) - (1 : Int32))) (fun σ2 => fX7_removes_18 L Nf k0 Nf r1 x1 σ2))))
set_option maxHeartbeats 4000000 in
set_option maxRecDepth 100000 in
theorem sX7_removes_0 {K : MCx} {G : Lay} (X : Cx K G RX7 cX7_removes 5 (some .int) 1 21) (Nf : Nat) (k0 : Nat) (hk0 : isMod G k0) (h : Int64) (x1 : Int32) (σ : cS) : Sm K G TT (QM K G (fun r : (Int32 × cS) => ((some (.int r.1), h, r.2) : Option Value × Int64 × cS))) 5 0 [(0, .ref (la G k0)), (1, .int x1)] [] h σ (fX7_removes_0 (ll G) Nf k0 x1 σ) := by
  unfold fX7_removes_0
  refine z_aload_n X dX7_removes_0 0 rfl ?_
  refine z_iload_n X dX7_removes_1 1 rfl ?_
  refine z_callV0 X (g := (fun r1 : Int32 => ((some (.int r1), h, σ) : Option Value × Int64 × cS))) (st := []) (st1 := (fun r1 : Int32 => [.int r1])) (rmf := 0) (rml := 0) [.int x1] k0 cal_X7_holder q_10_15 ⟨Nat.le_of_ble_eq_true rfl, Nat.le_of_ble_eq_true rfl⟩ rfl rfl (Nat.le_of_ble_eq_true rfl) rfl hk0.1 (ce7 hk0.1 _ _) (ctX7_holder (kl K) G X.2.2.2.2.2.2.2.1 h σ k0 hk0 x1) dX7_removes_2 (fun _ => rfl) (fun r1 => ?_)
  refine z_istore_n X [(2, .int r1), (0, .ref (la G k0)), (1, .int x1)] dX7_removes_5 (by decide) rfl ?_
  refine z_aload_n X dX7_removes_6 1 rfl ?_
  refine z_get X inlX7 rfl hk0.1 (ce7 hk0.1 _ _) 0 (by decide) q_5_4 rfl dX7_removes_7 ?_
  refine z_iconst (v := (3 : Int32)) X dX7_removes_10 (by decide) ?_
  refine z_dup2 X dX7_removes_11 rfl rfl ?_
  refine z_iald X hk0.2.1 dX7_removes_12 ?_
  refine z_iconst (v := (1 : Int32)) X dX7_removes_13 (by decide) ?_
  refine z_isub X dX7_removes_14 ?_
  refine z_iast X hk0.2.1 dX7_removes_15 (fun σ2 => ?_)
  refine z_iload_n X dX7_removes_16 2 rfl ?_
  refine z_istore_n X [(3, .int x1), (2, .int r1), (0, .ref (la G k0)), (1, .int x1)] dX7_removes_17 (by decide) rfl ?_
  exact z_sub [2, 1, 0] rfl (sX7_removes_18 X Nf k0 hk0 h Nf r1 x1 σ2)
def fX7_removes (L : Nat → Nat) (Nf : Nat) (σ : cS) (k0 : Nat) (x1 : Int32) : Option (Int32 × cS) := fX7_removes_0 L Nf k0 x1 σ
set_option maxHeartbeats 4000000 in
set_option maxRecDepth 100000 in
theorem ctX7_removes (l : Launch) (G : Lay) (hi : Inj G) (Nf : Nat) (h : Int64) (σ : cS) (k0 : Nat) (hk0 : isMod G k0) (x1 : Int32) : ∀ r, fX7_removes (ll G) Nf σ k0 x1 = some r → CM l yX7_removes cX7_removes 5 (some .int) 1 21 G [.ref (la G k0), .int x1] h σ (some (.int r.1), h, r.2) := by
  refine cm_of (g := (fun r : (Int32 × cS) => ((some (.int r.1), h, r.2) : Option Value × Int64 × cS))) (by decide) hi (Nat.le_of_ble_eq_true rfl) (fun K hKl X => ?_)
  unfold fX7_removes
  exact z_sub [0, 1] rfl (sX7_removes_0 X Nf k0 hk0 h x1 σ)
def fX7_begin_16 (L : Nat → Nat) (Nf : Nat) (k0 : Nat) (x1 : Int32) (y1 : Int32) (σ : cS) : Option (Int32 × cS) := Option.bind (fX7_refuses σ k0 y1 (0 : Int32) (0 : Int32)) (fun r1 => if r1.1 = 0 then (Option.bind (fX7_save L Nf r1.2 k0) (fun r2 => grd (inb (3 : Int32) (L (k0 + 1))) (bnd ((r2 (k0 + 1) (3 : Int32).toNatClampNeg)) (fun t3 => Option.bind (fX7_begins L Nf r2 k0 x1) (fun r4 => some (t3, r4)))))) else (some ((0 : Int32), r1.2)))
set_option maxHeartbeats 4000000 in
set_option maxRecDepth 100000 in
theorem sX7_begin_16 {K : MCx} {G : Lay} (X : Cx K G RX7 cX7_begin 3 (some .int) 1 23) (Nf : Nat) (k0 : Nat) (hk0 : isMod G k0) (h : Int64) (x1 : Int32) (y1 : Int32) (σ : cS) : Sm K G TT (QM K G (fun r : (Int32 × cS) => ((some (.int r.1), h, r.2) : Option Value × Int64 × cS))) 3 16 [(0, .ref (la G k0)), (1, .int x1)] [.int y1, .ref (la G k0)] h σ (fX7_begin_16 (ll G) Nf k0 x1 y1 σ) := by
  unfold fX7_begin_16
  refine z_iconst (v := (0 : Int32)) X dX7_begin_16 (by decide) ?_
  refine z_iconst (v := (0 : Int32)) X dX7_begin_17 (by decide) ?_
  refine z_callV0 X (g := (fun r1 : (Int32 × cS) => ((some (.int r1.1), h, r1.2) : Option Value × Int64 × cS))) (st := []) (st1 := (fun r1 : (Int32 × cS) => [.int r1.1])) (rmf := 0) (rml := 0) [.int y1, .int (0 : Int32), .int (0 : Int32)] k0 cal_X7_refuses q_7_8 ⟨Nat.le_of_ble_eq_true rfl, Nat.le_of_ble_eq_true rfl⟩ rfl rfl (Nat.le_of_ble_eq_true rfl) rfl hk0.1 (ce7 hk0.1 _ _) (ctX7_refuses (kl K) G X.2.2.2.2.2.2.2.1 h σ k0 hk0 y1 (0 : Int32) (0 : Int32)) dX7_begin_18 (fun _ => rfl) (fun r1 => ?_)
  refine z_if_eq X 26 dX7_begin_21 (by decide) ?_ ?_
  · refine z_aload_n X dX7_begin_26 0 rfl ?_
    refine z_callV0 X (g := (fun r2 : cS => ((none, h, r2) : Option Value × Int64 × cS))) (st := []) (st1 := (fun r2 : cS => [])) (rmf := 0) (rml := 0) [] k0 cal_X7_save q_7_13 ⟨Nat.le_of_ble_eq_true rfl, Nat.le_of_ble_eq_true rfl⟩ rfl rfl (Nat.le_of_ble_eq_true rfl) rfl hk0.1 (ce7 hk0.1 _ _) (ctX7_save (kl K) G X.2.2.2.2.2.2.2.1 Nf h r1.2 k0 hk0 ) dX7_begin_27 (fun _ => rfl) (fun r2 => ?_)
    refine z_aload_n X dX7_begin_30 0 rfl ?_
    refine z_get X inlX7 rfl hk0.1 (ce7 hk0.1 _ _) 0 (by decide) q_5_4 rfl dX7_begin_31 ?_
    refine z_iconst (v := (3 : Int32)) X dX7_begin_34 (by decide) ?_
    refine z_iald X hk0.2.1 dX7_begin_35 ?_
    refine z_nm (fun t3 => ?_)
    refine z_istore_n X [(2, .int t3), (0, .ref (la G k0)), (1, .int x1)] dX7_begin_36 (by decide) rfl ?_
    refine z_aload_n X dX7_begin_37 1 rfl ?_
    refine z_iload_n X dX7_begin_38 2 rfl ?_
    refine z_callV0 X (g := (fun r4 : cS => ((none, h, r4) : Option Value × Int64 × cS))) (st := []) (st1 := (fun r4 : cS => [])) (rmf := 0) (rml := 0) [.int x1] k0 cal_X7_begins q_5_10 ⟨Nat.le_of_ble_eq_true rfl, Nat.le_of_ble_eq_true rfl⟩ rfl rfl (Nat.le_of_ble_eq_true rfl) rfl hk0.1 (ce7 hk0.1 _ _) (ctX7_begins (kl K) G X.2.2.2.2.2.2.2.1 Nf h r2 k0 hk0 x1) dX7_begin_39 (fun _ => rfl) (fun r4 => ?_)
    refine z_iload_n X dX7_begin_42 0 rfl ?_
    exact z_iret X rfl dX7_begin_43
  · refine z_iconst (v := (0 : Int32)) X dX7_begin_24 (by decide) ?_
    exact z_iret X rfl dX7_begin_25
def fX7_begin_0 (L : Nat → Nat) (Nf : Nat) (k0 : Nat) (x1 : Int32) (σ : cS) : Option (Int32 × cS) := Option.bind (fX7_in σ x1 (2 : Int32) (12 : Int32)) (fun r1 => if r1 = 0 then (fX7_begin_16 L Nf k0 x1 (1 : Int32) σ) else (fX7_begin_16 L Nf k0 x1 (0 : Int32) σ))
set_option maxHeartbeats 4000000 in
set_option maxRecDepth 100000 in
theorem sX7_begin_0 {K : MCx} {G : Lay} (X : Cx K G RX7 cX7_begin 3 (some .int) 1 23) (Nf : Nat) (k0 : Nat) (hk0 : isMod G k0) (h : Int64) (x1 : Int32) (σ : cS) : Sm K G TT (QM K G (fun r : (Int32 × cS) => ((some (.int r.1), h, r.2) : Option Value × Int64 × cS))) 3 0 [(0, .ref (la G k0)), (1, .int x1)] [] h σ (fX7_begin_0 (ll G) Nf k0 x1 σ) := by
  unfold fX7_begin_0
  refine z_aload_n X dX7_begin_0 0 rfl ?_
  refine z_iload_n X dX7_begin_1 1 rfl ?_
  refine z_iconst (v := (2 : Int32)) X dX7_begin_2 (by decide) ?_
  refine z_bipush (v := (12 : Int32)) X dX7_begin_3 (by decide) ?_
  refine z_callS0 X (g := (fun r1 : Int32 => ((some (.int r1), h, σ) : Option Value × Int64 × cS))) (st := [.ref (la G k0)]) (st1 := (fun r1 : Int32 => [.int r1, .ref (la G k0)])) (rmf := 0) (rml := 0) [.int x1, .int (2 : Int32), .int (12 : Int32)] cal_X7_in q_7_5 ⟨Nat.le_of_ble_eq_true rfl, Nat.le_of_ble_eq_true rfl⟩ rfl rfl (Nat.le_of_ble_eq_true rfl) (ctX7_in (kl K) G X.2.2.2.2.2.2.2.1 h σ x1 (2 : Int32) (12 : Int32)) dX7_begin_5 (fun _ => rfl) (fun r1 => ?_)
  refine z_if_ne X 15 dX7_begin_8 (by decide) ?_ ?_
  · refine z_iconst (v := (1 : Int32)) X dX7_begin_11 (by decide) ?_
    refine z_goto X 16 dX7_begin_12 (by decide) ?_
    exact z_sub [0, 1] rfl (sX7_begin_16 X Nf k0 hk0 h x1 (1 : Int32) σ)
  · refine z_iconst (v := (0 : Int32)) X dX7_begin_15 (by decide) ?_
    exact z_sub [0, 1] rfl (sX7_begin_16 X Nf k0 hk0 h x1 (0 : Int32) σ)
def fX7_begin (L : Nat → Nat) (Nf : Nat) (σ : cS) (k0 : Nat) (x1 : Int32) : Option (Int32 × cS) := fX7_begin_0 L Nf k0 x1 σ
set_option maxHeartbeats 4000000 in
set_option maxRecDepth 100000 in
theorem ctX7_begin (l : Launch) (G : Lay) (hi : Inj G) (Nf : Nat) (h : Int64) (σ : cS) (k0 : Nat) (hk0 : isMod G k0) (x1 : Int32) : ∀ r, fX7_begin (ll G) Nf σ k0 x1 = some r → CM l yX7_begin cX7_begin 3 (some .int) 1 23 G [.ref (la G k0), .int x1] h σ (some (.int r.1), h, r.2) := by
  refine cm_of (g := (fun r : (Int32 × cS) => ((some (.int r.1), h, r.2) : Option Value × Int64 × cS))) (by decide) hi (Nat.le_of_ble_eq_true rfl) (fun K hKl X => ?_)
  unfold fX7_begin
  exact z_sub [0, 1] rfl (sX7_begin_0 X Nf k0 hk0 h x1 σ)
def fX7_refusesAdd_48 (L : Nat → Nat) (k0 : Nat) (y1 : Int32) (y2 : Int32) (y3 : Int32) (σ : cS) : Option (Int32 × cS) := Option.bind (fX7_refuses σ k0 y1 y2 y3) (fun r1 => grd (isb r1.1) (some (r1.1, r1.2)))
set_option maxHeartbeats 4000000 in
set_option maxRecDepth 100000 in
theorem sX7_refusesAdd_48 {K : MCx} {G : Lay} (X : Cx K G RX7 cX7_refusesAdd 3 (some .boolean) 2 43) (k0 : Nat) (hk0 : isMod G k0) (h : Int64) (y1 : Int32) (y2 : Int32) (y3 : Int32) (σ : cS) : Sm K G TT (QM K G (fun r : (Int32 × cS) => ((some (.int r.1), h, r.2) : Option Value × Int64 × cS))) 3 48 [] [.int y3, .int y2, .int y1, .ref (la G k0)] h σ (fX7_refusesAdd_48 (ll G) k0 y1 y2 y3 σ) := by
  unfold fX7_refusesAdd_48
  refine z_callV0 X (g := (fun r1 : (Int32 × cS) => ((some (.int r1.1), h, r1.2) : Option Value × Int64 × cS))) (st := []) (st1 := (fun r1 : (Int32 × cS) => [.int r1.1])) (rmf := 0) (rml := 0) [.int y1, .int y2, .int y3] k0 cal_X7_refuses q_7_8 ⟨Nat.le_of_ble_eq_true rfl, Nat.le_of_ble_eq_true rfl⟩ rfl rfl (Nat.le_of_ble_eq_true rfl) rfl hk0.1 (ce7 hk0.1 _ _) (ctX7_refuses (kl K) G X.2.2.2.2.2.2.2.1 h σ k0 hk0 y1 y2 y3) dX7_refusesAdd_48 (fun _ => rfl) (fun r1 => ?_)
  exact z_zret X rfl dX7_refusesAdd_51
def fX7_refusesAdd_32 (L : Nat → Nat) (k0 : Nat) (y1 : Int32) (y2 : Int32) (σ : cS) : Option (Int32 × cS) := grd (inb (3 : Int32) (L (k0 + 1))) (if (σ (k0 + 1) (3 : Int32).toNatClampNeg) = (40 : Int32) then (fX7_refusesAdd_48 L k0 y1 y2 (1 : Int32) σ) else (fX7_refusesAdd_48 L k0 y1 y2 (0 : Int32) σ))
set_option maxHeartbeats 4000000 in
set_option maxRecDepth 100000 in
theorem sX7_refusesAdd_32 {K : MCx} {G : Lay} (X : Cx K G RX7 cX7_refusesAdd 3 (some .boolean) 2 43) (k0 : Nat) (hk0 : isMod G k0) (h : Int64) (y1 : Int32) (y2 : Int32) (σ : cS) : Sm K G TT (QM K G (fun r : (Int32 × cS) => ((some (.int r.1), h, r.2) : Option Value × Int64 × cS))) 3 32 [(0, .ref (la G k0))] [.int y2, .int y1, .ref (la G k0)] h σ (fX7_refusesAdd_32 (ll G) k0 y1 y2 σ) := by
  unfold fX7_refusesAdd_32
  refine z_aload_n X dX7_refusesAdd_32 0 rfl ?_
  refine z_get X inlX7 rfl hk0.1 (ce7 hk0.1 _ _) 0 (by decide) q_5_4 rfl dX7_refusesAdd_33 ?_
  refine z_iconst (v := (3 : Int32)) X dX7_refusesAdd_36 (by decide) ?_
  refine z_iald X hk0.2.1 dX7_refusesAdd_37 ?_
  refine z_bipush (v := (40 : Int32)) X dX7_refusesAdd_38 (by decide) ?_
  refine z_icmp_ne X 47 dX7_refusesAdd_40 (by decide) ?_ ?_
  · refine z_iconst (v := (1 : Int32)) X dX7_refusesAdd_43 (by decide) ?_
    refine z_goto X 48 dX7_refusesAdd_44 (by decide) ?_
    exact z_sub [] rfl (sX7_refusesAdd_48 X k0 hk0 h y1 y2 (1 : Int32) σ)
  · refine z_iconst (v := (0 : Int32)) X dX7_refusesAdd_47 (by decide) ?_
    exact z_sub [] rfl (sX7_refusesAdd_48 X k0 hk0 h y1 y2 (0 : Int32) σ)
def fX7_refusesAdd_22 (L : Nat → Nat) (k0 : Nat) (x1 : Int32) (x2 : Int32) (y1 : Int32) (σ : cS) : Option (Int32 × cS) := if x1 = x2 then (fX7_refusesAdd_32 L k0 y1 (1 : Int32) σ) else (fX7_refusesAdd_32 L k0 y1 (0 : Int32) σ)
set_option maxHeartbeats 4000000 in
set_option maxRecDepth 100000 in
theorem sX7_refusesAdd_22 {K : MCx} {G : Lay} (X : Cx K G RX7 cX7_refusesAdd 3 (some .boolean) 2 43) (k0 : Nat) (hk0 : isMod G k0) (h : Int64) (x1 : Int32) (x2 : Int32) (y1 : Int32) (σ : cS) : Sm K G TT (QM K G (fun r : (Int32 × cS) => ((some (.int r.1), h, r.2) : Option Value × Int64 × cS))) 3 22 [(0, .ref (la G k0)), (1, .int x1), (2, .int x2)] [.int y1, .ref (la G k0)] h σ (fX7_refusesAdd_22 (ll G) k0 x1 x2 y1 σ) := by
  unfold fX7_refusesAdd_22
  refine z_iload_n X dX7_refusesAdd_22 1 rfl ?_
  refine z_iload_n X dX7_refusesAdd_23 2 rfl ?_
  refine z_icmp_ne X 31 dX7_refusesAdd_24 (by decide) ?_ ?_
  · refine z_iconst (v := (1 : Int32)) X dX7_refusesAdd_27 (by decide) ?_
    refine z_goto X 32 dX7_refusesAdd_28 (by decide) ?_
    exact z_sub [0] rfl (sX7_refusesAdd_32 X k0 hk0 h y1 (1 : Int32) σ)
  · refine z_iconst (v := (0 : Int32)) X dX7_refusesAdd_31 (by decide) ?_
    exact z_sub [0] rfl (sX7_refusesAdd_32 X k0 hk0 h y1 (0 : Int32) σ)
def fX7_refusesAdd_17 (L : Nat → Nat) (k0 : Nat) (x1 : Int32) (x2 : Int32) (σ : cS) : Option (Int32 × cS) := fX7_refusesAdd_22 L k0 x1 x2 (1 : Int32) σ
set_option maxHeartbeats 4000000 in
set_option maxRecDepth 100000 in
theorem sX7_refusesAdd_17 {K : MCx} {G : Lay} (X : Cx K G RX7 cX7_refusesAdd 3 (some .boolean) 2 43) (k0 : Nat) (hk0 : isMod G k0) (h : Int64) (x1 : Int32) (x2 : Int32) (σ : cS) : Sm K G TT (QM K G (fun r : (Int32 × cS) => ((some (.int r.1), h, r.2) : Option Value × Int64 × cS))) 3 17 [(0, .ref (la G k0)), (1, .int x1), (2, .int x2)] [.ref (la G k0)] h σ (fX7_refusesAdd_17 (ll G) k0 x1 x2 σ) := by
  unfold fX7_refusesAdd_17
  refine z_iconst (v := (1 : Int32)) X dX7_refusesAdd_17 (by decide) ?_
  refine z_goto X 22 dX7_refusesAdd_18 (by decide) ?_
  exact z_sub [0, 1, 2] rfl (sX7_refusesAdd_22 X k0 hk0 h x1 x2 (1 : Int32) σ)
def fX7_refusesAdd_0 (L : Nat → Nat) (k0 : Nat) (x1 : Int32) (x2 : Int32) (σ : cS) : Option (Int32 × cS) := Option.bind (fX7_isNode L σ k0 x1) (fun r1 => if r1 = 0 then (fX7_refusesAdd_17 L k0 x1 x2 σ) else (Option.bind (fX7_isNode L σ k0 x2) (fun r2 => if r2 = 0 then (fX7_refusesAdd_17 L k0 x1 x2 σ) else (fX7_refusesAdd_22 L k0 x1 x2 (0 : Int32) σ))))
set_option maxHeartbeats 4000000 in
set_option maxRecDepth 100000 in
theorem sX7_refusesAdd_0 {K : MCx} {G : Lay} (X : Cx K G RX7 cX7_refusesAdd 3 (some .boolean) 2 43) (k0 : Nat) (hk0 : isMod G k0) (h : Int64) (x1 : Int32) (x2 : Int32) (σ : cS) : Sm K G TT (QM K G (fun r : (Int32 × cS) => ((some (.int r.1), h, r.2) : Option Value × Int64 × cS))) 3 0 [(0, .ref (la G k0)), (1, .int x1), (2, .int x2)] [] h σ (fX7_refusesAdd_0 (ll G) k0 x1 x2 σ) := by
  unfold fX7_refusesAdd_0
  refine z_aload_n X dX7_refusesAdd_0 0 rfl ?_
  refine z_aload_n X dX7_refusesAdd_1 0 rfl ?_
  refine z_iload_n X dX7_refusesAdd_2 1 rfl ?_
  refine z_callV0 X (g := (fun r1 : Int32 => ((some (.int r1), h, σ) : Option Value × Int64 × cS))) (st := [.ref (la G k0)]) (st1 := (fun r1 : Int32 => [.int r1, .ref (la G k0)])) (rmf := 1) (rml := 22) [.int x1] k0 cal_X7_isNode q_10_3 ⟨Nat.le_of_ble_eq_true rfl, Nat.le_of_ble_eq_true rfl⟩ rfl rfl (Nat.le_of_ble_eq_true rfl) rfl hk0.1 (ce7 hk0.1 _ _) (ctX7_isNode (kl K) G X.2.2.2.2.2.2.2.1 h σ k0 hk0 x1) dX7_refusesAdd_3 (fun _ => rfl) (fun r1 => ?_)
  refine z_if_eq X 17 dX7_refusesAdd_6 (by decide) ?_ ?_
  · exact z_sub [0, 1, 2] rfl (sX7_refusesAdd_17 X k0 hk0 h x1 x2 σ)
  · refine z_aload_n X dX7_refusesAdd_9 0 rfl ?_
    refine z_iload_n X dX7_refusesAdd_10 2 rfl ?_
    refine z_callV0 X (g := (fun r2 : Int32 => ((some (.int r2), h, σ) : Option Value × Int64 × cS))) (st := [.ref (la G k0)]) (st1 := (fun r2 : Int32 => [.int r2, .ref (la G k0)])) (rmf := 1) (rml := 22) [.int x2] k0 cal_X7_isNode q_10_3 ⟨Nat.le_of_ble_eq_true rfl, Nat.le_of_ble_eq_true rfl⟩ rfl rfl (Nat.le_of_ble_eq_true rfl) rfl hk0.1 (ce7 hk0.1 _ _) (ctX7_isNode (kl K) G X.2.2.2.2.2.2.2.1 h σ k0 hk0 x2) dX7_refusesAdd_11 (fun _ => rfl) (fun r2 => ?_)
    refine z_if_ne X 21 dX7_refusesAdd_14 (by decide) ?_ ?_
    · exact z_sub [0, 1, 2] rfl (sX7_refusesAdd_17 X k0 hk0 h x1 x2 σ)
    · refine z_iconst (v := (0 : Int32)) X dX7_refusesAdd_21 (by decide) ?_
      exact z_sub [0, 1, 2] rfl (sX7_refusesAdd_22 X k0 hk0 h x1 x2 (0 : Int32) σ)
def fX7_refusesAdd (L : Nat → Nat) (σ : cS) (k0 : Nat) (x1 : Int32) (x2 : Int32) : Option (Int32 × cS) := fX7_refusesAdd_0 L k0 x1 x2 σ
set_option maxHeartbeats 4000000 in
set_option maxRecDepth 100000 in
theorem ctX7_refusesAdd (l : Launch) (G : Lay) (hi : Inj G) (h : Int64) (σ : cS) (k0 : Nat) (hk0 : isMod G k0) (x1 : Int32) (x2 : Int32) : ∀ r, fX7_refusesAdd (ll G) σ k0 x1 x2 = some r → CM l yX7_refusesAdd cX7_refusesAdd 3 (some .boolean) 2 43 G [.ref (la G k0), .int x1, .int x2] h σ (some (.int r.1), h, r.2) := by
  refine cm_of (g := (fun r : (Int32 × cS) => ((some (.int r.1), h, r.2) : Option Value × Int64 × cS))) (by decide) hi (Nat.le_of_ble_eq_true rfl) (fun K hKl X => ?_)
  unfold fX7_refusesAdd
  exact z_sub [0, 1, 2] rfl (sX7_refusesAdd_0 X k0 hk0 h x1 x2 σ)
def fX7_add_0 (L : Nat → Nat) (Nf : Nat) (k0 : Nat) (x1 : Int32) (x2 : Int32) (σ : cS) : Option (Int32 × cS) := Option.bind (fX7_refusesAdd L σ k0 x1 x2) (fun r1 => if r1.1 = 0 then (Option.bind (fX7_save L Nf r1.2 k0) (fun r2 => Option.bind (fX7_adds L Nf r2 k0 x1 x2) (fun r3 => some (r3.1, r3.2)))) else (some ((0 : Int32), r1.2)))
set_option maxHeartbeats 4000000 in
set_option maxRecDepth 100000 in
theorem sX7_add_0 {K : MCx} {G : Lay} (X : Cx K G RX7 cX7_add 3 (some .int) 3 67) (Nf : Nat) (k0 : Nat) (hk0 : isMod G k0) (h : Int64) (x1 : Int32) (x2 : Int32) (σ : cS) : Sm K G TT (QM K G (fun r : (Int32 × cS) => ((some (.int r.1), h, r.2) : Option Value × Int64 × cS))) 3 0 [(0, .ref (la G k0)), (1, .int x1), (2, .int x2)] [] h σ (fX7_add_0 (ll G) Nf k0 x1 x2 σ) := by
  unfold fX7_add_0
  refine z_aload_n X dX7_add_0 0 rfl ?_
  refine z_iload_n X dX7_add_1 1 rfl ?_
  refine z_iload_n X dX7_add_2 2 rfl ?_
  refine z_callV0 X (g := (fun r1 : (Int32 × cS) => ((some (.int r1.1), h, r1.2) : Option Value × Int64 × cS))) (st := []) (st1 := (fun r1 : (Int32 × cS) => [.int r1.1])) (rmf := 2) (rml := 43) [.int x1, .int x2] k0 cal_X7_refusesAdd q_9_23 ⟨Nat.le_of_ble_eq_true rfl, Nat.le_of_ble_eq_true rfl⟩ rfl rfl (Nat.le_of_ble_eq_true rfl) rfl hk0.1 (ce7 hk0.1 _ _) (ctX7_refusesAdd (kl K) G X.2.2.2.2.2.2.2.1 h σ k0 hk0 x1 x2) dX7_add_3 (fun _ => rfl) (fun r1 => ?_)
  refine z_if_eq X 11 dX7_add_6 (by decide) ?_ ?_
  · refine z_aload_n X dX7_add_11 0 rfl ?_
    refine z_callV0 X (g := (fun r2 : cS => ((none, h, r2) : Option Value × Int64 × cS))) (st := []) (st1 := (fun r2 : cS => [])) (rmf := 0) (rml := 0) [] k0 cal_X7_save q_7_13 ⟨Nat.le_of_ble_eq_true rfl, Nat.le_of_ble_eq_true rfl⟩ rfl rfl (Nat.le_of_ble_eq_true rfl) rfl hk0.1 (ce7 hk0.1 _ _) (ctX7_save (kl K) G X.2.2.2.2.2.2.2.1 Nf h r1.2 k0 hk0 ) dX7_add_12 (fun _ => rfl) (fun r2 => ?_)
    refine z_aload_n X dX7_add_15 0 rfl ?_
    refine z_iload_n X dX7_add_16 1 rfl ?_
    refine z_iload_n X dX7_add_17 2 rfl ?_
    refine z_callV0 X (g := (fun r3 : (Int32 × cS) => ((some (.int r3.1), h, r3.2) : Option Value × Int64 × cS))) (st := []) (st1 := (fun r3 : (Int32 × cS) => [.int r3.1])) (rmf := 2) (rml := 44) [.int x1, .int x2] k0 cal_X7_adds q_10_7 ⟨Nat.le_of_ble_eq_true rfl, Nat.le_of_ble_eq_true rfl⟩ rfl rfl (Nat.le_of_ble_eq_true rfl) rfl hk0.1 (ce7 hk0.1 _ _) (ctX7_adds (kl K) G X.2.2.2.2.2.2.2.1 Nf h r2 k0 hk0 x1 x2) dX7_add_18 (fun _ => rfl) (fun r3 => ?_)
    exact z_iret X rfl dX7_add_21
  · refine z_iconst (v := (0 : Int32)) X dX7_add_9 (by decide) ?_
    exact z_iret X rfl dX7_add_10
def fX7_add (L : Nat → Nat) (Nf : Nat) (σ : cS) (k0 : Nat) (x1 : Int32) (x2 : Int32) : Option (Int32 × cS) := fX7_add_0 L Nf k0 x1 x2 σ
set_option maxHeartbeats 4000000 in
set_option maxRecDepth 100000 in
theorem ctX7_add (l : Launch) (G : Lay) (hi : Inj G) (Nf : Nat) (h : Int64) (σ : cS) (k0 : Nat) (hk0 : isMod G k0) (x1 : Int32) (x2 : Int32) : ∀ r, fX7_add (ll G) Nf σ k0 x1 x2 = some r → CM l yX7_add cX7_add 3 (some .int) 3 67 G [.ref (la G k0), .int x1, .int x2] h σ (some (.int r.1), h, r.2) := by
  refine cm_of (g := (fun r : (Int32 × cS) => ((some (.int r.1), h, r.2) : Option Value × Int64 × cS))) (by decide) hi (Nat.le_of_ble_eq_true rfl) (fun K hKl X => ?_)
  unfold fX7_add
  exact z_sub [0, 1, 2] rfl (sX7_add_0 X Nf k0 hk0 h x1 x2 σ)
def fX7_refusesEdge_14 (L : Nat → Nat) (Nf : Nat) (k0 : Nat) (y1 : Int32) (σ : cS) : Option (Int32 × cS) := Option.bind (fX7_refuses σ k0 y1 (0 : Int32) (0 : Int32)) (fun r1 => grd (isb r1.1) (some (r1.1, r1.2)))
set_option maxHeartbeats 4000000 in
set_option maxRecDepth 100000 in
theorem sX7_refusesEdge_14 {K : MCx} {G : Lay} (X : Cx K G RX7 cX7_refusesEdge 2 (some .boolean) 1 23) (Nf : Nat) (k0 : Nat) (hk0 : isMod G k0) (h : Int64) (y1 : Int32) (σ : cS) : Sm K G TT (QM K G (fun r : (Int32 × cS) => ((some (.int r.1), h, r.2) : Option Value × Int64 × cS))) 2 14 [] [.int y1, .ref (la G k0)] h σ (fX7_refusesEdge_14 (ll G) Nf k0 y1 σ) := by
  unfold fX7_refusesEdge_14
  refine z_iconst (v := (0 : Int32)) X dX7_refusesEdge_14 (by decide) ?_
  refine z_iconst (v := (0 : Int32)) X dX7_refusesEdge_15 (by decide) ?_
  refine z_callV0 X (g := (fun r1 : (Int32 × cS) => ((some (.int r1.1), h, r1.2) : Option Value × Int64 × cS))) (st := []) (st1 := (fun r1 : (Int32 × cS) => [.int r1.1])) (rmf := 0) (rml := 0) [.int y1, .int (0 : Int32), .int (0 : Int32)] k0 cal_X7_refuses q_7_8 ⟨Nat.le_of_ble_eq_true rfl, Nat.le_of_ble_eq_true rfl⟩ rfl rfl (Nat.le_of_ble_eq_true rfl) rfl hk0.1 (ce7 hk0.1 _ _) (ctX7_refuses (kl K) G X.2.2.2.2.2.2.2.1 h σ k0 hk0 y1 (0 : Int32) (0 : Int32)) dX7_refusesEdge_16 (fun _ => rfl) (fun r1 => ?_)
  exact z_zret X rfl dX7_refusesEdge_19
def fX7_refusesEdge_0 (L : Nat → Nat) (Nf : Nat) (k0 : Nat) (x1 : Int32) (σ : cS) : Option (Int32 × cS) := Option.bind (fX7_placeOf L Nf σ k0 x1) (fun r1 => if 0 ≤ r1 then (fX7_refusesEdge_14 L Nf k0 (0 : Int32) σ) else (fX7_refusesEdge_14 L Nf k0 (1 : Int32) σ))
set_option maxHeartbeats 4000000 in
set_option maxRecDepth 100000 in
theorem sX7_refusesEdge_0 {K : MCx} {G : Lay} (X : Cx K G RX7 cX7_refusesEdge 2 (some .boolean) 1 23) (Nf : Nat) (k0 : Nat) (hk0 : isMod G k0) (h : Int64) (x1 : Int32) (σ : cS) : Sm K G TT (QM K G (fun r : (Int32 × cS) => ((some (.int r.1), h, r.2) : Option Value × Int64 × cS))) 2 0 [(0, .ref (la G k0)), (1, .int x1)] [] h σ (fX7_refusesEdge_0 (ll G) Nf k0 x1 σ) := by
  unfold fX7_refusesEdge_0
  refine z_aload_n X dX7_refusesEdge_0 0 rfl ?_
  refine z_aload_n X dX7_refusesEdge_1 0 rfl ?_
  refine z_iload_n X dX7_refusesEdge_2 1 rfl ?_
  refine z_callV0 X (g := (fun r1 : Int32 => ((some (.int r1), h, σ) : Option Value × Int64 × cS))) (st := [.ref (la G k0)]) (st1 := (fun r1 : Int32 => [.int r1, .ref (la G k0)])) (rmf := 0) (rml := 0) [.int x1] k0 cal_X7_placeOf q_12_5 ⟨Nat.le_of_ble_eq_true rfl, Nat.le_of_ble_eq_true rfl⟩ rfl rfl (Nat.le_of_ble_eq_true rfl) rfl hk0.1 (ce7 hk0.1 _ _) (ctX7_placeOf (kl K) G X.2.2.2.2.2.2.2.1 Nf h σ k0 hk0 x1) dX7_refusesEdge_3 (fun _ => rfl) (fun r1 => ?_)
  refine z_if_ge X 13 dX7_refusesEdge_6 (by decide) ?_ ?_
  · refine z_iconst (v := (0 : Int32)) X dX7_refusesEdge_13 (by decide) ?_
    exact z_sub [] rfl (sX7_refusesEdge_14 X Nf k0 hk0 h (0 : Int32) σ)
  · refine z_iconst (v := (1 : Int32)) X dX7_refusesEdge_9 (by decide) ?_
    refine z_goto X 14 dX7_refusesEdge_10 (by decide) ?_
    exact z_sub [] rfl (sX7_refusesEdge_14 X Nf k0 hk0 h (1 : Int32) σ)
def fX7_refusesEdge (L : Nat → Nat) (Nf : Nat) (σ : cS) (k0 : Nat) (x1 : Int32) : Option (Int32 × cS) := fX7_refusesEdge_0 L Nf k0 x1 σ
set_option maxHeartbeats 4000000 in
set_option maxRecDepth 100000 in
theorem ctX7_refusesEdge (l : Launch) (G : Lay) (hi : Inj G) (Nf : Nat) (h : Int64) (σ : cS) (k0 : Nat) (hk0 : isMod G k0) (x1 : Int32) : ∀ r, fX7_refusesEdge (ll G) Nf σ k0 x1 = some r → CM l yX7_refusesEdge cX7_refusesEdge 2 (some .boolean) 1 23 G [.ref (la G k0), .int x1] h σ (some (.int r.1), h, r.2) := by
  refine cm_of (g := (fun r : (Int32 × cS) => ((some (.int r.1), h, r.2) : Option Value × Int64 × cS))) (by decide) hi (Nat.le_of_ble_eq_true rfl) (fun K hKl X => ?_)
  unfold fX7_refusesEdge
  exact z_sub [0, 1] rfl (sX7_refusesEdge_0 X Nf k0 hk0 h x1 σ)
def fX7_remove_0 (L : Nat → Nat) (Nf : Nat) (k0 : Nat) (x1 : Int32) (σ : cS) : Option (Int32 × cS) := Option.bind (fX7_refusesEdge L Nf σ k0 x1) (fun r1 => if r1.1 = 0 then (Option.bind (fX7_save L Nf r1.2 k0) (fun r2 => Option.bind (fX7_placeOf L Nf r2 k0 x1) (fun r3 => Option.bind (fX7_removes L Nf r2 k0 r3) (fun r4 => some (r4.1, r4.2))))) else (some ((0 : Int32), r1.2)))
set_option maxHeartbeats 4000000 in
set_option maxRecDepth 100000 in
theorem sX7_remove_0 {K : MCx} {G : Lay} (X : Cx K G RX7 cX7_remove 2 (some .int) 2 45) (Nf : Nat) (k0 : Nat) (hk0 : isMod G k0) (h : Int64) (x1 : Int32) (σ : cS) : Sm K G TT (QM K G (fun r : (Int32 × cS) => ((some (.int r.1), h, r.2) : Option Value × Int64 × cS))) 2 0 [(0, .ref (la G k0)), (1, .int x1)] [] h σ (fX7_remove_0 (ll G) Nf k0 x1 σ) := by
  unfold fX7_remove_0
  refine z_aload_n X dX7_remove_0 0 rfl ?_
  refine z_iload_n X dX7_remove_1 1 rfl ?_
  refine z_callV0 X (g := (fun r1 : (Int32 × cS) => ((some (.int r1.1), h, r1.2) : Option Value × Int64 × cS))) (st := []) (st1 := (fun r1 : (Int32 × cS) => [.int r1.1])) (rmf := 1) (rml := 23) [.int x1] k0 cal_X7_refusesEdge q_12_1 ⟨Nat.le_of_ble_eq_true rfl, Nat.le_of_ble_eq_true rfl⟩ rfl rfl (Nat.le_of_ble_eq_true rfl) rfl hk0.1 (ce7 hk0.1 _ _) (ctX7_refusesEdge (kl K) G X.2.2.2.2.2.2.2.1 Nf h σ k0 hk0 x1) dX7_remove_2 (fun _ => rfl) (fun r1 => ?_)
  refine z_if_eq X 10 dX7_remove_5 (by decide) ?_ ?_
  · refine z_aload_n X dX7_remove_10 0 rfl ?_
    refine z_callV0 X (g := (fun r2 : cS => ((none, h, r2) : Option Value × Int64 × cS))) (st := []) (st1 := (fun r2 : cS => [])) (rmf := 0) (rml := 0) [] k0 cal_X7_save q_7_13 ⟨Nat.le_of_ble_eq_true rfl, Nat.le_of_ble_eq_true rfl⟩ rfl rfl (Nat.le_of_ble_eq_true rfl) rfl hk0.1 (ce7 hk0.1 _ _) (ctX7_save (kl K) G X.2.2.2.2.2.2.2.1 Nf h r1.2 k0 hk0 ) dX7_remove_11 (fun _ => rfl) (fun r2 => ?_)
    refine z_aload_n X dX7_remove_14 0 rfl ?_
    refine z_aload_n X dX7_remove_15 0 rfl ?_
    refine z_iload_n X dX7_remove_16 1 rfl ?_
    refine z_callV0 X (g := (fun r3 : Int32 => ((some (.int r3), h, r2) : Option Value × Int64 × cS))) (st := [.ref (la G k0)]) (st1 := (fun r3 : Int32 => [.int r3, .ref (la G k0)])) (rmf := 0) (rml := 0) [.int x1] k0 cal_X7_placeOf q_12_5 ⟨Nat.le_of_ble_eq_true rfl, Nat.le_of_ble_eq_true rfl⟩ rfl rfl (Nat.le_of_ble_eq_true rfl) rfl hk0.1 (ce7 hk0.1 _ _) (ctX7_placeOf (kl K) G X.2.2.2.2.2.2.2.1 Nf h r2 k0 hk0 x1) dX7_remove_17 (fun _ => rfl) (fun r3 => ?_)
    refine z_callV0 X (g := (fun r4 : (Int32 × cS) => ((some (.int r4.1), h, r4.2) : Option Value × Int64 × cS))) (st := []) (st1 := (fun r4 : (Int32 × cS) => [.int r4.1])) (rmf := 1) (rml := 21) [.int r3] k0 cal_X7_removes q_12_9 ⟨Nat.le_of_ble_eq_true rfl, Nat.le_of_ble_eq_true rfl⟩ rfl rfl (Nat.le_of_ble_eq_true rfl) rfl hk0.1 (ce7 hk0.1 _ _) (ctX7_removes (kl K) G X.2.2.2.2.2.2.2.1 Nf h r2 k0 hk0 r3) dX7_remove_20 (fun _ => rfl) (fun r4 => ?_)
    exact z_iret X rfl dX7_remove_23
  · refine z_iconst (v := (0 : Int32)) X dX7_remove_8 (by decide) ?_
    exact z_iret X rfl dX7_remove_9
def fX7_remove (L : Nat → Nat) (Nf : Nat) (σ : cS) (k0 : Nat) (x1 : Int32) : Option (Int32 × cS) := fX7_remove_0 L Nf k0 x1 σ
set_option maxHeartbeats 4000000 in
set_option maxRecDepth 100000 in
theorem ctX7_remove (l : Launch) (G : Lay) (hi : Inj G) (Nf : Nat) (h : Int64) (σ : cS) (k0 : Nat) (hk0 : isMod G k0) (x1 : Int32) : ∀ r, fX7_remove (ll G) Nf σ k0 x1 = some r → CM l yX7_remove cX7_remove 2 (some .int) 2 45 G [.ref (la G k0), .int x1] h σ (some (.int r.1), h, r.2) := by
  refine cm_of (g := (fun r : (Int32 × cS) => ((some (.int r.1), h, r.2) : Option Value × Int64 × cS))) (by decide) hi (Nat.le_of_ble_eq_true rfl) (fun K hKl X => ?_)
  unfold fX7_remove
  exact z_sub [0, 1] rfl (sX7_remove_0 X Nf k0 hk0 h x1 σ)
def fX7_turn_0 (L : Nat → Nat) (Nf : Nat) (k0 : Nat) (x1 : Int32) (σ : cS) : Option (Int32 × cS) := Option.bind (fX7_refusesEdge L Nf σ k0 x1) (fun r1 => if r1.1 = 0 then (Option.bind (fX7_save L Nf r1.2 k0) (fun r2 => Option.bind (fX7_placeOf L Nf r2 k0 x1) (fun r3 => Option.bind (fX7_turns L r2 k0 r3) (fun r4 => Option.bind (fX7_holder L r4 k0 r3) (fun r5 => some (r5, r4)))))) else (some ((0 : Int32), r1.2)))
set_option maxHeartbeats 4000000 in
set_option maxRecDepth 100000 in
theorem sX7_turn_0 {K : MCx} {G : Lay} (X : Cx K G RX7 cX7_turn 3 (some .int) 2 44) (Nf : Nat) (k0 : Nat) (hk0 : isMod G k0) (h : Int64) (x1 : Int32) (σ : cS) : Sm K G TT (QM K G (fun r : (Int32 × cS) => ((some (.int r.1), h, r.2) : Option Value × Int64 × cS))) 3 0 [(0, .ref (la G k0)), (1, .int x1)] [] h σ (fX7_turn_0 (ll G) Nf k0 x1 σ) := by
  unfold fX7_turn_0
  refine z_aload_n X dX7_turn_0 0 rfl ?_
  refine z_iload_n X dX7_turn_1 1 rfl ?_
  refine z_callV0 X (g := (fun r1 : (Int32 × cS) => ((some (.int r1.1), h, r1.2) : Option Value × Int64 × cS))) (st := []) (st1 := (fun r1 : (Int32 × cS) => [.int r1.1])) (rmf := 1) (rml := 23) [.int x1] k0 cal_X7_refusesEdge q_12_1 ⟨Nat.le_of_ble_eq_true rfl, Nat.le_of_ble_eq_true rfl⟩ rfl rfl (Nat.le_of_ble_eq_true rfl) rfl hk0.1 (ce7 hk0.1 _ _) (ctX7_refusesEdge (kl K) G X.2.2.2.2.2.2.2.1 Nf h σ k0 hk0 x1) dX7_turn_2 (fun _ => rfl) (fun r1 => ?_)
  refine z_if_eq X 10 dX7_turn_5 (by decide) ?_ ?_
  · refine z_aload_n X dX7_turn_10 0 rfl ?_
    refine z_callV0 X (g := (fun r2 : cS => ((none, h, r2) : Option Value × Int64 × cS))) (st := []) (st1 := (fun r2 : cS => [])) (rmf := 0) (rml := 0) [] k0 cal_X7_save q_7_13 ⟨Nat.le_of_ble_eq_true rfl, Nat.le_of_ble_eq_true rfl⟩ rfl rfl (Nat.le_of_ble_eq_true rfl) rfl hk0.1 (ce7 hk0.1 _ _) (ctX7_save (kl K) G X.2.2.2.2.2.2.2.1 Nf h r1.2 k0 hk0 ) dX7_turn_11 (fun _ => rfl) (fun r2 => ?_)
    refine z_aload_n X dX7_turn_14 0 rfl ?_
    refine z_iload_n X dX7_turn_15 1 rfl ?_
    refine z_callV0 X (g := (fun r3 : Int32 => ((some (.int r3), h, r2) : Option Value × Int64 × cS))) (st := []) (st1 := (fun r3 : Int32 => [.int r3])) (rmf := 0) (rml := 0) [.int x1] k0 cal_X7_placeOf q_12_5 ⟨Nat.le_of_ble_eq_true rfl, Nat.le_of_ble_eq_true rfl⟩ rfl rfl (Nat.le_of_ble_eq_true rfl) rfl hk0.1 (ce7 hk0.1 _ _) (ctX7_placeOf (kl K) G X.2.2.2.2.2.2.2.1 Nf h r2 k0 hk0 x1) dX7_turn_16 (fun _ => rfl) (fun r3 => ?_)
    refine z_istore_n X [(2, .int r3), (0, .ref (la G k0)), (1, .int x1)] dX7_turn_19 (by decide) rfl ?_
    refine z_aload_n X dX7_turn_20 1 rfl ?_
    refine z_iload_n X dX7_turn_21 0 rfl ?_
    refine z_callV0 X (g := (fun r4 : cS => ((none, h, r4) : Option Value × Int64 × cS))) (st := []) (st1 := (fun r4 : cS => [])) (rmf := 0) (rml := 0) [.int r3] k0 cal_X7_turns q_13_4 ⟨Nat.le_of_ble_eq_true rfl, Nat.le_of_ble_eq_true rfl⟩ rfl rfl (Nat.le_of_ble_eq_true rfl) rfl hk0.1 (ce7 hk0.1 _ _) (ctX7_turns (kl K) G X.2.2.2.2.2.2.2.1 h r2 k0 hk0 r3) dX7_turn_22 (fun _ => rfl) (fun r4 => ?_)
    refine z_aload_n X dX7_turn_25 1 rfl ?_
    refine z_iload_n X dX7_turn_26 0 rfl ?_
    refine z_callV0 X (g := (fun r5 : Int32 => ((some (.int r5), h, r4) : Option Value × Int64 × cS))) (st := []) (st1 := (fun r5 : Int32 => [.int r5])) (rmf := 0) (rml := 0) [.int r3] k0 cal_X7_holder q_10_15 ⟨Nat.le_of_ble_eq_true rfl, Nat.le_of_ble_eq_true rfl⟩ rfl rfl (Nat.le_of_ble_eq_true rfl) rfl hk0.1 (ce7 hk0.1 _ _) (ctX7_holder (kl K) G X.2.2.2.2.2.2.2.1 h r4 k0 hk0 r3) dX7_turn_27 (fun _ => rfl) (fun r5 => ?_)
    exact z_iret X rfl dX7_turn_30
  · refine z_iconst (v := (0 : Int32)) X dX7_turn_8 (by decide) ?_
    exact z_iret X rfl dX7_turn_9
def fX7_turn (L : Nat → Nat) (Nf : Nat) (σ : cS) (k0 : Nat) (x1 : Int32) : Option (Int32 × cS) := fX7_turn_0 L Nf k0 x1 σ
set_option maxHeartbeats 4000000 in
set_option maxRecDepth 100000 in
theorem ctX7_turn (l : Launch) (G : Lay) (hi : Inj G) (Nf : Nat) (h : Int64) (σ : cS) (k0 : Nat) (hk0 : isMod G k0) (x1 : Int32) : ∀ r, fX7_turn (ll G) Nf σ k0 x1 = some r → CM l yX7_turn cX7_turn 3 (some .int) 2 44 G [.ref (la G k0), .int x1] h σ (some (.int r.1), h, r.2) := by
  refine cm_of (g := (fun r : (Int32 × cS) => ((some (.int r.1), h, r.2) : Option Value × Int64 × cS))) (by decide) hi (Nat.le_of_ble_eq_true rfl) (fun K hKl X => ?_)
  unfold fX7_turn
  exact z_sub [0, 1] rfl (sX7_turn_0 X Nf k0 hk0 h x1 σ)
def fX7_visits_123 (L : Nat → Nat) (Nf : Nat) (k0 : Nat) (self28 : Int32 → cS → Option cS) (self38 : Int32 → Int32 → cS → Option cS) (x2 : Int32) (x3 : Int32) (σ : cS) : Option cS := bnd (x3 + (1 : Int32)) (fun t1 => self38 x2 t1 σ)
set_option maxHeartbeats 4000000 in
set_option maxRecDepth 100000 in
theorem sX7_visits_123 {K : MCx} {G : Lay} (X : Cx K G RX7 cX7_visits 5 none 1 21) (Nf : Nat) (k0 : Nat) (hk0 : isMod G k0) (h : Int64) (self28 : Int32 → cS → Option cS) (hself28 : ∀ (x2 : Int32) (σ : cS), Sm K G TT (QM K G (fun r : cS => ((none, h, r) : Option Value × Int64 × cS))) 5 28 [(0, .ref (la G k0)), (2, .int x2)] [] h σ (self28 x2 σ)) (self38 : Int32 → Int32 → cS → Option cS) (hself38 : ∀ (x2 : Int32) (x3 : Int32) (σ : cS), Sm K G TT (QM K G (fun r : cS => ((none, h, r) : Option Value × Int64 × cS))) 5 38 [(0, .ref (la G k0)), (2, .int x2), (3, .int x3)] [] h σ (self38 x2 x3 σ)) (x2 : Int32) (x3 : Int32) (σ : cS) : Sm K G TT (QM K G (fun r : cS => ((none, h, r) : Option Value × Int64 × cS))) 5 123 [(0, .ref (la G k0)), (2, .int x2), (3, .int x3)] [] h σ (fX7_visits_123 (ll G) Nf k0 self28 self38 x2 x3 σ) := by
  unfold fX7_visits_123
  refine z_iinc X (fun t1 => [(3, .int t1), (0, .ref (la G k0)), (2, .int x2)]) dX7_visits_123 2 rfl (by decide) (by decide) (fun _ => rfl) (fun t1 => ?_)
  refine z_goto X 38 dX7_visits_126 (by decide) ?_
  exact z_sub [1, 2, 0] rfl (hself38 x2 t1 σ)
def fX7_visits_38 (L : Nat → Nat) (Nf : Nat) (k0 : Nat) (self28 : Int32 → cS → Option cS) : Nat → Int32 → Int32 → cS → Option cS
  | 0, _, _, _ => none
  | n + 1, x2, x3, σ => grd (inb (3 : Int32) (L (k0 + 1))) (if (σ (k0 + 1) (3 : Int32).toNatClampNeg) ≤ x3 then (bnd (x2 + (1 : Int32)) (fun t1 => self28 t1 σ)) else (Option.bind (fX7_other L σ k0 x3) (fun r2 => Option.bind (fX7_holder L σ k0 x3) (fun r3 => grd (inb x2 (L (k0 + 5))) (if r3 = (σ (k0 + 5) x2.toNatClampNeg) then (if (((σ k0 10) >>> (r2 &&& 31)) &&& (1 : Int32)) = 0 then (bnd (st2 σ k0 10 ((σ k0 10) ||| ((1 : Int32) <<< (r2 &&& 31)))) (fun σ4 => grd (inb r2 (L (k0 + 6))) (bnd (st2 σ4 (k0 + 6) r2.toNatClampNeg x3) (fun σ5 => grd (inb (σ5 k0 11) (L (k0 + 5))) (bnd (st2 σ5 (k0 + 5) (σ5 k0 11).toNatClampNeg r2) (fun σ6 => bnd (st2 σ6 k0 11 ((σ6 k0 11) + (1 : Int32))) (fun σ7 => fX7_visits_123 L Nf k0 self28 (fX7_visits_38 L Nf k0 self28 n) x2 x3 σ7))))))) else (fX7_visits_123 L Nf k0 self28 (fX7_visits_38 L Nf k0 self28 n) x2 x3 σ)) else (fX7_visits_123 L Nf k0 self28 (fX7_visits_38 L Nf k0 self28 n) x2 x3 σ))))))
set_option maxHeartbeats 4000000 in
set_option maxRecDepth 100000 in
theorem sX7_visits_38 {K : MCx} {G : Lay} (X : Cx K G RX7 cX7_visits 5 none 1 21) (Nf : Nat) (k0 : Nat) (hk0 : isMod G k0) (h : Int64) (self28 : Int32 → cS → Option cS) (hself28 : ∀ (x2 : Int32) (σ : cS), Sm K G TT (QM K G (fun r : cS => ((none, h, r) : Option Value × Int64 × cS))) 5 28 [(0, .ref (la G k0)), (2, .int x2)] [] h σ (self28 x2 σ)) : ∀ (n : Nat) (x2 : Int32) (x3 : Int32) (σ : cS), Sm K G TT (QM K G (fun r : cS => ((none, h, r) : Option Value × Int64 × cS))) 5 38 [(0, .ref (la G k0)), (2, .int x2), (3, .int x3)] [] h σ (fX7_visits_38 (ll G) Nf k0 self28 n x2 x3 σ) := by
  intro n
  induction n with
  | zero => intros; exact z_none
  | succ n ih =>
    intro x2 x3 σ
    unfold fX7_visits_38
    refine z_iload_n X dX7_visits_38 2 rfl ?_
    refine z_aload_n X dX7_visits_39 0 rfl ?_
    refine z_get X inlX7 rfl hk0.1 (ce7 hk0.1 _ _) 0 (by decide) q_5_4 rfl dX7_visits_40 ?_
    refine z_iconst (v := (3 : Int32)) X dX7_visits_43 (by decide) ?_
    refine z_iald X hk0.2.1 dX7_visits_44 ?_
    refine z_icmp_ge X 129 dX7_visits_45 (by decide) ?_ ?_
    · refine z_iinc X (fun t1 => [(2, .int t1), (0, .ref (la G k0)), (3, .int x3)]) dX7_visits_129 1 rfl (by decide) (by decide) (fun _ => rfl) (fun t1 => ?_)
      refine z_goto X 28 dX7_visits_132 (by decide) ?_
      exact z_sub [1, 0] rfl (hself28 t1 σ)
    · refine z_aload_n X dX7_visits_48 0 rfl ?_
      refine z_iload_n X dX7_visits_49 2 rfl ?_
      refine z_callV0 X (g := (fun r2 : Int32 => ((some (.int r2), h, σ) : Option Value × Int64 × cS))) (st := []) (st1 := (fun r2 : Int32 => [.int r2])) (rmf := 0) (rml := 0) [.int x3] k0 cal_X7_other q_15_19 ⟨Nat.le_of_ble_eq_true rfl, Nat.le_of_ble_eq_true rfl⟩ rfl rfl (Nat.le_of_ble_eq_true rfl) rfl hk0.1 (ce7 hk0.1 _ _) (ctX7_other (kl K) G X.2.2.2.2.2.2.2.1 h σ k0 hk0 x3) dX7_visits_50 (fun _ => rfl) (fun r2 => ?_)
      refine z_istore X [(4, .int r2), (0, .ref (la G k0)), (2, .int x2), (3, .int x3)] dX7_visits_53 (by decide) rfl ?_
      refine z_aload_n X dX7_visits_55 1 rfl ?_
      refine z_iload_n X dX7_visits_56 3 rfl ?_
      refine z_callV0 X (g := (fun r3 : Int32 => ((some (.int r3), h, σ) : Option Value × Int64 × cS))) (st := []) (st1 := (fun r3 : Int32 => [.int r3])) (rmf := 0) (rml := 0) [.int x3] k0 cal_X7_holder q_10_15 ⟨Nat.le_of_ble_eq_true rfl, Nat.le_of_ble_eq_true rfl⟩ rfl rfl (Nat.le_of_ble_eq_true rfl) rfl hk0.1 (ce7 hk0.1 _ _) (ctX7_holder (kl K) G X.2.2.2.2.2.2.2.1 h σ k0 hk0 x3) dX7_visits_57 (fun _ => rfl) (fun r3 => ?_)
      refine z_aload_n X dX7_visits_60 1 rfl ?_
      refine z_get X inlX7 rfl hk0.1 (ce7 hk0.1 _ _) 8 (by decide) q_5_8 rfl dX7_visits_61 ?_
      refine z_iload_n X dX7_visits_64 2 rfl ?_
      refine z_iald X hk0.2.2.2.2.2.1 dX7_visits_65 ?_
      refine z_icmp_ne X 123 dX7_visits_66 (by decide) ?_ ?_
      · refine z_aload_n X dX7_visits_69 1 rfl ?_
        refine z_get X inlX7 rfl hk0.1 (ce7 hk0.1 _ _) 10 (by decide) q_15_18 rfl dX7_visits_70 ?_
        refine z_iload X dX7_visits_73 0 rfl ?_
        refine z_ishr X dX7_visits_75 ?_
        refine z_iconst (v := (1 : Int32)) X dX7_visits_76 (by decide) ?_
        refine z_iand X dX7_visits_77 ?_
        refine z_if_ne X 123 dX7_visits_78 (by decide) ?_ ?_
        · refine z_aload_n X dX7_visits_81 1 rfl ?_
          refine z_dup X dX7_visits_82 rfl ?_
          refine z_get X inlX7 rfl hk0.1 (ce7 hk0.1 _ _) 10 (by decide) q_15_18 rfl dX7_visits_83 ?_
          refine z_iconst (v := (1 : Int32)) X dX7_visits_86 (by decide) ?_
          refine z_iload X dX7_visits_87 0 rfl ?_
          refine z_ishl X dX7_visits_89 ?_
          refine z_ior X dX7_visits_90 ?_
          refine z_put X inlX7 rfl hk0.1 (ce7 hk0.1 _ _) 10 (by decide) q_15_18 tyX7 tyX7_ok nmX7 rfl (cp7 hk0.1 _ _ _ 10 (by decide)) rfl rfl (Nat.le_of_ble_eq_true rfl) dX7_visits_91 (fun σ4 => ?_)
          refine z_aload_n X dX7_visits_94 1 rfl ?_
          refine z_get X inlX7 rfl hk0.1 (ce7 hk0.1 _ _) 9 (by decide) q_5_9 rfl dX7_visits_95 ?_
          refine z_iload X dX7_visits_98 0 rfl ?_
          refine z_iload_n X dX7_visits_100 3 rfl ?_
          refine z_iast X hk0.2.2.2.2.2.2.1 dX7_visits_101 (fun σ5 => ?_)
          refine z_aload_n X dX7_visits_102 1 rfl ?_
          refine z_get X inlX7 rfl hk0.1 (ce7 hk0.1 _ _) 8 (by decide) q_5_8 rfl dX7_visits_103 ?_
          refine z_aload_n X dX7_visits_106 1 rfl ?_
          refine z_get X inlX7 rfl hk0.1 (ce7 hk0.1 _ _) 11 (by decide) q_15_13 rfl dX7_visits_107 ?_
          refine z_iload X dX7_visits_110 0 rfl ?_
          refine z_iast X hk0.2.2.2.2.2.1 dX7_visits_112 (fun σ6 => ?_)
          refine z_aload_n X dX7_visits_113 1 rfl ?_
          refine z_dup X dX7_visits_114 rfl ?_
          refine z_get X inlX7 rfl hk0.1 (ce7 hk0.1 _ _) 11 (by decide) q_15_13 rfl dX7_visits_115 ?_
          refine z_iconst (v := (1 : Int32)) X dX7_visits_118 (by decide) ?_
          refine z_iadd X dX7_visits_119 ?_
          refine z_put X inlX7 rfl hk0.1 (ce7 hk0.1 _ _) 11 (by decide) q_15_13 tyX7 tyX7_ok nmX7 rfl (cp7 hk0.1 _ _ _ 11 (by decide)) rfl rfl (Nat.le_of_ble_eq_true rfl) dX7_visits_120 (fun σ7 => ?_)
          exact z_sub [1, 2, 3] rfl (sX7_visits_123 X Nf k0 hk0 h self28 hself28 (fX7_visits_38 (ll G) Nf k0 self28 n) ih x2 x3 σ7)
        · exact z_sub [1, 2, 3] rfl (sX7_visits_123 X Nf k0 hk0 h self28 hself28 (fX7_visits_38 (ll G) Nf k0 self28 n) ih x2 x3 σ)
      · exact z_sub [1, 2, 3] rfl (sX7_visits_123 X Nf k0 hk0 h self28 hself28 (fX7_visits_38 (ll G) Nf k0 self28 n) ih x2 x3 σ)
def fX7_visits_28 (L : Nat → Nat) (Nf : Nat) (k0 : Nat) : Nat → Int32 → cS → Option cS
  | 0, _, _ => none
  | n + 1, x2, σ => if (σ k0 11) ≤ x2 then (some σ) else (fX7_visits_38 L Nf k0 (fX7_visits_28 L Nf k0 n) Nf x2 (0 : Int32) σ)
set_option maxHeartbeats 4000000 in
set_option maxRecDepth 100000 in
theorem sX7_visits_28 {K : MCx} {G : Lay} (X : Cx K G RX7 cX7_visits 5 none 1 21) (Nf : Nat) (k0 : Nat) (hk0 : isMod G k0) (h : Int64) : ∀ (n : Nat) (x2 : Int32) (σ : cS), Sm K G TT (QM K G (fun r : cS => ((none, h, r) : Option Value × Int64 × cS))) 5 28 [(0, .ref (la G k0)), (2, .int x2)] [] h σ (fX7_visits_28 (ll G) Nf k0 n x2 σ) := by
  intro n
  induction n with
  | zero => intros; exact z_none
  | succ n ih =>
    intro x2 σ
    unfold fX7_visits_28
    refine z_iload_n X dX7_visits_28 1 rfl ?_
    refine z_aload_n X dX7_visits_29 0 rfl ?_
    refine z_get X inlX7 rfl hk0.1 (ce7 hk0.1 _ _) 11 (by decide) q_15_13 rfl dX7_visits_30 ?_
    refine z_icmp_ge X 135 dX7_visits_33 (by decide) ?_ ?_
    · exact z_vret X rfl dX7_visits_135
    · refine z_iconst (v := (0 : Int32)) X dX7_visits_36 (by decide) ?_
      refine z_istore_n X [(3, .int (0 : Int32)), (0, .ref (la G k0)), (2, .int x2)] dX7_visits_37 (by decide) rfl ?_
      exact z_sub [1, 2, 0] rfl (sX7_visits_38 X Nf k0 hk0 h (fX7_visits_28 (ll G) Nf k0 n) ih Nf x2 (0 : Int32) σ)
def fX7_visits_0 (L : Nat → Nat) (Nf : Nat) (k0 : Nat) (x1 : Int32) (σ : cS) : Option cS := grd (inb (0 : Int32) (L (k0 + 5))) (bnd (st2 σ (k0 + 5) (0 : Int32).toNatClampNeg x1) (fun σ1 => bnd (st2 σ1 k0 11 (1 : Int32)) (fun σ2 => bnd (st2 σ2 k0 10 ((1 : Int32) <<< (x1 &&& 31))) (fun σ3 => grd (inb x1 (L (k0 + 6))) (bnd (st2 σ3 (k0 + 6) x1.toNatClampNeg (-1 : Int32)) (fun σ4 => fX7_visits_28 L Nf k0 Nf (0 : Int32) σ4))))))
set_option maxHeartbeats 4000000 in
set_option maxRecDepth 100000 in
theorem sX7_visits_0 {K : MCx} {G : Lay} (X : Cx K G RX7 cX7_visits 5 none 1 21) (Nf : Nat) (k0 : Nat) (hk0 : isMod G k0) (h : Int64) (x1 : Int32) (σ : cS) : Sm K G TT (QM K G (fun r : cS => ((none, h, r) : Option Value × Int64 × cS))) 5 0 [(0, .ref (la G k0)), (1, .int x1)] [] h σ (fX7_visits_0 (ll G) Nf k0 x1 σ) := by
  unfold fX7_visits_0
  refine z_aload_n X dX7_visits_0 0 rfl ?_
  refine z_get X inlX7 rfl hk0.1 (ce7 hk0.1 _ _) 8 (by decide) q_5_8 rfl dX7_visits_1 ?_
  refine z_iconst (v := (0 : Int32)) X dX7_visits_4 (by decide) ?_
  refine z_iload_n X dX7_visits_5 1 rfl ?_
  refine z_iast X hk0.2.2.2.2.2.1 dX7_visits_6 (fun σ1 => ?_)
  refine z_aload_n X dX7_visits_7 0 rfl ?_
  refine z_iconst (v := (1 : Int32)) X dX7_visits_8 (by decide) ?_
  refine z_put X inlX7 rfl hk0.1 (ce7 hk0.1 _ _) 11 (by decide) q_15_13 tyX7 tyX7_ok nmX7 rfl (cp7 hk0.1 _ _ _ 11 (by decide)) rfl rfl (Nat.le_of_ble_eq_true rfl) dX7_visits_9 (fun σ2 => ?_)
  refine z_aload_n X dX7_visits_12 0 rfl ?_
  refine z_iconst (v := (1 : Int32)) X dX7_visits_13 (by decide) ?_
  refine z_iload_n X dX7_visits_14 1 rfl ?_
  refine z_ishl X dX7_visits_15 ?_
  refine z_put X inlX7 rfl hk0.1 (ce7 hk0.1 _ _) 10 (by decide) q_15_18 tyX7 tyX7_ok nmX7 rfl (cp7 hk0.1 _ _ _ 10 (by decide)) rfl rfl (Nat.le_of_ble_eq_true rfl) dX7_visits_16 (fun σ3 => ?_)
  refine z_aload_n X dX7_visits_19 0 rfl ?_
  refine z_get X inlX7 rfl hk0.1 (ce7 hk0.1 _ _) 9 (by decide) q_5_9 rfl dX7_visits_20 ?_
  refine z_iload_n X dX7_visits_23 1 rfl ?_
  refine z_iconst (v := (-1 : Int32)) X dX7_visits_24 (by decide) ?_
  refine z_iast X hk0.2.2.2.2.2.2.1 dX7_visits_25 (fun σ4 => ?_)
  refine z_iconst (v := (0 : Int32)) X dX7_visits_26 (by decide) ?_
  refine z_istore_n X [(2, .int (0 : Int32)), (0, .ref (la G k0)), (1, .int x1)] dX7_visits_27 (by decide) rfl ?_
  exact z_sub [1, 0] rfl (sX7_visits_28 X Nf k0 hk0 h Nf (0 : Int32) σ4)
def fX7_visits (L : Nat → Nat) (Nf : Nat) (σ : cS) (k0 : Nat) (x1 : Int32) : Option cS := fX7_visits_0 L Nf k0 x1 σ
set_option maxHeartbeats 4000000 in
set_option maxRecDepth 100000 in
theorem ctX7_visits (l : Launch) (G : Lay) (hi : Inj G) (Nf : Nat) (h : Int64) (σ : cS) (k0 : Nat) (hk0 : isMod G k0) (x1 : Int32) : ∀ r, fX7_visits (ll G) Nf σ k0 x1 = some r → CM l yX7_visits cX7_visits 5 none 1 21 G [.ref (la G k0), .int x1] h σ (none, h, r) := by
  refine cm_of (g := (fun r : cS => ((none, h, r) : Option Value × Int64 × cS))) (by decide) hi (Nat.le_of_ble_eq_true rfl) (fun K hKl X => ?_)
  unfold fX7_visits
  exact z_sub [0, 1] rfl (sX7_visits_0 X Nf k0 hk0 h x1 σ)
def fX7_lengthTo_4 (L : Nat → Nat) (Nf : Nat) (σ : cS) (k0 : Nat) : Nat → Int32 → Int32 → Option Int32
  | 0, _, _ => none
  | n + 1, x2, x3 => grd (inb x3 (L (k0 + 6))) (if (σ (k0 + 6) x3.toNatClampNeg) < 0 then (some x2) else (grd (inb x3 (L (k0 + 6))) (Option.bind (fX7_holder L σ k0 (σ (k0 + 6) x3.toNatClampNeg)) (fun r1 => bnd (x2 + (1 : Int32)) (fun t2 => fX7_lengthTo_4 L Nf σ k0 n t2 r1)))))
set_option maxHeartbeats 4000000 in
set_option maxRecDepth 100000 in
theorem sX7_lengthTo_4 {K : MCx} {G : Lay} (X : Cx K G RX7 cX7_lengthTo 4 (some .int) 1 21) (Nf : Nat) (k0 : Nat) (hk0 : isMod G k0) (h : Int64) (σ : cS) : ∀ (n : Nat) (x2 : Int32) (x3 : Int32), Sm K G TT (QM K G (fun r : Int32 => ((some (.int r), h, σ) : Option Value × Int64 × cS))) 4 4 [(0, .ref (la G k0)), (2, .int x2), (3, .int x3)] [] h σ (fX7_lengthTo_4 (ll G) Nf σ k0 n x2 x3) := by
  intro n
  induction n with
  | zero => intros; exact z_none
  | succ n ih =>
    intro x2 x3
    unfold fX7_lengthTo_4
    refine z_aload_n X dX7_lengthTo_4 0 rfl ?_
    refine z_get X inlX7 rfl hk0.1 (ce7 hk0.1 _ _) 9 (by decide) q_5_9 rfl dX7_lengthTo_5 ?_
    refine z_iload_n X dX7_lengthTo_8 2 rfl ?_
    refine z_iald X hk0.2.2.2.2.2.2.1 dX7_lengthTo_9 ?_
    refine z_if_lt X 30 dX7_lengthTo_10 (by decide) ?_ ?_
    · refine z_iload_n X dX7_lengthTo_30 1 rfl ?_
      exact z_iret X rfl dX7_lengthTo_31
    · refine z_aload_n X dX7_lengthTo_13 0 rfl ?_
      refine z_aload_n X dX7_lengthTo_14 0 rfl ?_
      refine z_get X inlX7 rfl hk0.1 (ce7 hk0.1 _ _) 9 (by decide) q_5_9 rfl dX7_lengthTo_15 ?_
      refine z_iload_n X dX7_lengthTo_18 2 rfl ?_
      refine z_iald X hk0.2.2.2.2.2.2.1 dX7_lengthTo_19 ?_
      refine z_callV0 X (g := (fun r1 : Int32 => ((some (.int r1), h, σ) : Option Value × Int64 × cS))) (st := []) (st1 := (fun r1 : Int32 => [.int r1])) (rmf := 0) (rml := 0) [.int (σ (k0 + 6) x3.toNatClampNeg)] k0 cal_X7_holder q_10_15 ⟨Nat.le_of_ble_eq_true rfl, Nat.le_of_ble_eq_true rfl⟩ rfl rfl (Nat.le_of_ble_eq_true rfl) rfl hk0.1 (ce7 hk0.1 _ _) (ctX7_holder (kl K) G X.2.2.2.2.2.2.2.1 h σ k0 hk0 (σ (k0 + 6) x3.toNatClampNeg)) dX7_lengthTo_20 (fun _ => rfl) (fun r1 => ?_)
      refine z_istore_n X [(3, .int r1), (0, .ref (la G k0)), (2, .int x2)] dX7_lengthTo_23 (by decide) rfl ?_
      refine z_iinc X (fun t2 => [(2, .int t2), (3, .int r1), (0, .ref (la G k0))]) dX7_lengthTo_24 2 rfl (by decide) (by decide) (fun _ => rfl) (fun t2 => ?_)
      refine z_goto X 4 dX7_lengthTo_27 (by decide) ?_
      exact z_sub [2, 0, 1] rfl (ih t2 r1)
def fX7_lengthTo_0 (L : Nat → Nat) (Nf : Nat) (σ : cS) (k0 : Nat) (x1 : Int32)  : Option Int32 := fX7_lengthTo_4 L Nf σ k0 Nf (0 : Int32) x1
set_option maxHeartbeats 4000000 in
set_option maxRecDepth 100000 in
theorem sX7_lengthTo_0 {K : MCx} {G : Lay} (X : Cx K G RX7 cX7_lengthTo 4 (some .int) 1 21) (Nf : Nat) (k0 : Nat) (hk0 : isMod G k0) (h : Int64) (σ : cS) (x1 : Int32) : Sm K G TT (QM K G (fun r : Int32 => ((some (.int r), h, σ) : Option Value × Int64 × cS))) 4 0 [(0, .ref (la G k0)), (1, .int x1)] [] h σ (fX7_lengthTo_0 (ll G) Nf σ k0 x1) := by
  unfold fX7_lengthTo_0
  refine z_iconst (v := (0 : Int32)) X dX7_lengthTo_0 (by decide) ?_
  refine z_istore_n X [(2, .int (0 : Int32)), (0, .ref (la G k0)), (1, .int x1)] dX7_lengthTo_1 (by decide) rfl ?_
  refine z_iload_n X dX7_lengthTo_2 2 rfl ?_
  refine z_istore_n X [(3, .int x1), (2, .int (0 : Int32)), (0, .ref (la G k0)), (1, .int x1)] dX7_lengthTo_3 (by decide) rfl ?_
  exact z_sub [2, 1, 0] rfl (sX7_lengthTo_4 X Nf k0 hk0 h σ Nf (0 : Int32) x1)
def fX7_lengthTo (L : Nat → Nat) (Nf : Nat) (σ : cS) (k0 : Nat) (x1 : Int32) : Option Int32 := fX7_lengthTo_0 L Nf σ k0 x1
set_option maxHeartbeats 4000000 in
set_option maxRecDepth 100000 in
theorem ctX7_lengthTo (l : Launch) (G : Lay) (hi : Inj G) (Nf : Nat) (h : Int64) (σ : cS) (k0 : Nat) (hk0 : isMod G k0) (x1 : Int32) : ∀ r, fX7_lengthTo (ll G) Nf σ k0 x1 = some r → CM l yX7_lengthTo cX7_lengthTo 4 (some .int) 1 21 G [.ref (la G k0), .int x1] h σ (some (.int r), h, σ) := by
  refine cm_of (g := (fun r : Int32 => ((some (.int r), h, σ) : Option Value × Int64 × cS))) (by decide) hi (Nat.le_of_ble_eq_true rfl) (fun K hKl X => ?_)
  unfold fX7_lengthTo
  exact z_sub [0, 1] rfl (sX7_lengthTo_0 X Nf k0 hk0 h σ x1)
def fX7_reliefOf_13 (L : Nat → Nat) (Nf : Nat) (k0 : Nat) : Nat → Int32 → Int32 → cS → Option (Int32 × cS)
  | 0, _, _, _ => none
  | n + 1, x2, x3, σ => if (σ k0 11) ≤ x3 then (some ((-1 : Int32), σ)) else (grd (inb x3 (L (k0 + 5))) (Option.bind (fX7_load L Nf σ k0 (σ (k0 + 5) x3.toNatClampNeg)) (fun r1 => if (x2 - (2 : Int32)) < r1 then (bnd (x3 + (1 : Int32)) (fun t2 => fX7_reliefOf_13 L Nf k0 n x2 t2 σ)) else (grd (inb x3 (L (k0 + 5))) (some ((σ (k0 + 5) x3.toNatClampNeg), σ))))))
set_option maxHeartbeats 4000000 in
set_option maxRecDepth 100000 in
theorem sX7_reliefOf_13 {K : MCx} {G : Lay} (X : Cx K G RX7 cX7_reliefOf 4 (some .int) 2 45) (Nf : Nat) (k0 : Nat) (hk0 : isMod G k0) (h : Int64) : ∀ (n : Nat) (x2 : Int32) (x3 : Int32) (σ : cS), Sm K G TT (QM K G (fun r : (Int32 × cS) => ((some (.int r.1), h, r.2) : Option Value × Int64 × cS))) 4 13 [(0, .ref (la G k0)), (2, .int x2), (3, .int x3)] [] h σ (fX7_reliefOf_13 (ll G) Nf k0 n x2 x3 σ) := by
  intro n
  induction n with
  | zero => intros; exact z_none
  | succ n ih =>
    intro x2 x3 σ
    unfold fX7_reliefOf_13
    refine z_iload_n X dX7_reliefOf_13 2 rfl ?_
    refine z_aload_n X dX7_reliefOf_14 0 rfl ?_
    refine z_get X inlX7 rfl hk0.1 (ce7 hk0.1 _ _) 11 (by decide) q_15_13 rfl dX7_reliefOf_15 ?_
    refine z_icmp_ge X 50 dX7_reliefOf_18 (by decide) ?_ ?_
    · refine z_iconst (v := (-1 : Int32)) X dX7_reliefOf_50 (by decide) ?_
      exact z_iret X rfl dX7_reliefOf_51
    · refine z_aload_n X dX7_reliefOf_21 0 rfl ?_
      refine z_aload_n X dX7_reliefOf_22 0 rfl ?_
      refine z_get X inlX7 rfl hk0.1 (ce7 hk0.1 _ _) 8 (by decide) q_5_8 rfl dX7_reliefOf_23 ?_
      refine z_iload_n X dX7_reliefOf_26 2 rfl ?_
      refine z_iald X hk0.2.2.2.2.2.1 dX7_reliefOf_27 ?_
      refine z_callV0 X (g := (fun r1 : Int32 => ((some (.int r1), h, σ) : Option Value × Int64 × cS))) (st := []) (st1 := (fun r1 : Int32 => [.int r1])) (rmf := 1) (rml := 21) [.int (σ (k0 + 5) x3.toNatClampNeg)] k0 cal_X7_load q_10_11 ⟨Nat.le_of_ble_eq_true rfl, Nat.le_of_ble_eq_true rfl⟩ rfl rfl (Nat.le_of_ble_eq_true rfl) rfl hk0.1 (ce7 hk0.1 _ _) (ctX7_load (kl K) G X.2.2.2.2.2.2.2.1 Nf h σ k0 hk0 (σ (k0 + 5) x3.toNatClampNeg)) dX7_reliefOf_28 (fun _ => rfl) (fun r1 => ?_)
      refine z_iload_n X dX7_reliefOf_31 1 rfl ?_
      refine z_iconst (v := (2 : Int32)) X dX7_reliefOf_32 (by decide) ?_
      refine z_isub X dX7_reliefOf_33 ?_
      refine z_icmp_gt X 44 dX7_reliefOf_34 (by decide) ?_ ?_
      · refine z_iinc X (fun t2 => [(3, .int t2), (0, .ref (la G k0)), (2, .int x2)]) dX7_reliefOf_44 2 rfl (by decide) (by decide) (fun _ => rfl) (fun t2 => ?_)
        refine z_goto X 13 dX7_reliefOf_47 (by decide) ?_
        exact z_sub [1, 2, 0] rfl (ih x2 t2 σ)
      · refine z_aload_n X dX7_reliefOf_37 0 rfl ?_
        refine z_get X inlX7 rfl hk0.1 (ce7 hk0.1 _ _) 8 (by decide) q_5_8 rfl dX7_reliefOf_38 ?_
        refine z_iload_n X dX7_reliefOf_41 2 rfl ?_
        refine z_iald X hk0.2.2.2.2.2.1 dX7_reliefOf_42 ?_
        exact z_iret X rfl dX7_reliefOf_43
def fX7_reliefOf_0 (L : Nat → Nat) (Nf : Nat) (k0 : Nat) (x1 : Int32) (σ : cS) : Option (Int32 × cS) := Option.bind (fX7_visits L Nf σ k0 x1) (fun r1 => Option.bind (fX7_load L Nf r1 k0 x1) (fun r2 => fX7_reliefOf_13 L Nf k0 Nf r2 (1 : Int32) r1))
set_option maxHeartbeats 4000000 in
set_option maxRecDepth 100000 in
theorem sX7_reliefOf_0 {K : MCx} {G : Lay} (X : Cx K G RX7 cX7_reliefOf 4 (some .int) 2 45) (Nf : Nat) (k0 : Nat) (hk0 : isMod G k0) (h : Int64) (x1 : Int32) (σ : cS) : Sm K G TT (QM K G (fun r : (Int32 × cS) => ((some (.int r.1), h, r.2) : Option Value × Int64 × cS))) 4 0 [(0, .ref (la G k0)), (1, .int x1)] [] h σ (fX7_reliefOf_0 (ll G) Nf k0 x1 σ) := by
  unfold fX7_reliefOf_0
  refine z_aload_n X dX7_reliefOf_0 0 rfl ?_
  refine z_iload_n X dX7_reliefOf_1 1 rfl ?_
  refine z_callV0 X (g := (fun r1 : cS => ((none, h, r1) : Option Value × Int64 × cS))) (st := []) (st1 := (fun r1 : cS => [])) (rmf := 1) (rml := 21) [.int x1] k0 cal_X7_visits q_15_14 ⟨Nat.le_of_ble_eq_true rfl, Nat.le_of_ble_eq_true rfl⟩ rfl rfl (Nat.le_of_ble_eq_true rfl) rfl hk0.1 (ce7 hk0.1 _ _) (ctX7_visits (kl K) G X.2.2.2.2.2.2.2.1 Nf h σ k0 hk0 x1) dX7_reliefOf_2 (fun _ => rfl) (fun r1 => ?_)
  refine z_aload_n X dX7_reliefOf_5 0 rfl ?_
  refine z_iload_n X dX7_reliefOf_6 1 rfl ?_
  refine z_callV0 X (g := (fun r2 : Int32 => ((some (.int r2), h, r1) : Option Value × Int64 × cS))) (st := []) (st1 := (fun r2 : Int32 => [.int r2])) (rmf := 1) (rml := 21) [.int x1] k0 cal_X7_load q_10_11 ⟨Nat.le_of_ble_eq_true rfl, Nat.le_of_ble_eq_true rfl⟩ rfl rfl (Nat.le_of_ble_eq_true rfl) rfl hk0.1 (ce7 hk0.1 _ _) (ctX7_load (kl K) G X.2.2.2.2.2.2.2.1 Nf h r1 k0 hk0 x1) dX7_reliefOf_7 (fun _ => rfl) (fun r2 => ?_)
  refine z_istore_n X [(2, .int r2), (0, .ref (la G k0)), (1, .int x1)] dX7_reliefOf_10 (by decide) rfl ?_
  refine z_iconst (v := (1 : Int32)) X dX7_reliefOf_11 (by decide) ?_
  refine z_istore_n X [(3, .int (1 : Int32)), (2, .int r2), (0, .ref (la G k0)), (1, .int x1)] dX7_reliefOf_12 (by decide) rfl ?_
  exact z_sub [2, 1, 0] rfl (sX7_reliefOf_13 X Nf k0 hk0 h Nf r2 (1 : Int32) r1)
def fX7_reliefOf (L : Nat → Nat) (Nf : Nat) (σ : cS) (k0 : Nat) (x1 : Int32) : Option (Int32 × cS) := fX7_reliefOf_0 L Nf k0 x1 σ
set_option maxHeartbeats 4000000 in
set_option maxRecDepth 100000 in
theorem ctX7_reliefOf (l : Launch) (G : Lay) (hi : Inj G) (Nf : Nat) (h : Int64) (σ : cS) (k0 : Nat) (hk0 : isMod G k0) (x1 : Int32) : ∀ r, fX7_reliefOf (ll G) Nf σ k0 x1 = some r → CM l yX7_reliefOf cX7_reliefOf 4 (some .int) 2 45 G [.ref (la G k0), .int x1] h σ (some (.int r.1), h, r.2) := by
  refine cm_of (g := (fun r : (Int32 × cS) => ((some (.int r.1), h, r.2) : Option Value × Int64 × cS))) (by decide) hi (Nat.le_of_ble_eq_true rfl) (fun K hKl X => ?_)
  unfold fX7_reliefOf
  exact z_sub [0, 1] rfl (sX7_reliefOf_0 X Nf k0 hk0 h x1 σ)
def fX7_relieves_48 (L : Nat → Nat) (Nf : Nat) (k0 : Nat) (x3 : Int32) (σ : cS) : Option (Int32 × cS) := some (x3, σ)
set_option maxHeartbeats 4000000 in
set_option maxRecDepth 100000 in
theorem sX7_relieves_48 {K : MCx} {G : Lay} (X : Cx K G RX7 cX7_relieves 5 (some .int) 3 68) (Nf : Nat) (k0 : Nat) (hk0 : isMod G k0) (h : Int64) (x3 : Int32) (σ : cS) : Sm K G TT (QM K G (fun r : (Int32 × cS) => ((some (.int r.1), h, r.2) : Option Value × Int64 × cS))) 5 48 [(3, .int x3)] [] h σ (fX7_relieves_48 (ll G) Nf k0 x3 σ) := by
  unfold fX7_relieves_48
  refine z_iload_n X dX7_relieves_48 0 rfl ?_
  exact z_iret X rfl dX7_relieves_49
def fX7_relieves_8 (L : Nat → Nat) (Nf : Nat) (k0 : Nat) : Nat → Int32 → Int32 → cS → Option (Int32 × cS)
  | 0, _, _, _ => none
  | n + 1, x2, x3, σ => if x2 < 0 then (fX7_relieves_48 L Nf k0 x3 σ) else (grd (inb x2 (L (k0 + 6))) (if (σ (k0 + 6) x2.toNatClampNeg) < 0 then (fX7_relieves_48 L Nf k0 x3 σ) else (grd (inb x2 (L (k0 + 6))) (bnd ((σ (k0 + 6) x2.toNatClampNeg)) (fun t1 => Option.bind (fX7_holder L σ k0 t1) (fun r2 => Option.bind (fX7_turns L σ k0 t1) (fun r3 => bnd (x3 + (1 : Int32)) (fun t4 => fX7_relieves_8 L Nf k0 n r2 t4 r3))))))))
set_option maxHeartbeats 4000000 in
set_option maxRecDepth 100000 in
theorem sX7_relieves_8 {K : MCx} {G : Lay} (X : Cx K G RX7 cX7_relieves 5 (some .int) 3 68) (Nf : Nat) (k0 : Nat) (hk0 : isMod G k0) (h : Int64) : ∀ (n : Nat) (x2 : Int32) (x3 : Int32) (σ : cS), Sm K G TT (QM K G (fun r : (Int32 × cS) => ((some (.int r.1), h, r.2) : Option Value × Int64 × cS))) 5 8 [(0, .ref (la G k0)), (2, .int x2), (3, .int x3)] [] h σ (fX7_relieves_8 (ll G) Nf k0 n x2 x3 σ) := by
  intro n
  induction n with
  | zero => intros; exact z_none
  | succ n ih =>
    intro x2 x3 σ
    unfold fX7_relieves_8
    refine z_iload_n X dX7_relieves_8 1 rfl ?_
    refine z_if_lt X 48 dX7_relieves_9 (by decide) ?_ ?_
    · exact z_sub [2] rfl (sX7_relieves_48 X Nf k0 hk0 h x3 σ)
    · refine z_aload_n X dX7_relieves_12 0 rfl ?_
      refine z_get X inlX7 rfl hk0.1 (ce7 hk0.1 _ _) 9 (by decide) q_5_9 rfl dX7_relieves_13 ?_
      refine z_iload_n X dX7_relieves_16 1 rfl ?_
      refine z_iald X hk0.2.2.2.2.2.2.1 dX7_relieves_17 ?_
      refine z_if_lt X 48 dX7_relieves_18 (by decide) ?_ ?_
      · exact z_sub [2] rfl (sX7_relieves_48 X Nf k0 hk0 h x3 σ)
      · refine z_aload_n X dX7_relieves_21 0 rfl ?_
        refine z_get X inlX7 rfl hk0.1 (ce7 hk0.1 _ _) 9 (by decide) q_5_9 rfl dX7_relieves_22 ?_
        refine z_iload_n X dX7_relieves_25 1 rfl ?_
        refine z_iald X hk0.2.2.2.2.2.2.1 dX7_relieves_26 ?_
        refine z_nm (fun t1 => ?_)
        refine z_istore X [(4, .int t1), (0, .ref (la G k0)), (2, .int x2), (3, .int x3)] dX7_relieves_27 (by decide) rfl ?_
        refine z_aload_n X dX7_relieves_29 1 rfl ?_
        refine z_iload X dX7_relieves_30 0 rfl ?_
        refine z_callV0 X (g := (fun r2 : Int32 => ((some (.int r2), h, σ) : Option Value × Int64 × cS))) (st := []) (st1 := (fun r2 : Int32 => [.int r2])) (rmf := 0) (rml := 0) [.int t1] k0 cal_X7_holder q_10_15 ⟨Nat.le_of_ble_eq_true rfl, Nat.le_of_ble_eq_true rfl⟩ rfl rfl (Nat.le_of_ble_eq_true rfl) rfl hk0.1 (ce7 hk0.1 _ _) (ctX7_holder (kl K) G X.2.2.2.2.2.2.2.1 h σ k0 hk0 t1) dX7_relieves_32 (fun _ => rfl) (fun r2 => ?_)
        refine z_istore_n X [(2, .int r2), (4, .int t1), (0, .ref (la G k0)), (3, .int x3)] dX7_relieves_35 (by decide) rfl ?_
        refine z_aload_n X dX7_relieves_36 2 rfl ?_
        refine z_iload X dX7_relieves_37 1 rfl ?_
        refine z_callV0 X (g := (fun r3 : cS => ((none, h, r3) : Option Value × Int64 × cS))) (st := []) (st1 := (fun r3 : cS => [])) (rmf := 0) (rml := 0) [.int t1] k0 cal_X7_turns q_13_4 ⟨Nat.le_of_ble_eq_true rfl, Nat.le_of_ble_eq_true rfl⟩ rfl rfl (Nat.le_of_ble_eq_true rfl) rfl hk0.1 (ce7 hk0.1 _ _) (ctX7_turns (kl K) G X.2.2.2.2.2.2.2.1 h σ k0 hk0 t1) dX7_relieves_39 (fun _ => rfl) (fun r3 => ?_)
        refine z_iinc X (fun t4 => [(3, .int t4), (2, .int r2), (4, .int t1), (0, .ref (la G k0))]) dX7_relieves_42 3 rfl (by decide) (by decide) (fun _ => rfl) (fun t4 => ?_)
        refine z_goto X 8 dX7_relieves_45 (by decide) ?_
        exact z_sub [3, 1, 0] rfl (ih r2 t4 r3)
def fX7_relieves_0 (L : Nat → Nat) (Nf : Nat) (k0 : Nat) (x1 : Int32) (σ : cS) : Option (Int32 × cS) := Option.bind (fX7_reliefOf L Nf σ k0 x1) (fun r1 => fX7_relieves_8 L Nf k0 Nf r1.1 (0 : Int32) r1.2)
set_option maxHeartbeats 4000000 in
set_option maxRecDepth 100000 in
theorem sX7_relieves_0 {K : MCx} {G : Lay} (X : Cx K G RX7 cX7_relieves 5 (some .int) 3 68) (Nf : Nat) (k0 : Nat) (hk0 : isMod G k0) (h : Int64) (x1 : Int32) (σ : cS) : Sm K G TT (QM K G (fun r : (Int32 × cS) => ((some (.int r.1), h, r.2) : Option Value × Int64 × cS))) 5 0 [(0, .ref (la G k0)), (1, .int x1)] [] h σ (fX7_relieves_0 (ll G) Nf k0 x1 σ) := by
  unfold fX7_relieves_0
  refine z_aload_n X dX7_relieves_0 0 rfl ?_
  refine z_iload_n X dX7_relieves_1 1 rfl ?_
  refine z_callV0 X (g := (fun r1 : (Int32 × cS) => ((some (.int r1.1), h, r1.2) : Option Value × Int64 × cS))) (st := []) (st1 := (fun r1 : (Int32 × cS) => [.int r1.1])) (rmf := 2) (rml := 45) [.int x1] k0 cal_X7_reliefOf q_15_9 ⟨Nat.le_of_ble_eq_true rfl, Nat.le_of_ble_eq_true rfl⟩ rfl rfl (Nat.le_of_ble_eq_true rfl) rfl hk0.1 (ce7 hk0.1 _ _) (ctX7_reliefOf (kl K) G X.2.2.2.2.2.2.2.1 Nf h σ k0 hk0 x1) dX7_relieves_2 (fun _ => rfl) (fun r1 => ?_)
  refine z_istore_n X [(2, .int r1.1), (0, .ref (la G k0)), (1, .int x1)] dX7_relieves_5 (by decide) rfl ?_
  refine z_iconst (v := (0 : Int32)) X dX7_relieves_6 (by decide) ?_
  refine z_istore_n X [(3, .int (0 : Int32)), (2, .int r1.1), (0, .ref (la G k0)), (1, .int x1)] dX7_relieves_7 (by decide) rfl ?_
  exact z_sub [2, 1, 0] rfl (sX7_relieves_8 X Nf k0 hk0 h Nf r1.1 (0 : Int32) r1.2)
def fX7_relieves (L : Nat → Nat) (Nf : Nat) (σ : cS) (k0 : Nat) (x1 : Int32) : Option (Int32 × cS) := fX7_relieves_0 L Nf k0 x1 σ
set_option maxHeartbeats 4000000 in
set_option maxRecDepth 100000 in
theorem ctX7_relieves (l : Launch) (G : Lay) (hi : Inj G) (Nf : Nat) (h : Int64) (σ : cS) (k0 : Nat) (hk0 : isMod G k0) (x1 : Int32) : ∀ r, fX7_relieves (ll G) Nf σ k0 x1 = some r → CM l yX7_relieves cX7_relieves 5 (some .int) 3 68 G [.ref (la G k0), .int x1] h σ (some (.int r.1), h, r.2) := by
  refine cm_of (g := (fun r : (Int32 × cS) => ((some (.int r.1), h, r.2) : Option Value × Int64 × cS))) (by decide) hi (Nat.le_of_ble_eq_true rfl) (fun K hKl X => ?_)
  unfold fX7_relieves
  exact z_sub [0, 1] rfl (sX7_relieves_0 X Nf k0 hk0 h x1 σ)
def fX7_greatest_32 (L : Nat → Nat) (Nf : Nat) (σ : cS) (k0 : Nat) (self4 : Int32 → Int32 → Option Int32) (x2 : Int32) (y0 : Int32)  : Option Int32 := bnd (x2 + (1 : Int32)) (fun t1 => self4 y0 t1)
set_option maxHeartbeats 4000000 in
set_option maxRecDepth 100000 in
theorem sX7_greatest_32 {K : MCx} {G : Lay} (X : Cx K G RX7 cX7_greatest 3 (some .int) 2 44) (Nf : Nat) (k0 : Nat) (hk0 : isMod G k0) (h : Int64) (σ : cS) (self4 : Int32 → Int32 → Option Int32) (hself4 : ∀ (x1 : Int32) (x2 : Int32), Sm K G TT (QM K G (fun r : Int32 => ((some (.int r), h, σ) : Option Value × Int64 × cS))) 3 4 [(0, .ref (la G k0)), (1, .int x1), (2, .int x2)] [] h σ (self4 x1 x2)) (x2 : Int32) (y0 : Int32) : Sm K G TT (QM K G (fun r : Int32 => ((some (.int r), h, σ) : Option Value × Int64 × cS))) 3 32 [(0, .ref (la G k0)), (2, .int x2)] [.int y0] h σ (fX7_greatest_32 (ll G) Nf σ k0 self4 x2 y0) := by
  unfold fX7_greatest_32
  refine z_istore_n X [(1, .int y0), (0, .ref (la G k0)), (2, .int x2)] dX7_greatest_32 (by decide) rfl ?_
  refine z_iinc X (fun t1 => [(2, .int t1), (1, .int y0), (0, .ref (la G k0))]) dX7_greatest_33 2 rfl (by decide) (by decide) (fun _ => rfl) (fun t1 => ?_)
  refine z_goto X 4 dX7_greatest_36 (by decide) ?_
  exact z_sub [2, 1, 0] rfl (hself4 y0 t1)
def fX7_greatest_4 (L : Nat → Nat) (Nf : Nat) (σ : cS) (k0 : Nat) : Nat → Int32 → Int32 → Option Int32
  | 0, _, _ => none
  | n + 1, x1, x2 => grd (inb (0 : Int32) (L (k0 + 1))) (if (σ (k0 + 1) (0 : Int32).toNatClampNeg) ≤ x2 then (some x1) else (Option.bind (fX7_load L Nf σ k0 x2) (fun r1 => if r1 ≤ x1 then (fX7_greatest_32 L Nf σ k0 (fX7_greatest_4 L Nf σ k0 n) x2 x1) else (Option.bind (fX7_load L Nf σ k0 x2) (fun r2 => fX7_greatest_32 L Nf σ k0 (fX7_greatest_4 L Nf σ k0 n) x2 r2)))))
set_option maxHeartbeats 4000000 in
set_option maxRecDepth 100000 in
theorem sX7_greatest_4 {K : MCx} {G : Lay} (X : Cx K G RX7 cX7_greatest 3 (some .int) 2 44) (Nf : Nat) (k0 : Nat) (hk0 : isMod G k0) (h : Int64) (σ : cS) : ∀ (n : Nat) (x1 : Int32) (x2 : Int32), Sm K G TT (QM K G (fun r : Int32 => ((some (.int r), h, σ) : Option Value × Int64 × cS))) 3 4 [(0, .ref (la G k0)), (1, .int x1), (2, .int x2)] [] h σ (fX7_greatest_4 (ll G) Nf σ k0 n x1 x2) := by
  intro n
  induction n with
  | zero => intros; exact z_none
  | succ n ih =>
    intro x1 x2
    unfold fX7_greatest_4
    refine z_iload_n X dX7_greatest_4 2 rfl ?_
    refine z_aload_n X dX7_greatest_5 0 rfl ?_
    refine z_get X inlX7 rfl hk0.1 (ce7 hk0.1 _ _) 0 (by decide) q_5_4 rfl dX7_greatest_6 ?_
    refine z_iconst (v := (0 : Int32)) X dX7_greatest_9 (by decide) ?_
    refine z_iald X hk0.2.1 dX7_greatest_10 ?_
    refine z_icmp_ge X 39 dX7_greatest_11 (by decide) ?_ ?_
    · refine z_iload_n X dX7_greatest_39 1 rfl ?_
      exact z_iret X rfl dX7_greatest_40
    · refine z_aload_n X dX7_greatest_14 0 rfl ?_
      refine z_iload_n X dX7_greatest_15 2 rfl ?_
      refine z_callV0 X (g := (fun r1 : Int32 => ((some (.int r1), h, σ) : Option Value × Int64 × cS))) (st := []) (st1 := (fun r1 : Int32 => [.int r1])) (rmf := 1) (rml := 21) [.int x2] k0 cal_X7_load q_10_11 ⟨Nat.le_of_ble_eq_true rfl, Nat.le_of_ble_eq_true rfl⟩ rfl rfl (Nat.le_of_ble_eq_true rfl) rfl hk0.1 (ce7 hk0.1 _ _) (ctX7_load (kl K) G X.2.2.2.2.2.2.2.1 Nf h σ k0 hk0 x2) dX7_greatest_16 (fun _ => rfl) (fun r1 => ?_)
      refine z_iload_n X dX7_greatest_19 1 rfl ?_
      refine z_icmp_le X 31 dX7_greatest_20 (by decide) ?_ ?_
      · refine z_iload_n X dX7_greatest_31 1 rfl ?_
        exact z_sub [0, 2] rfl (sX7_greatest_32 X Nf k0 hk0 h σ (fX7_greatest_4 (ll G) Nf σ k0 n) ih x2 x1)
      · refine z_aload_n X dX7_greatest_23 0 rfl ?_
        refine z_iload_n X dX7_greatest_24 2 rfl ?_
        refine z_callV0 X (g := (fun r2 : Int32 => ((some (.int r2), h, σ) : Option Value × Int64 × cS))) (st := []) (st1 := (fun r2 : Int32 => [.int r2])) (rmf := 1) (rml := 21) [.int x2] k0 cal_X7_load q_10_11 ⟨Nat.le_of_ble_eq_true rfl, Nat.le_of_ble_eq_true rfl⟩ rfl rfl (Nat.le_of_ble_eq_true rfl) rfl hk0.1 (ce7 hk0.1 _ _) (ctX7_load (kl K) G X.2.2.2.2.2.2.2.1 Nf h σ k0 hk0 x2) dX7_greatest_25 (fun _ => rfl) (fun r2 => ?_)
        refine z_goto X 32 dX7_greatest_28 (by decide) ?_
        exact z_sub [0, 2] rfl (sX7_greatest_32 X Nf k0 hk0 h σ (fX7_greatest_4 (ll G) Nf σ k0 n) ih x2 r2)
def fX7_greatest_0 (L : Nat → Nat) (Nf : Nat) (σ : cS) (k0 : Nat)  : Option Int32 := fX7_greatest_4 L Nf σ k0 Nf (0 : Int32) (0 : Int32)
set_option maxHeartbeats 4000000 in
set_option maxRecDepth 100000 in
theorem sX7_greatest_0 {K : MCx} {G : Lay} (X : Cx K G RX7 cX7_greatest 3 (some .int) 2 44) (Nf : Nat) (k0 : Nat) (hk0 : isMod G k0) (h : Int64) (σ : cS) : Sm K G TT (QM K G (fun r : Int32 => ((some (.int r), h, σ) : Option Value × Int64 × cS))) 3 0 [(0, .ref (la G k0))] [] h σ (fX7_greatest_0 (ll G) Nf σ k0) := by
  unfold fX7_greatest_0
  refine z_iconst (v := (0 : Int32)) X dX7_greatest_0 (by decide) ?_
  refine z_istore_n X [(1, .int (0 : Int32)), (0, .ref (la G k0))] dX7_greatest_1 (by decide) rfl ?_
  refine z_iconst (v := (0 : Int32)) X dX7_greatest_2 (by decide) ?_
  refine z_istore_n X [(2, .int (0 : Int32)), (1, .int (0 : Int32)), (0, .ref (la G k0))] dX7_greatest_3 (by decide) rfl ?_
  exact z_sub [2, 1, 0] rfl (sX7_greatest_4 X Nf k0 hk0 h σ Nf (0 : Int32) (0 : Int32))
def fX7_greatest (L : Nat → Nat) (Nf : Nat) (σ : cS) (k0 : Nat) : Option Int32 := fX7_greatest_0 L Nf σ k0
set_option maxHeartbeats 4000000 in
set_option maxRecDepth 100000 in
theorem ctX7_greatest (l : Launch) (G : Lay) (hi : Inj G) (Nf : Nat) (h : Int64) (σ : cS) (k0 : Nat) (hk0 : isMod G k0) : ∀ r, fX7_greatest (ll G) Nf σ k0 = some r → CM l yX7_greatest cX7_greatest 3 (some .int) 2 44 G [.ref (la G k0)] h σ (some (.int r), h, σ) := by
  refine cm_of (g := (fun r : Int32 => ((some (.int r), h, σ) : Option Value × Int64 × cS))) (by decide) hi (Nat.le_of_ble_eq_true rfl) (fun K hKl X => ?_)
  unfold fX7_greatest
  exact z_sub [0] rfl (sX7_greatest_0 X Nf k0 hk0 h σ)
def fX7_balances_74 (L : Nat → Nat) (Nf : Nat) (k0 : Nat) (self4 : Int32 → Int32 → cS → Option (Int32 × cS)) (x2 : Int32) (y0 : Int32) (y1 : Int32) (σ : cS) : Option (Int32 × cS) := bnd ((y0 + y1)) (fun t1 => self4 t1 x2 σ)
set_option maxHeartbeats 4000000 in
set_option maxRecDepth 100000 in
theorem sX7_balances_74 {K : MCx} {G : Lay} (X : Cx K G RX7 cX7_balances 5 (some .int) 4 92) (Nf : Nat) (k0 : Nat) (hk0 : isMod G k0) (h : Int64) (self4 : Int32 → Int32 → cS → Option (Int32 × cS)) (hself4 : ∀ (x1 : Int32) (x2 : Int32) (σ : cS), Sm K G TT (QM K G (fun r : (Int32 × cS) => ((some (.int r.1), h, r.2) : Option Value × Int64 × cS))) 5 4 [(0, .ref (la G k0)), (1, .int x1), (2, .int x2)] [] h σ (self4 x1 x2 σ)) (x2 : Int32) (y0 : Int32) (y1 : Int32) (σ : cS) : Sm K G TT (QM K G (fun r : (Int32 × cS) => ((some (.int r.1), h, r.2) : Option Value × Int64 × cS))) 5 74 [(0, .ref (la G k0)), (2, .int x2)] [.int y1, .int y0] h σ (fX7_balances_74 (ll G) Nf k0 self4 x2 y0 y1 σ) := by
  unfold fX7_balances_74
  refine z_iadd X dX7_balances_74 ?_
  refine z_nm (fun t1 => ?_)
  refine z_istore_n X [(1, .int t1), (0, .ref (la G k0)), (2, .int x2)] dX7_balances_75 (by decide) rfl ?_
  refine z_goto X 4 dX7_balances_76 (by decide) ?_
  exact z_sub [1, 0, 2] rfl (hself4 t1 x2 σ)
def fX7_balances_64 (L : Nat → Nat) (Nf : Nat) (k0 : Nat) (self4 : Int32 → Int32 → cS → Option (Int32 × cS)) (x1 : Int32) (x2 : Int32) (σ : cS) : Option (Int32 × cS) := if x2 = 0 then (fX7_balances_74 L Nf k0 self4 x2 x1 (0 : Int32) σ) else (fX7_balances_74 L Nf k0 self4 x2 x1 (1 : Int32) σ)
set_option maxHeartbeats 4000000 in
set_option maxRecDepth 100000 in
theorem sX7_balances_64 {K : MCx} {G : Lay} (X : Cx K G RX7 cX7_balances 5 (some .int) 4 92) (Nf : Nat) (k0 : Nat) (hk0 : isMod G k0) (h : Int64) (self4 : Int32 → Int32 → cS → Option (Int32 × cS)) (hself4 : ∀ (x1 : Int32) (x2 : Int32) (σ : cS), Sm K G TT (QM K G (fun r : (Int32 × cS) => ((some (.int r.1), h, r.2) : Option Value × Int64 × cS))) 5 4 [(0, .ref (la G k0)), (1, .int x1), (2, .int x2)] [] h σ (self4 x1 x2 σ)) (x1 : Int32) (x2 : Int32) (σ : cS) : Sm K G TT (QM K G (fun r : (Int32 × cS) => ((some (.int r.1), h, r.2) : Option Value × Int64 × cS))) 5 64 [(0, .ref (la G k0)), (1, .int x1), (2, .int x2)] [] h σ (fX7_balances_64 (ll G) Nf k0 self4 x1 x2 σ) := by
  unfold fX7_balances_64
  refine z_iload_n X dX7_balances_64 1 rfl ?_
  refine z_iload_n X dX7_balances_65 2 rfl ?_
  refine z_if_eq X 73 dX7_balances_66 (by decide) ?_ ?_
  · refine z_iconst (v := (0 : Int32)) X dX7_balances_73 (by decide) ?_
    exact z_sub [0, 2] rfl (sX7_balances_74 X Nf k0 hk0 h self4 hself4 x2 x1 (0 : Int32) σ)
  · refine z_iconst (v := (1 : Int32)) X dX7_balances_69 (by decide) ?_
    refine z_goto X 74 dX7_balances_70 (by decide) ?_
    exact z_sub [0, 2] rfl (sX7_balances_74 X Nf k0 hk0 h self4 hself4 x2 x1 (1 : Int32) σ)
def fX7_balances_57 (L : Nat → Nat) (Nf : Nat) (k0 : Nat) (self4 : Int32 → Int32 → cS → Option (Int32 × cS)) (self18 : Int32 → Int32 → Int32 → Int32 → cS → Option (Int32 × cS)) (x1 : Int32) (x3 : Int32) (x4 : Int32) (y0 : Int32) (σ : cS) : Option (Int32 × cS) := bnd (x4 + (1 : Int32)) (fun t1 => self18 x1 y0 x3 t1 σ)
set_option maxHeartbeats 4000000 in
set_option maxRecDepth 100000 in
theorem sX7_balances_57 {K : MCx} {G : Lay} (X : Cx K G RX7 cX7_balances 5 (some .int) 4 92) (Nf : Nat) (k0 : Nat) (hk0 : isMod G k0) (h : Int64) (self4 : Int32 → Int32 → cS → Option (Int32 × cS)) (hself4 : ∀ (x1 : Int32) (x2 : Int32) (σ : cS), Sm K G TT (QM K G (fun r : (Int32 × cS) => ((some (.int r.1), h, r.2) : Option Value × Int64 × cS))) 5 4 [(0, .ref (la G k0)), (1, .int x1), (2, .int x2)] [] h σ (self4 x1 x2 σ)) (self18 : Int32 → Int32 → Int32 → Int32 → cS → Option (Int32 × cS)) (hself18 : ∀ (x1 : Int32) (x2 : Int32) (x3 : Int32) (x4 : Int32) (σ : cS), Sm K G TT (QM K G (fun r : (Int32 × cS) => ((some (.int r.1), h, r.2) : Option Value × Int64 × cS))) 5 18 [(0, .ref (la G k0)), (1, .int x1), (2, .int x2), (3, .int x3), (4, .int x4)] [] h σ (self18 x1 x2 x3 x4 σ)) (x1 : Int32) (x3 : Int32) (x4 : Int32) (y0 : Int32) (σ : cS) : Sm K G TT (QM K G (fun r : (Int32 × cS) => ((some (.int r.1), h, r.2) : Option Value × Int64 × cS))) 5 57 [(0, .ref (la G k0)), (1, .int x1), (3, .int x3), (4, .int x4)] [.int y0] h σ (fX7_balances_57 (ll G) Nf k0 self4 self18 x1 x3 x4 y0 σ) := by
  unfold fX7_balances_57
  refine z_istore_n X [(2, .int y0), (0, .ref (la G k0)), (1, .int x1), (3, .int x3), (4, .int x4)] dX7_balances_57 (by decide) rfl ?_
  refine z_iinc X (fun t1 => [(4, .int t1), (2, .int y0), (0, .ref (la G k0)), (1, .int x1), (3, .int x3)]) dX7_balances_58 4 rfl (by decide) (by decide) (fun _ => rfl) (fun t1 => ?_)
  refine z_goto X 18 dX7_balances_61 (by decide) ?_
  exact z_sub [2, 3, 1, 4, 0] rfl (hself18 x1 y0 x3 t1 σ)
def fX7_balances_56 (L : Nat → Nat) (Nf : Nat) (k0 : Nat) (self4 : Int32 → Int32 → cS → Option (Int32 × cS)) (self18 : Int32 → Int32 → Int32 → Int32 → cS → Option (Int32 × cS)) (x1 : Int32) (x3 : Int32) (x4 : Int32) (σ : cS) : Option (Int32 × cS) := fX7_balances_57 L Nf k0 self4 self18 x1 x3 x4 (0 : Int32) σ
set_option maxHeartbeats 4000000 in
set_option maxRecDepth 100000 in
theorem sX7_balances_56 {K : MCx} {G : Lay} (X : Cx K G RX7 cX7_balances 5 (some .int) 4 92) (Nf : Nat) (k0 : Nat) (hk0 : isMod G k0) (h : Int64) (self4 : Int32 → Int32 → cS → Option (Int32 × cS)) (hself4 : ∀ (x1 : Int32) (x2 : Int32) (σ : cS), Sm K G TT (QM K G (fun r : (Int32 × cS) => ((some (.int r.1), h, r.2) : Option Value × Int64 × cS))) 5 4 [(0, .ref (la G k0)), (1, .int x1), (2, .int x2)] [] h σ (self4 x1 x2 σ)) (self18 : Int32 → Int32 → Int32 → Int32 → cS → Option (Int32 × cS)) (hself18 : ∀ (x1 : Int32) (x2 : Int32) (x3 : Int32) (x4 : Int32) (σ : cS), Sm K G TT (QM K G (fun r : (Int32 × cS) => ((some (.int r.1), h, r.2) : Option Value × Int64 × cS))) 5 18 [(0, .ref (la G k0)), (1, .int x1), (2, .int x2), (3, .int x3), (4, .int x4)] [] h σ (self18 x1 x2 x3 x4 σ)) (x1 : Int32) (x3 : Int32) (x4 : Int32) (σ : cS) : Sm K G TT (QM K G (fun r : (Int32 × cS) => ((some (.int r.1), h, r.2) : Option Value × Int64 × cS))) 5 56 [(0, .ref (la G k0)), (1, .int x1), (3, .int x3), (4, .int x4)] [] h σ (fX7_balances_56 (ll G) Nf k0 self4 self18 x1 x3 x4 σ) := by
  unfold fX7_balances_56
  refine z_iconst (v := (0 : Int32)) X dX7_balances_56 (by decide) ?_
  exact z_sub [0, 1, 2, 3] rfl (sX7_balances_57 X Nf k0 hk0 h self4 hself4 self18 hself18 x1 x3 x4 (0 : Int32) σ)
def fX7_balances_18 (L : Nat → Nat) (Nf : Nat) (k0 : Nat) (self4 : Int32 → Int32 → cS → Option (Int32 × cS)) : Nat → Int32 → Int32 → Int32 → Int32 → cS → Option (Int32 × cS)
  | 0, _, _, _, _, _ => none
  | n + 1, x1, x2, x3, x4, σ => grd (inb (0 : Int32) (L (k0 + 1))) (if (σ (k0 + 1) (0 : Int32).toNatClampNeg) ≤ x4 then (fX7_balances_64 L Nf k0 self4 x1 x2 σ) else (if x2 = 0 then (Option.bind (fX7_load L Nf σ k0 x4) (fun r1 => if r1 = x3 then (Option.bind (fX7_relieves L Nf σ k0 x4) (fun r2 => if r2.1 ≤ 0 then (fX7_balances_56 L Nf k0 self4 (fX7_balances_18 L Nf k0 self4 n) x1 x3 x4 r2.2) else (fX7_balances_57 L Nf k0 self4 (fX7_balances_18 L Nf k0 self4 n) x1 x3 x4 (1 : Int32) r2.2))) else (fX7_balances_56 L Nf k0 self4 (fX7_balances_18 L Nf k0 self4 n) x1 x3 x4 σ))) else (fX7_balances_64 L Nf k0 self4 x1 x2 σ)))
set_option maxHeartbeats 4000000 in
set_option maxRecDepth 100000 in
theorem sX7_balances_18 {K : MCx} {G : Lay} (X : Cx K G RX7 cX7_balances 5 (some .int) 4 92) (Nf : Nat) (k0 : Nat) (hk0 : isMod G k0) (h : Int64) (self4 : Int32 → Int32 → cS → Option (Int32 × cS)) (hself4 : ∀ (x1 : Int32) (x2 : Int32) (σ : cS), Sm K G TT (QM K G (fun r : (Int32 × cS) => ((some (.int r.1), h, r.2) : Option Value × Int64 × cS))) 5 4 [(0, .ref (la G k0)), (1, .int x1), (2, .int x2)] [] h σ (self4 x1 x2 σ)) : ∀ (n : Nat) (x1 : Int32) (x2 : Int32) (x3 : Int32) (x4 : Int32) (σ : cS), Sm K G TT (QM K G (fun r : (Int32 × cS) => ((some (.int r.1), h, r.2) : Option Value × Int64 × cS))) 5 18 [(0, .ref (la G k0)), (1, .int x1), (2, .int x2), (3, .int x3), (4, .int x4)] [] h σ (fX7_balances_18 (ll G) Nf k0 self4 n x1 x2 x3 x4 σ) := by
  intro n
  induction n with
  | zero => intros; exact z_none
  | succ n ih =>
    intro x1 x2 x3 x4 σ
    unfold fX7_balances_18
    refine z_iload X dX7_balances_18 4 rfl ?_
    refine z_aload_n X dX7_balances_20 0 rfl ?_
    refine z_get X inlX7 rfl hk0.1 (ce7 hk0.1 _ _) 0 (by decide) q_5_4 rfl dX7_balances_21 ?_
    refine z_iconst (v := (0 : Int32)) X dX7_balances_24 (by decide) ?_
    refine z_iald X hk0.2.1 dX7_balances_25 ?_
    refine z_icmp_ge X 64 dX7_balances_26 (by decide) ?_ ?_
    · exact z_sub [0, 1, 2] rfl (sX7_balances_64 X Nf k0 hk0 h self4 hself4 x1 x2 σ)
    · refine z_iload_n X dX7_balances_29 2 rfl ?_
      refine z_if_ne X 64 dX7_balances_30 (by decide) ?_ ?_
      · refine z_aload_n X dX7_balances_33 0 rfl ?_
        refine z_iload X dX7_balances_34 4 rfl ?_
        refine z_callV0 X (g := (fun r1 : Int32 => ((some (.int r1), h, σ) : Option Value × Int64 × cS))) (st := []) (st1 := (fun r1 : Int32 => [.int r1])) (rmf := 1) (rml := 21) [.int x4] k0 cal_X7_load q_10_11 ⟨Nat.le_of_ble_eq_true rfl, Nat.le_of_ble_eq_true rfl⟩ rfl rfl (Nat.le_of_ble_eq_true rfl) rfl hk0.1 (ce7 hk0.1 _ _) (ctX7_load (kl K) G X.2.2.2.2.2.2.2.1 Nf h σ k0 hk0 x4) dX7_balances_36 (fun _ => rfl) (fun r1 => ?_)
        refine z_iload_n X dX7_balances_39 3 rfl ?_
        refine z_icmp_ne X 56 dX7_balances_40 (by decide) ?_ ?_
        · refine z_aload_n X dX7_balances_43 0 rfl ?_
          refine z_iload X dX7_balances_44 4 rfl ?_
          refine z_callV0 X (g := (fun r2 : (Int32 × cS) => ((some (.int r2.1), h, r2.2) : Option Value × Int64 × cS))) (st := []) (st1 := (fun r2 : (Int32 × cS) => [.int r2.1])) (rmf := 3) (rml := 68) [.int x4] k0 cal_X7_relieves q_15_23 ⟨Nat.le_of_ble_eq_true rfl, Nat.le_of_ble_eq_true rfl⟩ rfl rfl (Nat.le_of_ble_eq_true rfl) rfl hk0.1 (ce7 hk0.1 _ _) (ctX7_relieves (kl K) G X.2.2.2.2.2.2.2.1 Nf h σ k0 hk0 x4) dX7_balances_46 (fun _ => rfl) (fun r2 => ?_)
          refine z_if_le X 56 dX7_balances_49 (by decide) ?_ ?_
          · exact z_sub [0, 1, 3, 4] rfl (sX7_balances_56 X Nf k0 hk0 h self4 hself4 (fX7_balances_18 (ll G) Nf k0 self4 n) ih x1 x3 x4 r2.2)
          · refine z_iconst (v := (1 : Int32)) X dX7_balances_52 (by decide) ?_
            refine z_goto X 57 dX7_balances_53 (by decide) ?_
            exact z_sub [0, 1, 3, 4] rfl (sX7_balances_57 X Nf k0 hk0 h self4 hself4 (fX7_balances_18 (ll G) Nf k0 self4 n) ih x1 x3 x4 (1 : Int32) r2.2)
        · exact z_sub [0, 1, 3, 4] rfl (sX7_balances_56 X Nf k0 hk0 h self4 hself4 (fX7_balances_18 (ll G) Nf k0 self4 n) ih x1 x3 x4 σ)
      · exact z_sub [0, 1, 2] rfl (sX7_balances_64 X Nf k0 hk0 h self4 hself4 x1 x2 σ)
def fX7_balances_4 (L : Nat → Nat) (Nf : Nat) (k0 : Nat) : Nat → Int32 → Int32 → cS → Option (Int32 × cS)
  | 0, _, _, _ => none
  | n + 1, x1, x2, σ => if x2 = 0 then (some (x1, σ)) else (Option.bind (fX7_greatest L Nf σ k0) (fun r1 => fX7_balances_18 L Nf k0 (fX7_balances_4 L Nf k0 n) Nf x1 (0 : Int32) r1 (0 : Int32) σ))
set_option maxHeartbeats 4000000 in
set_option maxRecDepth 100000 in
theorem sX7_balances_4 {K : MCx} {G : Lay} (X : Cx K G RX7 cX7_balances 5 (some .int) 4 92) (Nf : Nat) (k0 : Nat) (hk0 : isMod G k0) (h : Int64) : ∀ (n : Nat) (x1 : Int32) (x2 : Int32) (σ : cS), Sm K G TT (QM K G (fun r : (Int32 × cS) => ((some (.int r.1), h, r.2) : Option Value × Int64 × cS))) 5 4 [(0, .ref (la G k0)), (1, .int x1), (2, .int x2)] [] h σ (fX7_balances_4 (ll G) Nf k0 n x1 x2 σ) := by
  intro n
  induction n with
  | zero => intros; exact z_none
  | succ n ih =>
    intro x1 x2 σ
    unfold fX7_balances_4
    refine z_iload_n X dX7_balances_4 2 rfl ?_
    refine z_if_eq X 79 dX7_balances_5 (by decide) ?_ ?_
    · refine z_iload_n X dX7_balances_79 1 rfl ?_
      exact z_iret X rfl dX7_balances_80
    · refine z_iconst (v := (0 : Int32)) X dX7_balances_8 (by decide) ?_
      refine z_istore_n X [(2, .int (0 : Int32)), (0, .ref (la G k0)), (1, .int x1)] dX7_balances_9 (by decide) rfl ?_
      refine z_aload_n X dX7_balances_10 1 rfl ?_
      refine z_callV0 X (g := (fun r1 : Int32 => ((some (.int r1), h, σ) : Option Value × Int64 × cS))) (st := []) (st1 := (fun r1 : Int32 => [.int r1])) (rmf := 2) (rml := 44) [] k0 cal_X7_greatest q_17_10 ⟨Nat.le_of_ble_eq_true rfl, Nat.le_of_ble_eq_true rfl⟩ rfl rfl (Nat.le_of_ble_eq_true rfl) rfl hk0.1 (ce7 hk0.1 _ _) (ctX7_greatest (kl K) G X.2.2.2.2.2.2.2.1 Nf h σ k0 hk0 ) dX7_balances_11 (fun _ => rfl) (fun r1 => ?_)
      refine z_istore_n X [(3, .int r1), (2, .int (0 : Int32)), (0, .ref (la G k0)), (1, .int x1)] dX7_balances_14 (by decide) rfl ?_
      refine z_iconst (v := (0 : Int32)) X dX7_balances_15 (by decide) ?_
      refine z_istore X [(4, .int (0 : Int32)), (3, .int r1), (2, .int (0 : Int32)), (0, .ref (la G k0)), (1, .int x1)] dX7_balances_16 (by decide) rfl ?_
      exact z_sub [3, 4, 2, 1, 0] rfl (sX7_balances_18 X Nf k0 hk0 h (fX7_balances_4 (ll G) Nf k0 n) ih Nf x1 (0 : Int32) r1 (0 : Int32) σ)
def fX7_balances_0 (L : Nat → Nat) (Nf : Nat) (k0 : Nat) (σ : cS) : Option (Int32 × cS) := fX7_balances_4 L Nf k0 Nf (0 : Int32) (1 : Int32) σ
set_option maxHeartbeats 4000000 in
set_option maxRecDepth 100000 in
theorem sX7_balances_0 {K : MCx} {G : Lay} (X : Cx K G RX7 cX7_balances 5 (some .int) 4 92) (Nf : Nat) (k0 : Nat) (hk0 : isMod G k0) (h : Int64) (σ : cS) : Sm K G TT (QM K G (fun r : (Int32 × cS) => ((some (.int r.1), h, r.2) : Option Value × Int64 × cS))) 5 0 [(0, .ref (la G k0))] [] h σ (fX7_balances_0 (ll G) Nf k0 σ) := by
  unfold fX7_balances_0
  refine z_iconst (v := (0 : Int32)) X dX7_balances_0 (by decide) ?_
  refine z_istore_n X [(1, .int (0 : Int32)), (0, .ref (la G k0))] dX7_balances_1 (by decide) rfl ?_
  refine z_iconst (v := (1 : Int32)) X dX7_balances_2 (by decide) ?_
  refine z_istore_n X [(2, .int (1 : Int32)), (1, .int (0 : Int32)), (0, .ref (la G k0))] dX7_balances_3 (by decide) rfl ?_
  exact z_sub [2, 1, 0] rfl (sX7_balances_4 X Nf k0 hk0 h Nf (0 : Int32) (1 : Int32) σ)
def fX7_balances (L : Nat → Nat) (Nf : Nat) (σ : cS) (k0 : Nat) : Option (Int32 × cS) := fX7_balances_0 L Nf k0 σ
set_option maxHeartbeats 4000000 in
set_option maxRecDepth 100000 in
theorem ctX7_balances (l : Launch) (G : Lay) (hi : Inj G) (Nf : Nat) (h : Int64) (σ : cS) (k0 : Nat) (hk0 : isMod G k0) : ∀ r, fX7_balances (ll G) Nf σ k0 = some r → CM l yX7_balances cX7_balances 5 (some .int) 4 92 G [.ref (la G k0)] h σ (some (.int r.1), h, r.2) := by
  refine cm_of (g := (fun r : (Int32 × cS) => ((some (.int r.1), h, r.2) : Option Value × Int64 × cS))) (by decide) hi (Nat.le_of_ble_eq_true rfl) (fun K hKl X => ?_)
  unfold fX7_balances
  exact z_sub [0] rfl (sX7_balances_0 X Nf k0 hk0 h σ)
