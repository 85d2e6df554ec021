theorem q_1_21 : Cond.initialized RX3 ∈ wsL_law := seg_1 _ (List.mem_of_getElem? (i := 21) rfl)
theorem q_4_1 : Cond.fieldLink RX3 9 "EdgeHolders$PartTable" "innerEdges" "[I" ∈ wsL_law := seg_4 _ (List.mem_of_getElem? (i := 1) rfl)
theorem q_4_2 : Cond.fieldLink RX3 15 "EdgeHolders$PartTable" "capacitySums" "[I" ∈ wsL_law := seg_4 _ (List.mem_of_getElem? (i := 2) rfl)
theorem q_4_4 : Cond.fieldLink RX3 23 "EdgeHolders$PartTable" "joining" "LEdgeHolders$Row;" ∈ wsL_law := seg_4 _ (List.mem_of_getElem? (i := 4) rfl)
theorem q_6_1 : Cond.fieldLink RX3 27 "EdgeHolders$PartTable" "known" "Z" ∈ wsL_law := seg_6 _ (List.mem_of_getElem? (i := 1) rfl)
theorem q_7_19 : Cond.fieldLink RX3 31 "EdgeHolders$PartTable" "sets" "I" ∈ wsL_law := seg_7 _ (List.mem_of_getElem? (i := 19) rfl)
theorem q_7_20 : Cond.fieldLink RX3 51 "EdgeHolders$PartTable" "densestPart" "I" ∈ wsL_law := seg_7 _ (List.mem_of_getElem? (i := 20) rfl)
theorem q_7_21 : Cond.fieldLink RX3 58 "EdgeHolders$PartTable" "leastLoad" "I" ∈ wsL_law := seg_7 _ (List.mem_of_getElem? (i := 21) rfl)
theorem q_7_22 : Cond.methodLink RX3 40 yX0_countJoining ∈ wsL_law := seg_7 _ (List.mem_of_getElem? (i := 22) rfl)
theorem q_7_23 : Cond.instanceMethod yX0_countJoining ∈ wsL_law := seg_7 _ (List.mem_of_getElem? (i := 23) rfl)
theorem q_8_0 : Cond.selects RX0 yX0_countJoining yX0_countJoining ∈ wsL_law := seg_8 _ (List.mem_of_getElem? (i := 0) rfl)
theorem q_8_1 : Cond.code yX0_countJoining cX0_countJoining 4 none ∈ wsL_law := seg_8 _ (List.mem_of_getElem? (i := 1) rfl)
theorem q_8_6 : Cond.methodLink RX3 44 yX3_addSetsWith ∈ wsL_law := seg_8 _ (List.mem_of_getElem? (i := 6) rfl)
theorem q_8_7 : Cond.instanceMethod yX3_addSetsWith ∈ wsL_law := seg_8 _ (List.mem_of_getElem? (i := 7) rfl)
theorem q_8_8 : Cond.selects RX3 yX3_addSetsWith yX3_addSetsWith ∈ wsL_law := seg_8 _ (List.mem_of_getElem? (i := 8) rfl)
theorem q_8_9 : Cond.code yX3_addSetsWith cX3_addSetsWith 3 none ∈ wsL_law := seg_8 _ (List.mem_of_getElem? (i := 9) rfl)
theorem q_8_10 : Cond.methodLink RX3 61 yX3_writeSums ∈ wsL_law := seg_8 _ (List.mem_of_getElem? (i := 10) rfl)
theorem q_8_11 : Cond.static yX3_writeSums ∈ wsL_law := seg_8 _ (List.mem_of_getElem? (i := 11) rfl)
theorem q_8_12 : Cond.code yX3_writeSums cX3_writeSums 8 none ∈ wsL_law := seg_8 _ (List.mem_of_getElem? (i := 12) rfl)
theorem q_8_13 : Cond.methodLink RX3 65 yX4_get ∈ wsL_law := seg_8 _ (List.mem_of_getElem? (i := 13) rfl)
theorem q_8_14 : Cond.methodLink RX3 47 yX3_densestWith ∈ wsL_law := seg_8 _ (List.mem_of_getElem? (i := 14) rfl)
theorem q_8_15 : Cond.instanceMethod yX3_densestWith ∈ wsL_law := seg_8 _ (List.mem_of_getElem? (i := 15) rfl)
theorem q_8_16 : Cond.selects RX3 yX3_densestWith yX3_densestWith ∈ wsL_law := seg_8 _ (List.mem_of_getElem? (i := 16) rfl)
theorem q_8_17 : Cond.code yX3_densestWith cX3_densestWith 10 (some .int) ∈ wsL_law := seg_8 _ (List.mem_of_getElem? (i := 17) rfl)
theorem q_8_18 : Cond.methodLink RX3 69 yX3_innerWith ∈ wsL_law := seg_8 _ (List.mem_of_getElem? (i := 18) rfl)
theorem q_8_19 : Cond.instanceMethod yX3_innerWith ∈ wsL_law := seg_8 _ (List.mem_of_getElem? (i := 19) rfl)
theorem q_8_20 : Cond.selects RX3 yX3_innerWith yX3_innerWith ∈ wsL_law := seg_8 _ (List.mem_of_getElem? (i := 20) rfl)
theorem q_8_21 : Cond.code yX3_innerWith cX3_innerWith 4 (some .int) ∈ wsL_law := seg_8 _ (List.mem_of_getElem? (i := 21) rfl)
theorem q_8_22 : Cond.methodLink RX3 72 yJ6_bitCount_0f7a4 ∈ wsL_law := seg_8 _ (List.mem_of_getElem? (i := 22) rfl)
theorem q_8_23 : Cond.static yJ6_bitCount_0f7a4 ∈ wsL_law := seg_8 _ (List.mem_of_getElem? (i := 23) rfl)
theorem q_9_0 : Cond.initialized RJ6 ∈ wsL_law := seg_9 _ (List.mem_of_getElem? (i := 0) rfl)
theorem q_9_1 : Cond.code yJ6_bitCount_0f7a4 cJ6_bitCount_0f7a4 1 (some .int) ∈ wsL_law := seg_9 _ (List.mem_of_getElem? (i := 1) rfl)
theorem q_9_2 : Cond.constant RJ6 265 (1431655765) ∈ wsL_law := seg_9 _ (List.mem_of_getElem? (i := 2) rfl)
theorem q_9_3 : Cond.constant RJ6 266 (858993459) ∈ wsL_law := seg_9 _ (List.mem_of_getElem? (i := 3) rfl)
theorem q_9_4 : Cond.constant RJ6 267 (252645135) ∈ wsL_law := seg_9 _ (List.mem_of_getElem? (i := 4) rfl)
theorem q_9_5 : Cond.methodLink RX3 54 yX3_roundedUpDensity ∈ wsL_law := seg_9 _ (List.mem_of_getElem? (i := 5) rfl)
theorem q_9_6 : Cond.instanceMethod yX3_roundedUpDensity ∈ wsL_law := seg_9 _ (List.mem_of_getElem? (i := 6) rfl)
theorem q_9_7 : Cond.selects RX3 yX3_roundedUpDensity yX3_roundedUpDensity ∈ wsL_law := seg_9 _ (List.mem_of_getElem? (i := 7) rfl)
theorem q_9_8 : Cond.code yX3_roundedUpDensity cX3_roundedUpDensity 5 (some .int) ∈ wsL_law := seg_9 _ (List.mem_of_getElem? (i := 8) rfl)
theorem cal_X3_writeSums : CalS yX3_writeSums cX3_writeSums 8 none 4 := ⟨q_8_12, q_8_11, q_1_21, by decide +kernel⟩
theorem cal_J6_bitCount_0f7a4 : CalS yJ6_bitCount_0f7a4 cJ6_bitCount_0f7a4 1 (some .int) 1 := ⟨q_9_1, q_8_23, q_9_0, by decide +kernel⟩
theorem cal_X3_innerWith : Cal yX3_innerWith RX3 cX3_innerWith 4 (some .int) 3 := ⟨q_8_21, q_8_19, q_8_20, q_1_21, by decide +kernel⟩
theorem cal_X0_countJoining : Cal yX0_countJoining RX0 cX0_countJoining 4 none 2 := ⟨q_8_1, q_7_23, q_8_0, q_1_12, by decide +kernel⟩
theorem cal_X3_addSetsWith : Cal yX3_addSetsWith RX3 cX3_addSetsWith 3 none 1 := ⟨q_8_9, q_8_7, q_8_8, q_1_21, by decide +kernel⟩
theorem cal_X3_densestWith : Cal yX3_densestWith RX3 cX3_densestWith 10 (some .int) 2 := ⟨q_8_17, q_8_15, q_8_16, q_1_21, by decide +kernel⟩
theorem cal_X3_roundedUpDensity : Cal yX3_roundedUpDensity RX3 cX3_roundedUpDensity 5 (some .int) 3 := ⟨q_9_8, q_9_6, q_9_7, q_1_21, by decide +kernel⟩
def fJ6_bitCount_0f7a4_0 (σ : cS) (x0 : Int32)  : Option Int32 := bnd ((x0 - (((x0.toUInt32 >>> ((1 : Int32).toUInt32 &&& Int32.toUInt32 31)).toInt32) &&& (1431655765 : Int32)))) (fun t1 => bnd (((t1 &&& (858993459 : Int32)) + (((t1.toUInt32 >>> ((2 : Int32).toUInt32 &&& Int32.toUInt32 31)).toInt32) &&& (858993459 : Int32)))) (fun t2 => bnd (((t2 + ((t2.toUInt32 >>> ((4 : Int32).toUInt32 &&& Int32.toUInt32 31)).toInt32)) &&& (252645135 : Int32))) (fun t3 => bnd ((t3 + ((t3.toUInt32 >>> ((8 : Int32).toUInt32 &&& Int32.toUInt32 31)).toInt32))) (fun t4 => bnd ((t4 + ((t4.toUInt32 >>> ((16 : Int32).toUInt32 &&& Int32.toUInt32 31)).toInt32))) (fun t5 => some (t5 &&& (63 : Int32)))))))
set_option maxHeartbeats 4000000 in
set_option maxRecDepth 100000 in
theorem sJ6_bitCount_0f7a4_0 {K : MCx} {G : Lay} (X : Cx K G RJ6 cJ6_bitCount_0f7a4 1 (some .int) 0 0)  (h : Int64) (σ : cS) (x0 : Int32) : Sm K G TT (QM K G (fun r : Int32 => ((some (.int r), h, σ) : Option Value × Int64 × cS))) 1 0 [(0, .int x0)] [] h σ (fJ6_bitCount_0f7a4_0 σ x0) := by
  unfold fJ6_bitCount_0f7a4_0
  refine z_iload_n X dJ6_bitCount_0f7a4_0 0 rfl ?_
  refine z_iload_n X dJ6_bitCount_0f7a4_1 0 rfl ?_
  refine z_iconst (v := (1 : Int32)) X dJ6_bitCount_0f7a4_2 (by decide) ?_
  refine z_iushr X dJ6_bitCount_0f7a4_3 ?_
  refine z_ldcw X q_9_2 dJ6_bitCount_0f7a4_4 ?_
  refine z_iand X dJ6_bitCount_0f7a4_7 ?_
  refine z_isub X dJ6_bitCount_0f7a4_8 ?_
  refine z_nm (fun t1 => ?_)
  refine z_istore_n X [(0, .int t1)] dJ6_bitCount_0f7a4_9 (by decide) rfl ?_
  refine z_iload_n X dJ6_bitCount_0f7a4_10 0 rfl ?_
  refine z_ldcw X q_9_3 dJ6_bitCount_0f7a4_11 ?_
  refine z_iand X dJ6_bitCount_0f7a4_14 ?_
  refine z_iload_n X dJ6_bitCount_0f7a4_15 0 rfl ?_
  refine z_iconst (v := (2 : Int32)) X dJ6_bitCount_0f7a4_16 (by decide) ?_
  refine z_iushr X dJ6_bitCount_0f7a4_17 ?_
  refine z_ldcw X q_9_3 dJ6_bitCount_0f7a4_18 ?_
  refine z_iand X dJ6_bitCount_0f7a4_21 ?_
  refine z_iadd X dJ6_bitCount_0f7a4_22 ?_
  refine z_nm (fun t2 => ?_)
  refine z_istore_n X [(0, .int t2)] dJ6_bitCount_0f7a4_23 (by decide) rfl ?_
  refine z_iload_n X dJ6_bitCount_0f7a4_24 0 rfl ?_
  refine z_iload_n X dJ6_bitCount_0f7a4_25 0 rfl ?_
  refine z_iconst (v := (4 : Int32)) X dJ6_bitCount_0f7a4_26 (by decide) ?_
  refine z_iushr X dJ6_bitCount_0f7a4_27 ?_
  refine z_iadd X dJ6_bitCount_0f7a4_28 ?_
  refine z_ldcw X q_9_4 dJ6_bitCount_0f7a4_29 ?_
  refine z_iand X dJ6_bitCount_0f7a4_32 ?_
  refine z_nm (fun t3 => ?_)
  refine z_istore_n X [(0, .int t3)] dJ6_bitCount_0f7a4_33 (by decide) rfl ?_
  refine z_iload_n X dJ6_bitCount_0f7a4_34 0 rfl ?_
  refine z_iload_n X dJ6_bitCount_0f7a4_35 0 rfl ?_
  refine z_bipush (v := (8 : Int32)) X dJ6_bitCount_0f7a4_36 (by decide) ?_
  refine z_iushr X dJ6_bitCount_0f7a4_38 ?_
  refine z_iadd X dJ6_bitCount_0f7a4_39 ?_
  refine z_nm (fun t4 => ?_)
  refine z_istore_n X [(0, .int t4)] dJ6_bitCount_0f7a4_40 (by decide) rfl ?_
  refine z_iload_n X dJ6_bitCount_0f7a4_41 0 rfl ?_
  refine z_iload_n X dJ6_bitCount_0f7a4_42 0 rfl ?_
  refine z_bipush (v := (16 : Int32)) X dJ6_bitCount_0f7a4_43 (by decide) ?_
  refine z_iushr X dJ6_bitCount_0f7a4_45 ?_
  refine z_iadd X dJ6_bitCount_0f7a4_46 ?_
  refine z_nm (fun t5 => ?_)
  refine z_istore_n X [(0, .int t5)] dJ6_bitCount_0f7a4_47 (by decide) rfl ?_
  refine z_iload_n X dJ6_bitCount_0f7a4_48 0 rfl ?_
  refine z_bipush (v := (63 : Int32)) X dJ6_bitCount_0f7a4_49 (by decide) ?_
  refine z_iand X dJ6_bitCount_0f7a4_51 ?_
  exact z_iret X rfl dJ6_bitCount_0f7a4_52
def fJ6_bitCount_0f7a4 (σ : cS) (x0 : Int32) : Option Int32 := fJ6_bitCount_0f7a4_0 σ x0
set_option maxHeartbeats 4000000 in
set_option maxRecDepth 100000 in
theorem ctJ6_bitCount_0f7a4 (l : Launch) (G : Lay) (hi : Inj G) (h : Int64) (σ : cS)  (x0 : Int32) : ∀ r, fJ6_bitCount_0f7a4 σ x0 = some r → CM l yJ6_bitCount_0f7a4 cJ6_bitCount_0f7a4 1 (some .int) 0 0 G [.int x0] h σ (some (.int r), h, σ) := by
  refine cm_of (g := (fun r : Int32 => ((some (.int r), h, σ) : Option Value × Int64 × cS))) (by decide) hi (Nat.le_of_ble_eq_true rfl) (fun K hKl X => ?_)
  unfold fJ6_bitCount_0f7a4
  exact z_sub [0] rfl (sJ6_bitCount_0f7a4_0 X  h σ x0)
def fX3_forget_0 (k0 : Nat) (σ : cS) : Option cS := bnd (st2 σ k0 6 (0 : Int32)) (fun σ1 => some σ1)
set_option maxHeartbeats 4000000 in
set_option maxRecDepth 100000 in
theorem sX3_forget_0 {K : MCx} {G : Lay} (X : Cx K G RX3 cX3_forget 1 none 0 0) (k0 : Nat) (hk0 : isParts G k0) (h : Int64) (σ : cS) : Sm K G TT (QM K G (fun r : cS => ((none, h, r) : Option Value × Int64 × cS))) 1 0 [(0, .ref (la G k0))] [] h σ (fX3_forget_0 k0 σ) := by
  unfold fX3_forget_0
  refine z_aload_n X dX3_forget_0 0 rfl ?_
  refine z_iconst (v := (0 : Int32)) X dX3_forget_1 (by decide) ?_
  refine z_put X inlX3 rfl hk0.1 (ce3 hk0.1 _ _) 6 (by decide) q_6_1 tyX3 tyX3_ok nmX3 rfl (cp3 hk0.1 _ _ _ 6 (by decide)) rfl rfl (Nat.le_of_ble_eq_true rfl) dX3_forget_2 (fun σ1 => ?_)
  exact z_vret X rfl dX3_forget_5
def fX3_forget (σ : cS) (k0 : Nat) : Option cS := fX3_forget_0 k0 σ
set_option maxHeartbeats 4000000 in
set_option maxRecDepth 100000 in
theorem ctX3_forget (l : Launch) (G : Lay) (hi : Inj G) (h : Int64) (σ : cS) (k0 : Nat) (hk0 : isParts G k0) : ∀ r, fX3_forget σ k0 = some r → CM l yX3_forget cX3_forget 1 none 0 0 G [.ref (la G k0)] h σ (none, h, r) := by
  refine cm_of (g := (fun r : cS => ((none, h, r) : Option Value × Int64 × cS))) (by decide) hi (Nat.le_of_ble_eq_true rfl) (fun K hKl X => ?_)
  unfold fX3_forget
  exact z_sub [0] rfl (sX3_forget_0 X k0 hk0 h σ)
def fX3_writeSums_100 (L : Nat → Nat) (Nf : Nat) (k0 : Nat) (k2 : Nat) (σ : cS) : Option cS := some σ
set_option maxHeartbeats 4000000 in
set_option maxRecDepth 100000 in
theorem sX3_writeSums_100 {K : MCx} {G : Lay} (X : Cx K G RX3 cX3_writeSums 8 none 1 21) (Nf : Nat) (k0 : Nat) (hk0 : Ob G k0 8) (k2 : Nat) (hk2 : isRow G k2) (h : Int64) (σ : cS) : Sm K G TT (QM K G (fun r : cS => ((none, h, r) : Option Value × Int64 × cS))) 8 100 [] [] h σ (fX3_writeSums_100 (ll G) Nf k0 k2 σ) := by
  unfold fX3_writeSums_100
  exact z_vret X rfl dX3_writeSums_100
def fX3_writeSums_88 (L : Nat → Nat) (Nf : Nat) (k0 : Nat) (k2 : Nat) (self21 : Int32 → Int32 → Int32 → Int32 → cS → Option cS) (x1 : Int32) (x3 : Int32) (x4 : Int32) (x5 : Int32) (σ : cS) : Option cS := bnd ((x4 * (2 : Int32))) (fun t1 => bnd (x5 + (1 : Int32)) (fun t2 => self21 x1 x3 t1 t2 σ))
set_option maxHeartbeats 4000000 in
set_option maxRecDepth 100000 in
theorem sX3_writeSums_88 {K : MCx} {G : Lay} (X : Cx K G RX3 cX3_writeSums 8 none 1 21) (Nf : Nat) (k0 : Nat) (hk0 : Ob G k0 8) (k2 : Nat) (hk2 : isRow G k2) (h : Int64) (self21 : Int32 → Int32 → Int32 → Int32 → cS → Option cS) (hself21 : ∀ (x1 : Int32) (x3 : Int32) (x4 : Int32) (x5 : Int32) (σ : cS), Sm K G TT (QM K G (fun r : cS => ((none, h, r) : Option Value × Int64 × cS))) 8 21 [(0, .ref (la G k0)), (1, .int x1), (2, .ref (la G k2)), (3, .int x3), (4, .int x4), (5, .int x5)] [] h σ (self21 x1 x3 x4 x5 σ)) (x1 : Int32) (x3 : Int32) (x4 : Int32) (x5 : Int32) (σ : cS) : Sm K G TT (QM K G (fun r : cS => ((none, h, r) : Option Value × Int64 × cS))) 8 88 [(0, .ref (la G k0)), (1, .int x1), (2, .ref (la G k2)), (3, .int x3), (4, .int x4), (5, .int x5)] [] h σ (fX3_writeSums_88 (ll G) Nf k0 k2 self21 x1 x3 x4 x5 σ) := by
  unfold fX3_writeSums_88
  refine z_iload X dX3_writeSums_88 4 rfl ?_
  refine z_iconst (v := (2 : Int32)) X dX3_writeSums_90 (by decide) ?_
  refine z_imul X dX3_writeSums_91 ?_
  refine z_nm (fun t1 => ?_)
  refine z_istore X [(4, .int t1), (0, .ref (la G k0)), (1, .int x1), (2, .ref (la G k2)), (3, .int x3), (5, .int x5)] dX3_writeSums_92 (by decide) rfl ?_
  refine z_iinc X (fun t2 => [(5, .int t2), (4, .int t1), (0, .ref (la G k0)), (1, .int x1), (2, .ref (la G k2)), (3, .int x3)]) dX3_writeSums_94 5 rfl (by decide) (by decide) (fun _ => rfl) (fun t2 => ?_)
  refine z_goto X 21 dX3_writeSums_97 (by decide) ?_
  exact z_sub [2, 3, 4, 5, 1, 0] rfl (hself21 x1 x3 t1 t2 σ)
def fX3_writeSums_45 (L : Nat → Nat) (Nf : Nat) (k0 : Nat) (k2 : Nat) (self21 : Int32 → Int32 → Int32 → Int32 → cS → Option cS) : Nat → Int32 → Int32 → Int32 → Int32 → Int32 → Int32 → cS → Option cS
  | 0, _, _, _, _, _, _, _ => none
  | n + 1, x1, x3, x4, x5, x6, x7, σ => if x4 ≤ x7 then (fX3_writeSums_88 L Nf k0 k2 self21 x1 x3 x4 x5 σ) else (if (Int32.ofNat (L k0)) ≤ ((x1 + x4) + x7) then (fX3_writeSums_88 L Nf k0 k2 self21 x1 x3 x4 x5 σ) else (grd (inb (x1 + x7) (L k0)) (grd (inb ((x1 + x4) + x7) (L k0)) (bnd (st2 σ k0 ((x1 + x4) + x7).toNatClampNeg ((σ k0 (x1 + x7).toNatClampNeg) + x6)) (fun σ1 => bnd (x7 + (1 : Int32)) (fun t2 => fX3_writeSums_45 L Nf k0 k2 self21 n x1 x3 x4 x5 x6 t2 σ1))))))
set_option maxHeartbeats 4000000 in
set_option maxRecDepth 100000 in
theorem sX3_writeSums_45 {K : MCx} {G : Lay} (X : Cx K G RX3 cX3_writeSums 8 none 1 21) (Nf : Nat) (k0 : Nat) (hk0 : Ob G k0 8) (k2 : Nat) (hk2 : isRow G k2) (h : Int64) (self21 : Int32 → Int32 → Int32 → Int32 → cS → Option cS) (hself21 : ∀ (x1 : Int32) (x3 : Int32) (x4 : Int32) (x5 : Int32) (σ : cS), Sm K G TT (QM K G (fun r : cS => ((none, h, r) : Option Value × Int64 × cS))) 8 21 [(0, .ref (la G k0)), (1, .int x1), (2, .ref (la G k2)), (3, .int x3), (4, .int x4), (5, .int x5)] [] h σ (self21 x1 x3 x4 x5 σ)) : ∀ (n : Nat) (x1 : Int32) (x3 : Int32) (x4 : Int32) (x5 : Int32) (x6 : Int32) (x7 : Int32) (σ : cS), Sm K G TT (QM K G (fun r : cS => ((none, h, r) : Option Value × Int64 × cS))) 8 45 [(0, .ref (la G k0)), (1, .int x1), (2, .ref (la G k2)), (3, .int x3), (4, .int x4), (5, .int x5), (6, .int x6), (7, .int x7)] [] h σ (fX3_writeSums_45 (ll G) Nf k0 k2 self21 n x1 x3 x4 x5 x6 x7 σ) := by
  intro n
  induction n with
  | zero => intros; exact z_none
  | succ n ih =>
    intro x1 x3 x4 x5 x6 x7 σ
    unfold fX3_writeSums_45
    refine z_iload X dX3_writeSums_45 7 rfl ?_
    refine z_iload X dX3_writeSums_47 4 rfl ?_
    refine z_icmp_ge X 88 dX3_writeSums_49 (by decide) ?_ ?_
    · exact z_sub [0, 1, 2, 3, 4, 5] rfl (sX3_writeSums_88 X Nf k0 hk0 k2 hk2 h self21 hself21 x1 x3 x4 x5 σ)
    · refine z_iload_n X dX3_writeSums_52 1 rfl ?_
      refine z_iload X dX3_writeSums_53 4 rfl ?_
      refine z_iadd X dX3_writeSums_55 ?_
      refine z_iload X dX3_writeSums_56 7 rfl ?_
      refine z_iadd X dX3_writeSums_58 ?_
      refine z_aload_n X dX3_writeSums_59 0 rfl ?_
      refine z_alen X hk0 dX3_writeSums_60 ?_
      refine z_icmp_ge X 88 dX3_writeSums_61 (by decide) ?_ ?_
      · exact z_sub [0, 1, 2, 3, 4, 5] rfl (sX3_writeSums_88 X Nf k0 hk0 k2 hk2 h self21 hself21 x1 x3 x4 x5 σ)
      · refine z_aload_n X dX3_writeSums_64 0 rfl ?_
        refine z_iload_n X dX3_writeSums_65 1 rfl ?_
        refine z_iload X dX3_writeSums_66 4 rfl ?_
        refine z_iadd X dX3_writeSums_68 ?_
        refine z_iload X dX3_writeSums_69 7 rfl ?_
        refine z_iadd X dX3_writeSums_71 ?_
        refine z_aload_n X dX3_writeSums_72 0 rfl ?_
        refine z_iload_n X dX3_writeSums_73 1 rfl ?_
        refine z_iload X dX3_writeSums_74 7 rfl ?_
        refine z_iadd X dX3_writeSums_76 ?_
        refine z_iald X hk0 dX3_writeSums_77 ?_
        refine z_iload X dX3_writeSums_78 6 rfl ?_
        refine z_iadd X dX3_writeSums_80 ?_
        refine z_iast X hk0 dX3_writeSums_81 (fun σ1 => ?_)
        refine z_iinc X (fun t2 => [(7, .int t2), (0, .ref (la G k0)), (1, .int x1), (2, .ref (la G k2)), (3, .int x3), (4, .int x4), (5, .int x5), (6, .int x6)]) dX3_writeSums_82 7 rfl (by decide) (by decide) (fun _ => rfl) (fun t2 => ?_)
        refine z_goto X 45 dX3_writeSums_85 (by decide) ?_
        exact z_sub [1, 2, 3, 4, 5, 6, 7, 0] rfl (ih x1 x3 x4 x5 x6 t2 σ1)
def fX3_writeSums_21 (L : Nat → Nat) (Nf : Nat) (k0 : Nat) (k2 : Nat) : Nat → Int32 → Int32 → Int32 → Int32 → cS → Option cS
  | 0, _, _, _, _, _ => none
  | n + 1, x1, x3, x4, x5, σ => if x3 ≤ x5 then (fX3_writeSums_100 L Nf k0 k2 σ) else (if (12 : Int32) ≤ x5 then (fX3_writeSums_100 L Nf k0 k2 σ) else (Option.bind (fX4_get L σ k2 x5) (fun r1 => fX3_writeSums_45 L Nf k0 k2 (fX3_writeSums_21 L Nf k0 k2 n) Nf x1 x3 x4 x5 r1 (0 : Int32) σ)))
set_option maxHeartbeats 4000000 in
set_option maxRecDepth 100000 in
theorem sX3_writeSums_21 {K : MCx} {G : Lay} (X : Cx K G RX3 cX3_writeSums 8 none 1 21) (Nf : Nat) (k0 : Nat) (hk0 : Ob G k0 8) (k2 : Nat) (hk2 : isRow G k2) (h : Int64) : ∀ (n : Nat) (x1 : Int32) (x3 : Int32) (x4 : Int32) (x5 : Int32) (σ : cS), Sm K G TT (QM K G (fun r : cS => ((none, h, r) : Option Value × Int64 × cS))) 8 21 [(0, .ref (la G k0)), (1, .int x1), (2, .ref (la G k2)), (3, .int x3), (4, .int x4), (5, .int x5)] [] h σ (fX3_writeSums_21 (ll G) Nf k0 k2 n x1 x3 x4 x5 σ) := by
  intro n
  induction n with
  | zero => intros; exact z_none
  | succ n ih =>
    intro x1 x3 x4 x5 σ
    unfold fX3_writeSums_21
    refine z_iload X dX3_writeSums_21 5 rfl ?_
    refine z_iload_n X dX3_writeSums_23 3 rfl ?_
    refine z_icmp_ge X 100 dX3_writeSums_24 (by decide) ?_ ?_
    · exact z_sub [] rfl (sX3_writeSums_100 X Nf k0 hk0 k2 hk2 h σ)
    · refine z_iload X dX3_writeSums_27 5 rfl ?_
      refine z_bipush (v := (12 : Int32)) X dX3_writeSums_29 (by decide) ?_
      refine z_icmp_ge X 100 dX3_writeSums_31 (by decide) ?_ ?_
      · exact z_sub [] rfl (sX3_writeSums_100 X Nf k0 hk0 k2 hk2 h σ)
      · refine z_aload_n X dX3_writeSums_34 2 rfl ?_
        refine z_iload X dX3_writeSums_35 5 rfl ?_
        refine z_callV0 X (g := (fun r1 : Int32 => ((some (.int r1), h, σ) : Option Value × Int64 × cS))) (st := []) (st1 := (fun r1 : Int32 => [.int r1])) (rmf := 0) (rml := 0) [.int x5] k2 cal_X4_get q_8_13 ⟨Nat.le_of_ble_eq_true rfl, Nat.le_of_ble_eq_true rfl⟩ rfl rfl (Nat.le_of_ble_eq_true rfl) rfl hk2.1 (ce4 hk2.1 _ _) (ctX4_get (kl K) G X.2.2.2.2.2.2.2.1 h σ k2 hk2 x5) dX3_writeSums_37 (fun _ => rfl) (fun r1 => ?_)
        refine z_istore X [(6, .int r1), (0, .ref (la G k0)), (1, .int x1), (2, .ref (la G k2)), (3, .int x3), (4, .int x4), (5, .int x5)] dX3_writeSums_40 (by decide) rfl ?_
        refine z_iconst (v := (0 : Int32)) X dX3_writeSums_42 (by decide) ?_
        refine z_istore X [(7, .int (0 : Int32)), (6, .int r1), (0, .ref (la G k0)), (1, .int x1), (2, .ref (la G k2)), (3, .int x3), (4, .int x4), (5, .int x5)] dX3_writeSums_43 (by decide) rfl ?_
        exact z_sub [2, 3, 4, 5, 6, 7, 1, 0] rfl (sX3_writeSums_45 X Nf k0 hk0 k2 hk2 h (fX3_writeSums_21 (ll G) Nf k0 k2 n) ih Nf x1 x3 x4 x5 r1 (0 : Int32) σ)
def fX3_writeSums_10 (L : Nat → Nat) (Nf : Nat) (k0 : Nat) (k2 : Nat) (σ : cS) : Option cS := some σ
set_option maxHeartbeats 4000000 in
set_option maxRecDepth 100000 in
theorem sX3_writeSums_10 {K : MCx} {G : Lay} (X : Cx K G RX3 cX3_writeSums 8 none 1 21) (Nf : Nat) (k0 : Nat) (hk0 : Ob G k0 8) (k2 : Nat) (hk2 : isRow G k2) (h : Int64) (σ : cS) : Sm K G TT (QM K G (fun r : cS => ((none, h, r) : Option Value × Int64 × cS))) 8 10 [] [] h σ (fX3_writeSums_10 (ll G) Nf k0 k2 σ) := by
  unfold fX3_writeSums_10
  exact z_vret X rfl dX3_writeSums_10
def fX3_writeSums_0 (L : Nat → Nat) (Nf : Nat) (k0 : Nat) (k2 : Nat) (x1 : Int32) (x3 : Int32) (σ : cS) : Option cS := if x1 < 0 then (fX3_writeSums_10 L Nf k0 k2 σ) else (if x1 < (Int32.ofNat (L k0)) then (grd (inb x1 (L k0)) (bnd (st2 σ k0 x1.toNatClampNeg (0 : Int32)) (fun σ1 => fX3_writeSums_21 L Nf k0 k2 Nf x1 x3 (1 : Int32) (0 : Int32) σ1))) else (fX3_writeSums_10 L Nf k0 k2 σ))
set_option maxHeartbeats 4000000 in
set_option maxRecDepth 100000 in
theorem sX3_writeSums_0 {K : MCx} {G : Lay} (X : Cx K G RX3 cX3_writeSums 8 none 1 21) (Nf : Nat) (k0 : Nat) (hk0 : Ob G k0 8) (k2 : Nat) (hk2 : isRow G k2) (h : Int64) (x1 : Int32) (x3 : Int32) (σ : cS) : Sm K G TT (QM K G (fun r : cS => ((none, h, r) : Option Value × Int64 × cS))) 8 0 [(0, .ref (la G k0)), (1, .int x1), (2, .ref (la G k2)), (3, .int x3)] [] h σ (fX3_writeSums_0 (ll G) Nf k0 k2 x1 x3 σ) := by
  unfold fX3_writeSums_0
  refine z_iload_n X dX3_writeSums_0 1 rfl ?_
  refine z_if_lt X 10 dX3_writeSums_1 (by decide) ?_ ?_
  · exact z_sub [] rfl (sX3_writeSums_10 X Nf k0 hk0 k2 hk2 h σ)
  · refine z_iload_n X dX3_writeSums_4 1 rfl ?_
    refine z_aload_n X dX3_writeSums_5 0 rfl ?_
    refine z_alen X hk0 dX3_writeSums_6 ?_
    refine z_icmp_lt X 11 dX3_writeSums_7 (by decide) ?_ ?_
    · refine z_aload_n X dX3_writeSums_11 0 rfl ?_
      refine z_iload_n X dX3_writeSums_12 1 rfl ?_
      refine z_iconst (v := (0 : Int32)) X dX3_writeSums_13 (by decide) ?_
      refine z_iast X hk0 dX3_writeSums_14 (fun σ1 => ?_)
      refine z_iconst (v := (1 : Int32)) X dX3_writeSums_15 (by decide) ?_
      refine z_istore X [(4, .int (1 : Int32)), (0, .ref (la G k0)), (1, .int x1), (2, .ref (la G k2)), (3, .int x3)] dX3_writeSums_16 (by decide) rfl ?_
      refine z_iconst (v := (0 : Int32)) X dX3_writeSums_18 (by decide) ?_
      refine z_istore X [(5, .int (0 : Int32)), (4, .int (1 : Int32)), (0, .ref (la G k0)), (1, .int x1), (2, .ref (la G k2)), (3, .int x3)] dX3_writeSums_19 (by decide) rfl ?_
      exact z_sub [2, 3, 4, 5, 1, 0] rfl (sX3_writeSums_21 X Nf k0 hk0 k2 hk2 h Nf x1 x3 (1 : Int32) (0 : Int32) σ1)
    · exact z_sub [] rfl (sX3_writeSums_10 X Nf k0 hk0 k2 hk2 h σ)
def fX3_writeSums (L : Nat → Nat) (Nf : Nat) (σ : cS) (k0 : Nat) (k2 : Nat) (x1 : Int32) (x3 : Int32) : Option cS := fX3_writeSums_0 L Nf k0 k2 x1 x3 σ
set_option maxHeartbeats 4000000 in
set_option maxRecDepth 100000 in
theorem ctX3_writeSums (l : Launch) (G : Lay) (hi : Inj G) (Nf : Nat) (h : Int64) (σ : cS) (k0 : Nat) (hk0 : Ob G k0 8) (k2 : Nat) (hk2 : isRow G k2) (x1 : Int32) (x3 : Int32) : ∀ r, fX3_writeSums (ll G) Nf σ k0 k2 x1 x3 = some r → CM l yX3_writeSums cX3_writeSums 8 none 1 21 G [.ref (la G k0), .int x1, .ref (la G k2), .int x3] h σ (none, h, r) := by
  refine cm_of (g := (fun r : cS => ((none, h, r) : Option Value × Int64 × cS))) (by decide) hi (Nat.le_of_ble_eq_true rfl) (fun K hKl X => ?_)
  unfold fX3_writeSums
  exact z_sub [0, 1, 2, 3] rfl (sX3_writeSums_0 X Nf k0 hk0 k2 hk2 h x1 x3 σ)
def fX3_addSetsWith_66 (L : Nat → Nat) (Nf : Nat) (k0 : Nat) (σ : cS) : Option cS := bnd (st2 σ k0 3 ((σ k0 3) * (2 : Int32))) (fun σ1 => some σ1)
set_option maxHeartbeats 4000000 in
set_option maxRecDepth 100000 in
theorem sX3_addSetsWith_66 {K : MCx} {G : Lay} (X : Cx K G RX3 cX3_addSetsWith 3 none 2 48) (Nf : Nat) (k0 : Nat) (hk0 : isParts G k0) (h : Int64) (σ : cS) : Sm K G TT (QM K G (fun r : cS => ((none, h, r) : Option Value × Int64 × cS))) 3 66 [(0, .ref (la G k0))] [] h σ (fX3_addSetsWith_66 (ll G) Nf k0 σ) := by
  unfold fX3_addSetsWith_66
  refine z_aload_n X dX3_addSetsWith_66 0 rfl ?_
  refine z_aload_n X dX3_addSetsWith_67 0 rfl ?_
  refine z_get X inlX3 rfl hk0.1 (ce3 hk0.1 _ _) 3 (by decide) q_7_19 rfl dX3_addSetsWith_68 ?_
  refine z_iconst (v := (2 : Int32)) X dX3_addSetsWith_71 (by decide) ?_
  refine z_imul X dX3_addSetsWith_72 ?_
  refine z_put X inlX3 rfl hk0.1 (ce3 hk0.1 _ _) 3 (by decide) q_7_19 tyX3 tyX3_ok nmX3 rfl (cp3 hk0.1 _ _ _ 3 (by decide)) rfl rfl (Nat.le_of_ble_eq_true rfl) dX3_addSetsWith_73 (fun σ1 => ?_)
  exact z_vret X rfl dX3_addSetsWith_76
def fX3_addSetsWith_18 (L : Nat → Nat) (Nf : Nat) (k0 : Nat) : Nat → Int32 → cS → Option cS
  | 0, _, _ => none
  | n + 1, x2, σ => if (σ k0 3) ≤ x2 then (fX3_addSetsWith_66 L Nf k0 σ) else (if (Int32.ofNat (L (k0 + 1))) ≤ ((σ k0 3) + x2) then (fX3_addSetsWith_66 L Nf k0 σ) else (grd (inb ((σ k0 3) + x2) (L (k0 + 1))) (grd (inb x2 (L (k0 + 1))) (grd (inb ((σ k0 3) + x2) (L (k0 + 1))) (bnd (st2 σ (k0 + 1) ((σ k0 3) + x2).toNatClampNeg ((σ (k0 + 1) ((σ k0 3) + x2).toNatClampNeg) + (σ (k0 + 1) x2.toNatClampNeg))) (fun σ1 => bnd (x2 + (1 : Int32)) (fun t2 => fX3_addSetsWith_18 L Nf k0 n t2 σ1)))))))
set_option maxHeartbeats 4000000 in
set_option maxRecDepth 100000 in
theorem sX3_addSetsWith_18 {K : MCx} {G : Lay} (X : Cx K G RX3 cX3_addSetsWith 3 none 2 48) (Nf : Nat) (k0 : Nat) (hk0 : isParts G k0) (h : Int64) : ∀ (n : Nat) (x2 : Int32) (σ : cS), Sm K G TT (QM K G (fun r : cS => ((none, h, r) : Option Value × Int64 × cS))) 3 18 [(0, .ref (la G k0)), (2, .int x2)] [] h σ (fX3_addSetsWith_18 (ll G) Nf k0 n x2 σ) := by
  intro n
  induction n with
  | zero => intros; exact z_none
  | succ n ih =>
    intro x2 σ
    unfold fX3_addSetsWith_18
    refine z_iload_n X dX3_addSetsWith_18 1 rfl ?_
    refine z_aload_n X dX3_addSetsWith_19 0 rfl ?_
    refine z_get X inlX3 rfl hk0.1 (ce3 hk0.1 _ _) 3 (by decide) q_7_19 rfl dX3_addSetsWith_20 ?_
    refine z_icmp_ge X 66 dX3_addSetsWith_23 (by decide) ?_ ?_
    · exact z_sub [0] rfl (sX3_addSetsWith_66 X Nf k0 hk0 h σ)
    · refine z_aload_n X dX3_addSetsWith_26 0 rfl ?_
      refine z_get X inlX3 rfl hk0.1 (ce3 hk0.1 _ _) 3 (by decide) q_7_19 rfl dX3_addSetsWith_27 ?_
      refine z_iload_n X dX3_addSetsWith_30 1 rfl ?_
      refine z_iadd X dX3_addSetsWith_31 ?_
      refine z_aload_n X dX3_addSetsWith_32 0 rfl ?_
      refine z_get X inlX3 rfl hk0.1 (ce3 hk0.1 _ _) 0 (by decide) q_4_1 rfl dX3_addSetsWith_33 ?_
      refine z_alen X hk0.2.1 dX3_addSetsWith_36 ?_
      refine z_icmp_ge X 66 dX3_addSetsWith_37 (by decide) ?_ ?_
      · exact z_sub [0] rfl (sX3_addSetsWith_66 X Nf k0 hk0 h σ)
      · refine z_aload_n X dX3_addSetsWith_40 0 rfl ?_
        refine z_get X inlX3 rfl hk0.1 (ce3 hk0.1 _ _) 0 (by decide) q_4_1 rfl dX3_addSetsWith_41 ?_
        refine z_aload_n X dX3_addSetsWith_44 0 rfl ?_
        refine z_get X inlX3 rfl hk0.1 (ce3 hk0.1 _ _) 3 (by decide) q_7_19 rfl dX3_addSetsWith_45 ?_
        refine z_iload_n X dX3_addSetsWith_48 1 rfl ?_
        refine z_iadd X dX3_addSetsWith_49 ?_
        refine z_dup2 X dX3_addSetsWith_50 rfl rfl ?_
        refine z_iald X hk0.2.1 dX3_addSetsWith_51 ?_
        refine z_aload_n X dX3_addSetsWith_52 0 rfl ?_
        refine z_get X inlX3 rfl hk0.1 (ce3 hk0.1 _ _) 0 (by decide) q_4_1 rfl dX3_addSetsWith_53 ?_
        refine z_iload_n X dX3_addSetsWith_56 1 rfl ?_
        refine z_iald X hk0.2.1 dX3_addSetsWith_57 ?_
        refine z_iadd X dX3_addSetsWith_58 ?_
        refine z_iast X hk0.2.1 dX3_addSetsWith_59 (fun σ1 => ?_)
        refine z_iinc X (fun t2 => [(2, .int t2), (0, .ref (la G k0))]) dX3_addSetsWith_60 1 rfl (by decide) (by decide) (fun _ => rfl) (fun t2 => ?_)
        refine z_goto X 18 dX3_addSetsWith_63 (by decide) ?_
        exact z_sub [1, 0] rfl (ih t2 σ1)
def fX3_addSetsWith_0 (L : Nat → Nat) (Nf : Nat) (k0 : Nat) (x1 : Int32) (σ : cS) : Option cS := Option.bind (fX3_writeSums L Nf σ (k0 + 1) (k0 + 3) (σ k0 3) x1) (fun r1 => fX3_addSetsWith_18 L Nf k0 Nf (0 : Int32) r1)
set_option maxHeartbeats 4000000 in
set_option maxRecDepth 100000 in
theorem sX3_addSetsWith_0 {K : MCx} {G : Lay} (X : Cx K G RX3 cX3_addSetsWith 3 none 2 48) (Nf : Nat) (k0 : Nat) (hk0 : isParts G k0) (h : Int64) (x1 : Int32) (σ : cS) : Sm K G TT (QM K G (fun r : cS => ((none, h, r) : Option Value × Int64 × cS))) 3 0 [(0, .ref (la G k0)), (1, .int x1)] [] h σ (fX3_addSetsWith_0 (ll G) Nf k0 x1 σ) := by
  unfold fX3_addSetsWith_0
  refine z_aload_n X dX3_addSetsWith_0 0 rfl ?_
  refine z_get X inlX3 rfl hk0.1 (ce3 hk0.1 _ _) 0 (by decide) q_4_1 rfl dX3_addSetsWith_1 ?_
  refine z_aload_n X dX3_addSetsWith_4 0 rfl ?_
  refine z_get X inlX3 rfl hk0.1 (ce3 hk0.1 _ _) 3 (by decide) q_7_19 rfl dX3_addSetsWith_5 ?_
  refine z_aload_n X dX3_addSetsWith_8 0 rfl ?_
  refine z_get X inlX3 rfl hk0.1 (ce3 hk0.1 _ _) 2 (by decide) q_4_4 rfl dX3_addSetsWith_9 ?_
  refine z_iload_n X dX3_addSetsWith_12 1 rfl ?_
  refine z_callS0 X (g := (fun r1 : cS => ((none, h, r1) : Option Value × Int64 × cS))) (st := []) (st1 := (fun r1 : cS => [])) (rmf := 1) (rml := 21) [.ref (la G (k0 + 1)), .int (σ k0 3), .ref (la G (k0 + 3)), .int x1] cal_X3_writeSums q_8_10 ⟨Nat.le_of_ble_eq_true rfl, Nat.le_of_ble_eq_true rfl⟩ rfl rfl (Nat.le_of_ble_eq_true rfl) (ctX3_writeSums (kl K) G X.2.2.2.2.2.2.2.1 Nf h σ (k0 + 1) hk0.2.1 (k0 + 3) hk0.2.2.2 (σ k0 3) x1) dX3_addSetsWith_13 (fun _ => rfl) (fun r1 => ?_)
  refine z_iconst (v := (0 : Int32)) X dX3_addSetsWith_16 (by decide) ?_
  refine z_istore_n X [(2, .int (0 : Int32)), (0, .ref (la G k0)), (1, .int x1)] dX3_addSetsWith_17 (by decide) rfl ?_
  exact z_sub [1, 0] rfl (sX3_addSetsWith_18 X Nf k0 hk0 h Nf (0 : Int32) r1)
def fX3_addSetsWith (L : Nat → Nat) (Nf : Nat) (σ : cS) (k0 : Nat) (x1 : Int32) : Option cS := fX3_addSetsWith_0 L Nf k0 x1 σ
set_option maxHeartbeats 4000000 in
set_option maxRecDepth 100000 in
theorem ctX3_addSetsWith (l : Launch) (G : Lay) (hi : Inj G) (Nf : Nat) (h : Int64) (σ : cS) (k0 : Nat) (hk0 : isParts G k0) (x1 : Int32) : ∀ r, fX3_addSetsWith (ll G) Nf σ k0 x1 = some r → CM l yX3_addSetsWith cX3_addSetsWith 3 none 2 48 G [.ref (la G k0), .int x1] h σ (none, h, r) := by
  refine cm_of (g := (fun r : cS => ((none, h, r) : Option Value × Int64 × cS))) (by decide) hi (Nat.le_of_ble_eq_true rfl) (fun K hKl X => ?_)
  unfold fX3_addSetsWith
  exact z_sub [0, 1] rfl (sX3_addSetsWith_0 X Nf k0 hk0 h x1 σ)
def fX3_innerWith_40 (L : Nat → Nat) (σ : cS) (k0 : Nat) (y0 : Int32)  : Option Int32 := some y0
set_option maxHeartbeats 4000000 in
set_option maxRecDepth 100000 in
theorem sX3_innerWith_40 {K : MCx} {G : Lay} (X : Cx K G RX3 cX3_innerWith 4 (some .int) 0 0) (k0 : Nat) (hk0 : isParts G k0) (h : Int64) (σ : cS) (y0 : Int32) : Sm K G TT (QM K G (fun r : Int32 => ((some (.int r), h, σ) : Option Value × Int64 × cS))) 4 40 [] [.int y0] h σ (fX3_innerWith_40 (ll G) σ k0 y0) := by
  unfold fX3_innerWith_40
  exact z_iret X rfl dX3_innerWith_40
def fX3_innerWith_13 (L : Nat → Nat) (σ : cS) (k0 : Nat)  : Option Int32 := some (0 : Int32)
set_option maxHeartbeats 4000000 in
set_option maxRecDepth 100000 in
theorem sX3_innerWith_13 {K : MCx} {G : Lay} (X : Cx K G RX3 cX3_innerWith 4 (some .int) 0 0) (k0 : Nat) (hk0 : isParts G k0) (h : Int64) (σ : cS) : Sm K G TT (QM K G (fun r : Int32 => ((some (.int r), h, σ) : Option Value × Int64 × cS))) 4 13 [] [] h σ (fX3_innerWith_13 (ll G) σ k0) := by
  unfold fX3_innerWith_13
  refine z_iconst (v := (0 : Int32)) X dX3_innerWith_13 (by decide) ?_
  exact z_iret X rfl dX3_innerWith_14
def fX3_innerWith_0 (L : Nat → Nat) (σ : cS) (k0 : Nat) (x1 : Int32) (x2 : Int32) (x3 : Int32)  : Option Int32 := if x1 < 0 then (fX3_innerWith_13 L σ k0) else (if x1 < (Int32.ofNat (L (k0 + 1))) then (if (x2 &&& (x1 ^^^ (-1 : Int32))) = 0 then (grd (inb x1 (L (k0 + 1))) (fX3_innerWith_40 L σ k0 ((σ (k0 + 1) x1.toNatClampNeg) + x3))) else (grd (inb x1 (L (k0 + 1))) (fX3_innerWith_40 L σ k0 (σ (k0 + 1) x1.toNatClampNeg)))) else (fX3_innerWith_13 L σ k0))
set_option maxHeartbeats 4000000 in
set_option maxRecDepth 100000 in
theorem sX3_innerWith_0 {K : MCx} {G : Lay} (X : Cx K G RX3 cX3_innerWith 4 (some .int) 0 0) (k0 : Nat) (hk0 : isParts G k0) (h : Int64) (σ : cS) (x1 : Int32) (x2 : Int32) (x3 : Int32) : Sm K G TT (QM K G (fun r : Int32 => ((some (.int r), h, σ) : Option Value × Int64 × cS))) 4 0 [(0, .ref (la G k0)), (1, .int x1), (2, .int x2), (3, .int x3)] [] h σ (fX3_innerWith_0 (ll G) σ k0 x1 x2 x3) := by
  unfold fX3_innerWith_0
  refine z_iload_n X dX3_innerWith_0 1 rfl ?_
  refine z_if_lt X 13 dX3_innerWith_1 (by decide) ?_ ?_
  · exact z_sub [] rfl (sX3_innerWith_13 X k0 hk0 h σ)
  · refine z_iload_n X dX3_innerWith_4 1 rfl ?_
    refine z_aload_n X dX3_innerWith_5 0 rfl ?_
    refine z_get X inlX3 rfl hk0.1 (ce3 hk0.1 _ _) 0 (by decide) q_4_1 rfl dX3_innerWith_6 ?_
    refine z_alen X hk0.2.1 dX3_innerWith_9 ?_
    refine z_icmp_lt X 15 dX3_innerWith_10 (by decide) ?_ ?_
    · refine z_iload_n X dX3_innerWith_15 2 rfl ?_
      refine z_iload_n X dX3_innerWith_16 1 rfl ?_
      refine z_iconst (v := (-1 : Int32)) X dX3_innerWith_17 (by decide) ?_
      refine z_ixor X dX3_innerWith_18 ?_
      refine z_iand X dX3_innerWith_19 ?_
      refine z_if_ne X 34 dX3_innerWith_20 (by decide) ?_ ?_
      · refine z_aload_n X dX3_innerWith_23 0 rfl ?_
        refine z_get X inlX3 rfl hk0.1 (ce3 hk0.1 _ _) 0 (by decide) q_4_1 rfl dX3_innerWith_24 ?_
        refine z_iload_n X dX3_innerWith_27 1 rfl ?_
        refine z_iald X hk0.2.1 dX3_innerWith_28 ?_
        refine z_iload_n X dX3_innerWith_29 3 rfl ?_
        refine z_iadd X dX3_innerWith_30 ?_
        refine z_goto X 40 dX3_innerWith_31 (by decide) ?_
        exact z_sub [] rfl (sX3_innerWith_40 X k0 hk0 h σ ((σ (k0 + 1) x1.toNatClampNeg) + x3))
      · refine z_aload_n X dX3_innerWith_34 0 rfl ?_
        refine z_get X inlX3 rfl hk0.1 (ce3 hk0.1 _ _) 0 (by decide) q_4_1 rfl dX3_innerWith_35 ?_
        refine z_iload_n X dX3_innerWith_38 1 rfl ?_
        refine z_iald X hk0.2.1 dX3_innerWith_39 ?_
        exact z_sub [] rfl (sX3_innerWith_40 X k0 hk0 h σ (σ (k0 + 1) x1.toNatClampNeg))
    · exact z_sub [] rfl (sX3_innerWith_13 X k0 hk0 h σ)
def fX3_innerWith (L : Nat → Nat) (σ : cS) (k0 : Nat) (x1 : Int32) (x2 : Int32) (x3 : Int32) : Option Int32 := fX3_innerWith_0 L σ k0 x1 x2 x3
set_option maxHeartbeats 4000000 in
set_option maxRecDepth 100000 in
theorem ctX3_innerWith (l : Launch) (G : Lay) (hi : Inj G) (h : Int64) (σ : cS) (k0 : Nat) (hk0 : isParts G k0) (x1 : Int32) (x2 : Int32) (x3 : Int32) : ∀ r, fX3_innerWith (ll G) σ k0 x1 x2 x3 = some r → CM l yX3_innerWith cX3_innerWith 4 (some .int) 0 0 G [.ref (la G k0), .int x1, .int x2, .int x3] h σ (some (.int r), h, σ) := by
  refine cm_of (g := (fun r : Int32 => ((some (.int r), h, σ) : Option Value × Int64 × cS))) (by decide) hi (Nat.le_of_ble_eq_true rfl) (fun K hKl X => ?_)
  unfold fX3_innerWith
  exact z_sub [0, 1, 2, 3] rfl (sX3_innerWith_0 X k0 hk0 h σ x1 x2 x3)
def fX3_densestWith_82 (L : Nat → Nat) (Nf : Nat) (σ : cS) (k0 : Nat) (self11 : Int32 → Int32 → Int32 → Int32 → Int32 → Int32 → Option Int32) (x1 : Int32) (x2 : Int32) (x3 : Int32) (x4 : Int32) (x5 : Int32) (x6 : Int32)  : Option Int32 := bnd (x6 + (1 : Int32)) (fun t1 => self11 x1 x2 x3 x4 x5 t1)
set_option maxHeartbeats 4000000 in
set_option maxRecDepth 100000 in
theorem sX3_densestWith_82 {K : MCx} {G : Lay} (X : Cx K G RX3 cX3_densestWith 10 (some .int) 1 23) (Nf : Nat) (k0 : Nat) (hk0 : isParts G k0) (h : Int64) (σ : cS) (self11 : Int32 → Int32 → Int32 → Int32 → Int32 → Int32 → Option Int32) (hself11 : ∀ (x1 : Int32) (x2 : Int32) (x3 : Int32) (x4 : Int32) (x5 : Int32) (x6 : Int32), Sm K G TT (QM K G (fun r : Int32 => ((some (.int r), h, σ) : Option Value × Int64 × cS))) 10 11 [(0, .ref (la G k0)), (1, .int x1), (2, .int x2), (3, .int x3), (4, .int x4), (5, .int x5), (6, .int x6)] [] h σ (self11 x1 x2 x3 x4 x5 x6)) (x1 : Int32) (x2 : Int32) (x3 : Int32) (x4 : Int32) (x5 : Int32) (x6 : Int32) : Sm K G TT (QM K G (fun r : Int32 => ((some (.int r), h, σ) : Option Value × Int64 × cS))) 10 82 [(0, .ref (la G k0)), (1, .int x1), (2, .int x2), (3, .int x3), (4, .int x4), (5, .int x5), (6, .int x6)] [] h σ (fX3_densestWith_82 (ll G) Nf σ k0 self11 x1 x2 x3 x4 x5 x6) := by
  unfold fX3_densestWith_82
  refine z_iinc X (fun t1 => [(6, .int t1), (0, .ref (la G k0)), (1, .int x1), (2, .int x2), (3, .int x3), (4, .int x4), (5, .int x5)]) dX3_densestWith_82 6 rfl (by decide) (by decide) (fun _ => rfl) (fun t1 => ?_)
  refine z_goto X 11 dX3_densestWith_85 (by decide) ?_
  exact z_sub [1, 2, 3, 4, 5, 6, 0] rfl (hself11 x1 x2 x3 x4 x5 t1)
def fX3_densestWith_71 (L : Nat → Nat) (Nf : Nat) (σ : cS) (k0 : Nat) (self11 : Int32 → Int32 → Int32 → Int32 → Int32 → Int32 → Option Int32) (x1 : Int32) (x2 : Int32) (x6 : Int32) (x7 : Int32) (x8 : Int32)  : Option Int32 := fX3_densestWith_82 L Nf σ k0 self11 x1 x2 x6 x7 x8 x6
set_option maxHeartbeats 4000000 in
set_option maxRecDepth 100000 in
theorem sX3_densestWith_71 {K : MCx} {G : Lay} (X : Cx K G RX3 cX3_densestWith 10 (some .int) 1 23) (Nf : Nat) (k0 : Nat) (hk0 : isParts G k0) (h : Int64) (σ : cS) (self11 : Int32 → Int32 → Int32 → Int32 → Int32 → Int32 → Option Int32) (hself11 : ∀ (x1 : Int32) (x2 : Int32) (x3 : Int32) (x4 : Int32) (x5 : Int32) (x6 : Int32), Sm K G TT (QM K G (fun r : Int32 => ((some (.int r), h, σ) : Option Value × Int64 × cS))) 10 11 [(0, .ref (la G k0)), (1, .int x1), (2, .int x2), (3, .int x3), (4, .int x4), (5, .int x5), (6, .int x6)] [] h σ (self11 x1 x2 x3 x4 x5 x6)) (x1 : Int32) (x2 : Int32) (x6 : Int32) (x7 : Int32) (x8 : Int32) : Sm K G TT (QM K G (fun r : Int32 => ((some (.int r), h, σ) : Option Value × Int64 × cS))) 10 71 [(0, .ref (la G k0)), (1, .int x1), (2, .int x2), (6, .int x6), (7, .int x7), (8, .int x8)] [] h σ (fX3_densestWith_71 (ll G) Nf σ k0 self11 x1 x2 x6 x7 x8) := by
  unfold fX3_densestWith_71
  refine z_iload X dX3_densestWith_71 3 rfl ?_
  refine z_istore_n X [(3, .int x6), (0, .ref (la G k0)), (1, .int x1), (2, .int x2), (6, .int x6), (7, .int x7), (8, .int x8)] dX3_densestWith_73 (by decide) rfl ?_
  refine z_iload X dX3_densestWith_74 5 rfl ?_
  refine z_istore X [(4, .int x7), (3, .int x6), (0, .ref (la G k0)), (1, .int x1), (2, .int x2), (6, .int x6), (7, .int x7), (8, .int x8)] dX3_densestWith_76 (by decide) rfl ?_
  refine z_iload X dX3_densestWith_78 7 rfl ?_
  refine z_istore X [(5, .int x8), (4, .int x7), (3, .int x6), (0, .ref (la G k0)), (1, .int x1), (2, .int x2), (6, .int x6), (7, .int x7), (8, .int x8)] dX3_densestWith_80 (by decide) rfl ?_
  exact z_sub [3, 4, 5, 2, 1, 0, 6] rfl (sX3_densestWith_82 X Nf k0 hk0 h σ self11 hself11 x1 x2 x6 x7 x8 x6)
def fX3_densestWith_11 (L : Nat → Nat) (Nf : Nat) (σ : cS) (k0 : Nat) : Nat → Int32 → Int32 → Int32 → Int32 → Int32 → Int32 → Option Int32
  | 0, _, _, _, _, _, _ => none
  | n + 1, x1, x2, x3, x4, x5, x6 => if (σ k0 3) ≤ x6 then (some x3) else (Option.bind (fX3_innerWith L σ k0 x6 x1 x2) (fun r1 => Option.bind (fJ6_bitCount_0f7a4 σ x6) (fun r2 => bnd (((r1 * x5) - (x4 * r2))) (fun t3 => if x3 = 0 then (fX3_densestWith_71 L Nf σ k0 (fX3_densestWith_11 L Nf σ k0 n) x1 x2 x6 r1 r2) else (if 0 < t3 then (fX3_densestWith_71 L Nf σ k0 (fX3_densestWith_11 L Nf σ k0 n) x1 x2 x6 r1 r2) else (if t3 = 0 then (if r2 ≤ x5 then (fX3_densestWith_82 L Nf σ k0 (fX3_densestWith_11 L Nf σ k0 n) x1 x2 x3 x4 x5 x6) else (fX3_densestWith_71 L Nf σ k0 (fX3_densestWith_11 L Nf σ k0 n) x1 x2 x6 r1 r2)) else (fX3_densestWith_82 L Nf σ k0 (fX3_densestWith_11 L Nf σ k0 n) x1 x2 x3 x4 x5 x6)))))))
set_option maxHeartbeats 4000000 in
set_option maxRecDepth 100000 in
theorem sX3_densestWith_11 {K : MCx} {G : Lay} (X : Cx K G RX3 cX3_densestWith 10 (some .int) 1 23) (Nf : Nat) (k0 : Nat) (hk0 : isParts G k0) (h : Int64) (σ : cS) : ∀ (n : Nat) (x1 : Int32) (x2 : Int32) (x3 : Int32) (x4 : Int32) (x5 : Int32) (x6 : Int32), Sm K G TT (QM K G (fun r : Int32 => ((some (.int r), h, σ) : Option Value × Int64 × cS))) 10 11 [(0, .ref (la G k0)), (1, .int x1), (2, .int x2), (3, .int x3), (4, .int x4), (5, .int x5), (6, .int x6)] [] h σ (fX3_densestWith_11 (ll G) Nf σ k0 n x1 x2 x3 x4 x5 x6) := by
  intro n
  induction n with
  | zero => intros; exact z_none
  | succ n ih =>
    intro x1 x2 x3 x4 x5 x6
    unfold fX3_densestWith_11
    refine z_iload X dX3_densestWith_11 6 rfl ?_
    refine z_aload_n X dX3_densestWith_13 0 rfl ?_
    refine z_get X inlX3 rfl hk0.1 (ce3 hk0.1 _ _) 3 (by decide) q_7_19 rfl dX3_densestWith_14 ?_
    refine z_icmp_ge X 88 dX3_densestWith_17 (by decide) ?_ ?_
    · refine z_iload_n X dX3_densestWith_88 3 rfl ?_
      exact z_iret X rfl dX3_densestWith_89
    · refine z_aload_n X dX3_densestWith_20 0 rfl ?_
      refine z_iload X dX3_densestWith_21 6 rfl ?_
      refine z_iload_n X dX3_densestWith_23 1 rfl ?_
      refine z_iload_n X dX3_densestWith_24 2 rfl ?_
      refine z_callV0 X (g := (fun r1 : Int32 => ((some (.int r1), h, σ) : Option Value × Int64 × cS))) (st := []) (st1 := (fun r1 : Int32 => [.int r1])) (rmf := 0) (rml := 0) [.int x6, .int x1, .int x2] k0 cal_X3_innerWith q_8_18 ⟨Nat.le_of_ble_eq_true rfl, Nat.le_of_ble_eq_true rfl⟩ rfl rfl (Nat.le_of_ble_eq_true rfl) rfl hk0.1 (ce3 hk0.1 _ _) (ctX3_innerWith (kl K) G X.2.2.2.2.2.2.2.1 h σ k0 hk0 x6 x1 x2) dX3_densestWith_25 (fun _ => rfl) (fun r1 => ?_)
      refine z_istore X [(7, .int r1), (0, .ref (la G k0)), (1, .int x1), (2, .int x2), (3, .int x3), (4, .int x4), (5, .int x5), (6, .int x6)] dX3_densestWith_28 (by decide) rfl ?_
      refine z_iload X dX3_densestWith_30 7 rfl ?_
      refine z_callS0 X (g := (fun r2 : Int32 => ((some (.int r2), h, σ) : Option Value × Int64 × cS))) (st := []) (st1 := (fun r2 : Int32 => [.int r2])) (rmf := 0) (rml := 0) [.int x6] cal_J6_bitCount_0f7a4 q_8_22 ⟨Nat.le_of_ble_eq_true rfl, Nat.le_of_ble_eq_true rfl⟩ rfl rfl (Nat.le_of_ble_eq_true rfl) (ctJ6_bitCount_0f7a4 (kl K) G X.2.2.2.2.2.2.2.1 h σ x6) dX3_densestWith_32 (fun _ => rfl) (fun r2 => ?_)
      refine z_istore X [(8, .int r2), (7, .int r1), (0, .ref (la G k0)), (1, .int x1), (2, .int x2), (3, .int x3), (4, .int x4), (5, .int x5), (6, .int x6)] dX3_densestWith_35 (by decide) rfl ?_
      refine z_iload X dX3_densestWith_37 1 rfl ?_
      refine z_iload X dX3_densestWith_39 7 rfl ?_
      refine z_imul X dX3_densestWith_41 ?_
      refine z_iload X dX3_densestWith_42 6 rfl ?_
      refine z_iload X dX3_densestWith_44 0 rfl ?_
      refine z_imul X dX3_densestWith_46 ?_
      refine z_isub X dX3_densestWith_47 ?_
      refine z_nm (fun t3 => ?_)
      refine z_istore X [(9, .int t3), (8, .int r2), (7, .int r1), (0, .ref (la G k0)), (1, .int x1), (2, .int x2), (3, .int x3), (4, .int x4), (5, .int x5), (6, .int x6)] dX3_densestWith_48 (by decide) rfl ?_
      refine z_iload_n X dX3_densestWith_50 6 rfl ?_
      refine z_if_eq X 71 dX3_densestWith_51 (by decide) ?_ ?_
      · exact z_sub [3, 4, 5, 9, 2, 1] rfl (sX3_densestWith_71 X Nf k0 hk0 h σ (fX3_densestWith_11 (ll G) Nf σ k0 n) ih x1 x2 x6 r1 r2)
      · refine z_iload X dX3_densestWith_54 0 rfl ?_
        refine z_if_gt X 71 dX3_densestWith_56 (by decide) ?_ ?_
        · exact z_sub [3, 4, 5, 9, 2, 1] rfl (sX3_densestWith_71 X Nf k0 hk0 h σ (fX3_densestWith_11 (ll G) Nf σ k0 n) ih x1 x2 x6 r1 r2)
        · refine z_iload X dX3_densestWith_59 0 rfl ?_
          refine z_if_ne X 82 dX3_densestWith_61 (by decide) ?_ ?_
          · refine z_iload X dX3_densestWith_64 1 rfl ?_
            refine z_iload X dX3_densestWith_66 8 rfl ?_
            refine z_icmp_le X 82 dX3_densestWith_68 (by decide) ?_ ?_
            · exact z_sub [3, 4, 5, 6, 7, 8, 9] rfl (sX3_densestWith_82 X Nf k0 hk0 h σ (fX3_densestWith_11 (ll G) Nf σ k0 n) ih x1 x2 x3 x4 x5 x6)
            · exact z_sub [3, 4, 5, 9, 2, 1] rfl (sX3_densestWith_71 X Nf k0 hk0 h σ (fX3_densestWith_11 (ll G) Nf σ k0 n) ih x1 x2 x6 r1 r2)
          · exact z_sub [3, 4, 5, 6, 7, 8, 9] rfl (sX3_densestWith_82 X Nf k0 hk0 h σ (fX3_densestWith_11 (ll G) Nf σ k0 n) ih x1 x2 x3 x4 x5 x6)
def fX3_densestWith_0 (L : Nat → Nat) (Nf : Nat) (σ : cS) (k0 : Nat) (x1 : Int32) (x2 : Int32)  : Option Int32 := fX3_densestWith_11 L Nf σ k0 Nf x1 x2 (0 : Int32) (0 : Int32) (0 : Int32) (1 : Int32)
set_option maxHeartbeats 4000000 in
set_option maxRecDepth 100000 in
theorem sX3_densestWith_0 {K : MCx} {G : Lay} (X : Cx K G RX3 cX3_densestWith 10 (some .int) 1 23) (Nf : Nat) (k0 : Nat) (hk0 : isParts G k0) (h : Int64) (σ : cS) (x1 : Int32) (x2 : Int32) : Sm K G TT (QM K G (fun r : Int32 => ((some (.int r), h, σ) : Option Value × Int64 × cS))) 10 0 [(0, .ref (la G k0)), (1, .int x1), (2, .int x2)] [] h σ (fX3_densestWith_0 (ll G) Nf σ k0 x1 x2) := by
  unfold fX3_densestWith_0
  refine z_iconst (v := (0 : Int32)) X dX3_densestWith_0 (by decide) ?_
  refine z_istore_n X [(3, .int (0 : Int32)), (0, .ref (la G k0)), (1, .int x1), (2, .int x2)] dX3_densestWith_1 (by decide) rfl ?_
  refine z_iconst (v := (0 : Int32)) X dX3_densestWith_2 (by decide) ?_
  refine z_istore X [(4, .int (0 : Int32)), (3, .int (0 : Int32)), (0, .ref (la G k0)), (1, .int x1), (2, .int x2)] dX3_densestWith_3 (by decide) rfl ?_
  refine z_iconst (v := (0 : Int32)) X dX3_densestWith_5 (by decide) ?_
  refine z_istore X [(5, .int (0 : Int32)), (4, .int (0 : Int32)), (3, .int (0 : Int32)), (0, .ref (la G k0)), (1, .int x1), (2, .int x2)] dX3_densestWith_6 (by decide) rfl ?_
  refine z_iconst (v := (1 : Int32)) X dX3_densestWith_8 (by decide) ?_
  refine z_istore X [(6, .int (1 : Int32)), (5, .int (0 : Int32)), (4, .int (0 : Int32)), (3, .int (0 : Int32)), (0, .ref (la G k0)), (1, .int x1), (2, .int x2)] dX3_densestWith_9 (by decide) rfl ?_
  exact z_sub [4, 5, 6, 3, 2, 1, 0] rfl (sX3_densestWith_11 X Nf k0 hk0 h σ Nf x1 x2 (0 : Int32) (0 : Int32) (0 : Int32) (1 : Int32))
def fX3_densestWith (L : Nat → Nat) (Nf : Nat) (σ : cS) (k0 : Nat) (x1 : Int32) (x2 : Int32) : Option Int32 := fX3_densestWith_0 L Nf σ k0 x1 x2
set_option maxHeartbeats 4000000 in
set_option maxRecDepth 100000 in
theorem ctX3_densestWith (l : Launch) (G : Lay) (hi : Inj G) (Nf : Nat) (h : Int64) (σ : cS) (k0 : Nat) (hk0 : isParts G k0) (x1 : Int32) (x2 : Int32) : ∀ r, fX3_densestWith (ll G) Nf σ k0 x1 x2 = some r → CM l yX3_densestWith cX3_densestWith 10 (some .int) 1 23 G [.ref (la G k0), .int x1, .int x2] h σ (some (.int r), h, σ) := by
  refine cm_of (g := (fun r : Int32 => ((some (.int r), h, σ) : Option Value × Int64 × cS))) (by decide) hi (Nat.le_of_ble_eq_true rfl) (fun K hKl X => ?_)
  unfold fX3_densestWith
  exact z_sub [0, 1, 2] rfl (sX3_densestWith_0 X Nf k0 hk0 h σ x1 x2)
def fX3_roundedUpDensity_31 (L : Nat → Nat) (σ : cS) (k0 : Nat) (y0 : Int32)  : Option Int32 := some y0
set_option maxHeartbeats 4000000 in
set_option maxRecDepth 100000 in
theorem sX3_roundedUpDensity_31 {K : MCx} {G : Lay} (X : Cx K G RX3 cX3_roundedUpDensity 5 (some .int) 1 23) (k0 : Nat) (hk0 : isParts G k0) (h : Int64) (σ : cS) (y0 : Int32) : Sm K G TT (QM K G (fun r : Int32 => ((some (.int r), h, σ) : Option Value × Int64 × cS))) 5 31 [] [.int y0] h σ (fX3_roundedUpDensity_31 (ll G) σ k0 y0) := by
  unfold fX3_roundedUpDensity_31
  exact z_iret X rfl dX3_roundedUpDensity_31
def fX3_roundedUpDensity_0 (L : Nat → Nat) (σ : cS) (k0 : Nat) (x1 : Int32) (x2 : Int32) (x3 : Int32)  : Option Int32 := Option.bind (fJ6_bitCount_0f7a4 σ x1) (fun r1 => if (1 : Int32) ≤ r1 then (Option.bind (fX3_innerWith L σ k0 x1 x2 x3) (fun r2 => grd (nz r1) (fX3_roundedUpDensity_31 L σ k0 (((r2 + r1) - (1 : Int32)) / r1)))) else (fX3_roundedUpDensity_31 L σ k0 (0 : Int32)))
set_option maxHeartbeats 4000000 in
set_option maxRecDepth 100000 in
theorem sX3_roundedUpDensity_0 {K : MCx} {G : Lay} (X : Cx K G RX3 cX3_roundedUpDensity 5 (some .int) 1 23) (k0 : Nat) (hk0 : isParts G k0) (h : Int64) (σ : cS) (x1 : Int32) (x2 : Int32) (x3 : Int32) : Sm K G TT (QM K G (fun r : Int32 => ((some (.int r), h, σ) : Option Value × Int64 × cS))) 5 0 [(0, .ref (la G k0)), (1, .int x1), (2, .int x2), (3, .int x3)] [] h σ (fX3_roundedUpDensity_0 (ll G) σ k0 x1 x2 x3) := by
  unfold fX3_roundedUpDensity_0
  refine z_iload_n X dX3_roundedUpDensity_0 1 rfl ?_
  refine z_callS0 X (g := (fun r1 : Int32 => ((some (.int r1), h, σ) : Option Value × Int64 × cS))) (st := []) (st1 := (fun r1 : Int32 => [.int r1])) (rmf := 0) (rml := 0) [.int x1] cal_J6_bitCount_0f7a4 q_8_22 ⟨Nat.le_of_ble_eq_true rfl, Nat.le_of_ble_eq_true rfl⟩ rfl rfl (Nat.le_of_ble_eq_true rfl) (ctJ6_bitCount_0f7a4 (kl K) G X.2.2.2.2.2.2.2.1 h σ x1) dX3_roundedUpDensity_1 (fun _ => rfl) (fun r1 => ?_)
  refine z_istore X [(4, .int r1), (0, .ref (la G k0)), (1, .int x1), (2, .int x2), (3, .int x3)] dX3_roundedUpDensity_4 (by decide) rfl ?_
  refine z_iload X dX3_roundedUpDensity_6 0 rfl ?_
  refine z_iconst (v := (1 : Int32)) X dX3_roundedUpDensity_8 (by decide) ?_
  refine z_icmp_ge X 16 dX3_roundedUpDensity_9 (by decide) ?_ ?_
  · refine z_aload_n X dX3_roundedUpDensity_16 1 rfl ?_
    refine z_iload_n X dX3_roundedUpDensity_17 2 rfl ?_
    refine z_iload_n X dX3_roundedUpDensity_18 3 rfl ?_
    refine z_iload_n X dX3_roundedUpDensity_19 4 rfl ?_
    refine z_callV0 X (g := (fun r2 : Int32 => ((some (.int r2), h, σ) : Option Value × Int64 × cS))) (st := []) (st1 := (fun r2 : Int32 => [.int r2])) (rmf := 0) (rml := 0) [.int x1, .int x2, .int x3] k0 cal_X3_innerWith q_8_18 ⟨Nat.le_of_ble_eq_true rfl, Nat.le_of_ble_eq_true rfl⟩ rfl rfl (Nat.le_of_ble_eq_true rfl) rfl hk0.1 (ce3 hk0.1 _ _) (ctX3_innerWith (kl K) G X.2.2.2.2.2.2.2.1 h σ k0 hk0 x1 x2 x3) dX3_roundedUpDensity_20 (fun _ => rfl) (fun r2 => ?_)
    refine z_iload X dX3_roundedUpDensity_23 0 rfl ?_
    refine z_iadd X dX3_roundedUpDensity_25 ?_
    refine z_iconst (v := (1 : Int32)) X dX3_roundedUpDensity_26 (by decide) ?_
    refine z_isub X dX3_roundedUpDensity_27 ?_
    refine z_iload X dX3_roundedUpDensity_28 0 rfl ?_
    refine z_idiv X dX3_roundedUpDensity_30 ?_
    exact z_sub [] rfl (sX3_roundedUpDensity_31 X k0 hk0 h σ (((r2 + r1) - (1 : Int32)) / r1))
  · refine z_iconst (v := (0 : Int32)) X dX3_roundedUpDensity_12 (by decide) ?_
    refine z_goto X 31 dX3_roundedUpDensity_13 (by decide) ?_
    exact z_sub [] rfl (sX3_roundedUpDensity_31 X k0 hk0 h σ (0 : Int32))
def fX3_roundedUpDensity (L : Nat → Nat) (σ : cS) (k0 : Nat) (x1 : Int32) (x2 : Int32) (x3 : Int32) : Option Int32 := fX3_roundedUpDensity_0 L σ k0 x1 x2 x3
set_option maxHeartbeats 4000000 in
set_option maxRecDepth 100000 in
theorem ctX3_roundedUpDensity (l : Launch) (G : Lay) (hi : Inj G) (h : Int64) (σ : cS) (k0 : Nat) (hk0 : isParts G k0) (x1 : Int32) (x2 : Int32) (x3 : Int32) : ∀ r, fX3_roundedUpDensity (ll G) σ k0 x1 x2 x3 = some r → CM l yX3_roundedUpDensity cX3_roundedUpDensity 5 (some .int) 1 23 G [.ref (la G k0), .int x1, .int x2, .int x3] h σ (some (.int r), h, σ) := by
  refine cm_of (g := (fun r : Int32 => ((some (.int r), h, σ) : Option Value × Int64 × cS))) (by decide) hi (Nat.le_of_ble_eq_true rfl) (fun K hKl X => ?_)
  unfold fX3_roundedUpDensity
  exact z_sub [0, 1, 2, 3] rfl (sX3_roundedUpDensity_0 X k0 hk0 h σ x1 x2 x3)
def fX3_learn_62 (L : Nat → Nat) (Nf : Nat) (k0 : Nat) (k1 : Nat) (σ : cS) : Option cS := Option.bind (fX3_densestWith L Nf σ k0 (0 : Int32) (0 : Int32)) (fun r1 => bnd (st2 σ k0 4 r1) (fun σ2 => Option.bind (fX3_roundedUpDensity L σ2 k0 (σ2 k0 4) (0 : Int32) (0 : Int32)) (fun r3 => bnd (st2 σ2 k0 5 r3) (fun σ4 => bnd (st2 σ4 k0 6 (1 : Int32)) (fun σ5 => some σ5)))))
set_option maxHeartbeats 4000000 in
set_option maxRecDepth 100000 in
theorem sX3_learn_62 {K : MCx} {G : Lay} (X : Cx K G RX3 cX3_learn 3 none 3 70) (Nf : Nat) (k0 : Nat) (hk0 : isParts G k0) (k1 : Nat) (hk1 : isGraph G k1) (h : Int64) (σ : cS) : Sm K G TT (QM K G (fun r : cS => ((none, h, r) : Option Value × Int64 × cS))) 3 62 [(0, .ref (la G k0))] [] h σ (fX3_learn_62 (ll G) Nf k0 k1 σ) := by
  unfold fX3_learn_62
  refine z_aload_n X dX3_learn_62 0 rfl ?_
  refine z_aload_n X dX3_learn_63 0 rfl ?_
  refine z_iconst (v := (0 : Int32)) X dX3_learn_64 (by decide) ?_
  refine z_iconst (v := (0 : Int32)) X dX3_learn_65 (by decide) ?_
  refine z_callV0 X (g := (fun r1 : Int32 => ((some (.int r1), h, σ) : Option Value × Int64 × cS))) (st := [.ref (la G k0)]) (st1 := (fun r1 : Int32 => [.int r1, .ref (la G k0)])) (rmf := 1) (rml := 23) [.int (0 : Int32), .int (0 : Int32)] k0 cal_X3_densestWith q_8_14 ⟨Nat.le_of_ble_eq_true rfl, Nat.le_of_ble_eq_true rfl⟩ rfl rfl (Nat.le_of_ble_eq_true rfl) rfl hk0.1 (ce3 hk0.1 _ _) (ctX3_densestWith (kl K) G X.2.2.2.2.2.2.2.1 Nf h σ k0 hk0 (0 : Int32) (0 : Int32)) dX3_learn_66 (fun _ => rfl) (fun r1 => ?_)
  refine z_put X inlX3 rfl hk0.1 (ce3 hk0.1 _ _) 4 (by decide) q_7_20 tyX3 tyX3_ok nmX3 rfl (cp3 hk0.1 _ _ _ 4 (by decide)) rfl rfl (Nat.le_of_ble_eq_true rfl) dX3_learn_69 (fun σ2 => ?_)
  refine z_aload_n X dX3_learn_72 0 rfl ?_
  refine z_aload_n X dX3_learn_73 0 rfl ?_
  refine z_aload_n X dX3_learn_74 0 rfl ?_
  refine z_get X inlX3 rfl hk0.1 (ce3 hk0.1 _ _) 4 (by decide) q_7_20 rfl dX3_learn_75 ?_
  refine z_iconst (v := (0 : Int32)) X dX3_learn_78 (by decide) ?_
  refine z_iconst (v := (0 : Int32)) X dX3_learn_79 (by decide) ?_
  refine z_callV0 X (g := (fun r3 : Int32 => ((some (.int r3), h, σ2) : Option Value × Int64 × cS))) (st := [.ref (la G k0)]) (st1 := (fun r3 : Int32 => [.int r3, .ref (la G k0)])) (rmf := 1) (rml := 23) [.int (σ2 k0 4), .int (0 : Int32), .int (0 : Int32)] k0 cal_X3_roundedUpDensity q_9_5 ⟨Nat.le_of_ble_eq_true rfl, Nat.le_of_ble_eq_true rfl⟩ rfl rfl (Nat.le_of_ble_eq_true rfl) rfl hk0.1 (ce3 hk0.1 _ _) (ctX3_roundedUpDensity (kl K) G X.2.2.2.2.2.2.2.1 h σ2 k0 hk0 (σ2 k0 4) (0 : Int32) (0 : Int32)) dX3_learn_80 (fun _ => rfl) (fun r3 => ?_)
  refine z_put X inlX3 rfl hk0.1 (ce3 hk0.1 _ _) 5 (by decide) q_7_21 tyX3 tyX3_ok nmX3 rfl (cp3 hk0.1 _ _ _ 5 (by decide)) rfl rfl (Nat.le_of_ble_eq_true rfl) dX3_learn_83 (fun σ4 => ?_)
  refine z_aload_n X dX3_learn_86 0 rfl ?_
  refine z_iconst (v := (1 : Int32)) X dX3_learn_87 (by decide) ?_
  refine z_put X inlX3 rfl hk0.1 (ce3 hk0.1 _ _) 6 (by decide) q_6_1 tyX3 tyX3_ok nmX3 rfl (cp3 hk0.1 _ _ _ 6 (by decide)) rfl rfl (Nat.le_of_ble_eq_true rfl) dX3_learn_88 (fun σ5 => ?_)
  exact z_vret X rfl dX3_learn_91
def fX3_learn_22 (L : Nat → Nat) (Nf : Nat) (k0 : Nat) (k1 : Nat) : Nat → Int32 → cS → Option cS
  | 0, _, _ => none
  | n + 1, x2, σ => if (σ k1 7) ≤ x2 then (fX3_learn_62 L Nf k0 k1 σ) else (if (4096 : Int32) < ((σ k0 3) * (2 : Int32)) then (fX3_learn_62 L Nf k0 k1 σ) else (Option.bind (fX0_countJoining L Nf σ k1 (k0 + 3) x2) (fun r1 => Option.bind (fX3_addSetsWith L Nf r1 k0 x2) (fun r2 => bnd (x2 + (1 : Int32)) (fun t3 => fX3_learn_22 L Nf k0 k1 n t3 r2)))))
set_option maxHeartbeats 4000000 in
set_option maxRecDepth 100000 in
theorem sX3_learn_22 {K : MCx} {G : Lay} (X : Cx K G RX3 cX3_learn 3 none 3 70) (Nf : Nat) (k0 : Nat) (hk0 : isParts G k0) (k1 : Nat) (hk1 : isGraph G k1) (h : Int64) : ∀ (n : Nat) (x2 : Int32) (σ : cS), Sm K G TT (QM K G (fun r : cS => ((none, h, r) : Option Value × Int64 × cS))) 3 22 [(0, .ref (la G k0)), (1, .ref (la G k1)), (2, .int x2)] [] h σ (fX3_learn_22 (ll G) Nf k0 k1 n x2 σ) := by
  intro n
  induction n with
  | zero => intros; exact z_none
  | succ n ih =>
    intro x2 σ
    unfold fX3_learn_22
    refine z_iload_n X dX3_learn_22 2 rfl ?_
    refine z_aload_n X dX3_learn_23 1 rfl ?_
    refine z_getN X inlX0 rfl hk1.1 (ce0 hk1.1 _ _) 7 (by decide) n_9 rfl dX3_learn_24 ?_
    refine z_icmp_ge X 62 dX3_learn_27 (by decide) ?_ ?_
    · exact z_sub [0] rfl (sX3_learn_62 X Nf k0 hk0 k1 hk1 h σ)
    · refine z_aload_n X dX3_learn_30 0 rfl ?_
      refine z_get X inlX3 rfl hk0.1 (ce3 hk0.1 _ _) 3 (by decide) q_7_19 rfl dX3_learn_31 ?_
      refine z_iconst (v := (2 : Int32)) X dX3_learn_34 (by decide) ?_
      refine z_imul X dX3_learn_35 ?_
      refine z_sipush (v := (4096 : Int32)) X dX3_learn_36 (by decide) ?_
      refine z_icmp_gt X 62 dX3_learn_39 (by decide) ?_ ?_
      · exact z_sub [0] rfl (sX3_learn_62 X Nf k0 hk0 k1 hk1 h σ)
      · refine z_aload_n X dX3_learn_42 1 rfl ?_
        refine z_iload_n X dX3_learn_43 2 rfl ?_
        refine z_aload_n X dX3_learn_44 0 rfl ?_
        refine z_get X inlX3 rfl hk0.1 (ce3 hk0.1 _ _) 2 (by decide) q_4_4 rfl dX3_learn_45 ?_
        refine z_callV0 X (g := (fun r1 : cS => ((none, h, r1) : Option Value × Int64 × cS))) (st := []) (st1 := (fun r1 : cS => [])) (rmf := 1) (rml := 22) [.int x2, .ref (la G (k0 + 3))] k1 cal_X0_countJoining q_7_22 ⟨Nat.le_of_ble_eq_true rfl, Nat.le_of_ble_eq_true rfl⟩ rfl rfl (Nat.le_of_ble_eq_true rfl) rfl hk1.1 (ce0 hk1.1 _ _) (ctX0_countJoining (kl K) G X.2.2.2.2.2.2.2.1 Nf h σ k1 hk1 (k0 + 3) hk0.2.2.2 x2) dX3_learn_48 (fun _ => rfl) (fun r1 => ?_)
        refine z_aload_n X dX3_learn_51 0 rfl ?_
        refine z_iload_n X dX3_learn_52 2 rfl ?_
        refine z_callV0 X (g := (fun r2 : cS => ((none, h, r2) : Option Value × Int64 × cS))) (st := []) (st1 := (fun r2 : cS => [])) (rmf := 2) (rml := 48) [.int x2] k0 cal_X3_addSetsWith q_8_6 ⟨Nat.le_of_ble_eq_true rfl, Nat.le_of_ble_eq_true rfl⟩ rfl rfl (Nat.le_of_ble_eq_true rfl) rfl hk0.1 (ce3 hk0.1 _ _) (ctX3_addSetsWith (kl K) G X.2.2.2.2.2.2.2.1 Nf h r1 k0 hk0 x2) dX3_learn_53 (fun _ => rfl) (fun r2 => ?_)
        refine z_iinc X (fun t3 => [(2, .int t3), (0, .ref (la G k0)), (1, .ref (la G k1))]) dX3_learn_56 2 rfl (by decide) (by decide) (fun _ => rfl) (fun t3 => ?_)
        refine z_goto X 22 dX3_learn_59 (by decide) ?_
        exact z_sub [1, 2, 0] rfl (ih t3 r2)
def fX3_learn_0 (L : Nat → Nat) (Nf : Nat) (k0 : Nat) (k1 : Nat) (σ : cS) : Option cS := if (σ k0 6) = 0 then (grd (inb (0 : Int32) (L (k0 + 1))) (bnd (st2 σ (k0 + 1) (0 : Int32).toNatClampNeg (0 : Int32)) (fun σ1 => bnd (st2 σ1 k0 3 (1 : Int32)) (fun σ2 => fX3_learn_22 L Nf k0 k1 Nf (0 : Int32) σ2)))) else (some σ)
set_option maxHeartbeats 4000000 in
set_option maxRecDepth 100000 in
theorem sX3_learn_0 {K : MCx} {G : Lay} (X : Cx K G RX3 cX3_learn 3 none 3 70) (Nf : Nat) (k0 : Nat) (hk0 : isParts G k0) (k1 : Nat) (hk1 : isGraph G k1) (h : Int64) (σ : cS) : Sm K G TT (QM K G (fun r : cS => ((none, h, r) : Option Value × Int64 × cS))) 3 0 [(0, .ref (la G k0)), (1, .ref (la G k1))] [] h σ (fX3_learn_0 (ll G) Nf k0 k1 σ) := by
  unfold fX3_learn_0
  refine z_aload_n X dX3_learn_0 0 rfl ?_
  refine z_get X inlX3 rfl hk0.1 (ce3 hk0.1 _ _) 6 (by decide) q_6_1 rfl dX3_learn_1 ?_
  refine z_if_eq X 8 dX3_learn_4 (by decide) ?_ ?_
  · refine z_aload_n X dX3_learn_8 0 rfl ?_
    refine z_get X inlX3 rfl hk0.1 (ce3 hk0.1 _ _) 0 (by decide) q_4_1 rfl dX3_learn_9 ?_
    refine z_iconst (v := (0 : Int32)) X dX3_learn_12 (by decide) ?_
    refine z_iconst (v := (0 : Int32)) X dX3_learn_13 (by decide) ?_
    refine z_iast X hk0.2.1 dX3_learn_14 (fun σ1 => ?_)
    refine z_aload_n X dX3_learn_15 0 rfl ?_
    refine z_iconst (v := (1 : Int32)) X dX3_learn_16 (by decide) ?_
    refine z_put X inlX3 rfl hk0.1 (ce3 hk0.1 _ _) 3 (by decide) q_7_19 tyX3 tyX3_ok nmX3 rfl (cp3 hk0.1 _ _ _ 3 (by decide)) rfl rfl (Nat.le_of_ble_eq_true rfl) dX3_learn_17 (fun σ2 => ?_)
    refine z_iconst (v := (0 : Int32)) X dX3_learn_20 (by decide) ?_
    refine z_istore_n X [(2, .int (0 : Int32)), (0, .ref (la G k0)), (1, .ref (la G k1))] dX3_learn_21 (by decide) rfl ?_
    exact z_sub [1, 2, 0] rfl (sX3_learn_22 X Nf k0 hk0 k1 hk1 h Nf (0 : Int32) σ2)
  · exact z_vret X rfl dX3_learn_7
def fX3_learn (L : Nat → Nat) (Nf : Nat) (σ : cS) (k0 : Nat) (k1 : Nat) : Option cS := fX3_learn_0 L Nf k0 k1 σ
set_option maxHeartbeats 4000000 in
set_option maxRecDepth 100000 in
theorem ctX3_learn (l : Launch) (G : Lay) (hi : Inj G) (Nf : Nat) (h : Int64) (σ : cS) (k0 : Nat) (hk0 : isParts G k0) (k1 : Nat) (hk1 : isGraph G k1) : ∀ r, fX3_learn (ll G) Nf σ k0 k1 = some r → CM l yX3_learn cX3_learn 3 none 3 70 G [.ref (la G k0), .ref (la G k1)] h σ (none, h, r) := by
  refine cm_of (g := (fun r : cS => ((none, h, r) : Option Value × Int64 × cS))) (by decide) hi (Nat.le_of_ble_eq_true rfl) (fun K hKl X => ?_)
  unfold fX3_learn
  exact z_sub [0, 1] rfl (sX3_learn_0 X Nf k0 hk0 k1 hk1 h σ)
def fX3_leastLoadWith_0 (L : Nat → Nat) (Nf : Nat) (σ : cS) (k0 : Nat) (x1 : Int32) (x2 : Int32)  : Option Int32 := Option.bind (fX3_densestWith L Nf σ k0 x1 x2) (fun r1 => Option.bind (fX3_roundedUpDensity L σ k0 r1 x1 x2) (fun r2 => some r2))
set_option maxHeartbeats 4000000 in
set_option maxRecDepth 100000 in
theorem sX3_leastLoadWith_0 {K : MCx} {G : Lay} (X : Cx K G RX3 cX3_leastLoadWith 3 (some .int) 2 52) (Nf : Nat) (k0 : Nat) (hk0 : isParts G k0) (h : Int64) (σ : cS) (x1 : Int32) (x2 : Int32) : Sm K G TT (QM K G (fun r : Int32 => ((some (.int r), h, σ) : Option Value × Int64 × cS))) 3 0 [(0, .ref (la G k0)), (1, .int x1), (2, .int x2)] [] h σ (fX3_leastLoadWith_0 (ll G) Nf σ k0 x1 x2) := by
  unfold fX3_leastLoadWith_0
  refine z_aload_n X dX3_leastLoadWith_0 0 rfl ?_
  refine z_aload_n X dX3_leastLoadWith_1 0 rfl ?_
  refine z_iload_n X dX3_leastLoadWith_2 1 rfl ?_
  refine z_iload_n X dX3_leastLoadWith_3 2 rfl ?_
  refine z_callV0 X (g := (fun r1 : Int32 => ((some (.int r1), h, σ) : Option Value × Int64 × cS))) (st := [.ref (la G k0)]) (st1 := (fun r1 : Int32 => [.int r1, .ref (la G k0)])) (rmf := 1) (rml := 23) [.int x1, .int x2] k0 cal_X3_densestWith q_8_14 ⟨Nat.le_of_ble_eq_true rfl, Nat.le_of_ble_eq_true rfl⟩ rfl rfl (Nat.le_of_ble_eq_true rfl) rfl hk0.1 (ce3 hk0.1 _ _) (ctX3_densestWith (kl K) G X.2.2.2.2.2.2.2.1 Nf h σ k0 hk0 x1 x2) dX3_leastLoadWith_4 (fun _ => rfl) (fun r1 => ?_)
  refine z_iload_n X dX3_leastLoadWith_7 1 rfl ?_
  refine z_iload_n X dX3_leastLoadWith_8 2 rfl ?_
  refine z_callV0 X (g := (fun r2 : Int32 => ((some (.int r2), h, σ) : Option Value × Int64 × cS))) (st := []) (st1 := (fun r2 : Int32 => [.int r2])) (rmf := 1) (rml := 23) [.int r1, .int x1, .int x2] k0 cal_X3_roundedUpDensity q_9_5 ⟨Nat.le_of_ble_eq_true rfl, Nat.le_of_ble_eq_true rfl⟩ rfl rfl (Nat.le_of_ble_eq_true rfl) rfl hk0.1 (ce3 hk0.1 _ _) (ctX3_roundedUpDensity (kl K) G X.2.2.2.2.2.2.2.1 h σ k0 hk0 r1 x1 x2) dX3_leastLoadWith_9 (fun _ => rfl) (fun r2 => ?_)
  exact z_iret X rfl dX3_leastLoadWith_12
def fX3_leastLoadWith (L : Nat → Nat) (Nf : Nat) (σ : cS) (k0 : Nat) (x1 : Int32) (x2 : Int32) : Option Int32 := fX3_leastLoadWith_0 L Nf σ k0 x1 x2
set_option maxHeartbeats 4000000 in
set_option maxRecDepth 100000 in
theorem ctX3_leastLoadWith (l : Launch) (G : Lay) (hi : Inj G) (Nf : Nat) (h : Int64) (σ : cS) (k0 : Nat) (hk0 : isParts G k0) (x1 : Int32) (x2 : Int32) : ∀ r, fX3_leastLoadWith (ll G) Nf σ k0 x1 x2 = some r → CM l yX3_leastLoadWith cX3_leastLoadWith 3 (some .int) 2 52 G [.ref (la G k0), .int x1, .int x2] h σ (some (.int r), h, σ) := by
  refine cm_of (g := (fun r : Int32 => ((some (.int r), h, σ) : Option Value × Int64 × cS))) (by decide) hi (Nat.le_of_ble_eq_true rfl) (fun K hKl X => ?_)
  unfold fX3_leastLoadWith
  exact z_sub [0, 1, 2] rfl (sX3_leastLoadWith_0 X Nf k0 hk0 h σ x1 x2)
def fX3_commonOfForcing_67 (L : Nat → Nat) (Nf : Nat) (σ : cS) (k0 : Nat) (x1 : Int32)  : Option Int32 := some x1
set_option maxHeartbeats 4000000 in
set_option maxRecDepth 100000 in
theorem sX3_commonOfForcing_67 {K : MCx} {G : Lay} (X : Cx K G RX3 cX3_commonOfForcing 4 (some .int) 1 20) (Nf : Nat) (k0 : Nat) (hk0 : isParts G k0) (h : Int64) (σ : cS) (x1 : Int32) : Sm K G TT (QM K G (fun r : Int32 => ((some (.int r), h, σ) : Option Value × Int64 × cS))) 4 67 [(1, .int x1)] [] h σ (fX3_commonOfForcing_67 (ll G) Nf σ k0 x1) := by
  unfold fX3_commonOfForcing_67
  refine z_iload_n X dX3_commonOfForcing_67 0 rfl ?_
  exact z_iret X rfl dX3_commonOfForcing_68
def fX3_commonOfForcing_61 (L : Nat → Nat) (Nf : Nat) (σ : cS) (k0 : Nat) (self9 : Int32 → Int32 → Option Int32) (x1 : Int32) (x2 : Int32)  : Option Int32 := bnd (x2 + (1 : Int32)) (fun t1 => self9 x1 t1)
set_option maxHeartbeats 4000000 in
set_option maxRecDepth 100000 in
theorem sX3_commonOfForcing_61 {K : MCx} {G : Lay} (X : Cx K G RX3 cX3_commonOfForcing 4 (some .int) 1 20) (Nf : Nat) (k0 : Nat) (hk0 : isParts G k0) (h : Int64) (σ : cS) (self9 : Int32 → Int32 → Option Int32) (hself9 : ∀ (x1 : Int32) (x2 : Int32), Sm K G TT (QM K G (fun r : Int32 => ((some (.int r), h, σ) : Option Value × Int64 × cS))) 4 9 [(0, .ref (la G k0)), (1, .int x1), (2, .int x2)] [] h σ (self9 x1 x2)) (x1 : Int32) (x2 : Int32) : Sm K G TT (QM K G (fun r : Int32 => ((some (.int r), h, σ) : Option Value × Int64 × cS))) 4 61 [(0, .ref (la G k0)), (1, .int x1), (2, .int x2)] [] h σ (fX3_commonOfForcing_61 (ll G) Nf σ k0 self9 x1 x2) := by
  unfold fX3_commonOfForcing_61
  refine z_iinc X (fun t1 => [(2, .int t1), (0, .ref (la G k0)), (1, .int x1)]) dX3_commonOfForcing_61 2 rfl (by decide) (by decide) (fun _ => rfl) (fun t1 => ?_)
  refine z_goto X 9 dX3_commonOfForcing_64 (by decide) ?_
  exact z_sub [1, 2, 0] rfl (hself9 x1 t1)
def fX3_commonOfForcing_9 (L : Nat → Nat) (Nf : Nat) (σ : cS) (k0 : Nat) : Nat → Int32 → Int32 → Option Int32
  | 0, _, _ => none
  | n + 1, x1, x2 => if (σ k0 3) ≤ x2 then (fX3_commonOfForcing_67 L Nf σ k0 x1) else (if (Int32.ofNat (L (k0 + 1))) ≤ x2 then (fX3_commonOfForcing_67 L Nf σ k0 x1) else (grd (inb x2 (L (k0 + 1))) (Option.bind (fJ6_bitCount_0f7a4 σ x2) (fun r1 => bnd (((σ (k0 + 1) x2.toNatClampNeg) - (((σ k0 5) - (1 : Int32)) * r1))) (fun t2 => if t2 ≤ (1 : Int32) then (if t2 = (1 : Int32) then (bnd ((x1 &&& x2)) (fun t3 => fX3_commonOfForcing_61 L Nf σ k0 (fX3_commonOfForcing_9 L Nf σ k0 n) t3 x2)) else (fX3_commonOfForcing_61 L Nf σ k0 (fX3_commonOfForcing_9 L Nf σ k0 n) x1 x2)) else (some (0 : Int32)))))))
set_option maxHeartbeats 4000000 in
set_option maxRecDepth 100000 in
theorem sX3_commonOfForcing_9 {K : MCx} {G : Lay} (X : Cx K G RX3 cX3_commonOfForcing 4 (some .int) 1 20) (Nf : Nat) (k0 : Nat) (hk0 : isParts G k0) (h : Int64) (σ : cS) : ∀ (n : Nat) (x1 : Int32) (x2 : Int32), Sm K G TT (QM K G (fun r : Int32 => ((some (.int r), h, σ) : Option Value × Int64 × cS))) 4 9 [(0, .ref (la G k0)), (1, .int x1), (2, .int x2)] [] h σ (fX3_commonOfForcing_9 (ll G) Nf σ k0 n x1 x2) := by
  intro n
  induction n with
  | zero => intros; exact z_none
  | succ n ih =>
    intro x1 x2
    unfold fX3_commonOfForcing_9
    refine z_iload_n X dX3_commonOfForcing_9 2 rfl ?_
    refine z_aload_n X dX3_commonOfForcing_10 0 rfl ?_
    refine z_get X inlX3 rfl hk0.1 (ce3 hk0.1 _ _) 3 (by decide) q_7_19 rfl dX3_commonOfForcing_11 ?_
    refine z_icmp_ge X 67 dX3_commonOfForcing_14 (by decide) ?_ ?_
    · exact z_sub [1] rfl (sX3_commonOfForcing_67 X Nf k0 hk0 h σ x1)
    · refine z_iload_n X dX3_commonOfForcing_17 2 rfl ?_
      refine z_aload_n X dX3_commonOfForcing_18 0 rfl ?_
      refine z_get X inlX3 rfl hk0.1 (ce3 hk0.1 _ _) 0 (by decide) q_4_1 rfl dX3_commonOfForcing_19 ?_
      refine z_alen X hk0.2.1 dX3_commonOfForcing_22 ?_
      refine z_icmp_ge X 67 dX3_commonOfForcing_23 (by decide) ?_ ?_
      · exact z_sub [1] rfl (sX3_commonOfForcing_67 X Nf k0 hk0 h σ x1)
      · refine z_aload_n X dX3_commonOfForcing_26 0 rfl ?_
        refine z_get X inlX3 rfl hk0.1 (ce3 hk0.1 _ _) 0 (by decide) q_4_1 rfl dX3_commonOfForcing_27 ?_
        refine z_iload_n X dX3_commonOfForcing_30 2 rfl ?_
        refine z_iald X hk0.2.1 dX3_commonOfForcing_31 ?_
        refine z_aload_n X dX3_commonOfForcing_32 0 rfl ?_
        refine z_get X inlX3 rfl hk0.1 (ce3 hk0.1 _ _) 5 (by decide) q_7_21 rfl dX3_commonOfForcing_33 ?_
        refine z_iconst (v := (1 : Int32)) X dX3_commonOfForcing_36 (by decide) ?_
        refine z_isub X dX3_commonOfForcing_37 ?_
        refine z_iload_n X dX3_commonOfForcing_38 2 rfl ?_
        refine z_callS0 X (g := (fun r1 : Int32 => ((some (.int r1), h, σ) : Option Value × Int64 × cS))) (st := [.int ((σ k0 5) - (1 : Int32)), .int (σ (k0 + 1) x2.toNatClampNeg)]) (st1 := (fun r1 : Int32 => [.int r1, .int ((σ k0 5) - (1 : Int32)), .int (σ (k0 + 1) x2.toNatClampNeg)])) (rmf := 0) (rml := 0) [.int x2] cal_J6_bitCount_0f7a4 q_8_22 ⟨Nat.le_of_ble_eq_true rfl, Nat.le_of_ble_eq_true rfl⟩ rfl rfl (Nat.le_of_ble_eq_true rfl) (ctJ6_bitCount_0f7a4 (kl K) G X.2.2.2.2.2.2.2.1 h σ x2) dX3_commonOfForcing_39 (fun _ => rfl) (fun r1 => ?_)
        refine z_imul X dX3_commonOfForcing_42 ?_
        refine z_isub X dX3_commonOfForcing_43 ?_
        refine z_nm (fun t2 => ?_)
        refine z_istore_n X [(3, .int t2), (0, .ref (la G k0)), (1, .int x1), (2, .int x2)] dX3_commonOfForcing_44 (by decide) rfl ?_
        refine z_iload_n X dX3_commonOfForcing_45 0 rfl ?_
        refine z_iconst (v := (1 : Int32)) X dX3_commonOfForcing_46 (by decide) ?_
        refine z_icmp_le X 52 dX3_commonOfForcing_47 (by decide) ?_ ?_
        · refine z_iload_n X dX3_commonOfForcing_52 0 rfl ?_
          refine z_iconst (v := (1 : Int32)) X dX3_commonOfForcing_53 (by decide) ?_
          refine z_icmp_ne X 61 dX3_commonOfForcing_54 (by decide) ?_ ?_
          · refine z_iload_n X dX3_commonOfForcing_57 2 rfl ?_
            refine z_iload_n X dX3_commonOfForcing_58 3 rfl ?_
            refine z_iand X dX3_commonOfForcing_59 ?_
            refine z_nm (fun t3 => ?_)
            refine z_istore_n X [(1, .int t3), (3, .int t2), (0, .ref (la G k0)), (2, .int x2)] dX3_commonOfForcing_60 (by decide) rfl ?_
            exact z_sub [2, 0, 3] rfl (sX3_commonOfForcing_61 X Nf k0 hk0 h σ (fX3_commonOfForcing_9 (ll G) Nf σ k0 n) ih t3 x2)
          · exact z_sub [1, 2, 3] rfl (sX3_commonOfForcing_61 X Nf k0 hk0 h σ (fX3_commonOfForcing_9 (ll G) Nf σ k0 n) ih x1 x2)
        · refine z_iconst (v := (0 : Int32)) X dX3_commonOfForcing_50 (by decide) ?_
          exact z_iret X rfl dX3_commonOfForcing_51
def fX3_commonOfForcing_0 (L : Nat → Nat) (Nf : Nat) (σ : cS) (k0 : Nat)  : Option Int32 := bnd (((σ k0 3) - (1 : Int32))) (fun t1 => fX3_commonOfForcing_9 L Nf σ k0 Nf t1 (1 : Int32))
set_option maxHeartbeats 4000000 in
set_option maxRecDepth 100000 in
theorem sX3_commonOfForcing_0 {K : MCx} {G : Lay} (X : Cx K G RX3 cX3_commonOfForcing 4 (some .int) 1 20) (Nf : Nat) (k0 : Nat) (hk0 : isParts G k0) (h : Int64) (σ : cS) : Sm K G TT (QM K G (fun r : Int32 => ((some (.int r), h, σ) : Option Value × Int64 × cS))) 4 0 [(0, .ref (la G k0))] [] h σ (fX3_commonOfForcing_0 (ll G) Nf σ k0) := by
  unfold fX3_commonOfForcing_0
  refine z_aload_n X dX3_commonOfForcing_0 0 rfl ?_
  refine z_get X inlX3 rfl hk0.1 (ce3 hk0.1 _ _) 3 (by decide) q_7_19 rfl dX3_commonOfForcing_1 ?_
  refine z_iconst (v := (1 : Int32)) X dX3_commonOfForcing_4 (by decide) ?_
  refine z_isub X dX3_commonOfForcing_5 ?_
  refine z_nm (fun t1 => ?_)
  refine z_istore_n X [(1, .int t1), (0, .ref (la G k0))] dX3_commonOfForcing_6 (by decide) rfl ?_
  refine z_iconst (v := (1 : Int32)) X dX3_commonOfForcing_7 (by decide) ?_
  refine z_istore_n X [(2, .int (1 : Int32)), (1, .int t1), (0, .ref (la G k0))] dX3_commonOfForcing_8 (by decide) rfl ?_
  exact z_sub [2, 1, 0] rfl (sX3_commonOfForcing_9 X Nf k0 hk0 h σ Nf t1 (1 : Int32))
def fX3_commonOfForcing (L : Nat → Nat) (Nf : Nat) (σ : cS) (k0 : Nat) : Option Int32 := fX3_commonOfForcing_0 L Nf σ k0
set_option maxHeartbeats 4000000 in
set_option maxRecDepth 100000 in
theorem ctX3_commonOfForcing (l : Launch) (G : Lay) (hi : Inj G) (Nf : Nat) (h : Int64) (σ : cS) (k0 : Nat) (hk0 : isParts G k0) : ∀ r, fX3_commonOfForcing (ll G) Nf σ k0 = some r → CM l yX3_commonOfForcing cX3_commonOfForcing 4 (some .int) 1 20 G [.ref (la G k0)] h σ (some (.int r), h, σ) := by
  refine cm_of (g := (fun r : Int32 => ((some (.int r), h, σ) : Option Value × Int64 × cS))) (by decide) hi (Nat.le_of_ble_eq_true rfl) (fun K hKl X => ?_)
  unfold fX3_commonOfForcing
  exact z_sub [0] rfl (sX3_commonOfForcing_0 X Nf k0 hk0 h σ)
def fX3_mostOverfull_84 (L : Nat → Nat) (Nf : Nat) (k0 : Nat) (k1 : Nat) (x3 : Int32) (σ : cS) : Option (Int32 × cS) := some (x3, σ)
set_option maxHeartbeats 4000000 in
set_option maxRecDepth 100000 in
theorem sX3_mostOverfull_84 {K : MCx} {G : Lay} (X : Cx K G RX3 cX3_mostOverfull 7 (some .int) 2 48) (Nf : Nat) (k0 : Nat) (hk0 : isParts G k0) (k1 : Nat) (hk1 : isRow G k1) (h : Int64) (x3 : Int32) (σ : cS) : Sm K G TT (QM K G (fun r : (Int32 × cS) => ((some (.int r.1), h, r.2) : Option Value × Int64 × cS))) 7 84 [(3, .int x3)] [] h σ (fX3_mostOverfull_84 (ll G) Nf k0 k1 x3 σ) := by
  unfold fX3_mostOverfull_84
  refine z_iload_n X dX3_mostOverfull_84 0 rfl ?_
  exact z_iret X rfl dX3_mostOverfull_85
def fX3_mostOverfull_78 (L : Nat → Nat) (Nf : Nat) (k0 : Nat) (k1 : Nat) (self18 : Int32 → Int32 → Int32 → cS → Option (Int32 × cS)) (x3 : Int32) (x4 : Int32) (x5 : Int32) (σ : cS) : Option (Int32 × cS) := bnd (x5 + (1 : Int32)) (fun t1 => self18 x3 x4 t1 σ)
set_option maxHeartbeats 4000000 in
set_option maxRecDepth 100000 in
theorem sX3_mostOverfull_78 {K : MCx} {G : Lay} (X : Cx K G RX3 cX3_mostOverfull 7 (some .int) 2 48) (Nf : Nat) (k0 : Nat) (hk0 : isParts G k0) (k1 : Nat) (hk1 : isRow G k1) (h : Int64) (self18 : Int32 → Int32 → Int32 → cS → Option (Int32 × cS)) (hself18 : ∀ (x3 : Int32) (x4 : Int32) (x5 : Int32) (σ : cS), Sm K G TT (QM K G (fun r : (Int32 × cS) => ((some (.int r.1), h, r.2) : Option Value × Int64 × cS))) 7 18 [(0, .ref (la G k0)), (3, .int x3), (4, .int x4), (5, .int x5)] [] h σ (self18 x3 x4 x5 σ)) (x3 : Int32) (x4 : Int32) (x5 : Int32) (σ : cS) : Sm K G TT (QM K G (fun r : (Int32 × cS) => ((some (.int r.1), h, r.2) : Option Value × Int64 × cS))) 7 78 [(0, .ref (la G k0)), (3, .int x3), (4, .int x4), (5, .int x5)] [] h σ (fX3_mostOverfull_78 (ll G) Nf k0 k1 self18 x3 x4 x5 σ) := by
  unfold fX3_mostOverfull_78
  refine z_iinc X (fun t1 => [(5, .int t1), (0, .ref (la G k0)), (3, .int x3), (4, .int x4)]) dX3_mostOverfull_78 3 rfl (by decide) (by decide) (fun _ => rfl) (fun t1 => ?_)
  refine z_goto X 18 dX3_mostOverfull_81 (by decide) ?_
  exact z_sub [1, 2, 3, 0] rfl (hself18 x3 x4 t1 σ)
def fX3_mostOverfull_18 (L : Nat → Nat) (Nf : Nat) (k0 : Nat) (k1 : Nat) : Nat → Int32 → Int32 → Int32 → cS → Option (Int32 × cS)
  | 0, _, _, _, _ => none
  | n + 1, x3, x4, x5, σ => if (σ k0 3) ≤ x5 then (fX3_mostOverfull_84 L Nf k0 k1 x3 σ) else (if (Int32.ofNat (L (k0 + 1))) ≤ x5 then (fX3_mostOverfull_84 L Nf k0 k1 x3 σ) else (if (Int32.ofNat (L (k0 + 2))) ≤ x5 then (fX3_mostOverfull_84 L Nf k0 k1 x3 σ) else (grd (inb x5 (L (k0 + 1))) (grd (inb x5 (L (k0 + 2))) (bnd (((σ (k0 + 1) x5.toNatClampNeg) - (σ (k0 + 2) x5.toNatClampNeg))) (fun t1 => if t1 ≤ x4 then (fX3_mostOverfull_78 L Nf k0 k1 (fX3_mostOverfull_18 L Nf k0 k1 n) x3 x4 x5 σ) else (fX3_mostOverfull_78 L Nf k0 k1 (fX3_mostOverfull_18 L Nf k0 k1 n) x5 t1 x5 σ)))))))
set_option maxHeartbeats 4000000 in
set_option maxRecDepth 100000 in
theorem sX3_mostOverfull_18 {K : MCx} {G : Lay} (X : Cx K G RX3 cX3_mostOverfull 7 (some .int) 2 48) (Nf : Nat) (k0 : Nat) (hk0 : isParts G k0) (k1 : Nat) (hk1 : isRow G k1) (h : Int64) : ∀ (n : Nat) (x3 : Int32) (x4 : Int32) (x5 : Int32) (σ : cS), Sm K G TT (QM K G (fun r : (Int32 × cS) => ((some (.int r.1), h, r.2) : Option Value × Int64 × cS))) 7 18 [(0, .ref (la G k0)), (3, .int x3), (4, .int x4), (5, .int x5)] [] h σ (fX3_mostOverfull_18 (ll G) Nf k0 k1 n x3 x4 x5 σ) := by
  intro n
  induction n with
  | zero => intros; exact z_none
  | succ n ih =>
    intro x3 x4 x5 σ
    unfold fX3_mostOverfull_18
    refine z_iload X dX3_mostOverfull_18 3 rfl ?_
    refine z_aload_n X dX3_mostOverfull_20 0 rfl ?_
    refine z_get X inlX3 rfl hk0.1 (ce3 hk0.1 _ _) 3 (by decide) q_7_19 rfl dX3_mostOverfull_21 ?_
    refine z_icmp_ge X 84 dX3_mostOverfull_24 (by decide) ?_ ?_
    · exact z_sub [1] rfl (sX3_mostOverfull_84 X Nf k0 hk0 k1 hk1 h x3 σ)
    · refine z_iload X dX3_mostOverfull_27 3 rfl ?_
      refine z_aload_n X dX3_mostOverfull_29 0 rfl ?_
      refine z_get X inlX3 rfl hk0.1 (ce3 hk0.1 _ _) 0 (by decide) q_4_1 rfl dX3_mostOverfull_30 ?_
      refine z_alen X hk0.2.1 dX3_mostOverfull_33 ?_
      refine z_icmp_ge X 84 dX3_mostOverfull_34 (by decide) ?_ ?_
      · exact z_sub [1] rfl (sX3_mostOverfull_84 X Nf k0 hk0 k1 hk1 h x3 σ)
      · refine z_iload X dX3_mostOverfull_37 3 rfl ?_
        refine z_aload_n X dX3_mostOverfull_39 0 rfl ?_
        refine z_get X inlX3 rfl hk0.1 (ce3 hk0.1 _ _) 1 (by decide) q_4_2 rfl dX3_mostOverfull_40 ?_
        refine z_alen X hk0.2.2.1 dX3_mostOverfull_43 ?_
        refine z_icmp_ge X 84 dX3_mostOverfull_44 (by decide) ?_ ?_
        · exact z_sub [1] rfl (sX3_mostOverfull_84 X Nf k0 hk0 k1 hk1 h x3 σ)
        · refine z_aload_n X dX3_mostOverfull_47 0 rfl ?_
          refine z_get X inlX3 rfl hk0.1 (ce3 hk0.1 _ _) 0 (by decide) q_4_1 rfl dX3_mostOverfull_48 ?_
          refine z_iload X dX3_mostOverfull_51 3 rfl ?_
          refine z_iald X hk0.2.1 dX3_mostOverfull_53 ?_
          refine z_aload_n X dX3_mostOverfull_54 0 rfl ?_
          refine z_get X inlX3 rfl hk0.1 (ce3 hk0.1 _ _) 1 (by decide) q_4_2 rfl dX3_mostOverfull_55 ?_
          refine z_iload X dX3_mostOverfull_58 3 rfl ?_
          refine z_iald X hk0.2.2.1 dX3_mostOverfull_60 ?_
          refine z_isub X dX3_mostOverfull_61 ?_
          refine z_nm (fun t1 => ?_)
          refine z_istore X [(6, .int t1), (0, .ref (la G k0)), (3, .int x3), (4, .int x4), (5, .int x5)] dX3_mostOverfull_62 (by decide) rfl ?_
          refine z_iload X dX3_mostOverfull_64 0 rfl ?_
          refine z_iload X dX3_mostOverfull_66 3 rfl ?_
          refine z_icmp_le X 78 dX3_mostOverfull_68 (by decide) ?_ ?_
          · exact z_sub [1, 2, 3, 4] rfl (sX3_mostOverfull_78 X Nf k0 hk0 k1 hk1 h (fX3_mostOverfull_18 (ll G) Nf k0 k1 n) ih x3 x4 x5 σ)
          · refine z_iload X dX3_mostOverfull_71 0 rfl ?_
            refine z_istore X [(4, .int t1), (6, .int t1), (0, .ref (la G k0)), (3, .int x3), (5, .int x5)] dX3_mostOverfull_73 (by decide) rfl ?_
            refine z_iload X dX3_mostOverfull_75 4 rfl ?_
            refine z_istore_n X [(3, .int x5), (4, .int t1), (6, .int t1), (0, .ref (la G k0)), (5, .int x5)] dX3_mostOverfull_77 (by decide) rfl ?_
            exact z_sub [3, 0, 1, 4] rfl (sX3_mostOverfull_78 X Nf k0 hk0 k1 hk1 h (fX3_mostOverfull_18 (ll G) Nf k0 k1 n) ih x5 t1 x5 σ)
def fX3_mostOverfull_0 (L : Nat → Nat) (Nf : Nat) (k0 : Nat) (k1 : Nat) (x2 : Int32) (σ : cS) : Option (Int32 × cS) := Option.bind (fX3_writeSums L Nf σ (k0 + 2) k1 (0 : Int32) x2) (fun r1 => fX3_mostOverfull_18 L Nf k0 k1 Nf (-1 : Int32) (0 : Int32) (1 : Int32) r1)
set_option maxHeartbeats 4000000 in
set_option maxRecDepth 100000 in
theorem sX3_mostOverfull_0 {K : MCx} {G : Lay} (X : Cx K G RX3 cX3_mostOverfull 7 (some .int) 2 48) (Nf : Nat) (k0 : Nat) (hk0 : isParts G k0) (k1 : Nat) (hk1 : isRow G k1) (h : Int64) (x2 : Int32) (σ : cS) : Sm K G TT (QM K G (fun r : (Int32 × cS) => ((some (.int r.1), h, r.2) : Option Value × Int64 × cS))) 7 0 [(0, .ref (la G k0)), (1, .ref (la G k1)), (2, .int x2)] [] h σ (fX3_mostOverfull_0 (ll G) Nf k0 k1 x2 σ) := by
  unfold fX3_mostOverfull_0
  refine z_aload_n X dX3_mostOverfull_0 0 rfl ?_
  refine z_get X inlX3 rfl hk0.1 (ce3 hk0.1 _ _) 1 (by decide) q_4_2 rfl dX3_mostOverfull_1 ?_
  refine z_iconst (v := (0 : Int32)) X dX3_mostOverfull_4 (by decide) ?_
  refine z_aload_n X dX3_mostOverfull_5 1 rfl ?_
  refine z_iload_n X dX3_mostOverfull_6 2 rfl ?_
  refine z_callS0 X (g := (fun r1 : cS => ((none, h, r1) : Option Value × Int64 × cS))) (st := []) (st1 := (fun r1 : cS => [])) (rmf := 1) (rml := 21) [.ref (la G (k0 + 2)), .int (0 : Int32), .ref (la G k1), .int x2] cal_X3_writeSums q_8_10 ⟨Nat.le_of_ble_eq_true rfl, Nat.le_of_ble_eq_true rfl⟩ rfl rfl (Nat.le_of_ble_eq_true rfl) (ctX3_writeSums (kl K) G X.2.2.2.2.2.2.2.1 Nf h σ (k0 + 2) hk0.2.2.1 k1 hk1 (0 : Int32) x2) dX3_mostOverfull_7 (fun _ => rfl) (fun r1 => ?_)
  refine z_iconst (v := (-1 : Int32)) X dX3_mostOverfull_10 (by decide) ?_
  refine z_istore_n X [(3, .int (-1 : Int32)), (0, .ref (la G k0)), (1, .ref (la G k1)), (2, .int x2)] dX3_mostOverfull_11 (by decide) rfl ?_
  refine z_iconst (v := (0 : Int32)) X dX3_mostOverfull_12 (by decide) ?_
  refine z_istore X [(4, .int (0 : Int32)), (3, .int (-1 : Int32)), (0, .ref (la G k0)), (1, .ref (la G k1)), (2, .int x2)] dX3_mostOverfull_13 (by decide) rfl ?_
  refine z_iconst (v := (1 : Int32)) X dX3_mostOverfull_15 (by decide) ?_
  refine z_istore X [(5, .int (1 : Int32)), (4, .int (0 : Int32)), (3, .int (-1 : Int32)), (0, .ref (la G k0)), (1, .ref (la G k1)), (2, .int x2)] dX3_mostOverfull_16 (by decide) rfl ?_
  exact z_sub [3, 2, 1, 0] rfl (sX3_mostOverfull_18 X Nf k0 hk0 k1 hk1 h Nf (-1 : Int32) (0 : Int32) (1 : Int32) r1)
def fX3_mostOverfull (L : Nat → Nat) (Nf : Nat) (σ : cS) (k0 : Nat) (k1 : Nat) (x2 : Int32) : Option (Int32 × cS) := fX3_mostOverfull_0 L Nf k0 k1 x2 σ
set_option maxHeartbeats 4000000 in
set_option maxRecDepth 100000 in
theorem ctX3_mostOverfull (l : Launch) (G : Lay) (hi : Inj G) (Nf : Nat) (h : Int64) (σ : cS) (k0 : Nat) (hk0 : isParts G k0) (k1 : Nat) (hk1 : isRow G k1) (x2 : Int32) : ∀ r, fX3_mostOverfull (ll G) Nf σ k0 k1 x2 = some r → CM l yX3_mostOverfull cX3_mostOverfull 7 (some .int) 2 48 G [.ref (la G k0), .ref (la G k1), .int x2] h σ (some (.int r.1), h, r.2) := by
  refine cm_of (g := (fun r : (Int32 × cS) => ((some (.int r.1), h, r.2) : Option Value × Int64 × cS))) (by decide) hi (Nat.le_of_ble_eq_true rfl) (fun K hKl X => ?_)
  unfold fX3_mostOverfull
  exact z_sub [0, 1, 2] rfl (sX3_mostOverfull_0 X Nf k0 hk0 k1 hk1 h x2 σ)
