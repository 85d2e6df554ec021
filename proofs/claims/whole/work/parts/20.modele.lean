theorem q_5_7 : Cond.fieldLink RX7 19 "EdgeHoldersModel" "text" "[I" ∈ wsL_law := seg_5 _ (List.mem_of_getElem? (i := 7) rfl)
theorem q_26_10 : Cond.instanceMethod yX7_densest ∈ wsL_law := seg_26 _ (List.mem_of_getElem? (i := 10) rfl)
theorem q_26_11 : Cond.selects RX7 yX7_densest yX7_densest ∈ wsL_law := seg_26 _ (List.mem_of_getElem? (i := 11) rfl)
theorem q_26_12 : Cond.code yX7_densest cX7_densest 1 (some .int) ∈ wsL_law := seg_26 _ (List.mem_of_getElem? (i := 12) rfl)
theorem q_26_22 : Cond.instanceMethod yX7_least ∈ wsL_law := seg_26 _ (List.mem_of_getElem? (i := 22) rfl)
theorem q_26_23 : Cond.selects RX7 yX7_least yX7_least ∈ wsL_law := seg_26 _ (List.mem_of_getElem? (i := 23) rfl)
theorem q_27_0 : Cond.code yX7_least cX7_least 1 (some .int) ∈ wsL_law := seg_27 _ (List.mem_of_getElem? (i := 0) rfl)
theorem q_27_14 : Cond.instanceMethod yX7_tooDense ∈ wsL_law := seg_27 _ (List.mem_of_getElem? (i := 14) rfl)
theorem q_27_15 : Cond.selects RX7 yX7_tooDense yX7_tooDense ∈ wsL_law := seg_27 _ (List.mem_of_getElem? (i := 15) rfl)
theorem q_27_16 : Cond.code yX7_tooDense cX7_tooDense 6 (some .int) ∈ wsL_law := seg_27 _ (List.mem_of_getElem? (i := 16) rfl)
theorem q_29_21 : Cond.methodLink RX7 152 yX7_copy ∈ wsL_law := seg_29 _ (List.mem_of_getElem? (i := 21) rfl)
theorem q_29_22 : Cond.instanceMethod yX7_copy ∈ wsL_law := seg_29 _ (List.mem_of_getElem? (i := 22) rfl)
theorem q_29_23 : Cond.selects RX7 yX7_copy yX7_copy ∈ wsL_law := seg_29 _ (List.mem_of_getElem? (i := 23) rfl)
theorem q_30_0 : Cond.code yX7_copy cX7_copy 2 none ∈ wsL_law := seg_30 _ (List.mem_of_getElem? (i := 0) rfl)
theorem q_30_1 : Cond.methodLink RX7 155 yX7_back ∈ wsL_law := seg_30 _ (List.mem_of_getElem? (i := 1) rfl)
theorem q_30_2 : Cond.instanceMethod yX7_back ∈ wsL_law := seg_30 _ (List.mem_of_getElem? (i := 2) rfl)
theorem q_30_3 : Cond.selects RX7 yX7_back yX7_back ∈ wsL_law := seg_30 _ (List.mem_of_getElem? (i := 3) rfl)
theorem q_30_4 : Cond.code yX7_back cX7_back 2 none ∈ wsL_law := seg_30 _ (List.mem_of_getElem? (i := 4) rfl)
theorem q_30_13 : Cond.methodLink RX7 158 yX7_least ∈ wsL_law := seg_30 _ (List.mem_of_getElem? (i := 13) rfl)
theorem q_31_15 : Cond.fieldLink RX7 161 "EdgeHoldersModel" "letters" "I" ∈ wsL_law := seg_31 _ (List.mem_of_getElem? (i := 15) rfl)
theorem q_35_1 : Cond.fieldLink RX7 164 "EdgeHoldersModel" "readAt" "I" ∈ wsL_law := seg_35 _ (List.mem_of_getElem? (i := 1) rfl)
theorem q_35_2 : Cond.fieldLink RX7 170 "EdgeHoldersModel" "error" "I" ∈ wsL_law := seg_35 _ (List.mem_of_getElem? (i := 2) rfl)
theorem q_35_3 : Cond.methodLink RX7 188 yX7_readsOrder ∈ wsL_law := seg_35 _ (List.mem_of_getElem? (i := 3) rfl)
theorem q_35_4 : Cond.instanceMethod yX7_readsOrder ∈ wsL_law := seg_35 _ (List.mem_of_getElem? (i := 4) rfl)
theorem q_35_5 : Cond.selects RX7 yX7_readsOrder yX7_readsOrder ∈ wsL_law := seg_35 _ (List.mem_of_getElem? (i := 5) rfl)
theorem q_35_6 : Cond.code yX7_readsOrder cX7_readsOrder 2 (some .boolean) ∈ wsL_law := seg_35 _ (List.mem_of_getElem? (i := 6) rfl)
theorem q_35_7 : Cond.fieldLink RX7 176 "EdgeHoldersModel" "order" "I" ∈ wsL_law := seg_35 _ (List.mem_of_getElem? (i := 7) rfl)
theorem q_35_8 : Cond.fieldLink RX7 179 "EdgeHoldersModel" "one" "I" ∈ wsL_law := seg_35 _ (List.mem_of_getElem? (i := 8) rfl)
theorem q_35_9 : Cond.fieldLink RX7 182 "EdgeHoldersModel" "two" "I" ∈ wsL_law := seg_35 _ (List.mem_of_getElem? (i := 9) rfl)
theorem q_35_10 : Cond.methodLink RX7 167 yX7_here ∈ wsL_law := seg_35 _ (List.mem_of_getElem? (i := 10) rfl)
theorem q_35_11 : Cond.instanceMethod yX7_here ∈ wsL_law := seg_35 _ (List.mem_of_getElem? (i := 11) rfl)
theorem q_35_12 : Cond.selects RX7 yX7_here yX7_here ∈ wsL_law := seg_35 _ (List.mem_of_getElem? (i := 12) rfl)
theorem q_35_13 : Cond.code yX7_here cX7_here 1 (some .int) ∈ wsL_law := seg_35 _ (List.mem_of_getElem? (i := 13) rfl)
theorem q_35_14 : Cond.methodLink RX7 173 yX7_takes ∈ wsL_law := seg_35 _ (List.mem_of_getElem? (i := 14) rfl)
theorem q_35_15 : Cond.instanceMethod yX7_takes ∈ wsL_law := seg_35 _ (List.mem_of_getElem? (i := 15) rfl)
theorem q_35_16 : Cond.selects RX7 yX7_takes yX7_takes ∈ wsL_law := seg_35 _ (List.mem_of_getElem? (i := 16) rfl)
theorem q_35_17 : Cond.code yX7_takes cX7_takes 4 (some .boolean) ∈ wsL_law := seg_35 _ (List.mem_of_getElem? (i := 17) rfl)
theorem q_35_18 : Cond.methodLink RX7 185 yX7_number ∈ wsL_law := seg_35 _ (List.mem_of_getElem? (i := 18) rfl)
theorem q_35_19 : Cond.instanceMethod yX7_number ∈ wsL_law := seg_35 _ (List.mem_of_getElem? (i := 19) rfl)
theorem q_35_20 : Cond.selects RX7 yX7_number yX7_number ∈ wsL_law := seg_35 _ (List.mem_of_getElem? (i := 20) rfl)
theorem q_35_21 : Cond.code yX7_number cX7_number 6 (some .int) ∈ wsL_law := seg_35 _ (List.mem_of_getElem? (i := 21) rfl)
theorem q_35_22 : Cond.methodLink RX7 192 yX7_does ∈ wsL_law := seg_35 _ (List.mem_of_getElem? (i := 22) rfl)
theorem q_35_23 : Cond.instanceMethod yX7_does ∈ wsL_law := seg_35 _ (List.mem_of_getElem? (i := 23) rfl)
theorem q_36_0 : Cond.selects RX7 yX7_does yX7_does ∈ wsL_law := seg_36 _ (List.mem_of_getElem? (i := 0) rfl)
theorem q_36_1 : Cond.code yX7_does cX7_does 1 (some .boolean) ∈ wsL_law := seg_36 _ (List.mem_of_getElem? (i := 1) rfl)
theorem q_37_12 : Cond.constantLong RX7 201 (3779) ∈ wsL_law := seg_37 _ (List.mem_of_getElem? (i := 12) rfl)
theorem q_37_13 : Cond.fieldLink RX7 197 "EdgeHoldersModel" "hash" "J" ∈ wsL_law := seg_37 _ (List.mem_of_getElem? (i := 13) rfl)
theorem q_37_14 : Cond.methodLink RX7 203 yX7_hashes ∈ wsL_law := seg_37 _ (List.mem_of_getElem? (i := 14) rfl)
theorem q_37_15 : Cond.instanceMethod yX7_hashes ∈ wsL_law := seg_37 _ (List.mem_of_getElem? (i := 15) rfl)
theorem q_37_16 : Cond.selects RX7 yX7_hashes yX7_hashes ∈ wsL_law := seg_37 _ (List.mem_of_getElem? (i := 16) rfl)
theorem q_37_17 : Cond.code yX7_hashes cX7_hashes 3 none ∈ wsL_law := seg_37 _ (List.mem_of_getElem? (i := 17) rfl)
theorem q_37_18 : Cond.constantLong RX7 195 (31) ∈ wsL_law := seg_37 _ (List.mem_of_getElem? (i := 18) rfl)
theorem q_37_19 : Cond.methodLink RX7 207 yX7_densest ∈ wsL_law := seg_37 _ (List.mem_of_getElem? (i := 19) rfl)
theorem q_37_20 : Cond.methodLink RX7 210 yX7_tooDense ∈ wsL_law := seg_37 _ (List.mem_of_getElem? (i := 20) rfl)
theorem cal_X7_back : Cal yX7_back RX7 cX7_back 2 none 0 := ⟨q_30_4, q_30_2, q_30_3, q_1_5, by decide +kernel⟩
theorem cal_X7_copy : Cal yX7_copy RX7 cX7_copy 2 none 0 := ⟨q_30_0, q_29_22, q_29_23, q_1_5, by decide +kernel⟩
theorem cal_X7_least : Cal yX7_least RX7 cX7_least 1 (some .int) 0 := ⟨q_27_0, q_26_22, q_26_23, q_1_5, by decide +kernel⟩
theorem cal_X7_here : Cal yX7_here RX7 cX7_here 1 (some .int) 0 := ⟨q_35_13, q_35_11, q_35_12, q_1_5, by decide +kernel⟩
theorem cal_X7_takes : Cal yX7_takes RX7 cX7_takes 4 (some .boolean) 2 := ⟨q_35_17, q_35_15, q_35_16, q_1_5, by decide +kernel⟩
theorem cal_X7_number : Cal yX7_number RX7 cX7_number 6 (some .int) 2 := ⟨q_35_21, q_35_19, q_35_20, q_1_5, by decide +kernel⟩
theorem cal_X7_does : Cal yX7_does RX7 cX7_does 1 (some .boolean) 0 := ⟨q_36_1, q_35_23, q_36_0, q_1_5, by decide +kernel⟩
theorem cal_X7_readsOrder : Cal yX7_readsOrder RX7 cX7_readsOrder 2 (some .boolean) 0 := ⟨q_35_6, q_35_4, q_35_5, q_1_5, by decide +kernel⟩
theorem cal_X7_densest : Cal yX7_densest RX7 cX7_densest 1 (some .int) 0 := ⟨q_26_12, q_26_10, q_26_11, q_1_5, by decide +kernel⟩
theorem cal_X7_hashes : Cal yX7_hashes RX7 cX7_hashes 3 none 1 := ⟨q_37_17, q_37_15, q_37_16, q_1_5, by decide +kernel⟩
theorem cal_X7_tooDense : Cal yX7_tooDense RX7 cX7_tooDense 6 (some .int) 0 := ⟨q_27_16, q_27_14, q_27_15, q_1_5, by decide +kernel⟩
def fX7_critical_14 (L : Nat → Nat) (Nf : Nat) (k0 : Nat) : Nat → Int32 → Int32 → cS → Option (Int32 × cS)
  | 0, _, _, _ => none
  | n + 1, x1, x2, σ => grd (inb (3 : Int32) (L (k0 + 1))) (if (σ (k0 + 1) (3 : Int32).toNatClampNeg) ≤ x2 then (some ((-1 : Int32), σ)) else (Option.bind (fX7_leastOf L Nf σ k0 x2 (0 : Int32)) (fun r1 => if x1 ≤ r1 then (bnd (x2 + (1 : Int32)) (fun t2 => fX7_critical_14 L Nf k0 n x1 t2 σ)) else (grd (inb ((16 : Int32) + x2) (L (k0 + 1))) (some ((σ (k0 + 1) ((16 : Int32) + x2).toNatClampNeg), σ))))))
set_option maxHeartbeats 4000000 in
set_option maxRecDepth 100000 in
theorem sX7_critical_14 {K : MCx} {G : Lay} (X : Cx K G RX7 cX7_critical 3 (some .int) 3 78) (Nf : Nat) (k0 : Nat) (hk0 : isMod G k0) (h : Int64) : ∀ (n : Nat) (x1 : Int32) (x2 : Int32) (σ : cS), Sm K G TT (QM K G (fun r : (Int32 × cS) => ((some (.int r.1), h, r.2) : Option Value × Int64 × cS))) 3 14 [(0, .ref (la G k0)), (1, .int x1), (2, .int x2)] [] h σ (fX7_critical_14 (ll G) Nf k0 n x1 x2 σ) := by
  intro n
  induction n with
  | zero => intros; exact z_none
  | succ n ih =>
    intro x1 x2 σ
    unfold fX7_critical_14
    refine z_iload_n X dX7_critical_14 2 rfl ?_
    refine z_aload_n X dX7_critical_15 0 rfl ?_
    refine z_get X inlX7 rfl hk0.1 (ce7 hk0.1 _ _) 0 (by decide) q_5_4 rfl dX7_critical_16 ?_
    refine z_iconst (v := (3 : Int32)) X dX7_critical_19 (by decide) ?_
    refine z_iald X hk0.2.1 dX7_critical_20 ?_
    refine z_icmp_ge X 50 dX7_critical_21 (by decide) ?_ ?_
    · refine z_iconst (v := (-1 : Int32)) X dX7_critical_50 (by decide) ?_
      exact z_iret X rfl dX7_critical_51
    · refine z_aload_n X dX7_critical_24 0 rfl ?_
      refine z_iload_n X dX7_critical_25 2 rfl ?_
      refine z_iconst (v := (0 : Int32)) X dX7_critical_26 (by decide) ?_
      refine z_callV0 X (g := (fun r1 : Int32 => ((some (.int r1), h, σ) : Option Value × Int64 × cS))) (st := []) (st1 := (fun r1 : Int32 => [.int r1])) (rmf := 2) (rml := 54) [.int x2, .int (0 : Int32)] k0 cal_X7_leastOf q_27_1 ⟨Nat.le_of_ble_eq_true rfl, Nat.le_of_ble_eq_true rfl⟩ rfl rfl (Nat.le_of_ble_eq_true rfl) rfl hk0.1 (ce7 hk0.1 _ _) (ctX7_leastOf (kl K) G X.2.2.2.2.2.2.2.1 Nf h σ k0 hk0 x2 (0 : Int32)) dX7_critical_27 (fun _ => rfl) (fun r1 => ?_)
      refine z_iload_n X dX7_critical_30 1 rfl ?_
      refine z_icmp_ge X 44 dX7_critical_31 (by decide) ?_ ?_
      · refine z_iinc X (fun t2 => [(2, .int t2), (0, .ref (la G k0)), (1, .int x1)]) dX7_critical_44 2 rfl (by decide) (by decide) (fun _ => rfl) (fun t2 => ?_)
        refine z_goto X 14 dX7_critical_47 (by decide) ?_
        exact z_sub [1, 2, 0] rfl (ih x1 t2 σ)
      · refine z_aload_n X dX7_critical_34 0 rfl ?_
        refine z_get X inlX7 rfl hk0.1 (ce7 hk0.1 _ _) 0 (by decide) q_5_4 rfl dX7_critical_35 ?_
        refine z_bipush (v := (16 : Int32)) X dX7_critical_38 (by decide) ?_
        refine z_iload_n X dX7_critical_40 2 rfl ?_
        refine z_iadd X dX7_critical_41 ?_
        refine z_iald X hk0.2.1 dX7_critical_42 ?_
        exact z_iret X rfl dX7_critical_43
def fX7_critical_0 (L : Nat → Nat) (Nf : Nat) (k0 : Nat) (σ : cS) : Option (Int32 × cS) := bnd (st2 σ k0 7 (0 : Int32)) (fun σ1 => Option.bind (fX7_leastOf L Nf σ1 k0 (-1 : Int32) (0 : Int32)) (fun r2 => fX7_critical_14 L Nf k0 Nf r2 (0 : Int32) σ1))
set_option maxHeartbeats 4000000 in
set_option maxRecDepth 100000 in
theorem sX7_critical_0 {K : MCx} {G : Lay} (X : Cx K G RX7 cX7_critical 3 (some .int) 3 78) (Nf : Nat) (k0 : Nat) (hk0 : isMod G k0) (h : Int64) (σ : cS) : Sm K G TT (QM K G (fun r : (Int32 × cS) => ((some (.int r.1), h, r.2) : Option Value × Int64 × cS))) 3 0 [(0, .ref (la G k0))] [] h σ (fX7_critical_0 (ll G) Nf k0 σ) := by
  unfold fX7_critical_0
  refine z_aload_n X dX7_critical_0 0 rfl ?_
  refine z_iconst (v := (0 : Int32)) X dX7_critical_1 (by decide) ?_
  refine z_put X inlX7 rfl hk0.1 (ce7 hk0.1 _ _) 7 (by decide) q_7_12 tyX7 tyX7_ok nmX7 rfl (cp7 hk0.1 _ _ _ 7 (by decide)) rfl rfl (Nat.le_of_ble_eq_true rfl) dX7_critical_2 (fun σ1 => ?_)
  refine z_aload_n X dX7_critical_5 0 rfl ?_
  refine z_iconst (v := (-1 : Int32)) X dX7_critical_6 (by decide) ?_
  refine z_iconst (v := (0 : Int32)) X dX7_critical_7 (by decide) ?_
  refine z_callV0 X (g := (fun r2 : Int32 => ((some (.int r2), h, σ1) : Option Value × Int64 × cS))) (st := []) (st1 := (fun r2 : Int32 => [.int r2])) (rmf := 2) (rml := 54) [.int (-1 : Int32), .int (0 : Int32)] k0 cal_X7_leastOf q_27_1 ⟨Nat.le_of_ble_eq_true rfl, Nat.le_of_ble_eq_true rfl⟩ rfl rfl (Nat.le_of_ble_eq_true rfl) rfl hk0.1 (ce7 hk0.1 _ _) (ctX7_leastOf (kl K) G X.2.2.2.2.2.2.2.1 Nf h σ1 k0 hk0 (-1 : Int32) (0 : Int32)) dX7_critical_8 (fun _ => rfl) (fun r2 => ?_)
  refine z_istore_n X [(1, .int r2), (0, .ref (la G k0))] dX7_critical_11 (by decide) rfl ?_
  refine z_iconst (v := (0 : Int32)) X dX7_critical_12 (by decide) ?_
  refine z_istore_n X [(2, .int (0 : Int32)), (1, .int r2), (0, .ref (la G k0))] dX7_critical_13 (by decide) rfl ?_
  exact z_sub [2, 1, 0] rfl (sX7_critical_14 X Nf k0 hk0 h Nf r2 (0 : Int32) σ1)
def fX7_critical (L : Nat → Nat) (Nf : Nat) (σ : cS) (k0 : Nat) : Option (Int32 × cS) := fX7_critical_0 L Nf k0 σ
set_option maxHeartbeats 4000000 in
set_option maxRecDepth 100000 in
theorem ctX7_critical (l : Launch) (G : Lay) (hi : Inj G) (Nf : Nat) (h : Int64) (σ : cS) (k0 : Nat) (hk0 : isMod G k0) : ∀ r, fX7_critical (ll G) Nf σ k0 = some r → CM l yX7_critical cX7_critical 3 (some .int) 3 78 G [.ref (la G k0)] h σ (some (.int r.1), h, r.2) := by
  refine cm_of (g := (fun r : (Int32 × cS) => ((some (.int r.1), h, r.2) : Option Value × Int64 × cS))) (by decide) hi (Nat.le_of_ble_eq_true rfl) (fun K hKl X => ?_)
  unfold fX7_critical
  exact z_sub [0] rfl (sX7_critical_0 X Nf k0 hk0 h σ)
def fX7_turnsToBalance_0 (L : Nat → Nat) (Nf : Nat) (k0 : Nat) (σ : cS) : Option (Int32 × cS) := bnd (st2 σ k0 7 (0 : Int32)) (fun σ1 => Option.bind (fX7_copy L Nf σ1 k0) (fun r2 => Option.bind (fX7_balances L Nf r2 k0) (fun r3 => grd (inb (2 : Int32) (L (k0 + 1))) (grd (inb (2 : Int32) (L (k0 + 2))) (bnd (((r3.2 (k0 + 1) (2 : Int32).toNatClampNeg) - (r3.2 (k0 + 2) (2 : Int32).toNatClampNeg))) (fun t4 => Option.bind (fX7_back L Nf r3.2 k0) (fun r5 => some (t4, r5))))))))
set_option maxHeartbeats 4000000 in
set_option maxRecDepth 100000 in
theorem sX7_turnsToBalance_0 {K : MCx} {G : Lay} (X : Cx K G RX7 cX7_turnsToBalance 2 (some .int) 5 116) (Nf : Nat) (k0 : Nat) (hk0 : isMod G k0) (h : Int64) (σ : cS) : Sm K G TT (QM K G (fun r : (Int32 × cS) => ((some (.int r.1), h, r.2) : Option Value × Int64 × cS))) 2 0 [(0, .ref (la G k0))] [] h σ (fX7_turnsToBalance_0 (ll G) Nf k0 σ) := by
  unfold fX7_turnsToBalance_0
  refine z_aload_n X dX7_turnsToBalance_0 0 rfl ?_
  refine z_iconst (v := (0 : Int32)) X dX7_turnsToBalance_1 (by decide) ?_
  refine z_put X inlX7 rfl hk0.1 (ce7 hk0.1 _ _) 7 (by decide) q_7_12 tyX7 tyX7_ok nmX7 rfl (cp7 hk0.1 _ _ _ 7 (by decide)) rfl rfl (Nat.le_of_ble_eq_true rfl) dX7_turnsToBalance_2 (fun σ1 => ?_)
  refine z_aload_n X dX7_turnsToBalance_5 0 rfl ?_
  refine z_callV0 X (g := (fun r2 : cS => ((none, h, r2) : Option Value × Int64 × cS))) (st := []) (st1 := (fun r2 : cS => [])) (rmf := 0) (rml := 0) [] k0 cal_X7_copy q_29_21 ⟨Nat.le_of_ble_eq_true rfl, Nat.le_of_ble_eq_true rfl⟩ rfl rfl (Nat.le_of_ble_eq_true rfl) rfl hk0.1 (ce7 hk0.1 _ _) (ctX7_copy (kl K) G X.2.2.2.2.2.2.2.1 Nf h σ1 k0 hk0 ) dX7_turnsToBalance_6 (fun _ => rfl) (fun r2 => ?_)
  refine z_aload_n X dX7_turnsToBalance_9 0 rfl ?_
  refine z_callV0 X (g := (fun r3 : (Int32 × cS) => ((some (.int r3.1), h, r3.2) : Option Value × Int64 × cS))) (st := []) (st1 := (fun r3 : (Int32 × cS) => [.int r3.1])) (rmf := 4) (rml := 92) [] k0 cal_X7_balances q_17_6 ⟨Nat.le_of_ble_eq_true rfl, Nat.le_of_ble_eq_true rfl⟩ rfl rfl (Nat.le_of_ble_eq_true rfl) rfl hk0.1 (ce7 hk0.1 _ _) (ctX7_balances (kl K) G X.2.2.2.2.2.2.2.1 Nf h r2 k0 hk0 ) dX7_turnsToBalance_10 (fun _ => rfl) (fun r3 => ?_)
  refine z_pop X dX7_turnsToBalance_13 rfl ?_
  refine z_aload_n X dX7_turnsToBalance_14 0 rfl ?_
  refine z_get X inlX7 rfl hk0.1 (ce7 hk0.1 _ _) 0 (by decide) q_5_4 rfl dX7_turnsToBalance_15 ?_
  refine z_iconst (v := (2 : Int32)) X dX7_turnsToBalance_18 (by decide) ?_
  refine z_iald X hk0.2.1 dX7_turnsToBalance_19 ?_
  refine z_aload_n X dX7_turnsToBalance_20 0 rfl ?_
  refine z_get X inlX7 rfl hk0.1 (ce7 hk0.1 _ _) 1 (by decide) q_5_5 rfl dX7_turnsToBalance_21 ?_
  refine z_iconst (v := (2 : Int32)) X dX7_turnsToBalance_24 (by decide) ?_
  refine z_iald X hk0.2.2.1 dX7_turnsToBalance_25 ?_
  refine z_isub X dX7_turnsToBalance_26 ?_
  refine z_nm (fun t4 => ?_)
  refine z_istore_n X [(1, .int t4), (0, .ref (la G k0))] dX7_turnsToBalance_27 (by decide) rfl ?_
  refine z_aload_n X dX7_turnsToBalance_28 1 rfl ?_
  refine z_callV0 X (g := (fun r5 : cS => ((none, h, r5) : Option Value × Int64 × cS))) (st := []) (st1 := (fun r5 : cS => [])) (rmf := 0) (rml := 0) [] k0 cal_X7_back q_30_1 ⟨Nat.le_of_ble_eq_true rfl, Nat.le_of_ble_eq_true rfl⟩ rfl rfl (Nat.le_of_ble_eq_true rfl) rfl hk0.1 (ce7 hk0.1 _ _) (ctX7_back (kl K) G X.2.2.2.2.2.2.2.1 Nf h r3.2 k0 hk0 ) dX7_turnsToBalance_29 (fun _ => rfl) (fun r5 => ?_)
  refine z_iload_n X dX7_turnsToBalance_32 0 rfl ?_
  exact z_iret X rfl dX7_turnsToBalance_33
def fX7_turnsToBalance (L : Nat → Nat) (Nf : Nat) (σ : cS) (k0 : Nat) : Option (Int32 × cS) := fX7_turnsToBalance_0 L Nf k0 σ
set_option maxHeartbeats 4000000 in
set_option maxRecDepth 100000 in
theorem ctX7_turnsToBalance (l : Launch) (G : Lay) (hi : Inj G) (Nf : Nat) (h : Int64) (σ : cS) (k0 : Nat) (hk0 : isMod G k0) : ∀ r, fX7_turnsToBalance (ll G) Nf σ k0 = some r → CM l yX7_turnsToBalance cX7_turnsToBalance 2 (some .int) 5 116 G [.ref (la G k0)] h σ (some (.int r.1), h, r.2) := by
  refine cm_of (g := (fun r : (Int32 × cS) => ((some (.int r.1), h, r.2) : Option Value × Int64 × cS))) (by decide) hi (Nat.le_of_ble_eq_true rfl) (fun K hKl X => ?_)
  unfold fX7_turnsToBalance
  exact z_sub [0] rfl (sX7_turnsToBalance_0 X Nf k0 hk0 h σ)
def fX7_leastCapacity_0 (L : Nat → Nat) (Nf : Nat) (k0 : Nat) (σ : cS) : Option (Int32 × cS) := Option.bind (fX7_least L Nf σ k0) (fun r1 => some (r1.1, r1.2))
set_option maxHeartbeats 4000000 in
set_option maxRecDepth 100000 in
theorem sX7_leastCapacity_0 {K : MCx} {G : Lay} (X : Cx K G RX7 cX7_leastCapacity 1 (some .int) 4 98) (Nf : Nat) (k0 : Nat) (hk0 : isMod G k0) (h : Int64) (σ : cS) : Sm K G TT (QM K G (fun r : (Int32 × cS) => ((some (.int r.1), h, r.2) : Option Value × Int64 × cS))) 1 0 [(0, .ref (la G k0))] [] h σ (fX7_leastCapacity_0 (ll G) Nf k0 σ) := by
  unfold fX7_leastCapacity_0
  refine z_aload_n X dX7_leastCapacity_0 0 rfl ?_
  refine z_callV0 X (g := (fun r1 : (Int32 × cS) => ((some (.int r1.1), h, r1.2) : Option Value × Int64 × cS))) (st := []) (st1 := (fun r1 : (Int32 × cS) => [.int r1.1])) (rmf := 3) (rml := 78) [] k0 cal_X7_least q_30_13 ⟨Nat.le_of_ble_eq_true rfl, Nat.le_of_ble_eq_true rfl⟩ rfl rfl (Nat.le_of_ble_eq_true rfl) rfl hk0.1 (ce7 hk0.1 _ _) (ctX7_least (kl K) G X.2.2.2.2.2.2.2.1 Nf h σ k0 hk0 ) dX7_leastCapacity_1 (fun _ => rfl) (fun r1 => ?_)
  exact z_iret X rfl dX7_leastCapacity_4
def fX7_leastCapacity (L : Nat → Nat) (Nf : Nat) (σ : cS) (k0 : Nat) : Option (Int32 × cS) := fX7_leastCapacity_0 L Nf k0 σ
set_option maxHeartbeats 4000000 in
set_option maxRecDepth 100000 in
theorem ctX7_leastCapacity (l : Launch) (G : Lay) (hi : Inj G) (Nf : Nat) (h : Int64) (σ : cS) (k0 : Nat) (hk0 : isMod G k0) : ∀ r, fX7_leastCapacity (ll G) Nf σ k0 = some r → CM l yX7_leastCapacity cX7_leastCapacity 1 (some .int) 4 98 G [.ref (la G k0)] h σ (some (.int r.1), h, r.2) := by
  refine cm_of (g := (fun r : (Int32 × cS) => ((some (.int r.1), h, r.2) : Option Value × Int64 × cS))) (by decide) hi (Nat.le_of_ble_eq_true rfl) (fun K hKl X => ?_)
  unfold fX7_leastCapacity
  exact z_sub [0] rfl (sX7_leastCapacity_0 X Nf k0 hk0 h σ)
def fX7_density_0 (L : Nat → Nat) (Nf : Nat) (k0 : Nat) (σ : cS) : Option (UInt64 × cS) := bnd (st2 σ k0 7 (0 : Int32)) (fun σ1 => Option.bind (fX7_densestOf L Nf σ1 k0 (-1 : Int32) (0 : Int32)) (fun r2 => Option.bind (fX7_innerOf L Nf σ1 k0 r2 (-1 : Int32) (0 : Int32)) (fun r3 => Option.bind (fX7_bits Nf σ1 r2) (fun r4 => grd (n64b (FP.ddiv (FP.i2d r3) (FP.i2d r4))) (some ((FP.ddiv (FP.i2d r3) (FP.i2d r4)), σ1))))))
set_option maxHeartbeats 4000000 in
set_option maxRecDepth 100000 in
theorem sX7_density_0 {K : MCx} {G : Lay} (X : Cx K G RX7 cX7_density 2 (some .double) 2 54) (Nf : Nat) (k0 : Nat) (hk0 : isMod G k0) (h : Int64) (σ : cS) : Sm K G TT (QM K G (fun r : (UInt64 × cS) => ((some (.double r.1), h, r.2) : Option Value × Int64 × cS))) 2 0 [(0, .ref (la G k0))] [] h σ (fX7_density_0 (ll G) Nf k0 σ) := by
  unfold fX7_density_0
  refine z_aload_n X dX7_density_0 0 rfl ?_
  refine z_iconst (v := (0 : Int32)) X dX7_density_1 (by decide) ?_
  refine z_put X inlX7 rfl hk0.1 (ce7 hk0.1 _ _) 7 (by decide) q_7_12 tyX7 tyX7_ok nmX7 rfl (cp7 hk0.1 _ _ _ 7 (by decide)) rfl rfl (Nat.le_of_ble_eq_true rfl) dX7_density_2 (fun σ1 => ?_)
  refine z_aload_n X dX7_density_5 0 rfl ?_
  refine z_iconst (v := (-1 : Int32)) X dX7_density_6 (by decide) ?_
  refine z_iconst (v := (0 : Int32)) X dX7_density_7 (by decide) ?_
  refine z_callV0 X (g := (fun r2 : Int32 => ((some (.int r2), h, σ1) : Option Value × Int64 × cS))) (st := []) (st1 := (fun r2 : Int32 => [.int r2])) (rmf := 1) (rml := 25) [.int (-1 : Int32), .int (0 : Int32)] k0 cal_X7_densestOf q_26_13 ⟨Nat.le_of_ble_eq_true rfl, Nat.le_of_ble_eq_true rfl⟩ rfl rfl (Nat.le_of_ble_eq_true rfl) rfl hk0.1 (ce7 hk0.1 _ _) (ctX7_densestOf (kl K) G X.2.2.2.2.2.2.2.1 Nf h σ1 k0 hk0 (-1 : Int32) (0 : Int32)) dX7_density_8 (fun _ => rfl) (fun r2 => ?_)
  refine z_istore_n X [(1, .int r2), (0, .ref (la G k0))] dX7_density_11 (by decide) rfl ?_
  refine z_aload_n X dX7_density_12 1 rfl ?_
  refine z_iload_n X dX7_density_13 0 rfl ?_
  refine z_iconst (v := (-1 : Int32)) X dX7_density_14 (by decide) ?_
  refine z_iconst (v := (0 : Int32)) X dX7_density_15 (by decide) ?_
  refine z_callV0 X (g := (fun r3 : Int32 => ((some (.int r3), h, σ1) : Option Value × Int64 × cS))) (st := []) (st1 := (fun r3 : Int32 => [.int r3])) (rmf := 0) (rml := 0) [.int r2, .int (-1 : Int32), .int (0 : Int32)] k0 cal_X7_innerOf q_24_17 ⟨Nat.le_of_ble_eq_true rfl, Nat.le_of_ble_eq_true rfl⟩ rfl rfl (Nat.le_of_ble_eq_true rfl) rfl hk0.1 (ce7 hk0.1 _ _) (ctX7_innerOf (kl K) G X.2.2.2.2.2.2.2.1 Nf h σ1 k0 hk0 r2 (-1 : Int32) (0 : Int32)) dX7_density_16 (fun _ => rfl) (fun r3 => ?_)
  refine z_i2d X dX7_density_19 ?_
  refine z_iload_n X dX7_density_20 0 rfl ?_
  refine z_callS0 X (g := (fun r4 : Int32 => ((some (.int r4), h, σ1) : Option Value × Int64 × cS))) (st := [.double (FP.i2d r3)]) (st1 := (fun r4 : Int32 => [.int r4, .double (FP.i2d r3)])) (rmf := 0) (rml := 0) [.int r2] cal_X7_bits q_20_5 ⟨Nat.le_of_ble_eq_true rfl, Nat.le_of_ble_eq_true rfl⟩ rfl rfl (Nat.le_of_ble_eq_true rfl) (ctX7_bits (kl K) G X.2.2.2.2.2.2.2.1 Nf h σ1 r2) dX7_density_21 (fun _ => rfl) (fun r4 => ?_)
  refine z_i2d X dX7_density_24 ?_
  refine z_ddiv X dX7_density_25 ?_
  exact z_dret X rfl dX7_density_26
def fX7_density (L : Nat → Nat) (Nf : Nat) (σ : cS) (k0 : Nat) : Option (UInt64 × cS) := fX7_density_0 L Nf k0 σ
set_option maxHeartbeats 4000000 in
set_option maxRecDepth 100000 in
theorem ctX7_density (l : Launch) (G : Lay) (hi : Inj G) (Nf : Nat) (h : Int64) (σ : cS) (k0 : Nat) (hk0 : isMod G k0) : ∀ r, fX7_density (ll G) Nf σ k0 = some r → CM l yX7_density cX7_density 2 (some .double) 2 54 G [.ref (la G k0)] h σ (some (.double r.1), h, r.2) := by
  refine cm_of (g := (fun r : (UInt64 × cS) => ((some (.double r.1), h, r.2) : Option Value × Int64 × cS))) (by decide) hi (Nat.le_of_ble_eq_true rfl) (fun K hKl X => ?_)
  unfold fX7_density
  exact z_sub [0] rfl (sX7_density_0 X Nf k0 hk0 h σ)
def fX7_append_30 (L : Nat → Nat) (k0 : Nat) (x1 : Int32) (y1 : Int32) (y2 : Int32) (σ : cS) : Option (Int32 × cS) := Option.bind (fX7_refuses σ k0 y1 y2 (0 : Int32)) (fun r1 => if r1.1 = 0 then (grd (inb (r1.2 k0 6) (L (k0 + 4))) (bnd (st2 r1.2 (k0 + 4) (r1.2 k0 6).toNatClampNeg x1) (fun σ2 => bnd (st2 σ2 k0 6 ((σ2 k0 6) + (1 : Int32))) (fun σ3 => some ((σ3 k0 6), σ3))))) else (some ((0 : Int32), r1.2)))
set_option maxHeartbeats 4000000 in
set_option maxRecDepth 100000 in
theorem sX7_append_30 {K : MCx} {G : Lay} (X : Cx K G RX7 cX7_append 2 (some .int) 1 23) (k0 : Nat) (hk0 : isMod G k0) (h : Int64) (x1 : Int32) (y1 : Int32) (y2 : Int32) (σ : cS) : Sm K G TT (QM K G (fun r : (Int32 × cS) => ((some (.int r.1), h, r.2) : Option Value × Int64 × cS))) 2 30 [(0, .ref (la G k0)), (1, .int x1)] [.int y2, .int y1, .ref (la G k0)] h σ (fX7_append_30 (ll G) k0 x1 y1 y2 σ) := by
  unfold fX7_append_30
  refine z_iconst (v := (0 : Int32)) X dX7_append_30 (by decide) ?_
  refine z_callV0 X (g := (fun r1 : (Int32 × cS) => ((some (.int r1.1), h, r1.2) : Option Value × Int64 × cS))) (st := []) (st1 := (fun r1 : (Int32 × cS) => [.int r1.1])) (rmf := 0) (rml := 0) [.int y1, .int y2, .int (0 : Int32)] k0 cal_X7_refuses q_7_8 ⟨Nat.le_of_ble_eq_true rfl, Nat.le_of_ble_eq_true rfl⟩ rfl rfl (Nat.le_of_ble_eq_true rfl) rfl hk0.1 (ce7 hk0.1 _ _) (ctX7_refuses (kl K) G X.2.2.2.2.2.2.2.1 h σ k0 hk0 y1 y2 (0 : Int32)) dX7_append_31 (fun _ => rfl) (fun r1 => ?_)
  refine z_if_eq X 39 dX7_append_34 (by decide) ?_ ?_
  · refine z_aload_n X dX7_append_39 0 rfl ?_
    refine z_get X inlX7 rfl hk0.1 (ce7 hk0.1 _ _) 3 (by decide) q_5_7 rfl dX7_append_40 ?_
    refine z_aload_n X dX7_append_43 0 rfl ?_
    refine z_get X inlX7 rfl hk0.1 (ce7 hk0.1 _ _) 6 (by decide) q_31_15 rfl dX7_append_44 ?_
    refine z_iload_n X dX7_append_47 1 rfl ?_
    refine z_iast X hk0.2.2.2.2.1 dX7_append_48 (fun σ2 => ?_)
    refine z_aload_n X dX7_append_49 0 rfl ?_
    refine z_dup X dX7_append_50 rfl ?_
    refine z_get X inlX7 rfl hk0.1 (ce7 hk0.1 _ _) 6 (by decide) q_31_15 rfl dX7_append_51 ?_
    refine z_iconst (v := (1 : Int32)) X dX7_append_54 (by decide) ?_
    refine z_iadd X dX7_append_55 ?_
    refine z_put X inlX7 rfl hk0.1 (ce7 hk0.1 _ _) 6 (by decide) q_31_15 tyX7 tyX7_ok nmX7 rfl (cp7 hk0.1 _ _ _ 6 (by decide)) rfl rfl (Nat.le_of_ble_eq_true rfl) dX7_append_56 (fun σ3 => ?_)
    refine z_aload_n X dX7_append_59 0 rfl ?_
    refine z_get X inlX7 rfl hk0.1 (ce7 hk0.1 _ _) 6 (by decide) q_31_15 rfl dX7_append_60 ?_
    exact z_iret X rfl dX7_append_63
  · refine z_iconst (v := (0 : Int32)) X dX7_append_37 (by decide) ?_
    exact z_iret X rfl dX7_append_38
def fX7_append_16 (L : Nat → Nat) (k0 : Nat) (x1 : Int32) (y1 : Int32) (σ : cS) : Option (Int32 × cS) := if (σ k0 6) = (100 : Int32) then (fX7_append_30 L k0 x1 y1 (1 : Int32) σ) else (fX7_append_30 L k0 x1 y1 (0 : Int32) σ)
set_option maxHeartbeats 4000000 in
set_option maxRecDepth 100000 in
theorem sX7_append_16 {K : MCx} {G : Lay} (X : Cx K G RX7 cX7_append 2 (some .int) 1 23) (k0 : Nat) (hk0 : isMod G k0) (h : Int64) (x1 : Int32) (y1 : Int32) (σ : cS) : Sm K G TT (QM K G (fun r : (Int32 × cS) => ((some (.int r.1), h, r.2) : Option Value × Int64 × cS))) 2 16 [(0, .ref (la G k0)), (1, .int x1)] [.int y1, .ref (la G k0)] h σ (fX7_append_16 (ll G) k0 x1 y1 σ) := by
  unfold fX7_append_16
  refine z_aload_n X dX7_append_16 0 rfl ?_
  refine z_get X inlX7 rfl hk0.1 (ce7 hk0.1 _ _) 6 (by decide) q_31_15 rfl dX7_append_17 ?_
  refine z_bipush (v := (100 : Int32)) X dX7_append_20 (by decide) ?_
  refine z_icmp_ne X 29 dX7_append_22 (by decide) ?_ ?_
  · refine z_iconst (v := (1 : Int32)) X dX7_append_25 (by decide) ?_
    refine z_goto X 30 dX7_append_26 (by decide) ?_
    exact z_sub [0, 1] rfl (sX7_append_30 X k0 hk0 h x1 y1 (1 : Int32) σ)
  · refine z_iconst (v := (0 : Int32)) X dX7_append_29 (by decide) ?_
    exact z_sub [0, 1] rfl (sX7_append_30 X k0 hk0 h x1 y1 (0 : Int32) σ)
def fX7_append_0 (L : Nat → Nat) (k0 : Nat) (x1 : Int32) (σ : cS) : Option (Int32 × cS) := Option.bind (fX7_in σ x1 (0 : Int32) (127 : Int32)) (fun r1 => if r1 = 0 then (fX7_append_16 L k0 x1 (1 : Int32) σ) else (fX7_append_16 L k0 x1 (0 : Int32) σ))
set_option maxHeartbeats 4000000 in
set_option maxRecDepth 100000 in
theorem sX7_append_0 {K : MCx} {G : Lay} (X : Cx K G RX7 cX7_append 2 (some .int) 1 23) (k0 : Nat) (hk0 : isMod G k0) (h : Int64) (x1 : Int32) (σ : cS) : Sm K G TT (QM K G (fun r : (Int32 × cS) => ((some (.int r.1), h, r.2) : Option Value × Int64 × cS))) 2 0 [(0, .ref (la G k0)), (1, .int x1)] [] h σ (fX7_append_0 (ll G) k0 x1 σ) := by
  unfold fX7_append_0
  refine z_aload_n X dX7_append_0 0 rfl ?_
  refine z_iload_n X dX7_append_1 1 rfl ?_
  refine z_iconst (v := (0 : Int32)) X dX7_append_2 (by decide) ?_
  refine z_bipush (v := (127 : Int32)) X dX7_append_3 (by decide) ?_
  refine z_callS0 X (g := (fun r1 : Int32 => ((some (.int r1), h, σ) : Option Value × Int64 × cS))) (st := [.ref (la G k0)]) (st1 := (fun r1 : Int32 => [.int r1, .ref (la G k0)])) (rmf := 0) (rml := 0) [.int x1, .int (0 : Int32), .int (127 : Int32)] cal_X7_in q_7_5 ⟨Nat.le_of_ble_eq_true rfl, Nat.le_of_ble_eq_true rfl⟩ rfl rfl (Nat.le_of_ble_eq_true rfl) (ctX7_in (kl K) G X.2.2.2.2.2.2.2.1 h σ x1 (0 : Int32) (127 : Int32)) dX7_append_5 (fun _ => rfl) (fun r1 => ?_)
  refine z_if_ne X 15 dX7_append_8 (by decide) ?_ ?_
  · refine z_iconst (v := (1 : Int32)) X dX7_append_11 (by decide) ?_
    refine z_goto X 16 dX7_append_12 (by decide) ?_
    exact z_sub [0, 1] rfl (sX7_append_16 X k0 hk0 h x1 (1 : Int32) σ)
  · refine z_iconst (v := (0 : Int32)) X dX7_append_15 (by decide) ?_
    exact z_sub [0, 1] rfl (sX7_append_16 X k0 hk0 h x1 (0 : Int32) σ)
def fX7_append (L : Nat → Nat) (σ : cS) (k0 : Nat) (x1 : Int32) : Option (Int32 × cS) := fX7_append_0 L k0 x1 σ
set_option maxHeartbeats 4000000 in
set_option maxRecDepth 100000 in
theorem ctX7_append (l : Launch) (G : Lay) (hi : Inj G) (h : Int64) (σ : cS) (k0 : Nat) (hk0 : isMod G k0) (x1 : Int32) : ∀ r, fX7_append (ll G) σ k0 x1 = some r → CM l yX7_append cX7_append 2 (some .int) 1 23 G [.ref (la G k0), .int x1] h σ (some (.int r.1), h, r.2) := by
  refine cm_of (g := (fun r : (Int32 × cS) => ((some (.int r.1), h, r.2) : Option Value × Int64 × cS))) (by decide) hi (Nat.le_of_ble_eq_true rfl) (fun K hKl X => ?_)
  unfold fX7_append
  exact z_sub [0, 1] rfl (sX7_append_0 X k0 hk0 h x1 σ)
def fX7_clearText_0 (k0 : Nat) (σ : cS) : Option (Int32 × cS) := bnd (st2 σ k0 7 (0 : Int32)) (fun σ1 => bnd ((σ1 k0 6)) (fun t2 => bnd (st2 σ1 k0 6 (0 : Int32)) (fun σ3 => some (t2, σ3))))
set_option maxHeartbeats 4000000 in
set_option maxRecDepth 100000 in
theorem sX7_clearText_0 {K : MCx} {G : Lay} (X : Cx K G RX7 cX7_clearText 2 (some .int) 0 0) (k0 : Nat) (hk0 : isMod G k0) (h : Int64) (σ : cS) : Sm K G TT (QM K G (fun r : (Int32 × cS) => ((some (.int r.1), h, r.2) : Option Value × Int64 × cS))) 2 0 [(0, .ref (la G k0))] [] h σ (fX7_clearText_0 k0 σ) := by
  unfold fX7_clearText_0
  refine z_aload_n X dX7_clearText_0 0 rfl ?_
  refine z_iconst (v := (0 : Int32)) X dX7_clearText_1 (by decide) ?_
  refine z_put X inlX7 rfl hk0.1 (ce7 hk0.1 _ _) 7 (by decide) q_7_12 tyX7 tyX7_ok nmX7 rfl (cp7 hk0.1 _ _ _ 7 (by decide)) rfl rfl (Nat.le_of_ble_eq_true rfl) dX7_clearText_2 (fun σ1 => ?_)
  refine z_aload_n X dX7_clearText_5 0 rfl ?_
  refine z_get X inlX7 rfl hk0.1 (ce7 hk0.1 _ _) 6 (by decide) q_31_15 rfl dX7_clearText_6 ?_
  refine z_nm (fun t2 => ?_)
  refine z_istore_n X [(1, .int t2), (0, .ref (la G k0))] dX7_clearText_9 (by decide) rfl ?_
  refine z_aload_n X dX7_clearText_10 1 rfl ?_
  refine z_iconst (v := (0 : Int32)) X dX7_clearText_11 (by decide) ?_
  refine z_put X inlX7 rfl hk0.1 (ce7 hk0.1 _ _) 6 (by decide) q_31_15 tyX7 tyX7_ok nmX7 rfl (cp7 hk0.1 _ _ _ 6 (by decide)) rfl rfl (Nat.le_of_ble_eq_true rfl) dX7_clearText_12 (fun σ3 => ?_)
  refine z_iload_n X dX7_clearText_15 0 rfl ?_
  exact z_iret X rfl dX7_clearText_16
def fX7_clearText (σ : cS) (k0 : Nat) : Option (Int32 × cS) := fX7_clearText_0 k0 σ
set_option maxHeartbeats 4000000 in
set_option maxRecDepth 100000 in
theorem ctX7_clearText (l : Launch) (G : Lay) (hi : Inj G) (h : Int64) (σ : cS) (k0 : Nat) (hk0 : isMod G k0) : ∀ r, fX7_clearText σ k0 = some r → CM l yX7_clearText cX7_clearText 2 (some .int) 0 0 G [.ref (la G k0)] h σ (some (.int r.1), h, r.2) := by
  refine cm_of (g := (fun r : (Int32 × cS) => ((some (.int r.1), h, r.2) : Option Value × Int64 × cS))) (by decide) hi (Nat.le_of_ble_eq_true rfl) (fun K hKl X => ?_)
  unfold fX7_clearText
  exact z_sub [0] rfl (sX7_clearText_0 X k0 hk0 h σ)
def fX7_here_24 (L : Nat → Nat) (σ : cS) (k0 : Nat) (y0 : Int32)  : Option Int32 := some y0
set_option maxHeartbeats 4000000 in
set_option maxRecDepth 100000 in
theorem sX7_here_24 {K : MCx} {G : Lay} (X : Cx K G RX7 cX7_here 1 (some .int) 0 0) (k0 : Nat) (hk0 : isMod G k0) (h : Int64) (σ : cS) (y0 : Int32) : Sm K G TT (QM K G (fun r : Int32 => ((some (.int r), h, σ) : Option Value × Int64 × cS))) 1 24 [] [.int y0] h σ (fX7_here_24 (ll G) σ k0 y0) := by
  unfold fX7_here_24
  exact z_iret X rfl dX7_here_24
def fX7_here_0 (L : Nat → Nat) (σ : cS) (k0 : Nat)  : Option Int32 := if (σ k0 6) ≤ (σ k0 12) then (fX7_here_24 L σ k0 (-1 : Int32)) else (grd (inb (σ k0 12) (L (k0 + 4))) (fX7_here_24 L σ k0 (σ (k0 + 4) (σ k0 12).toNatClampNeg)))
set_option maxHeartbeats 4000000 in
set_option maxRecDepth 100000 in
theorem sX7_here_0 {K : MCx} {G : Lay} (X : Cx K G RX7 cX7_here 1 (some .int) 0 0) (k0 : Nat) (hk0 : isMod G k0) (h : Int64) (σ : cS) : Sm K G TT (QM K G (fun r : Int32 => ((some (.int r), h, σ) : Option Value × Int64 × cS))) 1 0 [(0, .ref (la G k0))] [] h σ (fX7_here_0 (ll G) σ k0) := by
  unfold fX7_here_0
  refine z_aload_n X dX7_here_0 0 rfl ?_
  refine z_get X inlX7 rfl hk0.1 (ce7 hk0.1 _ _) 12 (by decide) q_35_1 rfl dX7_here_1 ?_
  refine z_aload_n X dX7_here_4 0 rfl ?_
  refine z_get X inlX7 rfl hk0.1 (ce7 hk0.1 _ _) 6 (by decide) q_31_15 rfl dX7_here_5 ?_
  refine z_icmp_ge X 23 dX7_here_8 (by decide) ?_ ?_
  · refine z_iconst (v := (-1 : Int32)) X dX7_here_23 (by decide) ?_
    exact z_sub [] rfl (sX7_here_24 X k0 hk0 h σ (-1 : Int32))
  · refine z_aload_n X dX7_here_11 0 rfl ?_
    refine z_get X inlX7 rfl hk0.1 (ce7 hk0.1 _ _) 3 (by decide) q_5_7 rfl dX7_here_12 ?_
    refine z_aload_n X dX7_here_15 0 rfl ?_
    refine z_get X inlX7 rfl hk0.1 (ce7 hk0.1 _ _) 12 (by decide) q_35_1 rfl dX7_here_16 ?_
    refine z_iald X hk0.2.2.2.2.1 dX7_here_19 ?_
    refine z_goto X 24 dX7_here_20 (by decide) ?_
    exact z_sub [] rfl (sX7_here_24 X k0 hk0 h σ (σ (k0 + 4) (σ k0 12).toNatClampNeg))
def fX7_here (L : Nat → Nat) (σ : cS) (k0 : Nat) : Option Int32 := fX7_here_0 L σ k0
set_option maxHeartbeats 4000000 in
set_option maxRecDepth 100000 in
theorem ctX7_here (l : Launch) (G : Lay) (hi : Inj G) (h : Int64) (σ : cS) (k0 : Nat) (hk0 : isMod G k0) : ∀ r, fX7_here (ll G) σ k0 = some r → CM l yX7_here cX7_here 1 (some .int) 0 0 G [.ref (la G k0)] h σ (some (.int r), h, σ) := by
  refine cm_of (g := (fun r : Int32 => ((some (.int r), h, σ) : Option Value × Int64 × cS))) (by decide) hi (Nat.le_of_ble_eq_true rfl) (fun K hKl X => ?_)
  unfold fX7_here
  exact z_sub [0] rfl (sX7_here_0 X k0 hk0 h σ)
def fX7_takes_43 (L : Nat → Nat) (k0 : Nat) (x3 : Int32) (y1 : Int32) (y2 : Int32) (σ : cS) : Option (Int32 × cS) := bnd (st2 σ k0 12 (y1 + y2)) (fun σ1 => grd (isb x3) (some (x3, σ1)))
set_option maxHeartbeats 4000000 in
set_option maxRecDepth 100000 in
theorem sX7_takes_43 {K : MCx} {G : Lay} (X : Cx K G RX7 cX7_takes 4 (some .boolean) 1 22) (k0 : Nat) (hk0 : isMod G k0) (h : Int64) (x3 : Int32) (y1 : Int32) (y2 : Int32) (σ : cS) : Sm K G TT (QM K G (fun r : (Int32 × cS) => ((some (.int r.1), h, r.2) : Option Value × Int64 × cS))) 4 43 [(3, .int x3)] [.int y2, .int y1, .ref (la G k0)] h σ (fX7_takes_43 (ll G) k0 x3 y1 y2 σ) := by
  unfold fX7_takes_43
  refine z_iadd X dX7_takes_43 ?_
  refine z_put X inlX7 rfl hk0.1 (ce7 hk0.1 _ _) 12 (by decide) q_35_1 tyX7 tyX7_ok nmX7 rfl (cp7 hk0.1 _ _ _ 12 (by decide)) rfl rfl (Nat.le_of_ble_eq_true rfl) dX7_takes_44 (fun σ1 => ?_)
  refine z_iload_n X dX7_takes_47 0 rfl ?_
  exact z_zret X rfl dX7_takes_48
def fX7_takes_26 (L : Nat → Nat) (k0 : Nat) (x3 : Int32) (y1 : Int32) (σ : cS) : Option (Int32 × cS) := bnd (st2 σ k0 13 y1) (fun σ1 => if x3 = 0 then (fX7_takes_43 L k0 x3 (σ1 k0 12) (0 : Int32) σ1) else (fX7_takes_43 L k0 x3 (σ1 k0 12) (1 : Int32) σ1))
set_option maxHeartbeats 4000000 in
set_option maxRecDepth 100000 in
theorem sX7_takes_26 {K : MCx} {G : Lay} (X : Cx K G RX7 cX7_takes 4 (some .boolean) 1 22) (k0 : Nat) (hk0 : isMod G k0) (h : Int64) (x3 : Int32) (y1 : Int32) (σ : cS) : Sm K G TT (QM K G (fun r : (Int32 × cS) => ((some (.int r.1), h, r.2) : Option Value × Int64 × cS))) 4 26 [(0, .ref (la G k0)), (3, .int x3)] [.int y1, .ref (la G k0)] h σ (fX7_takes_26 (ll G) k0 x3 y1 σ) := by
  unfold fX7_takes_26
  refine z_put X inlX7 rfl hk0.1 (ce7 hk0.1 _ _) 13 (by decide) q_35_2 tyX7 tyX7_ok nmX7 rfl (cp7 hk0.1 _ _ _ 13 (by decide)) rfl rfl (Nat.le_of_ble_eq_true rfl) dX7_takes_26 (fun σ1 => ?_)
  refine z_aload_n X dX7_takes_29 0 rfl ?_
  refine z_dup X dX7_takes_30 rfl ?_
  refine z_get X inlX7 rfl hk0.1 (ce7 hk0.1 _ _) 12 (by decide) q_35_1 rfl dX7_takes_31 ?_
  refine z_iload_n X dX7_takes_34 1 rfl ?_
  refine z_if_eq X 42 dX7_takes_35 (by decide) ?_ ?_
  · refine z_iconst (v := (0 : Int32)) X dX7_takes_42 (by decide) ?_
    exact z_sub [1] rfl (sX7_takes_43 X k0 hk0 h x3 (σ1 k0 12) (0 : Int32) σ1)
  · refine z_iconst (v := (1 : Int32)) X dX7_takes_38 (by decide) ?_
    refine z_goto X 43 dX7_takes_39 (by decide) ?_
    exact z_sub [1] rfl (sX7_takes_43 X k0 hk0 h x3 (σ1 k0 12) (1 : Int32) σ1)
def fX7_takes_0 (L : Nat → Nat) (k0 : Nat) (x1 : Int32) (x2 : Int32) (σ : cS) : Option (Int32 × cS) := Option.bind (fX7_here L σ k0) (fun r1 => Option.bind (fX7_in σ r1 x1 x2) (fun r2 => if r2 = 0 then (fX7_takes_26 L k0 r2 (σ k0 12) σ) else (fX7_takes_26 L k0 r2 (σ k0 13) σ)))
set_option maxHeartbeats 4000000 in
set_option maxRecDepth 100000 in
theorem sX7_takes_0 {K : MCx} {G : Lay} (X : Cx K G RX7 cX7_takes 4 (some .boolean) 1 22) (k0 : Nat) (hk0 : isMod G k0) (h : Int64) (x1 : Int32) (x2 : Int32) (σ : cS) : Sm K G TT (QM K G (fun r : (Int32 × cS) => ((some (.int r.1), h, r.2) : Option Value × Int64 × cS))) 4 0 [(0, .ref (la G k0)), (1, .int x1), (2, .int x2)] [] h σ (fX7_takes_0 (ll G) k0 x1 x2 σ) := by
  unfold fX7_takes_0
  refine z_aload_n X dX7_takes_0 0 rfl ?_
  refine z_callV0 X (g := (fun r1 : Int32 => ((some (.int r1), h, σ) : Option Value × Int64 × cS))) (st := []) (st1 := (fun r1 : Int32 => [.int r1])) (rmf := 0) (rml := 0) [] k0 cal_X7_here q_35_10 ⟨Nat.le_of_ble_eq_true rfl, Nat.le_of_ble_eq_true rfl⟩ rfl rfl (Nat.le_of_ble_eq_true rfl) rfl hk0.1 (ce7 hk0.1 _ _) (ctX7_here (kl K) G X.2.2.2.2.2.2.2.1 h σ k0 hk0 ) dX7_takes_1 (fun _ => rfl) (fun r1 => ?_)
  refine z_iload_n X dX7_takes_4 1 rfl ?_
  refine z_iload_n X dX7_takes_5 2 rfl ?_
  refine z_callS0 X (g := (fun r2 : Int32 => ((some (.int r2), h, σ) : Option Value × Int64 × cS))) (st := []) (st1 := (fun r2 : Int32 => [.int r2])) (rmf := 0) (rml := 0) [.int r1, .int x1, .int x2] cal_X7_in q_7_5 ⟨Nat.le_of_ble_eq_true rfl, Nat.le_of_ble_eq_true rfl⟩ rfl rfl (Nat.le_of_ble_eq_true rfl) (ctX7_in (kl K) G X.2.2.2.2.2.2.2.1 h σ r1 x1 x2) dX7_takes_6 (fun _ => rfl) (fun r2 => ?_)
  refine z_istore_n X [(3, .int r2), (0, .ref (la G k0)), (1, .int x1), (2, .int x2)] dX7_takes_9 (by decide) rfl ?_
  refine z_aload_n X dX7_takes_10 1 rfl ?_
  refine z_iload_n X dX7_takes_11 0 rfl ?_
  refine z_if_eq X 22 dX7_takes_12 (by decide) ?_ ?_
  · refine z_aload_n X dX7_takes_22 1 rfl ?_
    refine z_get X inlX7 rfl hk0.1 (ce7 hk0.1 _ _) 12 (by decide) q_35_1 rfl dX7_takes_23 ?_
    exact z_sub [1, 0] rfl (sX7_takes_26 X k0 hk0 h r2 (σ k0 12) σ)
  · refine z_aload_n X dX7_takes_15 1 rfl ?_
    refine z_get X inlX7 rfl hk0.1 (ce7 hk0.1 _ _) 13 (by decide) q_35_2 rfl dX7_takes_16 ?_
    refine z_goto X 26 dX7_takes_19 (by decide) ?_
    exact z_sub [1, 0] rfl (sX7_takes_26 X k0 hk0 h r2 (σ k0 13) σ)
def fX7_takes (L : Nat → Nat) (σ : cS) (k0 : Nat) (x1 : Int32) (x2 : Int32) : Option (Int32 × cS) := fX7_takes_0 L k0 x1 x2 σ
set_option maxHeartbeats 4000000 in
set_option maxRecDepth 100000 in
theorem ctX7_takes (l : Launch) (G : Lay) (hi : Inj G) (h : Int64) (σ : cS) (k0 : Nat) (hk0 : isMod G k0) (x1 : Int32) (x2 : Int32) : ∀ r, fX7_takes (ll G) σ k0 x1 x2 = some r → CM l yX7_takes cX7_takes 4 (some .boolean) 1 22 G [.ref (la G k0), .int x1, .int x2] h σ (some (.int r.1), h, r.2) := by
  refine cm_of (g := (fun r : (Int32 × cS) => ((some (.int r.1), h, r.2) : Option Value × Int64 × cS))) (by decide) hi (Nat.le_of_ble_eq_true rfl) (fun K hKl X => ?_)
  unfold fX7_takes
  exact z_sub [0, 1, 2] rfl (sX7_takes_0 X k0 hk0 h x1 x2 σ)
def fX7_number_137 (L : Nat → Nat) (Nf : Nat) (k0 : Nat) (y0 : Int32) (σ : cS) : Option (Int32 × cS) := some (y0, σ)
set_option maxHeartbeats 4000000 in
set_option maxRecDepth 100000 in
theorem sX7_number_137 {K : MCx} {G : Lay} (X : Cx K G RX7 cX7_number 6 (some .int) 2 45) (Nf : Nat) (k0 : Nat) (hk0 : isMod G k0) (h : Int64) (y0 : Int32) (σ : cS) : Sm K G TT (QM K G (fun r : (Int32 × cS) => ((some (.int r.1), h, r.2) : Option Value × Int64 × cS))) 6 137 [] [.int y0] h σ (fX7_number_137 (ll G) Nf k0 y0 σ) := by
  unfold fX7_number_137
  exact z_iret X rfl dX7_number_137
def fX7_number_122 (L : Nat → Nat) (Nf : Nat) (k0 : Nat) (x2 : Int32) (x4 : Int32) (y1 : Int32) (σ : cS) : Option (Int32 × cS) := bnd (st2 σ k0 13 y1) (fun σ1 => if x4 ≤ x2 then (fX7_number_137 L Nf k0 x4 σ1) else (fX7_number_137 L Nf k0 (-1 : Int32) σ1))
set_option maxHeartbeats 4000000 in
set_option maxRecDepth 100000 in
theorem sX7_number_122 {K : MCx} {G : Lay} (X : Cx K G RX7 cX7_number 6 (some .int) 2 45) (Nf : Nat) (k0 : Nat) (hk0 : isMod G k0) (h : Int64) (x2 : Int32) (x4 : Int32) (y1 : Int32) (σ : cS) : Sm K G TT (QM K G (fun r : (Int32 × cS) => ((some (.int r.1), h, r.2) : Option Value × Int64 × cS))) 6 122 [(2, .int x2), (4, .int x4)] [.int y1, .ref (la G k0)] h σ (fX7_number_122 (ll G) Nf k0 x2 x4 y1 σ) := by
  unfold fX7_number_122
  refine z_put X inlX7 rfl hk0.1 (ce7 hk0.1 _ _) 13 (by decide) q_35_2 tyX7 tyX7_ok nmX7 rfl (cp7 hk0.1 _ _ _ 13 (by decide)) rfl rfl (Nat.le_of_ble_eq_true rfl) dX7_number_122 (fun σ1 => ?_)
  refine z_iload X dX7_number_125 1 rfl ?_
  refine z_iload_n X dX7_number_127 0 rfl ?_
  refine z_icmp_le X 135 dX7_number_128 (by decide) ?_ ?_
  · refine z_iload X dX7_number_135 1 rfl ?_
    exact z_sub [] rfl (sX7_number_137 X Nf k0 hk0 h x4 σ1)
  · refine z_iconst (v := (-1 : Int32)) X dX7_number_131 (by decide) ?_
    refine z_goto X 137 dX7_number_132 (by decide) ?_
    exact z_sub [] rfl (sX7_number_137 X Nf k0 hk0 h (-1 : Int32) σ1)
def fX7_number_83 (L : Nat → Nat) (Nf : Nat) (k0 : Nat) (x2 : Int32) (x3 : Int32) (x4 : Int32) (σ : cS) : Option (Int32 × cS) := Option.bind (fX7_here L σ k0) (fun r1 => Option.bind (fX7_in σ r1 (48 : Int32) (57 : Int32)) (fun r2 => if r2 = 0 then (if x4 ≤ x2 then (fX7_number_122 L Nf k0 x2 x4 (σ k0 13) σ) else (fX7_number_122 L Nf k0 x2 x4 x3 σ)) else (bnd (st2 σ k0 13 (σ k0 12)) (fun σ3 => some ((-1 : Int32), σ3)))))
set_option maxHeartbeats 4000000 in
set_option maxRecDepth 100000 in
theorem sX7_number_83 {K : MCx} {G : Lay} (X : Cx K G RX7 cX7_number 6 (some .int) 2 45) (Nf : Nat) (k0 : Nat) (hk0 : isMod G k0) (h : Int64) (x2 : Int32) (x3 : Int32) (x4 : Int32) (σ : cS) : Sm K G TT (QM K G (fun r : (Int32 × cS) => ((some (.int r.1), h, r.2) : Option Value × Int64 × cS))) 6 83 [(0, .ref (la G k0)), (2, .int x2), (3, .int x3), (4, .int x4)] [] h σ (fX7_number_83 (ll G) Nf k0 x2 x3 x4 σ) := by
  unfold fX7_number_83
  refine z_aload_n X dX7_number_83 0 rfl ?_
  refine z_callV0 X (g := (fun r1 : Int32 => ((some (.int r1), h, σ) : Option Value × Int64 × cS))) (st := []) (st1 := (fun r1 : Int32 => [.int r1])) (rmf := 0) (rml := 0) [] k0 cal_X7_here q_35_10 ⟨Nat.le_of_ble_eq_true rfl, Nat.le_of_ble_eq_true rfl⟩ rfl rfl (Nat.le_of_ble_eq_true rfl) rfl hk0.1 (ce7 hk0.1 _ _) (ctX7_here (kl K) G X.2.2.2.2.2.2.2.1 h σ k0 hk0 ) dX7_number_84 (fun _ => rfl) (fun r1 => ?_)
  refine z_bipush (v := (48 : Int32)) X dX7_number_87 (by decide) ?_
  refine z_bipush (v := (57 : Int32)) X dX7_number_89 (by decide) ?_
  refine z_callS0 X (g := (fun r2 : Int32 => ((some (.int r2), h, σ) : Option Value × Int64 × cS))) (st := []) (st1 := (fun r2 : Int32 => [.int r2])) (rmf := 0) (rml := 0) [.int r1, .int (48 : Int32), .int (57 : Int32)] cal_X7_in q_7_5 ⟨Nat.le_of_ble_eq_true rfl, Nat.le_of_ble_eq_true rfl⟩ rfl rfl (Nat.le_of_ble_eq_true rfl) (ctX7_in (kl K) G X.2.2.2.2.2.2.2.1 h σ r1 (48 : Int32) (57 : Int32)) dX7_number_91 (fun _ => rfl) (fun r2 => ?_)
  refine z_if_eq X 107 dX7_number_94 (by decide) ?_ ?_
  · refine z_aload_n X dX7_number_107 0 rfl ?_
    refine z_iload X dX7_number_108 3 rfl ?_
    refine z_iload_n X dX7_number_110 1 rfl ?_
    refine z_icmp_le X 118 dX7_number_111 (by decide) ?_ ?_
    · refine z_aload_n X dX7_number_118 0 rfl ?_
      refine z_get X inlX7 rfl hk0.1 (ce7 hk0.1 _ _) 13 (by decide) q_35_2 rfl dX7_number_119 ?_
      exact z_sub [1, 3] rfl (sX7_number_122 X Nf k0 hk0 h x2 x4 (σ k0 13) σ)
    · refine z_iload_n X dX7_number_114 2 rfl ?_
      refine z_goto X 122 dX7_number_115 (by decide) ?_
      exact z_sub [1, 3] rfl (sX7_number_122 X Nf k0 hk0 h x2 x4 x3 σ)
  · refine z_aload_n X dX7_number_97 0 rfl ?_
    refine z_aload_n X dX7_number_98 0 rfl ?_
    refine z_get X inlX7 rfl hk0.1 (ce7 hk0.1 _ _) 12 (by decide) q_35_1 rfl dX7_number_99 ?_
    refine z_put X inlX7 rfl hk0.1 (ce7 hk0.1 _ _) 13 (by decide) q_35_2 tyX7 tyX7_ok nmX7 rfl (cp7 hk0.1 _ _ _ 13 (by decide)) rfl rfl (Nat.le_of_ble_eq_true rfl) dX7_number_102 (fun σ3 => ?_)
    refine z_iconst (v := (-1 : Int32)) X dX7_number_105 (by decide) ?_
    exact z_iret X rfl dX7_number_106
def fX7_number_32 (L : Nat → Nat) (Nf : Nat) (k0 : Nat) : Nat → Int32 → Int32 → Int32 → Int32 → Int32 → cS → Option (Int32 × cS)
  | 0, _, _, _, _, _, _ => none
  | n + 1, x1, x2, x3, x4, x5, σ => if x1 ≤ x5 then (fX7_number_83 L Nf k0 x2 x3 x4 σ) else (Option.bind (fX7_here L σ k0) (fun r1 => Option.bind (fX7_in σ r1 (48 : Int32) (57 : Int32)) (fun r2 => if r2 = 0 then (fX7_number_83 L Nf k0 x2 x3 x4 σ) else (Option.bind (fX7_here L σ k0) (fun r3 => bnd (((((10 : Int32) * x4) + r3) - (48 : Int32))) (fun t4 => bnd (st2 σ k0 12 ((σ k0 12) + (1 : Int32))) (fun σ5 => bnd (x5 + (1 : Int32)) (fun t6 => fX7_number_32 L Nf k0 n x1 x2 x3 t4 t6 σ5))))))))
set_option maxHeartbeats 4000000 in
set_option maxRecDepth 100000 in
theorem sX7_number_32 {K : MCx} {G : Lay} (X : Cx K G RX7 cX7_number 6 (some .int) 2 45) (Nf : Nat) (k0 : Nat) (hk0 : isMod G k0) (h : Int64) : ∀ (n : Nat) (x1 : Int32) (x2 : Int32) (x3 : Int32) (x4 : Int32) (x5 : Int32) (σ : cS), Sm K G TT (QM K G (fun r : (Int32 × cS) => ((some (.int r.1), h, r.2) : Option Value × Int64 × cS))) 6 32 [(0, .ref (la G k0)), (1, .int x1), (2, .int x2), (3, .int x3), (4, .int x4), (5, .int x5)] [] h σ (fX7_number_32 (ll G) Nf k0 n x1 x2 x3 x4 x5 σ) := by
  intro n
  induction n with
  | zero => intros; exact z_none
  | succ n ih =>
    intro x1 x2 x3 x4 x5 σ
    unfold fX7_number_32
    refine z_iload X dX7_number_32 5 rfl ?_
    refine z_iload_n X dX7_number_34 1 rfl ?_
    refine z_icmp_ge X 83 dX7_number_35 (by decide) ?_ ?_
    · exact z_sub [0, 2, 3, 4] rfl (sX7_number_83 X Nf k0 hk0 h x2 x3 x4 σ)
    · refine z_aload_n X dX7_number_38 0 rfl ?_
      refine z_callV0 X (g := (fun r1 : Int32 => ((some (.int r1), h, σ) : Option Value × Int64 × cS))) (st := []) (st1 := (fun r1 : Int32 => [.int r1])) (rmf := 0) (rml := 0) [] k0 cal_X7_here q_35_10 ⟨Nat.le_of_ble_eq_true rfl, Nat.le_of_ble_eq_true rfl⟩ rfl rfl (Nat.le_of_ble_eq_true rfl) rfl hk0.1 (ce7 hk0.1 _ _) (ctX7_here (kl K) G X.2.2.2.2.2.2.2.1 h σ k0 hk0 ) dX7_number_39 (fun _ => rfl) (fun r1 => ?_)
      refine z_bipush (v := (48 : Int32)) X dX7_number_42 (by decide) ?_
      refine z_bipush (v := (57 : Int32)) X dX7_number_44 (by decide) ?_
      refine z_callS0 X (g := (fun r2 : Int32 => ((some (.int r2), h, σ) : Option Value × Int64 × cS))) (st := []) (st1 := (fun r2 : Int32 => [.int r2])) (rmf := 0) (rml := 0) [.int r1, .int (48 : Int32), .int (57 : Int32)] cal_X7_in q_7_5 ⟨Nat.le_of_ble_eq_true rfl, Nat.le_of_ble_eq_true rfl⟩ rfl rfl (Nat.le_of_ble_eq_true rfl) (ctX7_in (kl K) G X.2.2.2.2.2.2.2.1 h σ r1 (48 : Int32) (57 : Int32)) dX7_number_46 (fun _ => rfl) (fun r2 => ?_)
      refine z_if_eq X 83 dX7_number_49 (by decide) ?_ ?_
      · exact z_sub [0, 2, 3, 4] rfl (sX7_number_83 X Nf k0 hk0 h x2 x3 x4 σ)
      · refine z_bipush (v := (10 : Int32)) X dX7_number_52 (by decide) ?_
        refine z_iload X dX7_number_54 4 rfl ?_
        refine z_imul X dX7_number_56 ?_
        refine z_aload_n X dX7_number_57 0 rfl ?_
        refine z_callV0 X (g := (fun r3 : Int32 => ((some (.int r3), h, σ) : Option Value × Int64 × cS))) (st := [.int ((10 : Int32) * x4)]) (st1 := (fun r3 : Int32 => [.int r3, .int ((10 : Int32) * x4)])) (rmf := 0) (rml := 0) [] k0 cal_X7_here q_35_10 ⟨Nat.le_of_ble_eq_true rfl, Nat.le_of_ble_eq_true rfl⟩ rfl rfl (Nat.le_of_ble_eq_true rfl) rfl hk0.1 (ce7 hk0.1 _ _) (ctX7_here (kl K) G X.2.2.2.2.2.2.2.1 h σ k0 hk0 ) dX7_number_58 (fun _ => rfl) (fun r3 => ?_)
        refine z_iadd X dX7_number_61 ?_
        refine z_bipush (v := (48 : Int32)) X dX7_number_62 (by decide) ?_
        refine z_isub X dX7_number_64 ?_
        refine z_nm (fun t4 => ?_)
        refine z_istore X [(4, .int t4), (0, .ref (la G k0)), (1, .int x1), (2, .int x2), (3, .int x3), (5, .int x5)] dX7_number_65 (by decide) rfl ?_
        refine z_aload_n X dX7_number_67 1 rfl ?_
        refine z_dup X dX7_number_68 rfl ?_
        refine z_get X inlX7 rfl hk0.1 (ce7 hk0.1 _ _) 12 (by decide) q_35_1 rfl dX7_number_69 ?_
        refine z_iconst (v := (1 : Int32)) X dX7_number_72 (by decide) ?_
        refine z_iadd X dX7_number_73 ?_
        refine z_put X inlX7 rfl hk0.1 (ce7 hk0.1 _ _) 12 (by decide) q_35_1 tyX7 tyX7_ok nmX7 rfl (cp7 hk0.1 _ _ _ 12 (by decide)) rfl rfl (Nat.le_of_ble_eq_true rfl) dX7_number_74 (fun σ5 => ?_)
        refine z_iinc X (fun t6 => [(5, .int t6), (4, .int t4), (0, .ref (la G k0)), (1, .int x1), (2, .int x2), (3, .int x3)]) dX7_number_77 5 rfl (by decide) (by decide) (fun _ => rfl) (fun t6 => ?_)
        refine z_goto X 32 dX7_number_80 (by decide) ?_
        exact z_sub [2, 3, 4, 5, 1, 0] rfl (ih x1 x2 x3 t4 t6 σ5)
def fX7_number_0 (L : Nat → Nat) (Nf : Nat) (k0 : Nat) (x1 : Int32) (x2 : Int32) (σ : cS) : Option (Int32 × cS) := bnd ((σ k0 12)) (fun t1 => Option.bind (fX7_takes L σ k0 (48 : Int32) (57 : Int32)) (fun r2 => if r2.1 = 0 then (some ((-1 : Int32), r2.2)) else (grd (inb t1 (L (k0 + 4))) (bnd (((r2.2 (k0 + 4) t1.toNatClampNeg) - (48 : Int32))) (fun t3 => fX7_number_32 L Nf k0 Nf x1 x2 t1 t3 (1 : Int32) r2.2)))))
set_option maxHeartbeats 4000000 in
set_option maxRecDepth 100000 in
theorem sX7_number_0 {K : MCx} {G : Lay} (X : Cx K G RX7 cX7_number 6 (some .int) 2 45) (Nf : Nat) (k0 : Nat) (hk0 : isMod G k0) (h : Int64) (x1 : Int32) (x2 : Int32) (σ : cS) : Sm K G TT (QM K G (fun r : (Int32 × cS) => ((some (.int r.1), h, r.2) : Option Value × Int64 × cS))) 6 0 [(0, .ref (la G k0)), (1, .int x1), (2, .int x2)] [] h σ (fX7_number_0 (ll G) Nf k0 x1 x2 σ) := by
  unfold fX7_number_0
  refine z_aload_n X dX7_number_0 0 rfl ?_
  refine z_get X inlX7 rfl hk0.1 (ce7 hk0.1 _ _) 12 (by decide) q_35_1 rfl dX7_number_1 ?_
  refine z_nm (fun t1 => ?_)
  refine z_istore_n X [(3, .int t1), (0, .ref (la G k0)), (1, .int x1), (2, .int x2)] dX7_number_4 (by decide) rfl ?_
  refine z_aload_n X dX7_number_5 1 rfl ?_
  refine z_bipush (v := (48 : Int32)) X dX7_number_6 (by decide) ?_
  refine z_bipush (v := (57 : Int32)) X dX7_number_8 (by decide) ?_
  refine z_callV0 X (g := (fun r2 : (Int32 × cS) => ((some (.int r2.1), h, r2.2) : Option Value × Int64 × cS))) (st := []) (st1 := (fun r2 : (Int32 × cS) => [.int r2.1])) (rmf := 1) (rml := 22) [.int (48 : Int32), .int (57 : Int32)] k0 cal_X7_takes q_35_14 ⟨Nat.le_of_ble_eq_true rfl, Nat.le_of_ble_eq_true rfl⟩ rfl rfl (Nat.le_of_ble_eq_true rfl) rfl hk0.1 (ce7 hk0.1 _ _) (ctX7_takes (kl K) G X.2.2.2.2.2.2.2.1 h σ k0 hk0 (48 : Int32) (57 : Int32)) dX7_number_10 (fun _ => rfl) (fun r2 => ?_)
  refine z_if_ne X 18 dX7_number_13 (by decide) ?_ ?_
  · refine z_iconst (v := (-1 : Int32)) X dX7_number_16 (by decide) ?_
    exact z_iret X rfl dX7_number_17
  · refine z_aload_n X dX7_number_18 1 rfl ?_
    refine z_get X inlX7 rfl hk0.1 (ce7 hk0.1 _ _) 3 (by decide) q_5_7 rfl dX7_number_19 ?_
    refine z_iload_n X dX7_number_22 0 rfl ?_
    refine z_iald X hk0.2.2.2.2.1 dX7_number_23 ?_
    refine z_bipush (v := (48 : Int32)) X dX7_number_24 (by decide) ?_
    refine z_isub X dX7_number_26 ?_
    refine z_nm (fun t3 => ?_)
    refine z_istore X [(4, .int t3), (3, .int t1), (0, .ref (la G k0)), (1, .int x1), (2, .int x2)] dX7_number_27 (by decide) rfl ?_
    refine z_iconst (v := (1 : Int32)) X dX7_number_29 (by decide) ?_
    refine z_istore X [(5, .int (1 : Int32)), (4, .int t3), (3, .int t1), (0, .ref (la G k0)), (1, .int x1), (2, .int x2)] dX7_number_30 (by decide) rfl ?_
    exact z_sub [3, 4, 5, 2, 1, 0] rfl (sX7_number_32 X Nf k0 hk0 h Nf x1 x2 t1 t3 (1 : Int32) r2.2)
def fX7_number (L : Nat → Nat) (Nf : Nat) (σ : cS) (k0 : Nat) (x1 : Int32) (x2 : Int32) : Option (Int32 × cS) := fX7_number_0 L Nf k0 x1 x2 σ
set_option maxHeartbeats 4000000 in
set_option maxRecDepth 100000 in
theorem ctX7_number (l : Launch) (G : Lay) (hi : Inj G) (Nf : Nat) (h : Int64) (σ : cS) (k0 : Nat) (hk0 : isMod G k0) (x1 : Int32) (x2 : Int32) : ∀ r, fX7_number (ll G) Nf σ k0 x1 x2 = some r → CM l yX7_number cX7_number 6 (some .int) 2 45 G [.ref (la G k0), .int x1, .int x2] h σ (some (.int r.1), h, r.2) := by
  refine cm_of (g := (fun r : (Int32 × cS) => ((some (.int r.1), h, r.2) : Option Value × Int64 × cS))) (by decide) hi (Nat.le_of_ble_eq_true rfl) (fun K hKl X => ?_)
  unfold fX7_number
  exact z_sub [0, 1, 2] rfl (sX7_number_0 X Nf k0 hk0 h x1 x2 σ)
def fX7_readsOrder_325 (L : Nat → Nat) (Nf : Nat) (k0 : Nat) (y0 : Int32) (σ : cS) : Option (Int32 × cS) := grd (isb y0) (some (y0, σ))
set_option maxHeartbeats 4000000 in
set_option maxRecDepth 100000 in
theorem sX7_readsOrder_325 {K : MCx} {G : Lay} (X : Cx K G RX7 cX7_readsOrder 2 (some .boolean) 3 70) (Nf : Nat) (k0 : Nat) (hk0 : isMod G k0) (h : Int64) (y0 : Int32) (σ : cS) : Sm K G TT (QM K G (fun r : (Int32 × cS) => ((some (.int r.1), h, r.2) : Option Value × Int64 × cS))) 2 325 [] [.int y0] h σ (fX7_readsOrder_325 (ll G) Nf k0 y0 σ) := by
  unfold fX7_readsOrder_325
  exact z_zret X rfl dX7_readsOrder_325
def fX7_readsOrder_324 (L : Nat → Nat) (Nf : Nat) (k0 : Nat) (σ : cS) : Option (Int32 × cS) := fX7_readsOrder_325 L Nf k0 (0 : Int32) σ
set_option maxHeartbeats 4000000 in
set_option maxRecDepth 100000 in
theorem sX7_readsOrder_324 {K : MCx} {G : Lay} (X : Cx K G RX7 cX7_readsOrder 2 (some .boolean) 3 70) (Nf : Nat) (k0 : Nat) (hk0 : isMod G k0) (h : Int64) (σ : cS) : Sm K G TT (QM K G (fun r : (Int32 × cS) => ((some (.int r.1), h, r.2) : Option Value × Int64 × cS))) 2 324 [] [] h σ (fX7_readsOrder_324 (ll G) Nf k0 σ) := by
  unfold fX7_readsOrder_324
  refine z_iconst (v := (0 : Int32)) X dX7_readsOrder_324 (by decide) ?_
  exact z_sub [] rfl (sX7_readsOrder_325 X Nf k0 hk0 h (0 : Int32) σ)
def fX7_readsOrder_305 (L : Nat → Nat) (Nf : Nat) (k0 : Nat) (x1 : Int32) (σ : cS) : Option (Int32 × cS) := if x1 = 0 then (fX7_readsOrder_324 L Nf k0 σ) else (Option.bind (fX7_takes L σ k0 (59 : Int32) (59 : Int32)) (fun r1 => if r1.1 = 0 then (fX7_readsOrder_324 L Nf k0 r1.2) else (fX7_readsOrder_325 L Nf k0 (1 : Int32) r1.2)))
set_option maxHeartbeats 4000000 in
set_option maxRecDepth 100000 in
theorem sX7_readsOrder_305 {K : MCx} {G : Lay} (X : Cx K G RX7 cX7_readsOrder 2 (some .boolean) 3 70) (Nf : Nat) (k0 : Nat) (hk0 : isMod G k0) (h : Int64) (x1 : Int32) (σ : cS) : Sm K G TT (QM K G (fun r : (Int32 × cS) => ((some (.int r.1), h, r.2) : Option Value × Int64 × cS))) 2 305 [(0, .ref (la G k0)), (1, .int x1)] [] h σ (fX7_readsOrder_305 (ll G) Nf k0 x1 σ) := by
  unfold fX7_readsOrder_305
  refine z_iload_n X dX7_readsOrder_305 1 rfl ?_
  refine z_if_eq X 324 dX7_readsOrder_306 (by decide) ?_ ?_
  · exact z_sub [] rfl (sX7_readsOrder_324 X Nf k0 hk0 h σ)
  · refine z_aload_n X dX7_readsOrder_309 0 rfl ?_
    refine z_bipush (v := (59 : Int32)) X dX7_readsOrder_310 (by decide) ?_
    refine z_bipush (v := (59 : Int32)) X dX7_readsOrder_312 (by decide) ?_
    refine z_callV0 X (g := (fun r1 : (Int32 × cS) => ((some (.int r1.1), h, r1.2) : Option Value × Int64 × cS))) (st := []) (st1 := (fun r1 : (Int32 × cS) => [.int r1.1])) (rmf := 1) (rml := 22) [.int (59 : Int32), .int (59 : Int32)] k0 cal_X7_takes q_35_14 ⟨Nat.le_of_ble_eq_true rfl, Nat.le_of_ble_eq_true rfl⟩ rfl rfl (Nat.le_of_ble_eq_true rfl) rfl hk0.1 (ce7 hk0.1 _ _) (ctX7_takes (kl K) G X.2.2.2.2.2.2.2.1 h σ k0 hk0 (59 : Int32) (59 : Int32)) dX7_readsOrder_314 (fun _ => rfl) (fun r1 => ?_)
    refine z_if_eq X 324 dX7_readsOrder_317 (by decide) ?_ ?_
    · exact z_sub [] rfl (sX7_readsOrder_324 X Nf k0 hk0 h r1.2)
    · refine z_iconst (v := (1 : Int32)) X dX7_readsOrder_320 (by decide) ?_
      refine z_goto X 325 dX7_readsOrder_321 (by decide) ?_
      exact z_sub [] rfl (sX7_readsOrder_325 X Nf k0 hk0 h (1 : Int32) r1.2)
def fX7_readsOrder_304 (L : Nat → Nat) (Nf : Nat) (k0 : Nat) (y0 : Int32) (σ : cS) : Option (Int32 × cS) := fX7_readsOrder_305 L Nf k0 y0 σ
set_option maxHeartbeats 4000000 in
set_option maxRecDepth 100000 in
theorem sX7_readsOrder_304 {K : MCx} {G : Lay} (X : Cx K G RX7 cX7_readsOrder 2 (some .boolean) 3 70) (Nf : Nat) (k0 : Nat) (hk0 : isMod G k0) (h : Int64) (y0 : Int32) (σ : cS) : Sm K G TT (QM K G (fun r : (Int32 × cS) => ((some (.int r.1), h, r.2) : Option Value × Int64 × cS))) 2 304 [(0, .ref (la G k0))] [.int y0] h σ (fX7_readsOrder_304 (ll G) Nf k0 y0 σ) := by
  unfold fX7_readsOrder_304
  refine z_istore_n X [(1, .int y0), (0, .ref (la G k0))] dX7_readsOrder_304 (by decide) rfl ?_
  exact z_sub [1, 0] rfl (sX7_readsOrder_305 X Nf k0 hk0 h y0 σ)
def fX7_readsOrder_280 (L : Nat → Nat) (Nf : Nat) (k0 : Nat) (σ : cS) : Option (Int32 × cS) := Option.bind (fX7_number L Nf σ k0 (3 : Int32) (999 : Int32)) (fun r1 => bnd (st2 r1.2 k0 15 r1.1) (fun σ2 => if (σ2 k0 15) < 0 then (fX7_readsOrder_304 L Nf k0 (0 : Int32) σ2) else (fX7_readsOrder_304 L Nf k0 (1 : Int32) σ2)))
set_option maxHeartbeats 4000000 in
set_option maxRecDepth 100000 in
theorem sX7_readsOrder_280 {K : MCx} {G : Lay} (X : Cx K G RX7 cX7_readsOrder 2 (some .boolean) 3 70) (Nf : Nat) (k0 : Nat) (hk0 : isMod G k0) (h : Int64) (σ : cS) : Sm K G TT (QM K G (fun r : (Int32 × cS) => ((some (.int r.1), h, r.2) : Option Value × Int64 × cS))) 2 280 [(0, .ref (la G k0))] [] h σ (fX7_readsOrder_280 (ll G) Nf k0 σ) := by
  unfold fX7_readsOrder_280
  refine z_aload_n X dX7_readsOrder_280 0 rfl ?_
  refine z_aload_n X dX7_readsOrder_281 0 rfl ?_
  refine z_iconst (v := (3 : Int32)) X dX7_readsOrder_282 (by decide) ?_
  refine z_sipush (v := (999 : Int32)) X dX7_readsOrder_283 (by decide) ?_
  refine z_callV0 X (g := (fun r1 : (Int32 × cS) => ((some (.int r1.1), h, r1.2) : Option Value × Int64 × cS))) (st := [.ref (la G k0)]) (st1 := (fun r1 : (Int32 × cS) => [.int r1.1, .ref (la G k0)])) (rmf := 2) (rml := 45) [.int (3 : Int32), .int (999 : Int32)] k0 cal_X7_number q_35_18 ⟨Nat.le_of_ble_eq_true rfl, Nat.le_of_ble_eq_true rfl⟩ rfl rfl (Nat.le_of_ble_eq_true rfl) rfl hk0.1 (ce7 hk0.1 _ _) (ctX7_number (kl K) G X.2.2.2.2.2.2.2.1 Nf h σ k0 hk0 (3 : Int32) (999 : Int32)) dX7_readsOrder_286 (fun _ => rfl) (fun r1 => ?_)
  refine z_put X inlX7 rfl hk0.1 (ce7 hk0.1 _ _) 15 (by decide) q_35_8 tyX7 tyX7_ok nmX7 rfl (cp7 hk0.1 _ _ _ 15 (by decide)) rfl rfl (Nat.le_of_ble_eq_true rfl) dX7_readsOrder_289 (fun σ2 => ?_)
  refine z_aload_n X dX7_readsOrder_292 0 rfl ?_
  refine z_get X inlX7 rfl hk0.1 (ce7 hk0.1 _ _) 15 (by decide) q_35_8 rfl dX7_readsOrder_293 ?_
  refine z_if_lt X 303 dX7_readsOrder_296 (by decide) ?_ ?_
  · refine z_iconst (v := (0 : Int32)) X dX7_readsOrder_303 (by decide) ?_
    exact z_sub [0] rfl (sX7_readsOrder_304 X Nf k0 hk0 h (0 : Int32) σ2)
  · refine z_iconst (v := (1 : Int32)) X dX7_readsOrder_299 (by decide) ?_
    refine z_goto X 304 dX7_readsOrder_300 (by decide) ?_
    exact z_sub [0] rfl (sX7_readsOrder_304 X Nf k0 hk0 h (1 : Int32) σ2)
def fX7_readsOrder_262 (L : Nat → Nat) (Nf : Nat) (k0 : Nat) (x1 : Int32) (σ : cS) : Option (Int32 × cS) := if (σ k0 14) = (45 : Int32) then (fX7_readsOrder_280 L Nf k0 σ) else (if (σ k0 14) = (116 : Int32) then (fX7_readsOrder_280 L Nf k0 σ) else (fX7_readsOrder_305 L Nf k0 x1 σ))
set_option maxHeartbeats 4000000 in
set_option maxRecDepth 100000 in
theorem sX7_readsOrder_262 {K : MCx} {G : Lay} (X : Cx K G RX7 cX7_readsOrder 2 (some .boolean) 3 70) (Nf : Nat) (k0 : Nat) (hk0 : isMod G k0) (h : Int64) (x1 : Int32) (σ : cS) : Sm K G TT (QM K G (fun r : (Int32 × cS) => ((some (.int r.1), h, r.2) : Option Value × Int64 × cS))) 2 262 [(0, .ref (la G k0)), (1, .int x1)] [] h σ (fX7_readsOrder_262 (ll G) Nf k0 x1 σ) := by
  unfold fX7_readsOrder_262
  refine z_aload_n X dX7_readsOrder_262 0 rfl ?_
  refine z_get X inlX7 rfl hk0.1 (ce7 hk0.1 _ _) 14 (by decide) q_35_7 rfl dX7_readsOrder_263 ?_
  refine z_bipush (v := (45 : Int32)) X dX7_readsOrder_266 (by decide) ?_
  refine z_icmp_eq X 280 dX7_readsOrder_268 (by decide) ?_ ?_
  · exact z_sub [0] rfl (sX7_readsOrder_280 X Nf k0 hk0 h σ)
  · refine z_aload_n X dX7_readsOrder_271 0 rfl ?_
    refine z_get X inlX7 rfl hk0.1 (ce7 hk0.1 _ _) 14 (by decide) q_35_7 rfl dX7_readsOrder_272 ?_
    refine z_bipush (v := (116 : Int32)) X dX7_readsOrder_275 (by decide) ?_
    refine z_icmp_ne X 305 dX7_readsOrder_277 (by decide) ?_ ?_
    · exact z_sub [0] rfl (sX7_readsOrder_280 X Nf k0 hk0 h σ)
    · exact z_sub [0, 1] rfl (sX7_readsOrder_305 X Nf k0 hk0 h x1 σ)
def fX7_readsOrder_261 (L : Nat → Nat) (Nf : Nat) (k0 : Nat) (y0 : Int32) (σ : cS) : Option (Int32 × cS) := fX7_readsOrder_262 L Nf k0 y0 σ
set_option maxHeartbeats 4000000 in
set_option maxRecDepth 100000 in
theorem sX7_readsOrder_261 {K : MCx} {G : Lay} (X : Cx K G RX7 cX7_readsOrder 2 (some .boolean) 3 70) (Nf : Nat) (k0 : Nat) (hk0 : isMod G k0) (h : Int64) (y0 : Int32) (σ : cS) : Sm K G TT (QM K G (fun r : (Int32 × cS) => ((some (.int r.1), h, r.2) : Option Value × Int64 × cS))) 2 261 [(0, .ref (la G k0))] [.int y0] h σ (fX7_readsOrder_261 (ll G) Nf k0 y0 σ) := by
  unfold fX7_readsOrder_261
  refine z_istore_n X [(1, .int y0), (0, .ref (la G k0))] dX7_readsOrder_261 (by decide) rfl ?_
  exact z_sub [1, 0] rfl (sX7_readsOrder_262 X Nf k0 hk0 h y0 σ)
def fX7_readsOrder_260 (L : Nat → Nat) (Nf : Nat) (k0 : Nat) (σ : cS) : Option (Int32 × cS) := fX7_readsOrder_261 L Nf k0 (0 : Int32) σ
set_option maxHeartbeats 4000000 in
set_option maxRecDepth 100000 in
theorem sX7_readsOrder_260 {K : MCx} {G : Lay} (X : Cx K G RX7 cX7_readsOrder 2 (some .boolean) 3 70) (Nf : Nat) (k0 : Nat) (hk0 : isMod G k0) (h : Int64) (σ : cS) : Sm K G TT (QM K G (fun r : (Int32 × cS) => ((some (.int r.1), h, r.2) : Option Value × Int64 × cS))) 2 260 [(0, .ref (la G k0))] [] h σ (fX7_readsOrder_260 (ll G) Nf k0 σ) := by
  unfold fX7_readsOrder_260
  refine z_iconst (v := (0 : Int32)) X dX7_readsOrder_260 (by decide) ?_
  exact z_sub [0] rfl (sX7_readsOrder_261 X Nf k0 hk0 h (0 : Int32) σ)
def fX7_readsOrder_242 (L : Nat → Nat) (Nf : Nat) (k0 : Nat) (x1 : Int32) (y1 : Int32) (σ : cS) : Option (Int32 × cS) := bnd (st2 σ k0 16 y1) (fun σ1 => if x1 = 0 then (fX7_readsOrder_260 L Nf k0 σ1) else (if (σ1 k0 16) < 0 then (fX7_readsOrder_260 L Nf k0 σ1) else (fX7_readsOrder_261 L Nf k0 (1 : Int32) σ1)))
set_option maxHeartbeats 4000000 in
set_option maxRecDepth 100000 in
theorem sX7_readsOrder_242 {K : MCx} {G : Lay} (X : Cx K G RX7 cX7_readsOrder 2 (some .boolean) 3 70) (Nf : Nat) (k0 : Nat) (hk0 : isMod G k0) (h : Int64) (x1 : Int32) (y1 : Int32) (σ : cS) : Sm K G TT (QM K G (fun r : (Int32 × cS) => ((some (.int r.1), h, r.2) : Option Value × Int64 × cS))) 2 242 [(0, .ref (la G k0)), (1, .int x1)] [.int y1, .ref (la G k0)] h σ (fX7_readsOrder_242 (ll G) Nf k0 x1 y1 σ) := by
  unfold fX7_readsOrder_242
  refine z_put X inlX7 rfl hk0.1 (ce7 hk0.1 _ _) 16 (by decide) q_35_9 tyX7 tyX7_ok nmX7 rfl (cp7 hk0.1 _ _ _ 16 (by decide)) rfl rfl (Nat.le_of_ble_eq_true rfl) dX7_readsOrder_242 (fun σ1 => ?_)
  refine z_iload_n X dX7_readsOrder_245 1 rfl ?_
  refine z_if_eq X 260 dX7_readsOrder_246 (by decide) ?_ ?_
  · exact z_sub [0] rfl (sX7_readsOrder_260 X Nf k0 hk0 h σ1)
  · refine z_aload_n X dX7_readsOrder_249 0 rfl ?_
    refine z_get X inlX7 rfl hk0.1 (ce7 hk0.1 _ _) 16 (by decide) q_35_9 rfl dX7_readsOrder_250 ?_
    refine z_if_lt X 260 dX7_readsOrder_253 (by decide) ?_ ?_
    · exact z_sub [0] rfl (sX7_readsOrder_260 X Nf k0 hk0 h σ1)
    · refine z_iconst (v := (1 : Int32)) X dX7_readsOrder_256 (by decide) ?_
      refine z_goto X 261 dX7_readsOrder_257 (by decide) ?_
      exact z_sub [0] rfl (sX7_readsOrder_261 X Nf k0 hk0 h (1 : Int32) σ1)
def fX7_readsOrder_204 (L : Nat → Nat) (Nf : Nat) (k0 : Nat) (x1 : Int32) (σ : cS) : Option (Int32 × cS) := if x1 = 0 then (fX7_readsOrder_262 L Nf k0 x1 σ) else (if (σ k0 14) = (99 : Int32) then (Option.bind (fX7_takes L σ k0 (61 : Int32) (61 : Int32)) (fun r1 => if r1.1 = 0 then (fX7_readsOrder_242 L Nf k0 r1.1 (0 : Int32) r1.2) else (Option.bind (fX7_number L Nf r1.2 k0 (2 : Int32) (40 : Int32)) (fun r2 => fX7_readsOrder_242 L Nf k0 r1.1 r2.1 r2.2)))) else (fX7_readsOrder_262 L Nf k0 x1 σ))
set_option maxHeartbeats 4000000 in
set_option maxRecDepth 100000 in
theorem sX7_readsOrder_204 {K : MCx} {G : Lay} (X : Cx K G RX7 cX7_readsOrder 2 (some .boolean) 3 70) (Nf : Nat) (k0 : Nat) (hk0 : isMod G k0) (h : Int64) (x1 : Int32) (σ : cS) : Sm K G TT (QM K G (fun r : (Int32 × cS) => ((some (.int r.1), h, r.2) : Option Value × Int64 × cS))) 2 204 [(0, .ref (la G k0)), (1, .int x1)] [] h σ (fX7_readsOrder_204 (ll G) Nf k0 x1 σ) := by
  unfold fX7_readsOrder_204
  refine z_iload_n X dX7_readsOrder_204 1 rfl ?_
  refine z_if_eq X 262 dX7_readsOrder_205 (by decide) ?_ ?_
  · exact z_sub [0, 1] rfl (sX7_readsOrder_262 X Nf k0 hk0 h x1 σ)
  · refine z_aload_n X dX7_readsOrder_208 0 rfl ?_
    refine z_get X inlX7 rfl hk0.1 (ce7 hk0.1 _ _) 14 (by decide) q_35_7 rfl dX7_readsOrder_209 ?_
    refine z_bipush (v := (99 : Int32)) X dX7_readsOrder_212 (by decide) ?_
    refine z_icmp_ne X 262 dX7_readsOrder_214 (by decide) ?_ ?_
    · refine z_aload_n X dX7_readsOrder_217 0 rfl ?_
      refine z_bipush (v := (61 : Int32)) X dX7_readsOrder_218 (by decide) ?_
      refine z_bipush (v := (61 : Int32)) X dX7_readsOrder_220 (by decide) ?_
      refine z_callV0 X (g := (fun r1 : (Int32 × cS) => ((some (.int r1.1), h, r1.2) : Option Value × Int64 × cS))) (st := []) (st1 := (fun r1 : (Int32 × cS) => [.int r1.1])) (rmf := 1) (rml := 22) [.int (61 : Int32), .int (61 : Int32)] k0 cal_X7_takes q_35_14 ⟨Nat.le_of_ble_eq_true rfl, Nat.le_of_ble_eq_true rfl⟩ rfl rfl (Nat.le_of_ble_eq_true rfl) rfl hk0.1 (ce7 hk0.1 _ _) (ctX7_takes (kl K) G X.2.2.2.2.2.2.2.1 h σ k0 hk0 (61 : Int32) (61 : Int32)) dX7_readsOrder_222 (fun _ => rfl) (fun r1 => ?_)
      refine z_istore_n X [(1, .int r1.1), (0, .ref (la G k0))] dX7_readsOrder_225 (by decide) rfl ?_
      refine z_aload_n X dX7_readsOrder_226 1 rfl ?_
      refine z_iload_n X dX7_readsOrder_227 0 rfl ?_
      refine z_if_eq X 241 dX7_readsOrder_228 (by decide) ?_ ?_
      · refine z_iconst (v := (0 : Int32)) X dX7_readsOrder_241 (by decide) ?_
        exact z_sub [1, 0] rfl (sX7_readsOrder_242 X Nf k0 hk0 h r1.1 (0 : Int32) r1.2)
      · refine z_aload_n X dX7_readsOrder_231 1 rfl ?_
        refine z_iconst (v := (2 : Int32)) X dX7_readsOrder_232 (by decide) ?_
        refine z_bipush (v := (40 : Int32)) X dX7_readsOrder_233 (by decide) ?_
        refine z_callV0 X (g := (fun r2 : (Int32 × cS) => ((some (.int r2.1), h, r2.2) : Option Value × Int64 × cS))) (st := [.ref (la G k0)]) (st1 := (fun r2 : (Int32 × cS) => [.int r2.1, .ref (la G k0)])) (rmf := 2) (rml := 45) [.int (2 : Int32), .int (40 : Int32)] k0 cal_X7_number q_35_18 ⟨Nat.le_of_ble_eq_true rfl, Nat.le_of_ble_eq_true rfl⟩ rfl rfl (Nat.le_of_ble_eq_true rfl) rfl hk0.1 (ce7 hk0.1 _ _) (ctX7_number (kl K) G X.2.2.2.2.2.2.2.1 Nf h r1.2 k0 hk0 (2 : Int32) (40 : Int32)) dX7_readsOrder_235 (fun _ => rfl) (fun r2 => ?_)
        refine z_goto X 242 dX7_readsOrder_238 (by decide) ?_
        exact z_sub [1, 0] rfl (sX7_readsOrder_242 X Nf k0 hk0 h r1.1 r2.1 r2.2)
    · exact z_sub [0, 1] rfl (sX7_readsOrder_262 X Nf k0 hk0 h x1 σ)
def fX7_readsOrder_201 (L : Nat → Nat) (Nf : Nat) (k0 : Nat) (x1 : Int32) (y1 : Int32) (σ : cS) : Option (Int32 × cS) := bnd (st2 σ k0 16 y1) (fun σ1 => fX7_readsOrder_204 L Nf k0 x1 σ1)
set_option maxHeartbeats 4000000 in
set_option maxRecDepth 100000 in
theorem sX7_readsOrder_201 {K : MCx} {G : Lay} (X : Cx K G RX7 cX7_readsOrder 2 (some .boolean) 3 70) (Nf : Nat) (k0 : Nat) (hk0 : isMod G k0) (h : Int64) (x1 : Int32) (y1 : Int32) (σ : cS) : Sm K G TT (QM K G (fun r : (Int32 × cS) => ((some (.int r.1), h, r.2) : Option Value × Int64 × cS))) 2 201 [(0, .ref (la G k0)), (1, .int x1)] [.int y1, .ref (la G k0)] h σ (fX7_readsOrder_201 (ll G) Nf k0 x1 y1 σ) := by
  unfold fX7_readsOrder_201
  refine z_put X inlX7 rfl hk0.1 (ce7 hk0.1 _ _) 16 (by decide) q_35_9 tyX7 tyX7_ok nmX7 rfl (cp7 hk0.1 _ _ _ 16 (by decide)) rfl rfl (Nat.le_of_ble_eq_true rfl) dX7_readsOrder_201 (fun σ1 => ?_)
  exact z_sub [0, 1] rfl (sX7_readsOrder_204 X Nf k0 hk0 h x1 σ1)
def fX7_readsOrder_156 (L : Nat → Nat) (Nf : Nat) (k0 : Nat) (x1 : Int32) (σ : cS) : Option (Int32 × cS) := if x1 = 0 then (fX7_readsOrder_204 L Nf k0 x1 σ) else (if (σ k0 14) = (43 : Int32) then (Option.bind (fX7_takes L σ k0 (97 : Int32) (108 : Int32)) (fun r1 => if r1.1 = 0 then (fX7_readsOrder_201 L Nf k0 r1.1 (0 : Int32) r1.2) else (grd (inb ((r1.2 k0 12) - (1 : Int32)) (L (k0 + 4))) (fX7_readsOrder_201 L Nf k0 r1.1 ((r1.2 (k0 + 4) ((r1.2 k0 12) - (1 : Int32)).toNatClampNeg) - (97 : Int32)) r1.2)))) else (fX7_readsOrder_204 L Nf k0 x1 σ))
set_option maxHeartbeats 4000000 in
set_option maxRecDepth 100000 in
theorem sX7_readsOrder_156 {K : MCx} {G : Lay} (X : Cx K G RX7 cX7_readsOrder 2 (some .boolean) 3 70) (Nf : Nat) (k0 : Nat) (hk0 : isMod G k0) (h : Int64) (x1 : Int32) (σ : cS) : Sm K G TT (QM K G (fun r : (Int32 × cS) => ((some (.int r.1), h, r.2) : Option Value × Int64 × cS))) 2 156 [(0, .ref (la G k0)), (1, .int x1)] [] h σ (fX7_readsOrder_156 (ll G) Nf k0 x1 σ) := by
  unfold fX7_readsOrder_156
  refine z_iload_n X dX7_readsOrder_156 1 rfl ?_
  refine z_if_eq X 204 dX7_readsOrder_157 (by decide) ?_ ?_
  · exact z_sub [0, 1] rfl (sX7_readsOrder_204 X Nf k0 hk0 h x1 σ)
  · refine z_aload_n X dX7_readsOrder_160 0 rfl ?_
    refine z_get X inlX7 rfl hk0.1 (ce7 hk0.1 _ _) 14 (by decide) q_35_7 rfl dX7_readsOrder_161 ?_
    refine z_bipush (v := (43 : Int32)) X dX7_readsOrder_164 (by decide) ?_
    refine z_icmp_ne X 204 dX7_readsOrder_166 (by decide) ?_ ?_
    · refine z_aload_n X dX7_readsOrder_169 0 rfl ?_
      refine z_bipush (v := (97 : Int32)) X dX7_readsOrder_170 (by decide) ?_
      refine z_bipush (v := (108 : Int32)) X dX7_readsOrder_172 (by decide) ?_
      refine z_callV0 X (g := (fun r1 : (Int32 × cS) => ((some (.int r1.1), h, r1.2) : Option Value × Int64 × cS))) (st := []) (st1 := (fun r1 : (Int32 × cS) => [.int r1.1])) (rmf := 1) (rml := 22) [.int (97 : Int32), .int (108 : Int32)] k0 cal_X7_takes q_35_14 ⟨Nat.le_of_ble_eq_true rfl, Nat.le_of_ble_eq_true rfl⟩ rfl rfl (Nat.le_of_ble_eq_true rfl) rfl hk0.1 (ce7 hk0.1 _ _) (ctX7_takes (kl K) G X.2.2.2.2.2.2.2.1 h σ k0 hk0 (97 : Int32) (108 : Int32)) dX7_readsOrder_174 (fun _ => rfl) (fun r1 => ?_)
      refine z_istore_n X [(1, .int r1.1), (0, .ref (la G k0))] dX7_readsOrder_177 (by decide) rfl ?_
      refine z_aload_n X dX7_readsOrder_178 1 rfl ?_
      refine z_iload_n X dX7_readsOrder_179 0 rfl ?_
      refine z_if_eq X 200 dX7_readsOrder_180 (by decide) ?_ ?_
      · refine z_iconst (v := (0 : Int32)) X dX7_readsOrder_200 (by decide) ?_
        exact z_sub [1, 0] rfl (sX7_readsOrder_201 X Nf k0 hk0 h r1.1 (0 : Int32) r1.2)
      · refine z_aload_n X dX7_readsOrder_183 1 rfl ?_
        refine z_get X inlX7 rfl hk0.1 (ce7 hk0.1 _ _) 3 (by decide) q_5_7 rfl dX7_readsOrder_184 ?_
        refine z_aload_n X dX7_readsOrder_187 1 rfl ?_
        refine z_get X inlX7 rfl hk0.1 (ce7 hk0.1 _ _) 12 (by decide) q_35_1 rfl dX7_readsOrder_188 ?_
        refine z_iconst (v := (1 : Int32)) X dX7_readsOrder_191 (by decide) ?_
        refine z_isub X dX7_readsOrder_192 ?_
        refine z_iald X hk0.2.2.2.2.1 dX7_readsOrder_193 ?_
        refine z_bipush (v := (97 : Int32)) X dX7_readsOrder_194 (by decide) ?_
        refine z_isub X dX7_readsOrder_196 ?_
        refine z_goto X 201 dX7_readsOrder_197 (by decide) ?_
        exact z_sub [1, 0] rfl (sX7_readsOrder_201 X Nf k0 hk0 h r1.1 ((r1.2 (k0 + 4) ((r1.2 k0 12) - (1 : Int32)).toNatClampNeg) - (97 : Int32)) r1.2)
    · exact z_sub [0, 1] rfl (sX7_readsOrder_204 X Nf k0 hk0 h x1 σ)
def fX7_readsOrder_153 (L : Nat → Nat) (Nf : Nat) (k0 : Nat) (x1 : Int32) (y1 : Int32) (σ : cS) : Option (Int32 × cS) := bnd (st2 σ k0 15 y1) (fun σ1 => fX7_readsOrder_156 L Nf k0 x1 σ1)
set_option maxHeartbeats 4000000 in
set_option maxRecDepth 100000 in
theorem sX7_readsOrder_153 {K : MCx} {G : Lay} (X : Cx K G RX7 cX7_readsOrder 2 (some .boolean) 3 70) (Nf : Nat) (k0 : Nat) (hk0 : isMod G k0) (h : Int64) (x1 : Int32) (y1 : Int32) (σ : cS) : Sm K G TT (QM K G (fun r : (Int32 × cS) => ((some (.int r.1), h, r.2) : Option Value × Int64 × cS))) 2 153 [(0, .ref (la G k0)), (1, .int x1)] [.int y1, .ref (la G k0)] h σ (fX7_readsOrder_153 (ll G) Nf k0 x1 y1 σ) := by
  unfold fX7_readsOrder_153
  refine z_put X inlX7 rfl hk0.1 (ce7 hk0.1 _ _) 15 (by decide) q_35_8 tyX7 tyX7_ok nmX7 rfl (cp7 hk0.1 _ _ _ 15 (by decide)) rfl rfl (Nat.le_of_ble_eq_true rfl) dX7_readsOrder_153 (fun σ1 => ?_)
  exact z_sub [0, 1] rfl (sX7_readsOrder_156 X Nf k0 hk0 h x1 σ1)
def fX7_readsOrder_121 (L : Nat → Nat) (Nf : Nat) (k0 : Nat) (σ : cS) : Option (Int32 × cS) := Option.bind (fX7_takes L σ k0 (97 : Int32) (108 : Int32)) (fun r1 => if r1.1 = 0 then (fX7_readsOrder_153 L Nf k0 r1.1 (0 : Int32) r1.2) else (grd (inb ((r1.2 k0 12) - (1 : Int32)) (L (k0 + 4))) (fX7_readsOrder_153 L Nf k0 r1.1 ((r1.2 (k0 + 4) ((r1.2 k0 12) - (1 : Int32)).toNatClampNeg) - (97 : Int32)) r1.2)))
set_option maxHeartbeats 4000000 in
set_option maxRecDepth 100000 in
theorem sX7_readsOrder_121 {K : MCx} {G : Lay} (X : Cx K G RX7 cX7_readsOrder 2 (some .boolean) 3 70) (Nf : Nat) (k0 : Nat) (hk0 : isMod G k0) (h : Int64) (σ : cS) : Sm K G TT (QM K G (fun r : (Int32 × cS) => ((some (.int r.1), h, r.2) : Option Value × Int64 × cS))) 2 121 [(0, .ref (la G k0))] [] h σ (fX7_readsOrder_121 (ll G) Nf k0 σ) := by
  unfold fX7_readsOrder_121
  refine z_aload_n X dX7_readsOrder_121 0 rfl ?_
  refine z_bipush (v := (97 : Int32)) X dX7_readsOrder_122 (by decide) ?_
  refine z_bipush (v := (108 : Int32)) X dX7_readsOrder_124 (by decide) ?_
  refine z_callV0 X (g := (fun r1 : (Int32 × cS) => ((some (.int r1.1), h, r1.2) : Option Value × Int64 × cS))) (st := []) (st1 := (fun r1 : (Int32 × cS) => [.int r1.1])) (rmf := 1) (rml := 22) [.int (97 : Int32), .int (108 : Int32)] k0 cal_X7_takes q_35_14 ⟨Nat.le_of_ble_eq_true rfl, Nat.le_of_ble_eq_true rfl⟩ rfl rfl (Nat.le_of_ble_eq_true rfl) rfl hk0.1 (ce7 hk0.1 _ _) (ctX7_takes (kl K) G X.2.2.2.2.2.2.2.1 h σ k0 hk0 (97 : Int32) (108 : Int32)) dX7_readsOrder_126 (fun _ => rfl) (fun r1 => ?_)
  refine z_istore_n X [(1, .int r1.1), (0, .ref (la G k0))] dX7_readsOrder_129 (by decide) rfl ?_
  refine z_aload_n X dX7_readsOrder_130 1 rfl ?_
  refine z_iload_n X dX7_readsOrder_131 0 rfl ?_
  refine z_if_eq X 152 dX7_readsOrder_132 (by decide) ?_ ?_
  · refine z_iconst (v := (0 : Int32)) X dX7_readsOrder_152 (by decide) ?_
    exact z_sub [1, 0] rfl (sX7_readsOrder_153 X Nf k0 hk0 h r1.1 (0 : Int32) r1.2)
  · refine z_aload_n X dX7_readsOrder_135 1 rfl ?_
    refine z_get X inlX7 rfl hk0.1 (ce7 hk0.1 _ _) 3 (by decide) q_5_7 rfl dX7_readsOrder_136 ?_
    refine z_aload_n X dX7_readsOrder_139 1 rfl ?_
    refine z_get X inlX7 rfl hk0.1 (ce7 hk0.1 _ _) 12 (by decide) q_35_1 rfl dX7_readsOrder_140 ?_
    refine z_iconst (v := (1 : Int32)) X dX7_readsOrder_143 (by decide) ?_
    refine z_isub X dX7_readsOrder_144 ?_
    refine z_iald X hk0.2.2.2.2.1 dX7_readsOrder_145 ?_
    refine z_bipush (v := (97 : Int32)) X dX7_readsOrder_146 (by decide) ?_
    refine z_isub X dX7_readsOrder_148 ?_
    refine z_goto X 153 dX7_readsOrder_149 (by decide) ?_
    exact z_sub [1, 0] rfl (sX7_readsOrder_153 X Nf k0 hk0 h r1.1 ((r1.2 (k0 + 4) ((r1.2 k0 12) - (1 : Int32)).toNatClampNeg) - (97 : Int32)) r1.2)
def fX7_readsOrder_82 (L : Nat → Nat) (Nf : Nat) (k0 : Nat) (σ : cS) : Option (Int32 × cS) := bnd (st2 σ k0 12 ((σ k0 12) + (1 : Int32))) (fun σ1 => if (σ1 k0 14) = (43 : Int32) then (fX7_readsOrder_121 L Nf k0 σ1) else (if (σ1 k0 14) = (114 : Int32) then (fX7_readsOrder_121 L Nf k0 σ1) else (if (σ1 k0 14) = (99 : Int32) then (fX7_readsOrder_121 L Nf k0 σ1) else (fX7_readsOrder_156 L Nf k0 (1 : Int32) σ1))))
set_option maxHeartbeats 4000000 in
set_option maxRecDepth 100000 in
theorem sX7_readsOrder_82 {K : MCx} {G : Lay} (X : Cx K G RX7 cX7_readsOrder 2 (some .boolean) 3 70) (Nf : Nat) (k0 : Nat) (hk0 : isMod G k0) (h : Int64) (σ : cS) : Sm K G TT (QM K G (fun r : (Int32 × cS) => ((some (.int r.1), h, r.2) : Option Value × Int64 × cS))) 2 82 [(0, .ref (la G k0))] [] h σ (fX7_readsOrder_82 (ll G) Nf k0 σ) := by
  unfold fX7_readsOrder_82
  refine z_aload_n X dX7_readsOrder_82 0 rfl ?_
  refine z_dup X dX7_readsOrder_83 rfl ?_
  refine z_get X inlX7 rfl hk0.1 (ce7 hk0.1 _ _) 12 (by decide) q_35_1 rfl dX7_readsOrder_84 ?_
  refine z_iconst (v := (1 : Int32)) X dX7_readsOrder_87 (by decide) ?_
  refine z_iadd X dX7_readsOrder_88 ?_
  refine z_put X inlX7 rfl hk0.1 (ce7 hk0.1 _ _) 12 (by decide) q_35_1 tyX7 tyX7_ok nmX7 rfl (cp7 hk0.1 _ _ _ 12 (by decide)) rfl rfl (Nat.le_of_ble_eq_true rfl) dX7_readsOrder_89 (fun σ1 => ?_)
  refine z_iconst (v := (1 : Int32)) X dX7_readsOrder_92 (by decide) ?_
  refine z_istore_n X [(1, .int (1 : Int32)), (0, .ref (la G k0))] dX7_readsOrder_93 (by decide) rfl ?_
  refine z_aload_n X dX7_readsOrder_94 1 rfl ?_
  refine z_get X inlX7 rfl hk0.1 (ce7 hk0.1 _ _) 14 (by decide) q_35_7 rfl dX7_readsOrder_95 ?_
  refine z_bipush (v := (43 : Int32)) X dX7_readsOrder_98 (by decide) ?_
  refine z_icmp_eq X 121 dX7_readsOrder_100 (by decide) ?_ ?_
  · exact z_sub [1] rfl (sX7_readsOrder_121 X Nf k0 hk0 h σ1)
  · refine z_aload_n X dX7_readsOrder_103 1 rfl ?_
    refine z_get X inlX7 rfl hk0.1 (ce7 hk0.1 _ _) 14 (by decide) q_35_7 rfl dX7_readsOrder_104 ?_
    refine z_bipush (v := (114 : Int32)) X dX7_readsOrder_107 (by decide) ?_
    refine z_icmp_eq X 121 dX7_readsOrder_109 (by decide) ?_ ?_
    · exact z_sub [1] rfl (sX7_readsOrder_121 X Nf k0 hk0 h σ1)
    · refine z_aload_n X dX7_readsOrder_112 1 rfl ?_
      refine z_get X inlX7 rfl hk0.1 (ce7 hk0.1 _ _) 14 (by decide) q_35_7 rfl dX7_readsOrder_113 ?_
      refine z_bipush (v := (99 : Int32)) X dX7_readsOrder_116 (by decide) ?_
      refine z_icmp_ne X 156 dX7_readsOrder_118 (by decide) ?_ ?_
      · exact z_sub [1] rfl (sX7_readsOrder_121 X Nf k0 hk0 h σ1)
      · exact z_sub [1, 0] rfl (sX7_readsOrder_156 X Nf k0 hk0 h (1 : Int32) σ1)
def fX7_readsOrder_0 (L : Nat → Nat) (Nf : Nat) (k0 : Nat) (σ : cS) : Option (Int32 × cS) := Option.bind (fX7_here L σ k0) (fun r1 => bnd (st2 σ k0 14 r1) (fun σ2 => bnd (st2 σ2 k0 15 (0 : Int32)) (fun σ3 => bnd (st2 σ3 k0 16 (0 : Int32)) (fun σ4 => if (σ4 k0 14) = (43 : Int32) then (fX7_readsOrder_82 L Nf k0 σ4) else (if (σ4 k0 14) = (45 : Int32) then (fX7_readsOrder_82 L Nf k0 σ4) else (if (σ4 k0 14) = (116 : Int32) then (fX7_readsOrder_82 L Nf k0 σ4) else (if (σ4 k0 14) = (114 : Int32) then (fX7_readsOrder_82 L Nf k0 σ4) else (if (σ4 k0 14) = (98 : Int32) then (fX7_readsOrder_82 L Nf k0 σ4) else (if (σ4 k0 14) = (99 : Int32) then (fX7_readsOrder_82 L Nf k0 σ4) else (bnd (st2 σ4 k0 13 (σ4 k0 12)) (fun σ5 => grd (isb (0 : Int32)) (some ((0 : Int32), σ5)))))))))))))
set_option maxHeartbeats 4000000 in
set_option maxRecDepth 100000 in
theorem sX7_readsOrder_0 {K : MCx} {G : Lay} (X : Cx K G RX7 cX7_readsOrder 2 (some .boolean) 3 70) (Nf : Nat) (k0 : Nat) (hk0 : isMod G k0) (h : Int64) (σ : cS) : Sm K G TT (QM K G (fun r : (Int32 × cS) => ((some (.int r.1), h, r.2) : Option Value × Int64 × cS))) 2 0 [(0, .ref (la G k0))] [] h σ (fX7_readsOrder_0 (ll G) Nf k0 σ) := by
  unfold fX7_readsOrder_0
  refine z_aload_n X dX7_readsOrder_0 0 rfl ?_
  refine z_aload_n X dX7_readsOrder_1 0 rfl ?_
  refine z_callV0 X (g := (fun r1 : Int32 => ((some (.int r1), h, σ) : Option Value × Int64 × cS))) (st := [.ref (la G k0)]) (st1 := (fun r1 : Int32 => [.int r1, .ref (la G k0)])) (rmf := 0) (rml := 0) [] k0 cal_X7_here q_35_10 ⟨Nat.le_of_ble_eq_true rfl, Nat.le_of_ble_eq_true rfl⟩ rfl rfl (Nat.le_of_ble_eq_true rfl) rfl hk0.1 (ce7 hk0.1 _ _) (ctX7_here (kl K) G X.2.2.2.2.2.2.2.1 h σ k0 hk0 ) dX7_readsOrder_2 (fun _ => rfl) (fun r1 => ?_)
  refine z_put X inlX7 rfl hk0.1 (ce7 hk0.1 _ _) 14 (by decide) q_35_7 tyX7 tyX7_ok nmX7 rfl (cp7 hk0.1 _ _ _ 14 (by decide)) rfl rfl (Nat.le_of_ble_eq_true rfl) dX7_readsOrder_5 (fun σ2 => ?_)
  refine z_aload_n X dX7_readsOrder_8 0 rfl ?_
  refine z_iconst (v := (0 : Int32)) X dX7_readsOrder_9 (by decide) ?_
  refine z_put X inlX7 rfl hk0.1 (ce7 hk0.1 _ _) 15 (by decide) q_35_8 tyX7 tyX7_ok nmX7 rfl (cp7 hk0.1 _ _ _ 15 (by decide)) rfl rfl (Nat.le_of_ble_eq_true rfl) dX7_readsOrder_10 (fun σ3 => ?_)
  refine z_aload_n X dX7_readsOrder_13 0 rfl ?_
  refine z_iconst (v := (0 : Int32)) X dX7_readsOrder_14 (by decide) ?_
  refine z_put X inlX7 rfl hk0.1 (ce7 hk0.1 _ _) 16 (by decide) q_35_9 tyX7 tyX7_ok nmX7 rfl (cp7 hk0.1 _ _ _ 16 (by decide)) rfl rfl (Nat.le_of_ble_eq_true rfl) dX7_readsOrder_15 (fun σ4 => ?_)
  refine z_aload_n X dX7_readsOrder_18 0 rfl ?_
  refine z_get X inlX7 rfl hk0.1 (ce7 hk0.1 _ _) 14 (by decide) q_35_7 rfl dX7_readsOrder_19 ?_
  refine z_bipush (v := (43 : Int32)) X dX7_readsOrder_22 (by decide) ?_
  refine z_icmp_eq X 82 dX7_readsOrder_24 (by decide) ?_ ?_
  · exact z_sub [0] rfl (sX7_readsOrder_82 X Nf k0 hk0 h σ4)
  · refine z_aload_n X dX7_readsOrder_27 0 rfl ?_
    refine z_get X inlX7 rfl hk0.1 (ce7 hk0.1 _ _) 14 (by decide) q_35_7 rfl dX7_readsOrder_28 ?_
    refine z_bipush (v := (45 : Int32)) X dX7_readsOrder_31 (by decide) ?_
    refine z_icmp_eq X 82 dX7_readsOrder_33 (by decide) ?_ ?_
    · exact z_sub [0] rfl (sX7_readsOrder_82 X Nf k0 hk0 h σ4)
    · refine z_aload_n X dX7_readsOrder_36 0 rfl ?_
      refine z_get X inlX7 rfl hk0.1 (ce7 hk0.1 _ _) 14 (by decide) q_35_7 rfl dX7_readsOrder_37 ?_
      refine z_bipush (v := (116 : Int32)) X dX7_readsOrder_40 (by decide) ?_
      refine z_icmp_eq X 82 dX7_readsOrder_42 (by decide) ?_ ?_
      · exact z_sub [0] rfl (sX7_readsOrder_82 X Nf k0 hk0 h σ4)
      · refine z_aload_n X dX7_readsOrder_45 0 rfl ?_
        refine z_get X inlX7 rfl hk0.1 (ce7 hk0.1 _ _) 14 (by decide) q_35_7 rfl dX7_readsOrder_46 ?_
        refine z_bipush (v := (114 : Int32)) X dX7_readsOrder_49 (by decide) ?_
        refine z_icmp_eq X 82 dX7_readsOrder_51 (by decide) ?_ ?_
        · exact z_sub [0] rfl (sX7_readsOrder_82 X Nf k0 hk0 h σ4)
        · refine z_aload_n X dX7_readsOrder_54 0 rfl ?_
          refine z_get X inlX7 rfl hk0.1 (ce7 hk0.1 _ _) 14 (by decide) q_35_7 rfl dX7_readsOrder_55 ?_
          refine z_bipush (v := (98 : Int32)) X dX7_readsOrder_58 (by decide) ?_
          refine z_icmp_eq X 82 dX7_readsOrder_60 (by decide) ?_ ?_
          · exact z_sub [0] rfl (sX7_readsOrder_82 X Nf k0 hk0 h σ4)
          · refine z_aload_n X dX7_readsOrder_63 0 rfl ?_
            refine z_get X inlX7 rfl hk0.1 (ce7 hk0.1 _ _) 14 (by decide) q_35_7 rfl dX7_readsOrder_64 ?_
            refine z_bipush (v := (99 : Int32)) X dX7_readsOrder_67 (by decide) ?_
            refine z_icmp_eq X 82 dX7_readsOrder_69 (by decide) ?_ ?_
            · exact z_sub [0] rfl (sX7_readsOrder_82 X Nf k0 hk0 h σ4)
            · refine z_aload_n X dX7_readsOrder_72 0 rfl ?_
              refine z_aload_n X dX7_readsOrder_73 0 rfl ?_
              refine z_get X inlX7 rfl hk0.1 (ce7 hk0.1 _ _) 12 (by decide) q_35_1 rfl dX7_readsOrder_74 ?_
              refine z_put X inlX7 rfl hk0.1 (ce7 hk0.1 _ _) 13 (by decide) q_35_2 tyX7 tyX7_ok nmX7 rfl (cp7 hk0.1 _ _ _ 13 (by decide)) rfl rfl (Nat.le_of_ble_eq_true rfl) dX7_readsOrder_77 (fun σ5 => ?_)
              refine z_iconst (v := (0 : Int32)) X dX7_readsOrder_80 (by decide) ?_
              exact z_zret X rfl dX7_readsOrder_81
def fX7_readsOrder (L : Nat → Nat) (Nf : Nat) (σ : cS) (k0 : Nat) : Option (Int32 × cS) := fX7_readsOrder_0 L Nf k0 σ
set_option maxHeartbeats 4000000 in
set_option maxRecDepth 100000 in
theorem ctX7_readsOrder (l : Launch) (G : Lay) (hi : Inj G) (Nf : Nat) (h : Int64) (σ : cS) (k0 : Nat) (hk0 : isMod G k0) : ∀ r, fX7_readsOrder (ll G) Nf σ k0 = some r → CM l yX7_readsOrder cX7_readsOrder 2 (some .boolean) 3 70 G [.ref (la G k0)] h σ (some (.int r.1), h, r.2) := by
  refine cm_of (g := (fun r : (Int32 × cS) => ((some (.int r.1), h, r.2) : Option Value × Int64 × cS))) (by decide) hi (Nat.le_of_ble_eq_true rfl) (fun K hKl X => ?_)
  unfold fX7_readsOrder
  exact z_sub [0] rfl (sX7_readsOrder_0 X Nf k0 hk0 h σ)
def fX7_does_227 (L : Nat → Nat) (Nf : Nat) (k0 : Nat) (y0 : Int32) (σ : cS) : Option (Int32 × cS) := grd (isb y0) (some (y0, σ))
set_option maxHeartbeats 4000000 in
set_option maxRecDepth 100000 in
theorem sX7_does_227 {K : MCx} {G : Lay} (X : Cx K G RX7 cX7_does 1 (some .boolean) 5 116) (Nf : Nat) (k0 : Nat) (hk0 : isMod G k0) (h : Int64) (y0 : Int32) (σ : cS) : Sm K G TT (QM K G (fun r : (Int32 × cS) => ((some (.int r.1), h, r.2) : Option Value × Int64 × cS))) 1 227 [] [.int y0] h σ (fX7_does_227 (ll G) Nf k0 y0 σ) := by
  unfold fX7_does_227
  exact z_zret X rfl dX7_does_227
def fX7_does_214 (L : Nat → Nat) (Nf : Nat) (k0 : Nat) (y0 : Int32) (σ : cS) : Option (Int32 × cS) := grd (isb y0) (some (y0, σ))
set_option maxHeartbeats 4000000 in
set_option maxRecDepth 100000 in
theorem sX7_does_214 {K : MCx} {G : Lay} (X : Cx K G RX7 cX7_does 1 (some .boolean) 5 116) (Nf : Nat) (k0 : Nat) (hk0 : isMod G k0) (h : Int64) (y0 : Int32) (σ : cS) : Sm K G TT (QM K G (fun r : (Int32 × cS) => ((some (.int r.1), h, r.2) : Option Value × Int64 × cS))) 1 214 [] [.int y0] h σ (fX7_does_214 (ll G) Nf k0 y0 σ) := by
  unfold fX7_does_214
  exact z_zret X rfl dX7_does_214
def fX7_does_213 (L : Nat → Nat) (Nf : Nat) (k0 : Nat) (σ : cS) : Option (Int32 × cS) := fX7_does_214 L Nf k0 (0 : Int32) σ
set_option maxHeartbeats 4000000 in
set_option maxRecDepth 100000 in
theorem sX7_does_213 {K : MCx} {G : Lay} (X : Cx K G RX7 cX7_does 1 (some .boolean) 5 116) (Nf : Nat) (k0 : Nat) (hk0 : isMod G k0) (h : Int64) (σ : cS) : Sm K G TT (QM K G (fun r : (Int32 × cS) => ((some (.int r.1), h, r.2) : Option Value × Int64 × cS))) 1 213 [] [] h σ (fX7_does_213 (ll G) Nf k0 σ) := by
  unfold fX7_does_213
  refine z_iconst (v := (0 : Int32)) X dX7_does_213 (by decide) ?_
  exact z_sub [] rfl (sX7_does_214 X Nf k0 hk0 h (0 : Int32) σ)
def fX7_does_178 (L : Nat → Nat) (Nf : Nat) (k0 : Nat) (y0 : Int32) (σ : cS) : Option (Int32 × cS) := grd (isb y0) (some (y0, σ))
set_option maxHeartbeats 4000000 in
set_option maxRecDepth 100000 in
theorem sX7_does_178 {K : MCx} {G : Lay} (X : Cx K G RX7 cX7_does 1 (some .boolean) 5 116) (Nf : Nat) (k0 : Nat) (hk0 : isMod G k0) (h : Int64) (y0 : Int32) (σ : cS) : Sm K G TT (QM K G (fun r : (Int32 × cS) => ((some (.int r.1), h, r.2) : Option Value × Int64 × cS))) 1 178 [] [.int y0] h σ (fX7_does_178 (ll G) Nf k0 y0 σ) := by
  unfold fX7_does_178
  exact z_zret X rfl dX7_does_178
def fX7_does_177 (L : Nat → Nat) (Nf : Nat) (k0 : Nat) (σ : cS) : Option (Int32 × cS) := fX7_does_178 L Nf k0 (0 : Int32) σ
set_option maxHeartbeats 4000000 in
set_option maxRecDepth 100000 in
theorem sX7_does_177 {K : MCx} {G : Lay} (X : Cx K G RX7 cX7_does 1 (some .boolean) 5 116) (Nf : Nat) (k0 : Nat) (hk0 : isMod G k0) (h : Int64) (σ : cS) : Sm K G TT (QM K G (fun r : (Int32 × cS) => ((some (.int r.1), h, r.2) : Option Value × Int64 × cS))) 1 177 [] [] h σ (fX7_does_177 (ll G) Nf k0 σ) := by
  unfold fX7_does_177
  refine z_iconst (v := (0 : Int32)) X dX7_does_177 (by decide) ?_
  exact z_sub [] rfl (sX7_does_178 X Nf k0 hk0 h (0 : Int32) σ)
def fX7_does_123 (L : Nat → Nat) (Nf : Nat) (k0 : Nat) (y0 : Int32) (σ : cS) : Option (Int32 × cS) := grd (isb y0) (some (y0, σ))
set_option maxHeartbeats 4000000 in
set_option maxRecDepth 100000 in
theorem sX7_does_123 {K : MCx} {G : Lay} (X : Cx K G RX7 cX7_does 1 (some .boolean) 5 116) (Nf : Nat) (k0 : Nat) (hk0 : isMod G k0) (h : Int64) (y0 : Int32) (σ : cS) : Sm K G TT (QM K G (fun r : (Int32 × cS) => ((some (.int r.1), h, r.2) : Option Value × Int64 × cS))) 1 123 [] [.int y0] h σ (fX7_does_123 (ll G) Nf k0 y0 σ) := by
  unfold fX7_does_123
  exact z_zret X rfl dX7_does_123
def fX7_does_122 (L : Nat → Nat) (Nf : Nat) (k0 : Nat) (σ : cS) : Option (Int32 × cS) := fX7_does_123 L Nf k0 (0 : Int32) σ
set_option maxHeartbeats 4000000 in
set_option maxRecDepth 100000 in
theorem sX7_does_122 {K : MCx} {G : Lay} (X : Cx K G RX7 cX7_does 1 (some .boolean) 5 116) (Nf : Nat) (k0 : Nat) (hk0 : isMod G k0) (h : Int64) (σ : cS) : Sm K G TT (QM K G (fun r : (Int32 × cS) => ((some (.int r.1), h, r.2) : Option Value × Int64 × cS))) 1 122 [] [] h σ (fX7_does_122 (ll G) Nf k0 σ) := by
  unfold fX7_does_122
  refine z_iconst (v := (0 : Int32)) X dX7_does_122 (by decide) ?_
  exact z_sub [] rfl (sX7_does_123 X Nf k0 hk0 h (0 : Int32) σ)
def fX7_does_91 (L : Nat → Nat) (Nf : Nat) (k0 : Nat) (y0 : Int32) (σ : cS) : Option (Int32 × cS) := grd (isb y0) (some (y0, σ))
set_option maxHeartbeats 4000000 in
set_option maxRecDepth 100000 in
theorem sX7_does_91 {K : MCx} {G : Lay} (X : Cx K G RX7 cX7_does 1 (some .boolean) 5 116) (Nf : Nat) (k0 : Nat) (hk0 : isMod G k0) (h : Int64) (y0 : Int32) (σ : cS) : Sm K G TT (QM K G (fun r : (Int32 × cS) => ((some (.int r.1), h, r.2) : Option Value × Int64 × cS))) 1 91 [] [.int y0] h σ (fX7_does_91 (ll G) Nf k0 y0 σ) := by
  unfold fX7_does_91
  exact z_zret X rfl dX7_does_91
def fX7_does_90 (L : Nat → Nat) (Nf : Nat) (k0 : Nat) (σ : cS) : Option (Int32 × cS) := fX7_does_91 L Nf k0 (0 : Int32) σ
set_option maxHeartbeats 4000000 in
set_option maxRecDepth 100000 in
theorem sX7_does_90 {K : MCx} {G : Lay} (X : Cx K G RX7 cX7_does 1 (some .boolean) 5 116) (Nf : Nat) (k0 : Nat) (hk0 : isMod G k0) (h : Int64) (σ : cS) : Sm K G TT (QM K G (fun r : (Int32 × cS) => ((some (.int r.1), h, r.2) : Option Value × Int64 × cS))) 1 90 [] [] h σ (fX7_does_90 (ll G) Nf k0 σ) := by
  unfold fX7_does_90
  refine z_iconst (v := (0 : Int32)) X dX7_does_90 (by decide) ?_
  exact z_sub [] rfl (sX7_does_91 X Nf k0 hk0 h (0 : Int32) σ)
def fX7_does_0 (L : Nat → Nat) (Nf : Nat) (k0 : Nat) (σ : cS) : Option (Int32 × cS) := if (σ k0 14) = (43 : Int32) then (Option.bind (fX7_refusesAdd L σ k0 (σ k0 15) (σ k0 16)) (fun r1 => if r1.1 = 0 then (Option.bind (fX7_adds L Nf r1.2 k0 (r1.2 k0 15) (r1.2 k0 16)) (fun r2 => if r2.1 < 0 then (fX7_does_90 L Nf k0 r2.2) else (fX7_does_91 L Nf k0 (1 : Int32) r2.2))) else (fX7_does_90 L Nf k0 r1.2))) else (if (σ k0 14) = (45 : Int32) then (Option.bind (fX7_refusesEdge L Nf σ k0 (σ k0 15)) (fun r3 => if r3.1 = 0 then (Option.bind (fX7_placeOf L Nf r3.2 k0 (r3.2 k0 15)) (fun r4 => Option.bind (fX7_removes L Nf r3.2 k0 r4) (fun r5 => if r5.1 < 0 then (fX7_does_122 L Nf k0 r5.2) else (fX7_does_123 L Nf k0 (1 : Int32) r5.2)))) else (fX7_does_122 L Nf k0 r3.2))) else (if (σ k0 14) = (99 : Int32) then (Option.bind (fX7_refusesCapacity L σ k0 (σ k0 15) (σ k0 16)) (fun r6 => if r6.1 = 0 then (Option.bind (fX7_sets L r6.2 k0 (r6.2 k0 15) (r6.2 k0 16)) (fun r7 => if r7.1 < 0 then (fX7_does_213 L Nf k0 r7.2) else (fX7_does_214 L Nf k0 (1 : Int32) r7.2))) else (fX7_does_213 L Nf k0 r6.2))) else (if (σ k0 14) = (114 : Int32) then (Option.bind (fX7_refusesRelief L Nf σ k0 (σ k0 15)) (fun r8 => if r8.1 = 0 then (Option.bind (fX7_relieves L Nf r8.2 k0 (r8.2 k0 15)) (fun r9 => if r9.1 ≤ 0 then (fX7_does_177 L Nf k0 r9.2) else (fX7_does_178 L Nf k0 (1 : Int32) r9.2))) else (fX7_does_177 L Nf k0 r8.2))) else (if (σ k0 14) = (116 : Int32) then (Option.bind (fX7_refusesEdge L Nf σ k0 (σ k0 15)) (fun r10 => if r10.1 = 0 then (Option.bind (fX7_placeOf L Nf r10.2 k0 (r10.2 k0 15)) (fun r11 => Option.bind (fX7_turns L r10.2 k0 r11) (fun r12 => grd (isb (1 : Int32)) (some ((1 : Int32), r12))))) else (grd (isb (0 : Int32)) (some ((0 : Int32), r10.2))))) else (Option.bind (fX7_balances L Nf σ k0) (fun r13 => if r13.1 < 0 then (fX7_does_227 L Nf k0 (0 : Int32) r13.2) else (fX7_does_227 L Nf k0 (1 : Int32) r13.2)))))))
set_option maxHeartbeats 4000000 in
set_option maxRecDepth 100000 in
theorem sX7_does_0 {K : MCx} {G : Lay} (X : Cx K G RX7 cX7_does 1 (some .boolean) 5 116) (Nf : Nat) (k0 : Nat) (hk0 : isMod G k0) (h : Int64) (σ : cS) : Sm K G TT (QM K G (fun r : (Int32 × cS) => ((some (.int r.1), h, r.2) : Option Value × Int64 × cS))) 1 0 [(0, .ref (la G k0))] [] h σ (fX7_does_0 (ll G) Nf k0 σ) := by
  unfold fX7_does_0
  refine z_aload_n X dX7_does_0 0 rfl ?_
  refine z_get X inlX7 rfl hk0.1 (ce7 hk0.1 _ _) 14 (by decide) q_35_7 rfl dX7_does_1 ?_
  refine z_ite (fun c0 => ?_) (fun c0 => ?_)
  · refine z_lsw (off := 52) X 56 dX7_does_4 (by decide) (by rw [c0]; decide) (by decide) ?_
    refine z_aload_n X dX7_does_56 0 rfl ?_
    refine z_aload_n X dX7_does_57 0 rfl ?_
    refine z_get X inlX7 rfl hk0.1 (ce7 hk0.1 _ _) 15 (by decide) q_35_8 rfl dX7_does_58 ?_
    refine z_aload_n X dX7_does_61 0 rfl ?_
    refine z_get X inlX7 rfl hk0.1 (ce7 hk0.1 _ _) 16 (by decide) q_35_9 rfl dX7_does_62 ?_
    refine z_callV0 X (g := (fun r1 : (Int32 × cS) => ((some (.int r1.1), h, r1.2) : Option Value × Int64 × cS))) (st := []) (st1 := (fun r1 : (Int32 × cS) => [.int r1.1])) (rmf := 2) (rml := 43) [.int (σ k0 15), .int (σ k0 16)] k0 cal_X7_refusesAdd q_9_23 ⟨Nat.le_of_ble_eq_true rfl, Nat.le_of_ble_eq_true rfl⟩ rfl rfl (Nat.le_of_ble_eq_true rfl) rfl hk0.1 (ce7 hk0.1 _ _) (ctX7_refusesAdd (kl K) G X.2.2.2.2.2.2.2.1 h σ k0 hk0 (σ k0 15) (σ k0 16)) dX7_does_65 (fun _ => rfl) (fun r1 => ?_)
    refine z_if_ne X 90 dX7_does_68 (by decide) ?_ ?_
    · refine z_aload_n X dX7_does_71 0 rfl ?_
      refine z_aload_n X dX7_does_72 0 rfl ?_
      refine z_get X inlX7 rfl hk0.1 (ce7 hk0.1 _ _) 15 (by decide) q_35_8 rfl dX7_does_73 ?_
      refine z_aload_n X dX7_does_76 0 rfl ?_
      refine z_get X inlX7 rfl hk0.1 (ce7 hk0.1 _ _) 16 (by decide) q_35_9 rfl dX7_does_77 ?_
      refine z_callV0 X (g := (fun r2 : (Int32 × cS) => ((some (.int r2.1), h, r2.2) : Option Value × Int64 × cS))) (st := []) (st1 := (fun r2 : (Int32 × cS) => [.int r2.1])) (rmf := 2) (rml := 44) [.int (r1.2 k0 15), .int (r1.2 k0 16)] k0 cal_X7_adds q_10_7 ⟨Nat.le_of_ble_eq_true rfl, Nat.le_of_ble_eq_true rfl⟩ rfl rfl (Nat.le_of_ble_eq_true rfl) rfl hk0.1 (ce7 hk0.1 _ _) (ctX7_adds (kl K) G X.2.2.2.2.2.2.2.1 Nf h r1.2 k0 hk0 (r1.2 k0 15) (r1.2 k0 16)) dX7_does_80 (fun _ => rfl) (fun r2 => ?_)
      refine z_if_lt X 90 dX7_does_83 (by decide) ?_ ?_
      · exact z_sub [] rfl (sX7_does_90 X Nf k0 hk0 h r2.2)
      · refine z_iconst (v := (1 : Int32)) X dX7_does_86 (by decide) ?_
        refine z_goto X 91 dX7_does_87 (by decide) ?_
        exact z_sub [] rfl (sX7_does_91 X Nf k0 hk0 h (1 : Int32) r2.2)
    · exact z_sub [] rfl (sX7_does_90 X Nf k0 hk0 h r1.2)
  · refine z_ite (fun c1 => ?_) (fun c1 => ?_)
    · refine z_lsw (off := 88) X 92 dX7_does_4 (by decide) (by rw [c1]; decide) (by decide) ?_
      refine z_aload_n X dX7_does_92 0 rfl ?_
      refine z_aload_n X dX7_does_93 0 rfl ?_
      refine z_get X inlX7 rfl hk0.1 (ce7 hk0.1 _ _) 15 (by decide) q_35_8 rfl dX7_does_94 ?_
      refine z_callV0 X (g := (fun r3 : (Int32 × cS) => ((some (.int r3.1), h, r3.2) : Option Value × Int64 × cS))) (st := []) (st1 := (fun r3 : (Int32 × cS) => [.int r3.1])) (rmf := 1) (rml := 23) [.int (σ k0 15)] k0 cal_X7_refusesEdge q_12_1 ⟨Nat.le_of_ble_eq_true rfl, Nat.le_of_ble_eq_true rfl⟩ rfl rfl (Nat.le_of_ble_eq_true rfl) rfl hk0.1 (ce7 hk0.1 _ _) (ctX7_refusesEdge (kl K) G X.2.2.2.2.2.2.2.1 Nf h σ k0 hk0 (σ k0 15)) dX7_does_97 (fun _ => rfl) (fun r3 => ?_)
      refine z_if_ne X 122 dX7_does_100 (by decide) ?_ ?_
      · refine z_aload_n X dX7_does_103 0 rfl ?_
        refine z_aload_n X dX7_does_104 0 rfl ?_
        refine z_aload_n X dX7_does_105 0 rfl ?_
        refine z_get X inlX7 rfl hk0.1 (ce7 hk0.1 _ _) 15 (by decide) q_35_8 rfl dX7_does_106 ?_
        refine z_callV0 X (g := (fun r4 : Int32 => ((some (.int r4), h, r3.2) : Option Value × Int64 × cS))) (st := [.ref (la G k0)]) (st1 := (fun r4 : Int32 => [.int r4, .ref (la G k0)])) (rmf := 0) (rml := 0) [.int (r3.2 k0 15)] k0 cal_X7_placeOf q_12_5 ⟨Nat.le_of_ble_eq_true rfl, Nat.le_of_ble_eq_true rfl⟩ rfl rfl (Nat.le_of_ble_eq_true rfl) rfl hk0.1 (ce7 hk0.1 _ _) (ctX7_placeOf (kl K) G X.2.2.2.2.2.2.2.1 Nf h r3.2 k0 hk0 (r3.2 k0 15)) dX7_does_109 (fun _ => rfl) (fun r4 => ?_)
        refine z_callV0 X (g := (fun r5 : (Int32 × cS) => ((some (.int r5.1), h, r5.2) : Option Value × Int64 × cS))) (st := []) (st1 := (fun r5 : (Int32 × cS) => [.int r5.1])) (rmf := 1) (rml := 21) [.int r4] k0 cal_X7_removes q_12_9 ⟨Nat.le_of_ble_eq_true rfl, Nat.le_of_ble_eq_true rfl⟩ rfl rfl (Nat.le_of_ble_eq_true rfl) rfl hk0.1 (ce7 hk0.1 _ _) (ctX7_removes (kl K) G X.2.2.2.2.2.2.2.1 Nf h r3.2 k0 hk0 r4) dX7_does_112 (fun _ => rfl) (fun r5 => ?_)
        refine z_if_lt X 122 dX7_does_115 (by decide) ?_ ?_
        · exact z_sub [] rfl (sX7_does_122 X Nf k0 hk0 h r5.2)
        · refine z_iconst (v := (1 : Int32)) X dX7_does_118 (by decide) ?_
          refine z_goto X 123 dX7_does_119 (by decide) ?_
          exact z_sub [] rfl (sX7_does_123 X Nf k0 hk0 h (1 : Int32) r5.2)
      · exact z_sub [] rfl (sX7_does_122 X Nf k0 hk0 h r3.2)
    · refine z_ite (fun c2 => ?_) (fun c2 => ?_)
      · refine z_lsw (off := 175) X 179 dX7_does_4 (by decide) (by rw [c2]; decide) (by decide) ?_
        refine z_aload_n X dX7_does_179 0 rfl ?_
        refine z_aload_n X dX7_does_180 0 rfl ?_
        refine z_get X inlX7 rfl hk0.1 (ce7 hk0.1 _ _) 15 (by decide) q_35_8 rfl dX7_does_181 ?_
        refine z_aload_n X dX7_does_184 0 rfl ?_
        refine z_get X inlX7 rfl hk0.1 (ce7 hk0.1 _ _) 16 (by decide) q_35_9 rfl dX7_does_185 ?_
        refine z_callV0 X (g := (fun r6 : (Int32 × cS) => ((some (.int r6.1), h, r6.2) : Option Value × Int64 × cS))) (st := []) (st1 := (fun r6 : (Int32 × cS) => [.int r6.1])) (rmf := 2) (rml := 43) [.int (σ k0 15), .int (σ k0 16)] k0 cal_X7_refusesCapacity q_18_3 ⟨Nat.le_of_ble_eq_true rfl, Nat.le_of_ble_eq_true rfl⟩ rfl rfl (Nat.le_of_ble_eq_true rfl) rfl hk0.1 (ce7 hk0.1 _ _) (ctX7_refusesCapacity (kl K) G X.2.2.2.2.2.2.2.1 h σ k0 hk0 (σ k0 15) (σ k0 16)) dX7_does_188 (fun _ => rfl) (fun r6 => ?_)
        refine z_if_ne X 213 dX7_does_191 (by decide) ?_ ?_
        · refine z_aload_n X dX7_does_194 0 rfl ?_
          refine z_aload_n X dX7_does_195 0 rfl ?_
          refine z_get X inlX7 rfl hk0.1 (ce7 hk0.1 _ _) 15 (by decide) q_35_8 rfl dX7_does_196 ?_
          refine z_aload_n X dX7_does_199 0 rfl ?_
          refine z_get X inlX7 rfl hk0.1 (ce7 hk0.1 _ _) 16 (by decide) q_35_9 rfl dX7_does_200 ?_
          refine z_callV0 X (g := (fun r7 : (Int32 × cS) => ((some (.int r7.1), h, r7.2) : Option Value × Int64 × cS))) (st := []) (st1 := (fun r7 : (Int32 × cS) => [.int r7.1])) (rmf := 0) (rml := 0) [.int (r6.2 k0 15), .int (r6.2 k0 16)] k0 cal_X7_sets q_18_7 ⟨Nat.le_of_ble_eq_true rfl, Nat.le_of_ble_eq_true rfl⟩ rfl rfl (Nat.le_of_ble_eq_true rfl) rfl hk0.1 (ce7 hk0.1 _ _) (ctX7_sets (kl K) G X.2.2.2.2.2.2.2.1 h r6.2 k0 hk0 (r6.2 k0 15) (r6.2 k0 16)) dX7_does_203 (fun _ => rfl) (fun r7 => ?_)
          refine z_if_lt X 213 dX7_does_206 (by decide) ?_ ?_
          · exact z_sub [] rfl (sX7_does_213 X Nf k0 hk0 h r7.2)
          · refine z_iconst (v := (1 : Int32)) X dX7_does_209 (by decide) ?_
            refine z_goto X 214 dX7_does_210 (by decide) ?_
            exact z_sub [] rfl (sX7_does_214 X Nf k0 hk0 h (1 : Int32) r7.2)
        · exact z_sub [] rfl (sX7_does_213 X Nf k0 hk0 h r6.2)
      · refine z_ite (fun c3 => ?_) (fun c3 => ?_)
        · refine z_lsw (off := 147) X 151 dX7_does_4 (by decide) (by rw [c3]; decide) (by decide) ?_
          refine z_aload_n X dX7_does_151 0 rfl ?_
          refine z_aload_n X dX7_does_152 0 rfl ?_
          refine z_get X inlX7 rfl hk0.1 (ce7 hk0.1 _ _) 15 (by decide) q_35_8 rfl dX7_does_153 ?_
          refine z_callV0 X (g := (fun r8 : (Int32 × cS) => ((some (.int r8.1), h, r8.2) : Option Value × Int64 × cS))) (st := []) (st1 := (fun r8 : (Int32 × cS) => [.int r8.1])) (rmf := 3) (rml := 68) [.int (σ k0 15)] k0 cal_X7_refusesRelief q_15_5 ⟨Nat.le_of_ble_eq_true rfl, Nat.le_of_ble_eq_true rfl⟩ rfl rfl (Nat.le_of_ble_eq_true rfl) rfl hk0.1 (ce7 hk0.1 _ _) (ctX7_refusesRelief (kl K) G X.2.2.2.2.2.2.2.1 Nf h σ k0 hk0 (σ k0 15)) dX7_does_156 (fun _ => rfl) (fun r8 => ?_)
          refine z_if_ne X 177 dX7_does_159 (by decide) ?_ ?_
          · refine z_aload_n X dX7_does_162 0 rfl ?_
            refine z_aload_n X dX7_does_163 0 rfl ?_
            refine z_get X inlX7 rfl hk0.1 (ce7 hk0.1 _ _) 15 (by decide) q_35_8 rfl dX7_does_164 ?_
            refine z_callV0 X (g := (fun r9 : (Int32 × cS) => ((some (.int r9.1), h, r9.2) : Option Value × Int64 × cS))) (st := []) (st1 := (fun r9 : (Int32 × cS) => [.int r9.1])) (rmf := 3) (rml := 68) [.int (r8.2 k0 15)] k0 cal_X7_relieves q_15_23 ⟨Nat.le_of_ble_eq_true rfl, Nat.le_of_ble_eq_true rfl⟩ rfl rfl (Nat.le_of_ble_eq_true rfl) rfl hk0.1 (ce7 hk0.1 _ _) (ctX7_relieves (kl K) G X.2.2.2.2.2.2.2.1 Nf h r8.2 k0 hk0 (r8.2 k0 15)) dX7_does_167 (fun _ => rfl) (fun r9 => ?_)
            refine z_if_le X 177 dX7_does_170 (by decide) ?_ ?_
            · exact z_sub [] rfl (sX7_does_177 X Nf k0 hk0 h r9.2)
            · refine z_iconst (v := (1 : Int32)) X dX7_does_173 (by decide) ?_
              refine z_goto X 178 dX7_does_174 (by decide) ?_
              exact z_sub [] rfl (sX7_does_178 X Nf k0 hk0 h (1 : Int32) r9.2)
          · exact z_sub [] rfl (sX7_does_177 X Nf k0 hk0 h r8.2)
        · refine z_ite (fun c4 => ?_) (fun c4 => ?_)
          · refine z_lsw (off := 120) X 124 dX7_does_4 (by decide) (by rw [c4]; decide) (by decide) ?_
            refine z_aload_n X dX7_does_124 0 rfl ?_
            refine z_aload_n X dX7_does_125 0 rfl ?_
            refine z_get X inlX7 rfl hk0.1 (ce7 hk0.1 _ _) 15 (by decide) q_35_8 rfl dX7_does_126 ?_
            refine z_callV0 X (g := (fun r10 : (Int32 × cS) => ((some (.int r10.1), h, r10.2) : Option Value × Int64 × cS))) (st := []) (st1 := (fun r10 : (Int32 × cS) => [.int r10.1])) (rmf := 1) (rml := 23) [.int (σ k0 15)] k0 cal_X7_refusesEdge q_12_1 ⟨Nat.le_of_ble_eq_true rfl, Nat.le_of_ble_eq_true rfl⟩ rfl rfl (Nat.le_of_ble_eq_true rfl) rfl hk0.1 (ce7 hk0.1 _ _) (ctX7_refusesEdge (kl K) G X.2.2.2.2.2.2.2.1 Nf h σ k0 hk0 (σ k0 15)) dX7_does_129 (fun _ => rfl) (fun r10 => ?_)
            refine z_if_eq X 137 dX7_does_132 (by decide) ?_ ?_
            · refine z_aload_n X dX7_does_137 0 rfl ?_
              refine z_aload_n X dX7_does_138 0 rfl ?_
              refine z_aload_n X dX7_does_139 0 rfl ?_
              refine z_get X inlX7 rfl hk0.1 (ce7 hk0.1 _ _) 15 (by decide) q_35_8 rfl dX7_does_140 ?_
              refine z_callV0 X (g := (fun r11 : Int32 => ((some (.int r11), h, r10.2) : Option Value × Int64 × cS))) (st := [.ref (la G k0)]) (st1 := (fun r11 : Int32 => [.int r11, .ref (la G k0)])) (rmf := 0) (rml := 0) [.int (r10.2 k0 15)] k0 cal_X7_placeOf q_12_5 ⟨Nat.le_of_ble_eq_true rfl, Nat.le_of_ble_eq_true rfl⟩ rfl rfl (Nat.le_of_ble_eq_true rfl) rfl hk0.1 (ce7 hk0.1 _ _) (ctX7_placeOf (kl K) G X.2.2.2.2.2.2.2.1 Nf h r10.2 k0 hk0 (r10.2 k0 15)) dX7_does_143 (fun _ => rfl) (fun r11 => ?_)
              refine z_callV0 X (g := (fun r12 : cS => ((none, h, r12) : Option Value × Int64 × cS))) (st := []) (st1 := (fun r12 : cS => [])) (rmf := 0) (rml := 0) [.int r11] k0 cal_X7_turns q_13_4 ⟨Nat.le_of_ble_eq_true rfl, Nat.le_of_ble_eq_true rfl⟩ rfl rfl (Nat.le_of_ble_eq_true rfl) rfl hk0.1 (ce7 hk0.1 _ _) (ctX7_turns (kl K) G X.2.2.2.2.2.2.2.1 h r10.2 k0 hk0 r11) dX7_does_146 (fun _ => rfl) (fun r12 => ?_)
              refine z_iconst (v := (1 : Int32)) X dX7_does_149 (by decide) ?_
              exact z_zret X rfl dX7_does_150
            · refine z_iconst (v := (0 : Int32)) X dX7_does_135 (by decide) ?_
              exact z_zret X rfl dX7_does_136
          · refine z_lsw (off := 211) X 215 dX7_does_4 (by decide) (by refine (lv_osw (k := (43 : Int32)) c0 (by decide)).trans ?_; refine (lv_osw (k := (45 : Int32)) c1 (by decide)).trans ?_; refine (lv_osw (k := (99 : Int32)) c2 (by decide)).trans ?_; refine (lv_osw (k := (114 : Int32)) c3 (by decide)).trans ?_; refine (lv_osw (k := (116 : Int32)) c4 (by decide)).trans ?_; rfl) (by decide) ?_
            refine z_aload_n X dX7_does_215 0 rfl ?_
            refine z_callV0 X (g := (fun r13 : (Int32 × cS) => ((some (.int r13.1), h, r13.2) : Option Value × Int64 × cS))) (st := []) (st1 := (fun r13 : (Int32 × cS) => [.int r13.1])) (rmf := 4) (rml := 92) [] k0 cal_X7_balances q_17_6 ⟨Nat.le_of_ble_eq_true rfl, Nat.le_of_ble_eq_true rfl⟩ rfl rfl (Nat.le_of_ble_eq_true rfl) rfl hk0.1 (ce7 hk0.1 _ _) (ctX7_balances (kl K) G X.2.2.2.2.2.2.2.1 Nf h σ k0 hk0 ) dX7_does_216 (fun _ => rfl) (fun r13 => ?_)
            refine z_if_lt X 226 dX7_does_219 (by decide) ?_ ?_
            · refine z_iconst (v := (0 : Int32)) X dX7_does_226 (by decide) ?_
              exact z_sub [] rfl (sX7_does_227 X Nf k0 hk0 h (0 : Int32) r13.2)
            · refine z_iconst (v := (1 : Int32)) X dX7_does_222 (by decide) ?_
              refine z_goto X 227 dX7_does_223 (by decide) ?_
              exact z_sub [] rfl (sX7_does_227 X Nf k0 hk0 h (1 : Int32) r13.2)
def fX7_does (L : Nat → Nat) (Nf : Nat) (σ : cS) (k0 : Nat) : Option (Int32 × cS) := fX7_does_0 L Nf k0 σ
set_option maxHeartbeats 4000000 in
set_option maxRecDepth 100000 in
theorem ctX7_does (l : Launch) (G : Lay) (hi : Inj G) (Nf : Nat) (h : Int64) (σ : cS) (k0 : Nat) (hk0 : isMod G k0) : ∀ r, fX7_does (ll G) Nf σ k0 = some r → CM l yX7_does cX7_does 1 (some .boolean) 5 116 G [.ref (la G k0)] h σ (some (.int r.1), h, r.2) := by
  refine cm_of (g := (fun r : (Int32 × cS) => ((some (.int r.1), h, r.2) : Option Value × Int64 × cS))) (by decide) hi (Nat.le_of_ble_eq_true rfl) (fun K hKl X => ?_)
  unfold fX7_does
  exact z_sub [0] rfl (sX7_does_0 X Nf k0 hk0 h σ)
def fX7_carryOut_89 (L : Nat → Nat) (Nf : Nat) (k0 : Nat) (x1 : Int32) (σ : cS) : Option (Int32 × cS) := bnd (st2 σ k0 7 (0 : Int32)) (fun σ1 => some (x1, σ1))
set_option maxHeartbeats 4000000 in
set_option maxRecDepth 100000 in
theorem sX7_carryOut_89 {K : MCx} {G : Lay} (X : Cx K G RX7 cX7_carryOut 3 (some .int) 6 136) (Nf : Nat) (k0 : Nat) (hk0 : isMod G k0) (h : Int64) (x1 : Int32) (σ : cS) : Sm K G TT (QM K G (fun r : (Int32 × cS) => ((some (.int r.1), h, r.2) : Option Value × Int64 × cS))) 3 89 [(0, .ref (la G k0)), (1, .int x1)] [] h σ (fX7_carryOut_89 (ll G) Nf k0 x1 σ) := by
  unfold fX7_carryOut_89
  refine z_aload_n X dX7_carryOut_89 0 rfl ?_
  refine z_iconst (v := (0 : Int32)) X dX7_carryOut_90 (by decide) ?_
  refine z_put X inlX7 rfl hk0.1 (ce7 hk0.1 _ _) 7 (by decide) q_7_12 tyX7 tyX7_ok nmX7 rfl (cp7 hk0.1 _ _ _ 7 (by decide)) rfl rfl (Nat.le_of_ble_eq_true rfl) dX7_carryOut_91 (fun σ1 => ?_)
  refine z_iload_n X dX7_carryOut_94 1 rfl ?_
  exact z_iret X rfl dX7_carryOut_95
def fX7_carryOut_84 (L : Nat → Nat) (Nf : Nat) (k0 : Nat) (self49 : Int32 → Int32 → cS → Option (Int32 × cS)) (x2 : Int32) (y0 : Int32) (y1 : Int32) (σ : cS) : Option (Int32 × cS) := bnd ((y0 + y1)) (fun t1 => self49 t1 x2 σ)
set_option maxHeartbeats 4000000 in
set_option maxRecDepth 100000 in
theorem sX7_carryOut_84 {K : MCx} {G : Lay} (X : Cx K G RX7 cX7_carryOut 3 (some .int) 6 136) (Nf : Nat) (k0 : Nat) (hk0 : isMod G k0) (h : Int64) (self49 : Int32 → Int32 → cS → Option (Int32 × cS)) (hself49 : ∀ (x1 : Int32) (x2 : Int32) (σ : cS), Sm K G TT (QM K G (fun r : (Int32 × cS) => ((some (.int r.1), h, r.2) : Option Value × Int64 × cS))) 3 49 [(0, .ref (la G k0)), (1, .int x1), (2, .int x2)] [] h σ (self49 x1 x2 σ)) (x2 : Int32) (y0 : Int32) (y1 : Int32) (σ : cS) : Sm K G TT (QM K G (fun r : (Int32 × cS) => ((some (.int r.1), h, r.2) : Option Value × Int64 × cS))) 3 84 [(0, .ref (la G k0)), (2, .int x2)] [.int y1, .int y0] h σ (fX7_carryOut_84 (ll G) Nf k0 self49 x2 y0 y1 σ) := by
  unfold fX7_carryOut_84
  refine z_iadd X dX7_carryOut_84 ?_
  refine z_nm (fun t1 => ?_)
  refine z_istore_n X [(1, .int t1), (0, .ref (la G k0)), (2, .int x2)] dX7_carryOut_85 (by decide) rfl ?_
  refine z_goto X 49 dX7_carryOut_86 (by decide) ?_
  exact z_sub [1, 0, 2] rfl (hself49 t1 x2 σ)
def fX7_carryOut_49 (L : Nat → Nat) (Nf : Nat) (k0 : Nat) : Nat → Int32 → Int32 → cS → Option (Int32 × cS)
  | 0, _, _, _ => none
  | n + 1, x1, x2, σ => if x2 = 0 then (fX7_carryOut_89 L Nf k0 x1 σ) else (if (σ k0 6) ≤ (σ k0 12) then (fX7_carryOut_89 L Nf k0 x1 σ) else (Option.bind (fX7_readsOrder L Nf σ k0) (fun r1 => Option.bind (fX7_does L Nf r1.2 k0) (fun r2 => if r2.1 = 0 then (fX7_carryOut_84 L Nf k0 (fX7_carryOut_49 L Nf k0 n) r2.1 x1 (0 : Int32) r2.2) else (fX7_carryOut_84 L Nf k0 (fX7_carryOut_49 L Nf k0 n) r2.1 x1 (1 : Int32) r2.2)))))
set_option maxHeartbeats 4000000 in
set_option maxRecDepth 100000 in
theorem sX7_carryOut_49 {K : MCx} {G : Lay} (X : Cx K G RX7 cX7_carryOut 3 (some .int) 6 136) (Nf : Nat) (k0 : Nat) (hk0 : isMod G k0) (h : Int64) : ∀ (n : Nat) (x1 : Int32) (x2 : Int32) (σ : cS), Sm K G TT (QM K G (fun r : (Int32 × cS) => ((some (.int r.1), h, r.2) : Option Value × Int64 × cS))) 3 49 [(0, .ref (la G k0)), (1, .int x1), (2, .int x2)] [] h σ (fX7_carryOut_49 (ll G) Nf k0 n x1 x2 σ) := by
  intro n
  induction n with
  | zero => intros; exact z_none
  | succ n ih =>
    intro x1 x2 σ
    unfold fX7_carryOut_49
    refine z_iload_n X dX7_carryOut_49 2 rfl ?_
    refine z_if_eq X 89 dX7_carryOut_50 (by decide) ?_ ?_
    · exact z_sub [0, 1] rfl (sX7_carryOut_89 X Nf k0 hk0 h x1 σ)
    · refine z_aload_n X dX7_carryOut_53 0 rfl ?_
      refine z_get X inlX7 rfl hk0.1 (ce7 hk0.1 _ _) 12 (by decide) q_35_1 rfl dX7_carryOut_54 ?_
      refine z_aload_n X dX7_carryOut_57 0 rfl ?_
      refine z_get X inlX7 rfl hk0.1 (ce7 hk0.1 _ _) 6 (by decide) q_31_15 rfl dX7_carryOut_58 ?_
      refine z_icmp_ge X 89 dX7_carryOut_61 (by decide) ?_ ?_
      · exact z_sub [0, 1] rfl (sX7_carryOut_89 X Nf k0 hk0 h x1 σ)
      · refine z_aload_n X dX7_carryOut_64 0 rfl ?_
        refine z_callV0 X (g := (fun r1 : (Int32 × cS) => ((some (.int r1.1), h, r1.2) : Option Value × Int64 × cS))) (st := []) (st1 := (fun r1 : (Int32 × cS) => [.int r1.1])) (rmf := 3) (rml := 70) [] k0 cal_X7_readsOrder q_35_3 ⟨Nat.le_of_ble_eq_true rfl, Nat.le_of_ble_eq_true rfl⟩ rfl rfl (Nat.le_of_ble_eq_true rfl) rfl hk0.1 (ce7 hk0.1 _ _) (ctX7_readsOrder (kl K) G X.2.2.2.2.2.2.2.1 Nf h σ k0 hk0 ) dX7_carryOut_65 (fun _ => rfl) (fun r1 => ?_)
        refine z_pop X dX7_carryOut_68 rfl ?_
        refine z_aload_n X dX7_carryOut_69 0 rfl ?_
        refine z_callV0 X (g := (fun r2 : (Int32 × cS) => ((some (.int r2.1), h, r2.2) : Option Value × Int64 × cS))) (st := []) (st1 := (fun r2 : (Int32 × cS) => [.int r2.1])) (rmf := 5) (rml := 116) [] k0 cal_X7_does q_35_22 ⟨Nat.le_of_ble_eq_true rfl, Nat.le_of_ble_eq_true rfl⟩ rfl rfl (Nat.le_of_ble_eq_true rfl) rfl hk0.1 (ce7 hk0.1 _ _) (ctX7_does (kl K) G X.2.2.2.2.2.2.2.1 Nf h r1.2 k0 hk0 ) dX7_carryOut_70 (fun _ => rfl) (fun r2 => ?_)
        refine z_istore_n X [(2, .int r2.1), (0, .ref (la G k0)), (1, .int x1)] dX7_carryOut_73 (by decide) rfl ?_
        refine z_iload_n X dX7_carryOut_74 2 rfl ?_
        refine z_iload_n X dX7_carryOut_75 0 rfl ?_
        refine z_if_eq X 83 dX7_carryOut_76 (by decide) ?_ ?_
        · refine z_iconst (v := (0 : Int32)) X dX7_carryOut_83 (by decide) ?_
          exact z_sub [1, 0] rfl (sX7_carryOut_84 X Nf k0 hk0 h (fX7_carryOut_49 (ll G) Nf k0 n) ih r2.1 x1 (0 : Int32) r2.2)
        · refine z_iconst (v := (1 : Int32)) X dX7_carryOut_79 (by decide) ?_
          refine z_goto X 84 dX7_carryOut_80 (by decide) ?_
          exact z_sub [1, 0] rfl (sX7_carryOut_84 X Nf k0 hk0 h (fX7_carryOut_49 (ll G) Nf k0 n) ih r2.1 x1 (1 : Int32) r2.2)
def fX7_carryOut_10 (L : Nat → Nat) (Nf : Nat) (k0 : Nat) : Nat → cS → Option (Int32 × cS)
  | 0, _ => none
  | n + 1, σ => if (σ k0 6) ≤ (σ k0 12) then (Option.bind (fX7_save L Nf σ k0) (fun r1 => bnd (st2 r1 k0 12 (0 : Int32)) (fun σ2 => fX7_carryOut_49 L Nf k0 Nf (0 : Int32) (1 : Int32) σ2))) else (Option.bind (fX7_readsOrder L Nf σ k0) (fun r3 => if r3.1 = 0 then (some (((-10 : Int32) - (r3.2 k0 13)), r3.2)) else (fX7_carryOut_10 L Nf k0 n r3.2)))
set_option maxHeartbeats 4000000 in
set_option maxRecDepth 100000 in
theorem sX7_carryOut_10 {K : MCx} {G : Lay} (X : Cx K G RX7 cX7_carryOut 3 (some .int) 6 136) (Nf : Nat) (k0 : Nat) (hk0 : isMod G k0) (h : Int64) : ∀ (n : Nat) (σ : cS), Sm K G TT (QM K G (fun r : (Int32 × cS) => ((some (.int r.1), h, r.2) : Option Value × Int64 × cS))) 3 10 [(0, .ref (la G k0))] [] h σ (fX7_carryOut_10 (ll G) Nf k0 n σ) := by
  intro n
  induction n with
  | zero => intros; exact z_none
  | succ n ih =>
    intro σ
    unfold fX7_carryOut_10
    refine z_aload_n X dX7_carryOut_10 0 rfl ?_
    refine z_get X inlX7 rfl hk0.1 (ce7 hk0.1 _ _) 12 (by decide) q_35_1 rfl dX7_carryOut_11 ?_
    refine z_aload_n X dX7_carryOut_14 0 rfl ?_
    refine z_get X inlX7 rfl hk0.1 (ce7 hk0.1 _ _) 6 (by decide) q_31_15 rfl dX7_carryOut_15 ?_
    refine z_icmp_ge X 36 dX7_carryOut_18 (by decide) ?_ ?_
    · refine z_aload_n X dX7_carryOut_36 0 rfl ?_
      refine z_callV0 X (g := (fun r1 : cS => ((none, h, r1) : Option Value × Int64 × cS))) (st := []) (st1 := (fun r1 : cS => [])) (rmf := 0) (rml := 0) [] k0 cal_X7_save q_7_13 ⟨Nat.le_of_ble_eq_true rfl, Nat.le_of_ble_eq_true rfl⟩ rfl rfl (Nat.le_of_ble_eq_true rfl) rfl hk0.1 (ce7 hk0.1 _ _) (ctX7_save (kl K) G X.2.2.2.2.2.2.2.1 Nf h σ k0 hk0 ) dX7_carryOut_37 (fun _ => rfl) (fun r1 => ?_)
      refine z_iconst (v := (0 : Int32)) X dX7_carryOut_40 (by decide) ?_
      refine z_istore_n X [(1, .int (0 : Int32)), (0, .ref (la G k0))] dX7_carryOut_41 (by decide) rfl ?_
      refine z_aload_n X dX7_carryOut_42 1 rfl ?_
      refine z_iconst (v := (0 : Int32)) X dX7_carryOut_43 (by decide) ?_
      refine z_put X inlX7 rfl hk0.1 (ce7 hk0.1 _ _) 12 (by decide) q_35_1 tyX7 tyX7_ok nmX7 rfl (cp7 hk0.1 _ _ _ 12 (by decide)) rfl rfl (Nat.le_of_ble_eq_true rfl) dX7_carryOut_44 (fun σ2 => ?_)
      refine z_iconst (v := (1 : Int32)) X dX7_carryOut_47 (by decide) ?_
      refine z_istore_n X [(2, .int (1 : Int32)), (1, .int (0 : Int32)), (0, .ref (la G k0))] dX7_carryOut_48 (by decide) rfl ?_
      exact z_sub [2, 1, 0] rfl (sX7_carryOut_49 X Nf k0 hk0 h Nf (0 : Int32) (1 : Int32) σ2)
    · refine z_aload_n X dX7_carryOut_21 0 rfl ?_
      refine z_callV0 X (g := (fun r3 : (Int32 × cS) => ((some (.int r3.1), h, r3.2) : Option Value × Int64 × cS))) (st := []) (st1 := (fun r3 : (Int32 × cS) => [.int r3.1])) (rmf := 3) (rml := 70) [] k0 cal_X7_readsOrder q_35_3 ⟨Nat.le_of_ble_eq_true rfl, Nat.le_of_ble_eq_true rfl⟩ rfl rfl (Nat.le_of_ble_eq_true rfl) rfl hk0.1 (ce7 hk0.1 _ _) (ctX7_readsOrder (kl K) G X.2.2.2.2.2.2.2.1 Nf h σ k0 hk0 ) dX7_carryOut_22 (fun _ => rfl) (fun r3 => ?_)
      refine z_if_ne X 10 dX7_carryOut_25 (by decide) ?_ ?_
      · refine z_bipush (v := (-10 : Int32)) X dX7_carryOut_28 (by decide) ?_
        refine z_aload_n X dX7_carryOut_30 0 rfl ?_
        refine z_get X inlX7 rfl hk0.1 (ce7 hk0.1 _ _) 13 (by decide) q_35_2 rfl dX7_carryOut_31 ?_
        refine z_isub X dX7_carryOut_34 ?_
        exact z_iret X rfl dX7_carryOut_35
      · exact z_sub [0] rfl (ih r3.2)
def fX7_carryOut_0 (L : Nat → Nat) (Nf : Nat) (k0 : Nat) (σ : cS) : Option (Int32 × cS) := bnd (st2 σ k0 7 (0 : Int32)) (fun σ1 => bnd (st2 σ1 k0 12 (0 : Int32)) (fun σ2 => fX7_carryOut_10 L Nf k0 Nf σ2))
set_option maxHeartbeats 4000000 in
set_option maxRecDepth 100000 in
theorem sX7_carryOut_0 {K : MCx} {G : Lay} (X : Cx K G RX7 cX7_carryOut 3 (some .int) 6 136) (Nf : Nat) (k0 : Nat) (hk0 : isMod G k0) (h : Int64) (σ : cS) : Sm K G TT (QM K G (fun r : (Int32 × cS) => ((some (.int r.1), h, r.2) : Option Value × Int64 × cS))) 3 0 [(0, .ref (la G k0))] [] h σ (fX7_carryOut_0 (ll G) Nf k0 σ) := by
  unfold fX7_carryOut_0
  refine z_aload_n X dX7_carryOut_0 0 rfl ?_
  refine z_iconst (v := (0 : Int32)) X dX7_carryOut_1 (by decide) ?_
  refine z_put X inlX7 rfl hk0.1 (ce7 hk0.1 _ _) 7 (by decide) q_7_12 tyX7 tyX7_ok nmX7 rfl (cp7 hk0.1 _ _ _ 7 (by decide)) rfl rfl (Nat.le_of_ble_eq_true rfl) dX7_carryOut_2 (fun σ1 => ?_)
  refine z_aload_n X dX7_carryOut_5 0 rfl ?_
  refine z_iconst (v := (0 : Int32)) X dX7_carryOut_6 (by decide) ?_
  refine z_put X inlX7 rfl hk0.1 (ce7 hk0.1 _ _) 12 (by decide) q_35_1 tyX7 tyX7_ok nmX7 rfl (cp7 hk0.1 _ _ _ 12 (by decide)) rfl rfl (Nat.le_of_ble_eq_true rfl) dX7_carryOut_7 (fun σ2 => ?_)
  exact z_sub [0] rfl (sX7_carryOut_10 X Nf k0 hk0 h Nf σ2)
def fX7_carryOut (L : Nat → Nat) (Nf : Nat) (σ : cS) (k0 : Nat) : Option (Int32 × cS) := fX7_carryOut_0 L Nf k0 σ
set_option maxHeartbeats 4000000 in
set_option maxRecDepth 100000 in
theorem ctX7_carryOut (l : Launch) (G : Lay) (hi : Inj G) (Nf : Nat) (h : Int64) (σ : cS) (k0 : Nat) (hk0 : isMod G k0) : ∀ r, fX7_carryOut (ll G) Nf σ k0 = some r → CM l yX7_carryOut cX7_carryOut 3 (some .int) 6 136 G [.ref (la G k0)] h σ (some (.int r.1), h, r.2) := by
  refine cm_of (g := (fun r : (Int32 × cS) => ((some (.int r.1), h, r.2) : Option Value × Int64 × cS))) (by decide) hi (Nat.le_of_ble_eq_true rfl) (fun K hKl X => ?_)
  unfold fX7_carryOut
  exact z_sub [0] rfl (sX7_carryOut_0 X Nf k0 hk0 h σ)
def fX7_hashes_0 (k0 : Nat) (x1 : Int64) (h : Int64) (σ : cS) : Option (Int64 × cS) := bnd ((((31 : Int64) * h) + x1)) (fun h1 => some (h1, σ))
set_option maxHeartbeats 4000000 in
set_option maxRecDepth 100000 in
theorem sX7_hashes_0 {K : MCx} {G : Lay} (X : Cx K G RX7 cX7_hashes 3 none 0 0) (k0 : Nat) (hk0 : isMod G k0) (x1 : Int64) (h : Int64) (σ : cS) : Sm K G TT (QM K G (fun r : (Int64 × cS) => ((none, r.1, r.2) : Option Value × Int64 × cS))) 3 0 [(0, .ref (la G k0)), (1, .long x1)] [] h σ (fX7_hashes_0 k0 x1 h σ) := by
  unfold fX7_hashes_0
  refine z_aload_n X dX7_hashes_0 0 rfl ?_
  refine z_ldc2 X q_37_18 dX7_hashes_1 ?_
  refine z_aload_n X dX7_hashes_4 0 rfl ?_
  refine z_get X inlX7 rfl hk0.1 (ce7 hk0.1 _ _) 17 (by decide) q_37_13 rfl dX7_hashes_5 ?_
  refine z_lmul X dX7_hashes_8 ?_
  refine z_lload_n X dX7_hashes_9 1 rfl ?_
  refine z_ladd X dX7_hashes_10 ?_
  refine z_putL X inlX7 rfl hk0.1 (ce7 hk0.1 _ _) 17 (by decide) q_37_13 tyX7 tyX7_ok nmX7 rfl (cp7L hk0.1 hk0.2.2.2.2.2.2.2.1 hk0.2.2.2.2.2.2.2.2 _ _ _) rfl rfl (Nat.le_of_ble_eq_true rfl) dX7_hashes_11 (fun h1 => ?_)
  exact z_vret X rfl dX7_hashes_14
def fX7_hashes (h : Int64) (σ : cS) (k0 : Nat) (x1 : Int64) : Option (Int64 × cS) := fX7_hashes_0 k0 x1 h σ
set_option maxHeartbeats 4000000 in
set_option maxRecDepth 100000 in
theorem ctX7_hashes (l : Launch) (G : Lay) (hi : Inj G) (h : Int64) (σ : cS) (k0 : Nat) (hk0 : isMod G k0) (x1 : Int64) : ∀ r, fX7_hashes h σ k0 x1 = some r → CM l yX7_hashes cX7_hashes 3 none 0 0 G [.ref (la G k0), .long x1] h σ (none, r.1, r.2) := by
  refine cm_of (g := (fun r : (Int64 × cS) => ((none, r.1, r.2) : Option Value × Int64 × cS))) (by decide) hi (Nat.le_of_ble_eq_true rfl) (fun K hKl X => ?_)
  unfold fX7_hashes
  exact z_sub [0, 1] rfl (sX7_hashes_0 X k0 hk0 x1 h σ)
def fX7_digest_103 (L : Nat → Nat) (Nf : Nat) (k0 : Nat) (self77 : Int32 → Int64 → cS → Option (Int64 × (Int64 × cS))) : Nat → Int32 → Int32 → Int64 → cS → Option (Int64 × (Int64 × cS))
  | 0, _, _, _, _ => none
  | n + 1, x1, x2, h, σ => if (4 : Int32) ≤ x2 then (bnd (x1 + (1 : Int32)) (fun t1 => self77 t1 h σ)) else (Option.bind (fX7_edgeOf L σ k0 x1 x2) (fun r2 => Option.bind (fX7_hashes h σ k0 r2.toInt64) (fun r3 => bnd (x2 + (1 : Int32)) (fun t4 => fX7_digest_103 L Nf k0 self77 n x1 t4 r3.1 r3.2))))
set_option maxHeartbeats 4000000 in
set_option maxRecDepth 100000 in
theorem sX7_digest_103 {K : MCx} {G : Lay} (X : Cx K G RX7 cX7_digest 3 (some .long) 4 98) (Nf : Nat) (k0 : Nat) (hk0 : isMod G k0) (self77 : Int32 → Int64 → cS → Option (Int64 × (Int64 × cS))) (hself77 : ∀ (x1 : Int32) (h : Int64) (σ : cS), Sm K G TT (QM K G (fun r : (Int64 × (Int64 × cS)) => ((some (.long r.1), r.2.1, r.2.2) : Option Value × Int64 × cS))) 3 77 [(0, .ref (la G k0)), (1, .int x1)] [] h σ (self77 x1 h σ)) : ∀ (n : Nat) (x1 : Int32) (x2 : Int32) (h : Int64) (σ : cS), Sm K G TT (QM K G (fun r : (Int64 × (Int64 × cS)) => ((some (.long r.1), r.2.1, r.2.2) : Option Value × Int64 × cS))) 3 103 [(0, .ref (la G k0)), (1, .int x1), (2, .int x2)] [] h σ (fX7_digest_103 (ll G) Nf k0 self77 n x1 x2 h σ) := by
  intro n
  induction n with
  | zero => intros; exact z_none
  | succ n ih =>
    intro x1 x2 h σ
    unfold fX7_digest_103
    refine z_iload_n X dX7_digest_103 2 rfl ?_
    refine z_iconst (v := (4 : Int32)) X dX7_digest_104 (by decide) ?_
    refine z_icmp_ge X 125 dX7_digest_105 (by decide) ?_ ?_
    · refine z_iinc X (fun t1 => [(1, .int t1), (0, .ref (la G k0)), (2, .int x2)]) dX7_digest_125 1 rfl (by decide) (by decide) (fun _ => rfl) (fun t1 => ?_)
      refine z_goto X 77 dX7_digest_128 (by decide) ?_
      exact z_sub [1, 0] rfl (hself77 t1 h σ)
    · refine z_aload_n X dX7_digest_108 0 rfl ?_
      refine z_aload_n X dX7_digest_109 0 rfl ?_
      refine z_iload_n X dX7_digest_110 1 rfl ?_
      refine z_iload_n X dX7_digest_111 2 rfl ?_
      refine z_callV0 X (g := (fun r2 : Int32 => ((some (.int r2), h, σ) : Option Value × Int64 × cS))) (st := [.ref (la G k0)]) (st1 := (fun r2 : Int32 => [.int r2, .ref (la G k0)])) (rmf := 1) (rml := 21) [.int x1, .int x2] k0 cal_X7_edgeOf q_20_19 ⟨Nat.le_of_ble_eq_true rfl, Nat.le_of_ble_eq_true rfl⟩ rfl rfl (Nat.le_of_ble_eq_true rfl) rfl hk0.1 (ce7 hk0.1 _ _) (ctX7_edgeOf (kl K) G X.2.2.2.2.2.2.2.1 h σ k0 hk0 x1 x2) dX7_digest_112 (fun _ => rfl) (fun r2 => ?_)
      refine z_i2l X dX7_digest_115 ?_
      refine z_callV0 X (g := (fun r3 : (Int64 × cS) => ((none, r3.1, r3.2) : Option Value × Int64 × cS))) (st := []) (st1 := (fun r3 : (Int64 × cS) => [])) (rmf := 0) (rml := 0) [.long r2.toInt64] k0 cal_X7_hashes q_37_14 ⟨Nat.le_of_ble_eq_true rfl, Nat.le_of_ble_eq_true rfl⟩ rfl rfl (Nat.le_of_ble_eq_true rfl) rfl hk0.1 (ce7 hk0.1 _ _) (ctX7_hashes (kl K) G X.2.2.2.2.2.2.2.1 h σ k0 hk0 r2.toInt64) dX7_digest_116 (fun _ => rfl) (fun r3 => ?_)
      refine z_iinc X (fun t4 => [(2, .int t4), (0, .ref (la G k0)), (1, .int x1)]) dX7_digest_119 2 rfl (by decide) (by decide) (fun _ => rfl) (fun t4 => ?_)
      refine z_goto X 103 dX7_digest_122 (by decide) ?_
      exact z_sub [1, 2, 0] rfl (ih x1 t4 r3.1 r3.2)
def fX7_digest_77 (L : Nat → Nat) (Nf : Nat) (k0 : Nat) : Nat → Int32 → Int64 → cS → Option (Int64 × (Int64 × cS))
  | 0, _, _, _ => none
  | n + 1, x1, h, σ => grd (inb (3 : Int32) (L (k0 + 1))) (if (σ (k0 + 1) (3 : Int32).toNatClampNeg) ≤ x1 then (Option.bind (fX7_densest L Nf σ k0) (fun r1 => Option.bind (fX7_hashes h r1.2 k0 r1.1.toInt64) (fun r2 => Option.bind (fX7_least L Nf r2.2 k0) (fun r3 => Option.bind (fX7_hashes r2.1 r3.2 k0 r3.1.toInt64) (fun r4 => Option.bind (fX7_tooDense L Nf r4.2 k0) (fun r5 => Option.bind (fX7_hashes r4.1 r5.2 k0 r5.1.toInt64) (fun r6 => Option.bind (fX7_hashes r6.1 r6.2 k0 ((r6.2 k0 4).toInt64)) (fun r7 => bnd (st2 r7.2 k0 7 (0 : Int32)) (fun σ8 => some (r7.1, r7.1, σ8)))))))))) else (grd (inb ((16 : Int32) + x1) (L (k0 + 1))) (Option.bind (fX7_hashes h σ k0 ((σ (k0 + 1) ((16 : Int32) + x1).toNatClampNeg).toInt64)) (fun r9 => fX7_digest_103 L Nf k0 (fX7_digest_77 L Nf k0 n) Nf x1 (0 : Int32) r9.1 r9.2))))
set_option maxHeartbeats 4000000 in
set_option maxRecDepth 100000 in
theorem sX7_digest_77 {K : MCx} {G : Lay} (X : Cx K G RX7 cX7_digest 3 (some .long) 4 98) (Nf : Nat) (k0 : Nat) (hk0 : isMod G k0) : ∀ (n : Nat) (x1 : Int32) (h : Int64) (σ : cS), Sm K G TT (QM K G (fun r : (Int64 × (Int64 × cS)) => ((some (.long r.1), r.2.1, r.2.2) : Option Value × Int64 × cS))) 3 77 [(0, .ref (la G k0)), (1, .int x1)] [] h σ (fX7_digest_77 (ll G) Nf k0 n x1 h σ) := by
  intro n
  induction n with
  | zero => intros; exact z_none
  | succ n ih =>
    intro x1 h σ
    unfold fX7_digest_77
    refine z_iload_n X dX7_digest_77 1 rfl ?_
    refine z_aload_n X dX7_digest_78 0 rfl ?_
    refine z_get X inlX7 rfl hk0.1 (ce7 hk0.1 _ _) 0 (by decide) q_5_4 rfl dX7_digest_79 ?_
    refine z_iconst (v := (3 : Int32)) X dX7_digest_82 (by decide) ?_
    refine z_iald X hk0.2.1 dX7_digest_83 ?_
    refine z_icmp_ge X 131 dX7_digest_84 (by decide) ?_ ?_
    · refine z_aload_n X dX7_digest_131 0 rfl ?_
      refine z_aload_n X dX7_digest_132 0 rfl ?_
      refine z_callV0 X (g := (fun r1 : (Int32 × cS) => ((some (.int r1.1), h, r1.2) : Option Value × Int64 × cS))) (st := [.ref (la G k0)]) (st1 := (fun r1 : (Int32 × cS) => [.int r1.1, .ref (la G k0)])) (rmf := 2) (rml := 54) [] k0 cal_X7_densest q_37_19 ⟨Nat.le_of_ble_eq_true rfl, Nat.le_of_ble_eq_true rfl⟩ rfl rfl (Nat.le_of_ble_eq_true rfl) rfl hk0.1 (ce7 hk0.1 _ _) (ctX7_densest (kl K) G X.2.2.2.2.2.2.2.1 Nf h σ k0 hk0 ) dX7_digest_133 (fun _ => rfl) (fun r1 => ?_)
      refine z_i2l X dX7_digest_136 ?_
      refine z_callV0 X (g := (fun r2 : (Int64 × cS) => ((none, r2.1, r2.2) : Option Value × Int64 × cS))) (st := []) (st1 := (fun r2 : (Int64 × cS) => [])) (rmf := 0) (rml := 0) [.long r1.1.toInt64] k0 cal_X7_hashes q_37_14 ⟨Nat.le_of_ble_eq_true rfl, Nat.le_of_ble_eq_true rfl⟩ rfl rfl (Nat.le_of_ble_eq_true rfl) rfl hk0.1 (ce7 hk0.1 _ _) (ctX7_hashes (kl K) G X.2.2.2.2.2.2.2.1 h r1.2 k0 hk0 r1.1.toInt64) dX7_digest_137 (fun _ => rfl) (fun r2 => ?_)
      refine z_aload_n X dX7_digest_140 0 rfl ?_
      refine z_aload_n X dX7_digest_141 0 rfl ?_
      refine z_callV0 X (g := (fun r3 : (Int32 × cS) => ((some (.int r3.1), r2.1, r3.2) : Option Value × Int64 × cS))) (st := [.ref (la G k0)]) (st1 := (fun r3 : (Int32 × cS) => [.int r3.1, .ref (la G k0)])) (rmf := 3) (rml := 78) [] k0 cal_X7_least q_30_13 ⟨Nat.le_of_ble_eq_true rfl, Nat.le_of_ble_eq_true rfl⟩ rfl rfl (Nat.le_of_ble_eq_true rfl) rfl hk0.1 (ce7 hk0.1 _ _) (ctX7_least (kl K) G X.2.2.2.2.2.2.2.1 Nf r2.1 r2.2 k0 hk0 ) dX7_digest_142 (fun _ => rfl) (fun r3 => ?_)
      refine z_i2l X dX7_digest_145 ?_
      refine z_callV0 X (g := (fun r4 : (Int64 × cS) => ((none, r4.1, r4.2) : Option Value × Int64 × cS))) (st := []) (st1 := (fun r4 : (Int64 × cS) => [])) (rmf := 0) (rml := 0) [.long r3.1.toInt64] k0 cal_X7_hashes q_37_14 ⟨Nat.le_of_ble_eq_true rfl, Nat.le_of_ble_eq_true rfl⟩ rfl rfl (Nat.le_of_ble_eq_true rfl) rfl hk0.1 (ce7 hk0.1 _ _) (ctX7_hashes (kl K) G X.2.2.2.2.2.2.2.1 r2.1 r3.2 k0 hk0 r3.1.toInt64) dX7_digest_146 (fun _ => rfl) (fun r4 => ?_)
      refine z_aload_n X dX7_digest_149 0 rfl ?_
      refine z_aload_n X dX7_digest_150 0 rfl ?_
      refine z_callV0 X (g := (fun r5 : (Int32 × cS) => ((some (.int r5.1), r4.1, r5.2) : Option Value × Int64 × cS))) (st := [.ref (la G k0)]) (st1 := (fun r5 : (Int32 × cS) => [.int r5.1, .ref (la G k0)])) (rmf := 1) (rml := 25) [] k0 cal_X7_tooDense q_37_20 ⟨Nat.le_of_ble_eq_true rfl, Nat.le_of_ble_eq_true rfl⟩ rfl rfl (Nat.le_of_ble_eq_true rfl) rfl hk0.1 (ce7 hk0.1 _ _) (ctX7_tooDense (kl K) G X.2.2.2.2.2.2.2.1 Nf r4.1 r4.2 k0 hk0 ) dX7_digest_151 (fun _ => rfl) (fun r5 => ?_)
      refine z_i2l X dX7_digest_154 ?_
      refine z_callV0 X (g := (fun r6 : (Int64 × cS) => ((none, r6.1, r6.2) : Option Value × Int64 × cS))) (st := []) (st1 := (fun r6 : (Int64 × cS) => [])) (rmf := 0) (rml := 0) [.long r5.1.toInt64] k0 cal_X7_hashes q_37_14 ⟨Nat.le_of_ble_eq_true rfl, Nat.le_of_ble_eq_true rfl⟩ rfl rfl (Nat.le_of_ble_eq_true rfl) rfl hk0.1 (ce7 hk0.1 _ _) (ctX7_hashes (kl K) G X.2.2.2.2.2.2.2.1 r4.1 r5.2 k0 hk0 r5.1.toInt64) dX7_digest_155 (fun _ => rfl) (fun r6 => ?_)
      refine z_aload_n X dX7_digest_158 0 rfl ?_
      refine z_aload_n X dX7_digest_159 0 rfl ?_
      refine z_get X inlX7 rfl hk0.1 (ce7 hk0.1 _ _) 4 (by decide) q_7_18 rfl dX7_digest_160 ?_
      refine z_i2l X dX7_digest_163 ?_
      refine z_callV0 X (g := (fun r7 : (Int64 × cS) => ((none, r7.1, r7.2) : Option Value × Int64 × cS))) (st := []) (st1 := (fun r7 : (Int64 × cS) => [])) (rmf := 0) (rml := 0) [.long ((r6.2 k0 4).toInt64)] k0 cal_X7_hashes q_37_14 ⟨Nat.le_of_ble_eq_true rfl, Nat.le_of_ble_eq_true rfl⟩ rfl rfl (Nat.le_of_ble_eq_true rfl) rfl hk0.1 (ce7 hk0.1 _ _) (ctX7_hashes (kl K) G X.2.2.2.2.2.2.2.1 r6.1 r6.2 k0 hk0 ((r6.2 k0 4).toInt64)) dX7_digest_164 (fun _ => rfl) (fun r7 => ?_)
      refine z_aload_n X dX7_digest_167 0 rfl ?_
      refine z_iconst (v := (0 : Int32)) X dX7_digest_168 (by decide) ?_
      refine z_put X inlX7 rfl hk0.1 (ce7 hk0.1 _ _) 7 (by decide) q_7_12 tyX7 tyX7_ok nmX7 rfl (cp7 hk0.1 _ _ _ 7 (by decide)) rfl rfl (Nat.le_of_ble_eq_true rfl) dX7_digest_169 (fun σ8 => ?_)
      refine z_aload_n X dX7_digest_172 0 rfl ?_
      refine z_get X inlX7 rfl hk0.1 (ce7 hk0.1 _ _) 17 (by decide) q_37_13 rfl dX7_digest_173 ?_
      exact z_lret X rfl dX7_digest_176
    · refine z_aload_n X dX7_digest_87 0 rfl ?_
      refine z_aload_n X dX7_digest_88 0 rfl ?_
      refine z_get X inlX7 rfl hk0.1 (ce7 hk0.1 _ _) 0 (by decide) q_5_4 rfl dX7_digest_89 ?_
      refine z_bipush (v := (16 : Int32)) X dX7_digest_92 (by decide) ?_
      refine z_iload_n X dX7_digest_94 1 rfl ?_
      refine z_iadd X dX7_digest_95 ?_
      refine z_iald X hk0.2.1 dX7_digest_96 ?_
      refine z_i2l X dX7_digest_97 ?_
      refine z_callV0 X (g := (fun r9 : (Int64 × cS) => ((none, r9.1, r9.2) : Option Value × Int64 × cS))) (st := []) (st1 := (fun r9 : (Int64 × cS) => [])) (rmf := 0) (rml := 0) [.long ((σ (k0 + 1) ((16 : Int32) + x1).toNatClampNeg).toInt64)] k0 cal_X7_hashes q_37_14 ⟨Nat.le_of_ble_eq_true rfl, Nat.le_of_ble_eq_true rfl⟩ rfl rfl (Nat.le_of_ble_eq_true rfl) rfl hk0.1 (ce7 hk0.1 _ _) (ctX7_hashes (kl K) G X.2.2.2.2.2.2.2.1 h σ k0 hk0 ((σ (k0 + 1) ((16 : Int32) + x1).toNatClampNeg).toInt64)) dX7_digest_98 (fun _ => rfl) (fun r9 => ?_)
      refine z_iconst (v := (0 : Int32)) X dX7_digest_101 (by decide) ?_
      refine z_istore_n X [(2, .int (0 : Int32)), (0, .ref (la G k0)), (1, .int x1)] dX7_digest_102 (by decide) rfl ?_
      exact z_sub [1, 2, 0] rfl (sX7_digest_103 X Nf k0 hk0 (fX7_digest_77 (ll G) Nf k0 n) ih Nf x1 (0 : Int32) r9.1 r9.2)
def fX7_digest_42 (L : Nat → Nat) (Nf : Nat) (k0 : Nat) : Nat → Int32 → Int64 → cS → Option (Int64 × (Int64 × cS))
  | 0, _, _, _ => none
  | n + 1, x1, h, σ => grd (inb (0 : Int32) (L (k0 + 1))) (if ((5 : Int32) * (σ (k0 + 1) (0 : Int32).toNatClampNeg)) ≤ x1 then (fX7_digest_77 L Nf k0 Nf (0 : Int32) h σ) else (grd (nz (5 : Int32)) (grd (nz (5 : Int32)) (Option.bind (fX7_nodeOf L Nf σ k0 (x1 / (5 : Int32)) (x1 - x1 / (5 : Int32) * (5 : Int32))) (fun r1 => Option.bind (fX7_hashes h r1.2 k0 r1.1.toInt64) (fun r2 => bnd (x1 + (1 : Int32)) (fun t3 => fX7_digest_42 L Nf k0 n t3 r2.1 r2.2)))))))
set_option maxHeartbeats 4000000 in
set_option maxRecDepth 100000 in
theorem sX7_digest_42 {K : MCx} {G : Lay} (X : Cx K G RX7 cX7_digest 3 (some .long) 4 98) (Nf : Nat) (k0 : Nat) (hk0 : isMod G k0) : ∀ (n : Nat) (x1 : Int32) (h : Int64) (σ : cS), Sm K G TT (QM K G (fun r : (Int64 × (Int64 × cS)) => ((some (.long r.1), r.2.1, r.2.2) : Option Value × Int64 × cS))) 3 42 [(0, .ref (la G k0)), (1, .int x1)] [] h σ (fX7_digest_42 (ll G) Nf k0 n x1 h σ) := by
  intro n
  induction n with
  | zero => intros; exact z_none
  | succ n ih =>
    intro x1 h σ
    unfold fX7_digest_42
    refine z_iload_n X dX7_digest_42 1 rfl ?_
    refine z_iconst (v := (5 : Int32)) X dX7_digest_43 (by decide) ?_
    refine z_aload_n X dX7_digest_44 0 rfl ?_
    refine z_get X inlX7 rfl hk0.1 (ce7 hk0.1 _ _) 0 (by decide) q_5_4 rfl dX7_digest_45 ?_
    refine z_iconst (v := (0 : Int32)) X dX7_digest_48 (by decide) ?_
    refine z_iald X hk0.2.1 dX7_digest_49 ?_
    refine z_imul X dX7_digest_50 ?_
    refine z_icmp_ge X 75 dX7_digest_51 (by decide) ?_ ?_
    · refine z_iconst (v := (0 : Int32)) X dX7_digest_75 (by decide) ?_
      refine z_istore_n X [(1, .int (0 : Int32)), (0, .ref (la G k0))] dX7_digest_76 (by decide) rfl ?_
      exact z_sub [1, 0] rfl (sX7_digest_77 X Nf k0 hk0 Nf (0 : Int32) h σ)
    · refine z_aload_n X dX7_digest_54 0 rfl ?_
      refine z_aload_n X dX7_digest_55 0 rfl ?_
      refine z_iload_n X dX7_digest_56 1 rfl ?_
      refine z_iconst (v := (5 : Int32)) X dX7_digest_57 (by decide) ?_
      refine z_idiv X dX7_digest_58 ?_
      refine z_iload_n X dX7_digest_59 1 rfl ?_
      refine z_iconst (v := (5 : Int32)) X dX7_digest_60 (by decide) ?_
      refine z_irem X dX7_digest_61 ?_
      refine z_callV0 X (g := (fun r1 : (Int32 × cS) => ((some (.int r1.1), h, r1.2) : Option Value × Int64 × cS))) (st := [.ref (la G k0)]) (st1 := (fun r1 : (Int32 × cS) => [.int r1.1, .ref (la G k0)])) (rmf := 2) (rml := 45) [.int (x1 / (5 : Int32)), .int (x1 - x1 / (5 : Int32) * (5 : Int32))] k0 cal_X7_nodeOf q_19_17 ⟨Nat.le_of_ble_eq_true rfl, Nat.le_of_ble_eq_true rfl⟩ rfl rfl (Nat.le_of_ble_eq_true rfl) rfl hk0.1 (ce7 hk0.1 _ _) (ctX7_nodeOf (kl K) G X.2.2.2.2.2.2.2.1 Nf h σ k0 hk0 (x1 / (5 : Int32)) (x1 - x1 / (5 : Int32) * (5 : Int32))) dX7_digest_62 (fun _ => rfl) (fun r1 => ?_)
      refine z_i2l X dX7_digest_65 ?_
      refine z_callV0 X (g := (fun r2 : (Int64 × cS) => ((none, r2.1, r2.2) : Option Value × Int64 × cS))) (st := []) (st1 := (fun r2 : (Int64 × cS) => [])) (rmf := 0) (rml := 0) [.long r1.1.toInt64] k0 cal_X7_hashes q_37_14 ⟨Nat.le_of_ble_eq_true rfl, Nat.le_of_ble_eq_true rfl⟩ rfl rfl (Nat.le_of_ble_eq_true rfl) rfl hk0.1 (ce7 hk0.1 _ _) (ctX7_hashes (kl K) G X.2.2.2.2.2.2.2.1 h r1.2 k0 hk0 r1.1.toInt64) dX7_digest_66 (fun _ => rfl) (fun r2 => ?_)
      refine z_iinc X (fun t3 => [(1, .int t3), (0, .ref (la G k0))]) dX7_digest_69 1 rfl (by decide) (by decide) (fun _ => rfl) (fun t3 => ?_)
      refine z_goto X 42 dX7_digest_72 (by decide) ?_
      exact z_sub [1, 0] rfl (ih t3 r2.1 r2.2)
def fX7_digest_18 (L : Nat → Nat) (Nf : Nat) (k0 : Nat) : Nat → Int32 → Int64 → cS → Option (Int64 × (Int64 × cS))
  | 0, _, _, _ => none
  | n + 1, x1, h, σ => if (8 : Int32) ≤ x1 then (fX7_digest_42 L Nf k0 Nf (0 : Int32) h σ) else (Option.bind (fX7_valueOf L Nf σ k0 x1) (fun r1 => Option.bind (fX7_hashes h σ k0 r1.toInt64) (fun r2 => bnd (x1 + (1 : Int32)) (fun t3 => fX7_digest_18 L Nf k0 n t3 r2.1 r2.2))))
set_option maxHeartbeats 4000000 in
set_option maxRecDepth 100000 in
theorem sX7_digest_18 {K : MCx} {G : Lay} (X : Cx K G RX7 cX7_digest 3 (some .long) 4 98) (Nf : Nat) (k0 : Nat) (hk0 : isMod G k0) : ∀ (n : Nat) (x1 : Int32) (h : Int64) (σ : cS), Sm K G TT (QM K G (fun r : (Int64 × (Int64 × cS)) => ((some (.long r.1), r.2.1, r.2.2) : Option Value × Int64 × cS))) 3 18 [(0, .ref (la G k0)), (1, .int x1)] [] h σ (fX7_digest_18 (ll G) Nf k0 n x1 h σ) := by
  intro n
  induction n with
  | zero => intros; exact z_none
  | succ n ih =>
    intro x1 h σ
    unfold fX7_digest_18
    refine z_iload_n X dX7_digest_18 1 rfl ?_
    refine z_bipush (v := (8 : Int32)) X dX7_digest_19 (by decide) ?_
    refine z_icmp_ge X 40 dX7_digest_21 (by decide) ?_ ?_
    · refine z_iconst (v := (0 : Int32)) X dX7_digest_40 (by decide) ?_
      refine z_istore_n X [(1, .int (0 : Int32)), (0, .ref (la G k0))] dX7_digest_41 (by decide) rfl ?_
      exact z_sub [1, 0] rfl (sX7_digest_42 X Nf k0 hk0 Nf (0 : Int32) h σ)
    · refine z_aload_n X dX7_digest_24 0 rfl ?_
      refine z_aload_n X dX7_digest_25 0 rfl ?_
      refine z_iload_n X dX7_digest_26 1 rfl ?_
      refine z_callV0 X (g := (fun r1 : Int32 => ((some (.int r1), h, σ) : Option Value × Int64 × cS))) (st := [.ref (la G k0)]) (st1 := (fun r1 : Int32 => [.int r1, .ref (la G k0)])) (rmf := 3) (rml := 66) [.int x1] k0 cal_X7_valueOf q_22_11 ⟨Nat.le_of_ble_eq_true rfl, Nat.le_of_ble_eq_true rfl⟩ rfl rfl (Nat.le_of_ble_eq_true rfl) rfl hk0.1 (ce7 hk0.1 _ _) (ctX7_valueOf (kl K) G X.2.2.2.2.2.2.2.1 Nf h σ k0 hk0 x1) dX7_digest_27 (fun _ => rfl) (fun r1 => ?_)
      refine z_i2l X dX7_digest_30 ?_
      refine z_callV0 X (g := (fun r2 : (Int64 × cS) => ((none, r2.1, r2.2) : Option Value × Int64 × cS))) (st := []) (st1 := (fun r2 : (Int64 × cS) => [])) (rmf := 0) (rml := 0) [.long r1.toInt64] k0 cal_X7_hashes q_37_14 ⟨Nat.le_of_ble_eq_true rfl, Nat.le_of_ble_eq_true rfl⟩ rfl rfl (Nat.le_of_ble_eq_true rfl) rfl hk0.1 (ce7 hk0.1 _ _) (ctX7_hashes (kl K) G X.2.2.2.2.2.2.2.1 h σ k0 hk0 r1.toInt64) dX7_digest_31 (fun _ => rfl) (fun r2 => ?_)
      refine z_iinc X (fun t3 => [(1, .int t3), (0, .ref (la G k0))]) dX7_digest_34 1 rfl (by decide) (by decide) (fun _ => rfl) (fun t3 => ?_)
      refine z_goto X 18 dX7_digest_37 (by decide) ?_
      exact z_sub [1, 0] rfl (ih t3 r2.1 r2.2)
def fX7_digest_0 (L : Nat → Nat) (Nf : Nat) (k0 : Nat) (h : Int64) (σ : cS) : Option (Int64 × (Int64 × cS)) := bnd ((3779 : Int64)) (fun h1 => Option.bind (fX7_hashes h1 σ k0 ((σ k0 6).toInt64)) (fun r2 => fX7_digest_18 L Nf k0 Nf (0 : Int32) r2.1 r2.2))
set_option maxHeartbeats 4000000 in
set_option maxRecDepth 100000 in
theorem sX7_digest_0 {K : MCx} {G : Lay} (X : Cx K G RX7 cX7_digest 3 (some .long) 4 98) (Nf : Nat) (k0 : Nat) (hk0 : isMod G k0) (h : Int64) (σ : cS) : Sm K G TT (QM K G (fun r : (Int64 × (Int64 × cS)) => ((some (.long r.1), r.2.1, r.2.2) : Option Value × Int64 × cS))) 3 0 [(0, .ref (la G k0))] [] h σ (fX7_digest_0 (ll G) Nf k0 h σ) := by
  unfold fX7_digest_0
  refine z_aload_n X dX7_digest_0 0 rfl ?_
  refine z_ldc2 X q_37_12 dX7_digest_1 ?_
  refine z_putL X inlX7 rfl hk0.1 (ce7 hk0.1 _ _) 17 (by decide) q_37_13 tyX7 tyX7_ok nmX7 rfl (cp7L hk0.1 hk0.2.2.2.2.2.2.2.1 hk0.2.2.2.2.2.2.2.2 _ _ _) rfl rfl (Nat.le_of_ble_eq_true rfl) dX7_digest_4 (fun h1 => ?_)
  refine z_aload_n X dX7_digest_7 0 rfl ?_
  refine z_aload_n X dX7_digest_8 0 rfl ?_
  refine z_get X inlX7 rfl hk0.1 (ce7 hk0.1 _ _) 6 (by decide) q_31_15 rfl dX7_digest_9 ?_
  refine z_i2l X dX7_digest_12 ?_
  refine z_callV0 X (g := (fun r2 : (Int64 × cS) => ((none, r2.1, r2.2) : Option Value × Int64 × cS))) (st := []) (st1 := (fun r2 : (Int64 × cS) => [])) (rmf := 0) (rml := 0) [.long ((σ k0 6).toInt64)] k0 cal_X7_hashes q_37_14 ⟨Nat.le_of_ble_eq_true rfl, Nat.le_of_ble_eq_true rfl⟩ rfl rfl (Nat.le_of_ble_eq_true rfl) rfl hk0.1 (ce7 hk0.1 _ _) (ctX7_hashes (kl K) G X.2.2.2.2.2.2.2.1 h1 σ k0 hk0 ((σ k0 6).toInt64)) dX7_digest_13 (fun _ => rfl) (fun r2 => ?_)
  refine z_iconst (v := (0 : Int32)) X dX7_digest_16 (by decide) ?_
  refine z_istore_n X [(1, .int (0 : Int32)), (0, .ref (la G k0))] dX7_digest_17 (by decide) rfl ?_
  exact z_sub [1, 0] rfl (sX7_digest_18 X Nf k0 hk0 Nf (0 : Int32) r2.1 r2.2)
def fX7_digest (L : Nat → Nat) (Nf : Nat) (h : Int64) (σ : cS) (k0 : Nat) : Option (Int64 × (Int64 × cS)) := fX7_digest_0 L Nf k0 h σ
set_option maxHeartbeats 4000000 in
set_option maxRecDepth 100000 in
theorem ctX7_digest (l : Launch) (G : Lay) (hi : Inj G) (Nf : Nat) (h : Int64) (σ : cS) (k0 : Nat) (hk0 : isMod G k0) : ∀ r, fX7_digest (ll G) Nf h σ k0 = some r → CM l yX7_digest cX7_digest 3 (some .long) 4 98 G [.ref (la G k0)] h σ (some (.long r.1), r.2.1, r.2.2) := by
  refine cm_of (g := (fun r : (Int64 × (Int64 × cS)) => ((some (.long r.1), r.2.1, r.2.2) : Option Value × Int64 × cS))) (by decide) hi (Nat.le_of_ble_eq_true rfl) (fun K hKl X => ?_)
  unfold fX7_digest
  exact z_sub [0] rfl (sX7_digest_0 X Nf k0 hk0 h σ)
