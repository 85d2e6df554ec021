theorem q_2_1 : Cond.initialized RX2 ∈ wsL_law := seg_2 _ (List.mem_of_getElem? (i := 1) rfl)
theorem q_4_10 : Cond.fieldLink RX2 14 "EdgeHolders$OrderText" "bytes" "LEdgeHolders$Row;" ∈ wsL_law := seg_4 _ (List.mem_of_getElem? (i := 10) rfl)
theorem q_4_11 : Cond.fieldLink RX2 20 "EdgeHolders$OrderText" "wrong" "I" ∈ wsL_law := seg_4 _ (List.mem_of_getElem? (i := 11) rfl)
theorem q_10_23 : Cond.methodLink RX2 34 yX2_rewind ∈ wsL_law := seg_10 _ (List.mem_of_getElem? (i := 23) rfl)
theorem q_11_0 : Cond.instanceMethod yX2_rewind ∈ wsL_law := seg_11 _ (List.mem_of_getElem? (i := 0) rfl)
theorem q_11_1 : Cond.selects RX2 yX2_rewind yX2_rewind ∈ wsL_law := seg_11 _ (List.mem_of_getElem? (i := 1) rfl)
theorem q_11_2 : Cond.code yX2_rewind cX2_rewind 1 none ∈ wsL_law := seg_11 _ (List.mem_of_getElem? (i := 2) rfl)
theorem q_11_3 : Cond.fieldLink RX2 31 "EdgeHolders$OrderText" "place" "I" ∈ wsL_law := seg_11 _ (List.mem_of_getElem? (i := 3) rfl)
theorem q_11_4 : Cond.methodLink RX2 37 yX2_readOrder ∈ wsL_law := seg_11 _ (List.mem_of_getElem? (i := 4) rfl)
theorem q_11_5 : Cond.instanceMethod yX2_readOrder ∈ wsL_law := seg_11 _ (List.mem_of_getElem? (i := 5) rfl)
theorem q_11_6 : Cond.selects RX2 yX2_readOrder yX2_readOrder ∈ wsL_law := seg_11 _ (List.mem_of_getElem? (i := 6) rfl)
theorem q_11_7 : Cond.code yX2_readOrder cX2_readOrder 1 (some .boolean) ∈ wsL_law := seg_11 _ (List.mem_of_getElem? (i := 7) rfl)
theorem q_11_8 : Cond.fieldLink RX2 24 "EdgeHolders$OrderText" "length" "I" ∈ wsL_law := seg_11 _ (List.mem_of_getElem? (i := 8) rfl)
theorem q_11_9 : Cond.fieldLink RX2 45 "EdgeHolders$OrderText" "kind" "I" ∈ wsL_law := seg_11 _ (List.mem_of_getElem? (i := 9) rfl)
theorem q_11_10 : Cond.fieldLink RX2 54 "EdgeHolders$OrderText" "firstNode" "I" ∈ wsL_law := seg_11 _ (List.mem_of_getElem? (i := 10) rfl)
theorem q_11_11 : Cond.fieldLink RX2 57 "EdgeHolders$OrderText" "secondNode" "I" ∈ wsL_law := seg_11 _ (List.mem_of_getElem? (i := 11) rfl)
theorem q_11_12 : Cond.fieldLink RX2 64 "EdgeHolders$OrderText" "number" "I" ∈ wsL_law := seg_11 _ (List.mem_of_getElem? (i := 12) rfl)
theorem q_11_13 : Cond.methodLink RX2 41 yX2_current ∈ wsL_law := seg_11 _ (List.mem_of_getElem? (i := 13) rfl)
theorem q_11_14 : Cond.instanceMethod yX2_current ∈ wsL_law := seg_11 _ (List.mem_of_getElem? (i := 14) rfl)
theorem q_11_15 : Cond.selects RX2 yX2_current yX2_current ∈ wsL_law := seg_11 _ (List.mem_of_getElem? (i := 15) rfl)
theorem q_11_16 : Cond.code yX2_current cX2_current 1 (some .int) ∈ wsL_law := seg_11 _ (List.mem_of_getElem? (i := 16) rfl)
theorem q_11_17 : Cond.methodLink RX2 70 yX4_get ∈ wsL_law := seg_11 _ (List.mem_of_getElem? (i := 17) rfl)
theorem q_11_18 : Cond.methodLink RX2 48 yX2_readSign ∈ wsL_law := seg_11 _ (List.mem_of_getElem? (i := 18) rfl)
theorem q_11_19 : Cond.instanceMethod yX2_readSign ∈ wsL_law := seg_11 _ (List.mem_of_getElem? (i := 19) rfl)
theorem q_11_20 : Cond.selects RX2 yX2_readSign yX2_readSign ∈ wsL_law := seg_11 _ (List.mem_of_getElem? (i := 20) rfl)
theorem q_11_21 : Cond.code yX2_readSign cX2_readSign 2 none ∈ wsL_law := seg_11 _ (List.mem_of_getElem? (i := 21) rfl)
theorem q_11_22 : Cond.methodLink RX2 67 yX2_noteWrong ∈ wsL_law := seg_11 _ (List.mem_of_getElem? (i := 22) rfl)
theorem q_11_23 : Cond.instanceMethod yX2_noteWrong ∈ wsL_law := seg_11 _ (List.mem_of_getElem? (i := 23) rfl)
theorem q_12_0 : Cond.selects RX2 yX2_noteWrong yX2_noteWrong ∈ wsL_law := seg_12 _ (List.mem_of_getElem? (i := 0) rfl)
theorem q_12_1 : Cond.code yX2_noteWrong cX2_noteWrong 2 none ∈ wsL_law := seg_12 _ (List.mem_of_getElem? (i := 1) rfl)
theorem q_12_2 : Cond.methodLink RX2 51 yX2_readNode ∈ wsL_law := seg_12 _ (List.mem_of_getElem? (i := 2) rfl)
theorem q_12_3 : Cond.instanceMethod yX2_readNode ∈ wsL_law := seg_12 _ (List.mem_of_getElem? (i := 3) rfl)
theorem q_12_4 : Cond.selects RX2 yX2_readNode yX2_readNode ∈ wsL_law := seg_12 _ (List.mem_of_getElem? (i := 4) rfl)
theorem q_12_5 : Cond.code yX2_readNode cX2_readNode 2 (some .int) ∈ wsL_law := seg_12 _ (List.mem_of_getElem? (i := 5) rfl)
theorem q_12_6 : Cond.methodLink RX2 60 yX2_readNumber ∈ wsL_law := seg_12 _ (List.mem_of_getElem? (i := 6) rfl)
theorem q_12_7 : Cond.instanceMethod yX2_readNumber ∈ wsL_law := seg_12 _ (List.mem_of_getElem? (i := 7) rfl)
theorem q_12_8 : Cond.selects RX2 yX2_readNumber yX2_readNumber ∈ wsL_law := seg_12 _ (List.mem_of_getElem? (i := 8) rfl)
theorem q_12_9 : Cond.code yX2_readNumber cX2_readNumber 6 (some .int) ∈ wsL_law := seg_12 _ (List.mem_of_getElem? (i := 9) rfl)
theorem q_12_10 : Cond.methodLink RX2 74 yX2_isAtDigit ∈ wsL_law := seg_12 _ (List.mem_of_getElem? (i := 10) rfl)
theorem q_12_11 : Cond.instanceMethod yX2_isAtDigit ∈ wsL_law := seg_12 _ (List.mem_of_getElem? (i := 11) rfl)
theorem q_12_12 : Cond.selects RX2 yX2_isAtDigit yX2_isAtDigit ∈ wsL_law := seg_12 _ (List.mem_of_getElem? (i := 12) rfl)
theorem q_12_13 : Cond.code yX2_isAtDigit cX2_isAtDigit 1 (some .boolean) ∈ wsL_law := seg_12 _ (List.mem_of_getElem? (i := 13) rfl)
theorem q_23_11 : Cond.methodLink RX2 27 yX4_set ∈ wsL_law := seg_23 _ (List.mem_of_getElem? (i := 11) rfl)
theorem cal_X2_current : Cal yX2_current RX2 cX2_current 1 (some .int) 0 := ⟨q_11_16, q_11_14, q_11_15, q_2_1, by decide +kernel⟩
theorem cal_X2_noteWrong : Cal yX2_noteWrong RX2 cX2_noteWrong 2 none 1 := ⟨q_12_1, q_11_23, q_12_0, q_2_1, by decide +kernel⟩
theorem cal_X2_isAtDigit : Cal yX2_isAtDigit RX2 cX2_isAtDigit 1 (some .boolean) 0 := ⟨q_12_13, q_12_11, q_12_12, q_2_1, by decide +kernel⟩
theorem cal_X2_readNode : Cal yX2_readNode RX2 cX2_readNode 2 (some .int) 0 := ⟨q_12_5, q_12_3, q_12_4, q_2_1, by decide +kernel⟩
theorem cal_X2_readNumber : Cal yX2_readNumber RX2 cX2_readNumber 6 (some .int) 2 := ⟨q_12_9, q_12_7, q_12_8, q_2_1, by decide +kernel⟩
theorem cal_X2_readSign : Cal yX2_readSign RX2 cX2_readSign 2 none 1 := ⟨q_11_21, q_11_19, q_11_20, q_2_1, by decide +kernel⟩
theorem cal_X2_readOrder : Cal yX2_readOrder RX2 cX2_readOrder 1 (some .boolean) 0 := ⟨q_11_7, q_11_5, q_11_6, q_2_1, by decide +kernel⟩
theorem cal_X2_rewind : Cal yX2_rewind RX2 cX2_rewind 1 none 0 := ⟨q_11_2, q_11_0, q_11_1, q_2_1, by decide +kernel⟩
def fX2_put_31 (L : Nat → Nat) (k0 : Nat) (σ : cS) : Option (Int32 × cS) := some ((σ k0 1), σ)
set_option maxHeartbeats 4000000 in
set_option maxRecDepth 100000 in
theorem sX2_put_31 {K : MCx} {G : Lay} (X : Cx K G RX2 cX2_put 2 (some .int) 1 22) (k0 : Nat) (hk0 : isText G k0) (h : Int64) (σ : cS) : Sm K G TT (QM K G (fun r : (Int32 × cS) => ((some (.int r.1), h, r.2) : Option Value × Int64 × cS))) 2 31 [(0, .ref (la G k0))] [] h σ (fX2_put_31 (ll G) k0 σ) := by
  unfold fX2_put_31
  refine z_aload_n X dX2_put_31 0 rfl ?_
  refine z_get X inlX2 rfl hk0.1 (ce2 hk0.1 _ _) 1 (by decide) q_11_8 rfl dX2_put_32 ?_
  exact z_iret X rfl dX2_put_35
def fX2_put_0 (L : Nat → Nat) (k0 : Nat) (x1 : Int32) (σ : cS) : Option (Int32 × cS) := if (100 : Int32) ≤ (σ k0 1) then (fX2_put_31 L k0 σ) else (Option.bind (fX4_set L σ (k0 + 1) (σ k0 1) x1) (fun r1 => bnd (st2 r1 k0 1 ((r1 k0 1) + (1 : Int32))) (fun σ2 => fX2_put_31 L k0 σ2)))
set_option maxHeartbeats 4000000 in
set_option maxRecDepth 100000 in
theorem sX2_put_0 {K : MCx} {G : Lay} (X : Cx K G RX2 cX2_put 2 (some .int) 1 22) (k0 : Nat) (hk0 : isText G k0) (h : Int64) (x1 : Int32) (σ : cS) : Sm K G TT (QM K G (fun r : (Int32 × cS) => ((some (.int r.1), h, r.2) : Option Value × Int64 × cS))) 2 0 [(0, .ref (la G k0)), (1, .int x1)] [] h σ (fX2_put_0 (ll G) k0 x1 σ) := by
  unfold fX2_put_0
  refine z_aload_n X dX2_put_0 0 rfl ?_
  refine z_get X inlX2 rfl hk0.1 (ce2 hk0.1 _ _) 1 (by decide) q_11_8 rfl dX2_put_1 ?_
  refine z_bipush (v := (100 : Int32)) X dX2_put_4 (by decide) ?_
  refine z_icmp_ge X 31 dX2_put_6 (by decide) ?_ ?_
  · exact z_sub [0] rfl (sX2_put_31 X k0 hk0 h σ)
  · refine z_aload_n X dX2_put_9 0 rfl ?_
    refine z_get X inlX2 rfl hk0.1 (ce2 hk0.1 _ _) 0 (by decide) q_4_10 rfl dX2_put_10 ?_
    refine z_aload_n X dX2_put_13 0 rfl ?_
    refine z_get X inlX2 rfl hk0.1 (ce2 hk0.1 _ _) 1 (by decide) q_11_8 rfl dX2_put_14 ?_
    refine z_iload_n X dX2_put_17 1 rfl ?_
    refine z_callV0 X (g := (fun r1 : cS => ((none, h, r1) : Option Value × Int64 × cS))) (st := []) (st1 := (fun r1 : cS => [])) (rmf := 0) (rml := 0) [.int (σ k0 1), .int x1] (k0 + 1) cal_X4_set q_23_11 ⟨Nat.le_of_ble_eq_true rfl, Nat.le_of_ble_eq_true rfl⟩ rfl rfl (Nat.le_of_ble_eq_true rfl) rfl hk0.2.1 (ce4 hk0.2.1 _ _) (ctX4_set (kl K) G X.2.2.2.2.2.2.2.1 h σ (k0 + 1) hk0.2 (σ k0 1) x1) dX2_put_18 (fun _ => rfl) (fun r1 => ?_)
    refine z_aload_n X dX2_put_21 0 rfl ?_
    refine z_dup X dX2_put_22 rfl ?_
    refine z_get X inlX2 rfl hk0.1 (ce2 hk0.1 _ _) 1 (by decide) q_11_8 rfl dX2_put_23 ?_
    refine z_iconst (v := (1 : Int32)) X dX2_put_26 (by decide) ?_
    refine z_iadd X dX2_put_27 ?_
    refine z_put X inlX2 rfl hk0.1 (ce2 hk0.1 _ _) 1 (by decide) q_11_8 tyX2 tyX2_ok nmX2 rfl (cp2 hk0.1 _ _ _ 1 (by decide)) rfl rfl (Nat.le_of_ble_eq_true rfl) dX2_put_28 (fun σ2 => ?_)
    exact z_sub [0] rfl (sX2_put_31 X k0 hk0 h σ2)
def fX2_put (L : Nat → Nat) (σ : cS) (k0 : Nat) (x1 : Int32) : Option (Int32 × cS) := fX2_put_0 L k0 x1 σ
set_option maxHeartbeats 4000000 in
set_option maxRecDepth 100000 in
theorem ctX2_put (l : Launch) (G : Lay) (hi : Inj G) (h : Int64) (σ : cS) (k0 : Nat) (hk0 : isText G k0) (x1 : Int32) : ∀ r, fX2_put (ll G) σ k0 x1 = some r → CM l yX2_put cX2_put 2 (some .int) 1 22 G [.ref (la G k0), .int x1] h σ (some (.int r.1), h, r.2) := by
  refine cm_of (g := (fun r : (Int32 × cS) => ((some (.int r.1), h, r.2) : Option Value × Int64 × cS))) (by decide) hi (Nat.le_of_ble_eq_true rfl) (fun K hKl X => ?_)
  unfold fX2_put
  exact z_sub [0, 1] rfl (sX2_put_0 X k0 hk0 h x1 σ)
def fX2_rewind_0 (k0 : Nat) (σ : cS) : Option cS := bnd (st2 σ k0 2 (0 : Int32)) (fun σ1 => bnd (st2 σ1 k0 3 (-1 : Int32)) (fun σ2 => some σ2))
set_option maxHeartbeats 4000000 in
set_option maxRecDepth 100000 in
theorem sX2_rewind_0 {K : MCx} {G : Lay} (X : Cx K G RX2 cX2_rewind 1 none 0 0) (k0 : Nat) (hk0 : isText G k0) (h : Int64) (σ : cS) : Sm K G TT (QM K G (fun r : cS => ((none, h, r) : Option Value × Int64 × cS))) 1 0 [(0, .ref (la G k0))] [] h σ (fX2_rewind_0 k0 σ) := by
  unfold fX2_rewind_0
  refine z_aload_n X dX2_rewind_0 0 rfl ?_
  refine z_iconst (v := (0 : Int32)) X dX2_rewind_1 (by decide) ?_
  refine z_put X inlX2 rfl hk0.1 (ce2 hk0.1 _ _) 2 (by decide) q_11_3 tyX2 tyX2_ok nmX2 rfl (cp2 hk0.1 _ _ _ 2 (by decide)) rfl rfl (Nat.le_of_ble_eq_true rfl) dX2_rewind_2 (fun σ1 => ?_)
  refine z_aload_n X dX2_rewind_5 0 rfl ?_
  refine z_iconst (v := (-1 : Int32)) X dX2_rewind_6 (by decide) ?_
  refine z_put X inlX2 rfl hk0.1 (ce2 hk0.1 _ _) 3 (by decide) q_4_11 tyX2 tyX2_ok nmX2 rfl (cp2 hk0.1 _ _ _ 3 (by decide)) rfl rfl (Nat.le_of_ble_eq_true rfl) dX2_rewind_7 (fun σ2 => ?_)
  exact z_vret X rfl dX2_rewind_10
def fX2_rewind (σ : cS) (k0 : Nat) : Option cS := fX2_rewind_0 k0 σ
set_option maxHeartbeats 4000000 in
set_option maxRecDepth 100000 in
theorem ctX2_rewind (l : Launch) (G : Lay) (hi : Inj G) (h : Int64) (σ : cS) (k0 : Nat) (hk0 : isText G k0) : ∀ r, fX2_rewind σ k0 = some r → CM l yX2_rewind cX2_rewind 1 none 0 0 G [.ref (la G k0)] h σ (none, h, r) := by
  refine cm_of (g := (fun r : cS => ((none, h, r) : Option Value × Int64 × cS))) (by decide) hi (Nat.le_of_ble_eq_true rfl) (fun K hKl X => ?_)
  unfold fX2_rewind
  exact z_sub [0] rfl (sX2_rewind_0 X k0 hk0 h σ)
def fX2_current_26 (L : Nat → Nat) (σ : cS) (k0 : Nat) (y0 : Int32)  : Option Int32 := some y0
set_option maxHeartbeats 4000000 in
set_option maxRecDepth 100000 in
theorem sX2_current_26 {K : MCx} {G : Lay} (X : Cx K G RX2 cX2_current 1 (some .int) 1 21) (k0 : Nat) (hk0 : isText G k0) (h : Int64) (σ : cS) (y0 : Int32) : Sm K G TT (QM K G (fun r : Int32 => ((some (.int r), h, σ) : Option Value × Int64 × cS))) 1 26 [] [.int y0] h σ (fX2_current_26 (ll G) σ k0 y0) := by
  unfold fX2_current_26
  exact z_iret X rfl dX2_current_26
def fX2_current_0 (L : Nat → Nat) (σ : cS) (k0 : Nat)  : Option Int32 := if (σ k0 1) ≤ (σ k0 2) then (fX2_current_26 L σ k0 (-1 : Int32)) else (Option.bind (fX4_get L σ (k0 + 1) (σ k0 2)) (fun r1 => fX2_current_26 L σ k0 r1))
set_option maxHeartbeats 4000000 in
set_option maxRecDepth 100000 in
theorem sX2_current_0 {K : MCx} {G : Lay} (X : Cx K G RX2 cX2_current 1 (some .int) 1 21) (k0 : Nat) (hk0 : isText G k0) (h : Int64) (σ : cS) : Sm K G TT (QM K G (fun r : Int32 => ((some (.int r), h, σ) : Option Value × Int64 × cS))) 1 0 [(0, .ref (la G k0))] [] h σ (fX2_current_0 (ll G) σ k0) := by
  unfold fX2_current_0
  refine z_aload_n X dX2_current_0 0 rfl ?_
  refine z_get X inlX2 rfl hk0.1 (ce2 hk0.1 _ _) 2 (by decide) q_11_3 rfl dX2_current_1 ?_
  refine z_aload_n X dX2_current_4 0 rfl ?_
  refine z_get X inlX2 rfl hk0.1 (ce2 hk0.1 _ _) 1 (by decide) q_11_8 rfl dX2_current_5 ?_
  refine z_icmp_ge X 25 dX2_current_8 (by decide) ?_ ?_
  · refine z_iconst (v := (-1 : Int32)) X dX2_current_25 (by decide) ?_
    exact z_sub [] rfl (sX2_current_26 X k0 hk0 h σ (-1 : Int32))
  · refine z_aload_n X dX2_current_11 0 rfl ?_
    refine z_get X inlX2 rfl hk0.1 (ce2 hk0.1 _ _) 0 (by decide) q_4_10 rfl dX2_current_12 ?_
    refine z_aload_n X dX2_current_15 0 rfl ?_
    refine z_get X inlX2 rfl hk0.1 (ce2 hk0.1 _ _) 2 (by decide) q_11_3 rfl dX2_current_16 ?_
    refine z_callV0 X (g := (fun r1 : Int32 => ((some (.int r1), h, σ) : Option Value × Int64 × cS))) (st := []) (st1 := (fun r1 : Int32 => [.int r1])) (rmf := 0) (rml := 0) [.int (σ k0 2)] (k0 + 1) cal_X4_get q_11_17 ⟨Nat.le_of_ble_eq_true rfl, Nat.le_of_ble_eq_true rfl⟩ rfl rfl (Nat.le_of_ble_eq_true rfl) rfl hk0.2.1 (ce4 hk0.2.1 _ _) (ctX4_get (kl K) G X.2.2.2.2.2.2.2.1 h σ (k0 + 1) hk0.2 (σ k0 2)) dX2_current_19 (fun _ => rfl) (fun r1 => ?_)
    refine z_goto X 26 dX2_current_22 (by decide) ?_
    exact z_sub [] rfl (sX2_current_26 X k0 hk0 h σ r1)
def fX2_current (L : Nat → Nat) (σ : cS) (k0 : Nat) : Option Int32 := fX2_current_0 L σ k0
set_option maxHeartbeats 4000000 in
set_option maxRecDepth 100000 in
theorem ctX2_current (l : Launch) (G : Lay) (hi : Inj G) (h : Int64) (σ : cS) (k0 : Nat) (hk0 : isText G k0) : ∀ r, fX2_current (ll G) σ k0 = some r → CM l yX2_current cX2_current 1 (some .int) 1 21 G [.ref (la G k0)] h σ (some (.int r), h, σ) := by
  refine cm_of (g := (fun r : Int32 => ((some (.int r), h, σ) : Option Value × Int64 × cS))) (by decide) hi (Nat.le_of_ble_eq_true rfl) (fun K hKl X => ?_)
  unfold fX2_current
  exact z_sub [0] rfl (sX2_current_0 X k0 hk0 h σ)
def fX2_noteWrong_13 (k0 : Nat) (σ : cS) : Option cS := some σ
set_option maxHeartbeats 4000000 in
set_option maxRecDepth 100000 in
theorem sX2_noteWrong_13 {K : MCx} {G : Lay} (X : Cx K G RX2 cX2_noteWrong 2 none 0 0) (k0 : Nat) (hk0 : isText G k0) (h : Int64) (σ : cS) : Sm K G TT (QM K G (fun r : cS => ((none, h, r) : Option Value × Int64 × cS))) 2 13 [] [] h σ (fX2_noteWrong_13 k0 σ) := by
  unfold fX2_noteWrong_13
  exact z_vret X rfl dX2_noteWrong_13
def fX2_noteWrong_0 (k0 : Nat) (x1 : Int32) (σ : cS) : Option cS := if (σ k0 3) = (-1 : Int32) then (bnd (st2 σ k0 3 x1) (fun σ1 => fX2_noteWrong_13 k0 σ1)) else (fX2_noteWrong_13 k0 σ)
set_option maxHeartbeats 4000000 in
set_option maxRecDepth 100000 in
theorem sX2_noteWrong_0 {K : MCx} {G : Lay} (X : Cx K G RX2 cX2_noteWrong 2 none 0 0) (k0 : Nat) (hk0 : isText G k0) (h : Int64) (x1 : Int32) (σ : cS) : Sm K G TT (QM K G (fun r : cS => ((none, h, r) : Option Value × Int64 × cS))) 2 0 [(0, .ref (la G k0)), (1, .int x1)] [] h σ (fX2_noteWrong_0 k0 x1 σ) := by
  unfold fX2_noteWrong_0
  refine z_aload_n X dX2_noteWrong_0 0 rfl ?_
  refine z_get X inlX2 rfl hk0.1 (ce2 hk0.1 _ _) 3 (by decide) q_4_11 rfl dX2_noteWrong_1 ?_
  refine z_iconst (v := (-1 : Int32)) X dX2_noteWrong_4 (by decide) ?_
  refine z_icmp_ne X 13 dX2_noteWrong_5 (by decide) ?_ ?_
  · refine z_aload_n X dX2_noteWrong_8 0 rfl ?_
    refine z_iload_n X dX2_noteWrong_9 1 rfl ?_
    refine z_put X inlX2 rfl hk0.1 (ce2 hk0.1 _ _) 3 (by decide) q_4_11 tyX2 tyX2_ok nmX2 rfl (cp2 hk0.1 _ _ _ 3 (by decide)) rfl rfl (Nat.le_of_ble_eq_true rfl) dX2_noteWrong_10 (fun σ1 => ?_)
    exact z_sub [] rfl (sX2_noteWrong_13 X k0 hk0 h σ1)
  · exact z_sub [] rfl (sX2_noteWrong_13 X k0 hk0 h σ)
def fX2_noteWrong (σ : cS) (k0 : Nat) (x1 : Int32) : Option cS := fX2_noteWrong_0 k0 x1 σ
set_option maxHeartbeats 4000000 in
set_option maxRecDepth 100000 in
theorem ctX2_noteWrong (l : Launch) (G : Lay) (hi : Inj G) (h : Int64) (σ : cS) (k0 : Nat) (hk0 : isText G k0) (x1 : Int32) : ∀ r, fX2_noteWrong σ k0 x1 = some r → CM l yX2_noteWrong cX2_noteWrong 2 none 0 0 G [.ref (la G k0), .int x1] h σ (none, h, r) := by
  refine cm_of (g := (fun r : cS => ((none, h, r) : Option Value × Int64 × cS))) (by decide) hi (Nat.le_of_ble_eq_true rfl) (fun K hKl X => ?_)
  unfold fX2_noteWrong
  exact z_sub [0, 1] rfl (sX2_noteWrong_0 X k0 hk0 h x1 σ)
def fX2_readSign_37 (L : Nat → Nat) (k0 : Nat) (σ : cS) : Option cS := some σ
set_option maxHeartbeats 4000000 in
set_option maxRecDepth 100000 in
theorem sX2_readSign_37 {K : MCx} {G : Lay} (X : Cx K G RX2 cX2_readSign 2 none 2 41) (k0 : Nat) (hk0 : isText G k0) (h : Int64) (σ : cS) : Sm K G TT (QM K G (fun r : cS => ((none, h, r) : Option Value × Int64 × cS))) 2 37 [] [] h σ (fX2_readSign_37 (ll G) k0 σ) := by
  unfold fX2_readSign_37
  exact z_vret X rfl dX2_readSign_37
def fX2_readSign_29 (L : Nat → Nat) (k0 : Nat) (σ : cS) : Option cS := Option.bind (fX2_noteWrong σ k0 (σ k0 2)) (fun r1 => fX2_readSign_37 L k0 r1)
set_option maxHeartbeats 4000000 in
set_option maxRecDepth 100000 in
theorem sX2_readSign_29 {K : MCx} {G : Lay} (X : Cx K G RX2 cX2_readSign 2 none 2 41) (k0 : Nat) (hk0 : isText G k0) (h : Int64) (σ : cS) : Sm K G TT (QM K G (fun r : cS => ((none, h, r) : Option Value × Int64 × cS))) 2 29 [(0, .ref (la G k0))] [] h σ (fX2_readSign_29 (ll G) k0 σ) := by
  unfold fX2_readSign_29
  refine z_aload_n X dX2_readSign_29 0 rfl ?_
  refine z_aload_n X dX2_readSign_30 0 rfl ?_
  refine z_get X inlX2 rfl hk0.1 (ce2 hk0.1 _ _) 2 (by decide) q_11_3 rfl dX2_readSign_31 ?_
  refine z_callV0 X (g := (fun r1 : cS => ((none, h, r1) : Option Value × Int64 × cS))) (st := []) (st1 := (fun r1 : cS => [])) (rmf := 0) (rml := 0) [.int (σ k0 2)] k0 cal_X2_noteWrong q_11_22 ⟨Nat.le_of_ble_eq_true rfl, Nat.le_of_ble_eq_true rfl⟩ rfl rfl (Nat.le_of_ble_eq_true rfl) rfl hk0.1 (ce2 hk0.1 _ _) (ctX2_noteWrong (kl K) G X.2.2.2.2.2.2.2.1 h σ k0 hk0 (σ k0 2)) dX2_readSign_34 (fun _ => rfl) (fun r1 => ?_)
  exact z_sub [] rfl (sX2_readSign_37 X k0 hk0 h r1)
def fX2_readSign_0 (L : Nat → Nat) (k0 : Nat) (x1 : Int32) (σ : cS) : Option cS := if (σ k0 3) = (-1 : Int32) then (Option.bind (fX2_current L σ k0) (fun r1 => if r1 = x1 then (bnd (st2 σ k0 2 ((σ k0 2) + (1 : Int32))) (fun σ2 => fX2_readSign_37 L k0 σ2)) else (fX2_readSign_29 L k0 σ))) else (fX2_readSign_29 L k0 σ)
set_option maxHeartbeats 4000000 in
set_option maxRecDepth 100000 in
theorem sX2_readSign_0 {K : MCx} {G : Lay} (X : Cx K G RX2 cX2_readSign 2 none 2 41) (k0 : Nat) (hk0 : isText G k0) (h : Int64) (x1 : Int32) (σ : cS) : Sm K G TT (QM K G (fun r : cS => ((none, h, r) : Option Value × Int64 × cS))) 2 0 [(0, .ref (la G k0)), (1, .int x1)] [] h σ (fX2_readSign_0 (ll G) k0 x1 σ) := by
  unfold fX2_readSign_0
  refine z_aload_n X dX2_readSign_0 0 rfl ?_
  refine z_get X inlX2 rfl hk0.1 (ce2 hk0.1 _ _) 3 (by decide) q_4_11 rfl dX2_readSign_1 ?_
  refine z_iconst (v := (-1 : Int32)) X dX2_readSign_4 (by decide) ?_
  refine z_icmp_ne X 29 dX2_readSign_5 (by decide) ?_ ?_
  · refine z_aload_n X dX2_readSign_8 0 rfl ?_
    refine z_callV0 X (g := (fun r1 : Int32 => ((some (.int r1), h, σ) : Option Value × Int64 × cS))) (st := []) (st1 := (fun r1 : Int32 => [.int r1])) (rmf := 1) (rml := 21) [] k0 cal_X2_current q_11_13 ⟨Nat.le_of_ble_eq_true rfl, Nat.le_of_ble_eq_true rfl⟩ rfl rfl (Nat.le_of_ble_eq_true rfl) rfl hk0.1 (ce2 hk0.1 _ _) (ctX2_current (kl K) G X.2.2.2.2.2.2.2.1 h σ k0 hk0 ) dX2_readSign_9 (fun _ => rfl) (fun r1 => ?_)
    refine z_iload_n X dX2_readSign_12 1 rfl ?_
    refine z_icmp_ne X 29 dX2_readSign_13 (by decide) ?_ ?_
    · refine z_aload_n X dX2_readSign_16 0 rfl ?_
      refine z_dup X dX2_readSign_17 rfl ?_
      refine z_get X inlX2 rfl hk0.1 (ce2 hk0.1 _ _) 2 (by decide) q_11_3 rfl dX2_readSign_18 ?_
      refine z_iconst (v := (1 : Int32)) X dX2_readSign_21 (by decide) ?_
      refine z_iadd X dX2_readSign_22 ?_
      refine z_put X inlX2 rfl hk0.1 (ce2 hk0.1 _ _) 2 (by decide) q_11_3 tyX2 tyX2_ok nmX2 rfl (cp2 hk0.1 _ _ _ 2 (by decide)) rfl rfl (Nat.le_of_ble_eq_true rfl) dX2_readSign_23 (fun σ2 => ?_)
      refine z_goto X 37 dX2_readSign_26 (by decide) ?_
      exact z_sub [] rfl (sX2_readSign_37 X k0 hk0 h σ2)
    · exact z_sub [0] rfl (sX2_readSign_29 X k0 hk0 h σ)
  · exact z_sub [0] rfl (sX2_readSign_29 X k0 hk0 h σ)
def fX2_readSign (L : Nat → Nat) (σ : cS) (k0 : Nat) (x1 : Int32) : Option cS := fX2_readSign_0 L k0 x1 σ
set_option maxHeartbeats 4000000 in
set_option maxRecDepth 100000 in
theorem ctX2_readSign (l : Launch) (G : Lay) (hi : Inj G) (h : Int64) (σ : cS) (k0 : Nat) (hk0 : isText G k0) (x1 : Int32) : ∀ r, fX2_readSign (ll G) σ k0 x1 = some r → CM l yX2_readSign cX2_readSign 2 none 2 41 G [.ref (la G k0), .int x1] h σ (none, h, r) := by
  refine cm_of (g := (fun r : cS => ((none, h, r) : Option Value × Int64 × cS))) (by decide) hi (Nat.le_of_ble_eq_true rfl) (fun K hKl X => ?_)
  unfold fX2_readSign
  exact z_sub [0, 1] rfl (sX2_readSign_0 X k0 hk0 h x1 σ)
def fX2_readNode_38 (L : Nat → Nat) (k0 : Nat) (σ : cS) : Option (Int32 × cS) := Option.bind (fX2_noteWrong σ k0 (σ k0 2)) (fun r1 => some ((-1 : Int32), r1))
set_option maxHeartbeats 4000000 in
set_option maxRecDepth 100000 in
theorem sX2_readNode_38 {K : MCx} {G : Lay} (X : Cx K G RX2 cX2_readNode 2 (some .int) 2 41) (k0 : Nat) (hk0 : isText G k0) (h : Int64) (σ : cS) : Sm K G TT (QM K G (fun r : (Int32 × cS) => ((some (.int r.1), h, r.2) : Option Value × Int64 × cS))) 2 38 [(0, .ref (la G k0))] [] h σ (fX2_readNode_38 (ll G) k0 σ) := by
  unfold fX2_readNode_38
  refine z_aload_n X dX2_readNode_38 0 rfl ?_
  refine z_aload_n X dX2_readNode_39 0 rfl ?_
  refine z_get X inlX2 rfl hk0.1 (ce2 hk0.1 _ _) 2 (by decide) q_11_3 rfl dX2_readNode_40 ?_
  refine z_callV0 X (g := (fun r1 : cS => ((none, h, r1) : Option Value × Int64 × cS))) (st := []) (st1 := (fun r1 : cS => [])) (rmf := 0) (rml := 0) [.int (σ k0 2)] k0 cal_X2_noteWrong q_11_22 ⟨Nat.le_of_ble_eq_true rfl, Nat.le_of_ble_eq_true rfl⟩ rfl rfl (Nat.le_of_ble_eq_true rfl) rfl hk0.1 (ce2 hk0.1 _ _) (ctX2_noteWrong (kl K) G X.2.2.2.2.2.2.2.1 h σ k0 hk0 (σ k0 2)) dX2_readNode_43 (fun _ => rfl) (fun r1 => ?_)
  refine z_iconst (v := (-1 : Int32)) X dX2_readNode_46 (by decide) ?_
  exact z_iret X rfl dX2_readNode_47
def fX2_readNode_0 (L : Nat → Nat) (k0 : Nat) (σ : cS) : Option (Int32 × cS) := Option.bind (fX2_current L σ k0) (fun r1 => bnd ((r1 - (97 : Int32))) (fun t2 => if (σ k0 3) = (-1 : Int32) then (if t2 < 0 then (fX2_readNode_38 L k0 σ) else (if (12 : Int32) ≤ t2 then (fX2_readNode_38 L k0 σ) else (bnd (st2 σ k0 2 ((σ k0 2) + (1 : Int32))) (fun σ3 => some (t2, σ3))))) else (fX2_readNode_38 L k0 σ)))
set_option maxHeartbeats 4000000 in
set_option maxRecDepth 100000 in
theorem sX2_readNode_0 {K : MCx} {G : Lay} (X : Cx K G RX2 cX2_readNode 2 (some .int) 2 41) (k0 : Nat) (hk0 : isText G k0) (h : Int64) (σ : cS) : Sm K G TT (QM K G (fun r : (Int32 × cS) => ((some (.int r.1), h, r.2) : Option Value × Int64 × cS))) 2 0 [(0, .ref (la G k0))] [] h σ (fX2_readNode_0 (ll G) k0 σ) := by
  unfold fX2_readNode_0
  refine z_aload_n X dX2_readNode_0 0 rfl ?_
  refine z_callV0 X (g := (fun r1 : Int32 => ((some (.int r1), h, σ) : Option Value × Int64 × cS))) (st := []) (st1 := (fun r1 : Int32 => [.int r1])) (rmf := 1) (rml := 21) [] k0 cal_X2_current q_11_13 ⟨Nat.le_of_ble_eq_true rfl, Nat.le_of_ble_eq_true rfl⟩ rfl rfl (Nat.le_of_ble_eq_true rfl) rfl hk0.1 (ce2 hk0.1 _ _) (ctX2_current (kl K) G X.2.2.2.2.2.2.2.1 h σ k0 hk0 ) dX2_readNode_1 (fun _ => rfl) (fun r1 => ?_)
  refine z_bipush (v := (97 : Int32)) X dX2_readNode_4 (by decide) ?_
  refine z_isub X dX2_readNode_6 ?_
  refine z_nm (fun t2 => ?_)
  refine z_istore_n X [(1, .int t2), (0, .ref (la G k0))] dX2_readNode_7 (by decide) rfl ?_
  refine z_aload_n X dX2_readNode_8 1 rfl ?_
  refine z_get X inlX2 rfl hk0.1 (ce2 hk0.1 _ _) 3 (by decide) q_4_11 rfl dX2_readNode_9 ?_
  refine z_iconst (v := (-1 : Int32)) X dX2_readNode_12 (by decide) ?_
  refine z_icmp_ne X 38 dX2_readNode_13 (by decide) ?_ ?_
  · refine z_iload_n X dX2_readNode_16 0 rfl ?_
    refine z_if_lt X 38 dX2_readNode_17 (by decide) ?_ ?_
    · exact z_sub [1] rfl (sX2_readNode_38 X k0 hk0 h σ)
    · refine z_iload_n X dX2_readNode_20 0 rfl ?_
      refine z_bipush (v := (12 : Int32)) X dX2_readNode_21 (by decide) ?_
      refine z_icmp_ge X 38 dX2_readNode_23 (by decide) ?_ ?_
      · exact z_sub [1] rfl (sX2_readNode_38 X k0 hk0 h σ)
      · refine z_aload_n X dX2_readNode_26 1 rfl ?_
        refine z_dup X dX2_readNode_27 rfl ?_
        refine z_get X inlX2 rfl hk0.1 (ce2 hk0.1 _ _) 2 (by decide) q_11_3 rfl dX2_readNode_28 ?_
        refine z_iconst (v := (1 : Int32)) X dX2_readNode_31 (by decide) ?_
        refine z_iadd X dX2_readNode_32 ?_
        refine z_put X inlX2 rfl hk0.1 (ce2 hk0.1 _ _) 2 (by decide) q_11_3 tyX2 tyX2_ok nmX2 rfl (cp2 hk0.1 _ _ _ 2 (by decide)) rfl rfl (Nat.le_of_ble_eq_true rfl) dX2_readNode_33 (fun σ3 => ?_)
        refine z_iload_n X dX2_readNode_36 0 rfl ?_
        exact z_iret X rfl dX2_readNode_37
  · exact z_sub [1] rfl (sX2_readNode_38 X k0 hk0 h σ)
def fX2_readNode (L : Nat → Nat) (σ : cS) (k0 : Nat) : Option (Int32 × cS) := fX2_readNode_0 L k0 σ
set_option maxHeartbeats 4000000 in
set_option maxRecDepth 100000 in
theorem ctX2_readNode (l : Launch) (G : Lay) (hi : Inj G) (h : Int64) (σ : cS) (k0 : Nat) (hk0 : isText G k0) : ∀ r, fX2_readNode (ll G) σ k0 = some r → CM l yX2_readNode cX2_readNode 2 (some .int) 2 41 G [.ref (la G k0)] h σ (some (.int r.1), h, r.2) := by
  refine cm_of (g := (fun r : (Int32 × cS) => ((some (.int r.1), h, r.2) : Option Value × Int64 × cS))) (by decide) hi (Nat.le_of_ble_eq_true rfl) (fun K hKl X => ?_)
  unfold fX2_readNode
  exact z_sub [0] rfl (sX2_readNode_0 X k0 hk0 h σ)
def fX2_isAtDigit_23 (L : Nat → Nat) (σ : cS) (k0 : Nat) (y0 : Int32)  : Option Int32 := grd (isb y0) (some y0)
set_option maxHeartbeats 4000000 in
set_option maxRecDepth 100000 in
theorem sX2_isAtDigit_23 {K : MCx} {G : Lay} (X : Cx K G RX2 cX2_isAtDigit 1 (some .boolean) 2 41) (k0 : Nat) (hk0 : isText G k0) (h : Int64) (σ : cS) (y0 : Int32) : Sm K G TT (QM K G (fun r : Int32 => ((some (.int r), h, σ) : Option Value × Int64 × cS))) 1 23 [] [.int y0] h σ (fX2_isAtDigit_23 (ll G) σ k0 y0) := by
  unfold fX2_isAtDigit_23
  exact z_zret X rfl dX2_isAtDigit_23
def fX2_isAtDigit_22 (L : Nat → Nat) (σ : cS) (k0 : Nat)  : Option Int32 := fX2_isAtDigit_23 L σ k0 (0 : Int32)
set_option maxHeartbeats 4000000 in
set_option maxRecDepth 100000 in
theorem sX2_isAtDigit_22 {K : MCx} {G : Lay} (X : Cx K G RX2 cX2_isAtDigit 1 (some .boolean) 2 41) (k0 : Nat) (hk0 : isText G k0) (h : Int64) (σ : cS) : Sm K G TT (QM K G (fun r : Int32 => ((some (.int r), h, σ) : Option Value × Int64 × cS))) 1 22 [] [] h σ (fX2_isAtDigit_22 (ll G) σ k0) := by
  unfold fX2_isAtDigit_22
  refine z_iconst (v := (0 : Int32)) X dX2_isAtDigit_22 (by decide) ?_
  exact z_sub [] rfl (sX2_isAtDigit_23 X k0 hk0 h σ (0 : Int32))
def fX2_isAtDigit_0 (L : Nat → Nat) (σ : cS) (k0 : Nat)  : Option Int32 := Option.bind (fX2_current L σ k0) (fun r1 => if r1 < (48 : Int32) then (fX2_isAtDigit_22 L σ k0) else (Option.bind (fX2_current L σ k0) (fun r2 => if (57 : Int32) < r2 then (fX2_isAtDigit_22 L σ k0) else (fX2_isAtDigit_23 L σ k0 (1 : Int32)))))
set_option maxHeartbeats 4000000 in
set_option maxRecDepth 100000 in
theorem sX2_isAtDigit_0 {K : MCx} {G : Lay} (X : Cx K G RX2 cX2_isAtDigit 1 (some .boolean) 2 41) (k0 : Nat) (hk0 : isText G k0) (h : Int64) (σ : cS) : Sm K G TT (QM K G (fun r : Int32 => ((some (.int r), h, σ) : Option Value × Int64 × cS))) 1 0 [(0, .ref (la G k0))] [] h σ (fX2_isAtDigit_0 (ll G) σ k0) := by
  unfold fX2_isAtDigit_0
  refine z_aload_n X dX2_isAtDigit_0 0 rfl ?_
  refine z_callV0 X (g := (fun r1 : Int32 => ((some (.int r1), h, σ) : Option Value × Int64 × cS))) (st := []) (st1 := (fun r1 : Int32 => [.int r1])) (rmf := 1) (rml := 21) [] k0 cal_X2_current q_11_13 ⟨Nat.le_of_ble_eq_true rfl, Nat.le_of_ble_eq_true rfl⟩ rfl rfl (Nat.le_of_ble_eq_true rfl) rfl hk0.1 (ce2 hk0.1 _ _) (ctX2_current (kl K) G X.2.2.2.2.2.2.2.1 h σ k0 hk0 ) dX2_isAtDigit_1 (fun _ => rfl) (fun r1 => ?_)
  refine z_bipush (v := (48 : Int32)) X dX2_isAtDigit_4 (by decide) ?_
  refine z_icmp_lt X 22 dX2_isAtDigit_6 (by decide) ?_ ?_
  · exact z_sub [] rfl (sX2_isAtDigit_22 X k0 hk0 h σ)
  · refine z_aload_n X dX2_isAtDigit_9 0 rfl ?_
    refine z_callV0 X (g := (fun r2 : Int32 => ((some (.int r2), h, σ) : Option Value × Int64 × cS))) (st := []) (st1 := (fun r2 : Int32 => [.int r2])) (rmf := 1) (rml := 21) [] k0 cal_X2_current q_11_13 ⟨Nat.le_of_ble_eq_true rfl, Nat.le_of_ble_eq_true rfl⟩ rfl rfl (Nat.le_of_ble_eq_true rfl) rfl hk0.1 (ce2 hk0.1 _ _) (ctX2_current (kl K) G X.2.2.2.2.2.2.2.1 h σ k0 hk0 ) dX2_isAtDigit_10 (fun _ => rfl) (fun r2 => ?_)
    refine z_bipush (v := (57 : Int32)) X dX2_isAtDigit_13 (by decide) ?_
    refine z_icmp_gt X 22 dX2_isAtDigit_15 (by decide) ?_ ?_
    · exact z_sub [] rfl (sX2_isAtDigit_22 X k0 hk0 h σ)
    · refine z_iconst (v := (1 : Int32)) X dX2_isAtDigit_18 (by decide) ?_
      refine z_goto X 23 dX2_isAtDigit_19 (by decide) ?_
      exact z_sub [] rfl (sX2_isAtDigit_23 X k0 hk0 h σ (1 : Int32))
def fX2_isAtDigit (L : Nat → Nat) (σ : cS) (k0 : Nat) : Option Int32 := fX2_isAtDigit_0 L σ k0
set_option maxHeartbeats 4000000 in
set_option maxRecDepth 100000 in
theorem ctX2_isAtDigit (l : Launch) (G : Lay) (hi : Inj G) (h : Int64) (σ : cS) (k0 : Nat) (hk0 : isText G k0) : ∀ r, fX2_isAtDigit (ll G) σ k0 = some r → CM l yX2_isAtDigit cX2_isAtDigit 1 (some .boolean) 2 41 G [.ref (la G k0)] h σ (some (.int r), h, σ) := by
  refine cm_of (g := (fun r : Int32 => ((some (.int r), h, σ) : Option Value × Int64 × cS))) (by decide) hi (Nat.le_of_ble_eq_true rfl) (fun K hKl X => ?_)
  unfold fX2_isAtDigit
  exact z_sub [0] rfl (sX2_isAtDigit_0 X k0 hk0 h σ)
def fX2_readNumber_100 (L : Nat → Nat) (Nf : Nat) (k0 : Nat) (x4 : Int32) (σ : cS) : Option (Int32 × cS) := some (x4, σ)
set_option maxHeartbeats 4000000 in
set_option maxRecDepth 100000 in
theorem sX2_readNumber_100 {K : MCx} {G : Lay} (X : Cx K G RX2 cX2_readNumber 6 (some .int) 3 61) (Nf : Nat) (k0 : Nat) (hk0 : isText G k0) (h : Int64) (x4 : Int32) (σ : cS) : Sm K G TT (QM K G (fun r : (Int32 × cS) => ((some (.int r.1), h, r.2) : Option Value × Int64 × cS))) 6 100 [(4, .int x4)] [] h σ (fX2_readNumber_100 (ll G) Nf k0 x4 σ) := by
  unfold fX2_readNumber_100
  refine z_iload X dX2_readNumber_100 0 rfl ?_
  exact z_iret X rfl dX2_readNumber_102
def fX2_readNumber_78 (L : Nat → Nat) (Nf : Nat) (k0 : Nat) (x4 : Int32) (σ : cS) : Option (Int32 × cS) := Option.bind (fX2_noteWrong σ k0 (σ k0 2)) (fun r1 => fX2_readNumber_100 L Nf k0 x4 r1)
set_option maxHeartbeats 4000000 in
set_option maxRecDepth 100000 in
theorem sX2_readNumber_78 {K : MCx} {G : Lay} (X : Cx K G RX2 cX2_readNumber 6 (some .int) 3 61) (Nf : Nat) (k0 : Nat) (hk0 : isText G k0) (h : Int64) (x4 : Int32) (σ : cS) : Sm K G TT (QM K G (fun r : (Int32 × cS) => ((some (.int r.1), h, r.2) : Option Value × Int64 × cS))) 6 78 [(0, .ref (la G k0)), (4, .int x4)] [] h σ (fX2_readNumber_78 (ll G) Nf k0 x4 σ) := by
  unfold fX2_readNumber_78
  refine z_aload_n X dX2_readNumber_78 0 rfl ?_
  refine z_aload_n X dX2_readNumber_79 0 rfl ?_
  refine z_get X inlX2 rfl hk0.1 (ce2 hk0.1 _ _) 2 (by decide) q_11_3 rfl dX2_readNumber_80 ?_
  refine z_callV0 X (g := (fun r1 : cS => ((none, h, r1) : Option Value × Int64 × cS))) (st := []) (st1 := (fun r1 : cS => [])) (rmf := 0) (rml := 0) [.int (σ k0 2)] k0 cal_X2_noteWrong q_11_22 ⟨Nat.le_of_ble_eq_true rfl, Nat.le_of_ble_eq_true rfl⟩ rfl rfl (Nat.le_of_ble_eq_true rfl) rfl hk0.1 (ce2 hk0.1 _ _) (ctX2_noteWrong (kl K) G X.2.2.2.2.2.2.2.1 h σ k0 hk0 (σ k0 2)) dX2_readNumber_83 (fun _ => rfl) (fun r1 => ?_)
  refine z_goto X 100 dX2_readNumber_86 (by decide) ?_
  exact z_sub [1] rfl (sX2_readNumber_100 X Nf k0 hk0 h x4 r1)
def fX2_readNumber_63 (L : Nat → Nat) (Nf : Nat) (k0 : Nat) (x2 : Int32) (x3 : Int32) (x4 : Int32) (σ : cS) : Option (Int32 × cS) := if (σ k0 2) = x3 then (fX2_readNumber_78 L Nf k0 x4 σ) else (Option.bind (fX2_isAtDigit L σ k0) (fun r1 => if r1 = 0 then (if x4 ≤ x2 then (fX2_readNumber_100 L Nf k0 x4 σ) else (Option.bind (fX2_noteWrong σ k0 x3) (fun r2 => fX2_readNumber_100 L Nf k0 x4 r2))) else (fX2_readNumber_78 L Nf k0 x4 σ)))
set_option maxHeartbeats 4000000 in
set_option maxRecDepth 100000 in
theorem sX2_readNumber_63 {K : MCx} {G : Lay} (X : Cx K G RX2 cX2_readNumber 6 (some .int) 3 61) (Nf : Nat) (k0 : Nat) (hk0 : isText G k0) (h : Int64) (x2 : Int32) (x3 : Int32) (x4 : Int32) (σ : cS) : Sm K G TT (QM K G (fun r : (Int32 × cS) => ((some (.int r.1), h, r.2) : Option Value × Int64 × cS))) 6 63 [(0, .ref (la G k0)), (2, .int x2), (3, .int x3), (4, .int x4)] [] h σ (fX2_readNumber_63 (ll G) Nf k0 x2 x3 x4 σ) := by
  unfold fX2_readNumber_63
  refine z_aload_n X dX2_readNumber_63 0 rfl ?_
  refine z_get X inlX2 rfl hk0.1 (ce2 hk0.1 _ _) 2 (by decide) q_11_3 rfl dX2_readNumber_64 ?_
  refine z_iload_n X dX2_readNumber_67 2 rfl ?_
  refine z_icmp_eq X 78 dX2_readNumber_68 (by decide) ?_ ?_
  · exact z_sub [0, 3] rfl (sX2_readNumber_78 X Nf k0 hk0 h x4 σ)
  · refine z_aload_n X dX2_readNumber_71 0 rfl ?_
    refine z_callV0 X (g := (fun r1 : Int32 => ((some (.int r1), h, σ) : Option Value × Int64 × cS))) (st := []) (st1 := (fun r1 : Int32 => [.int r1])) (rmf := 2) (rml := 41) [] k0 cal_X2_isAtDigit q_12_10 ⟨Nat.le_of_ble_eq_true rfl, Nat.le_of_ble_eq_true rfl⟩ rfl rfl (Nat.le_of_ble_eq_true rfl) rfl hk0.1 (ce2 hk0.1 _ _) (ctX2_isAtDigit (kl K) G X.2.2.2.2.2.2.2.1 h σ k0 hk0 ) dX2_readNumber_72 (fun _ => rfl) (fun r1 => ?_)
    refine z_if_eq X 89 dX2_readNumber_75 (by decide) ?_ ?_
    · refine z_iload X dX2_readNumber_89 3 rfl ?_
      refine z_iload_n X dX2_readNumber_91 1 rfl ?_
      refine z_icmp_le X 100 dX2_readNumber_92 (by decide) ?_ ?_
      · exact z_sub [3] rfl (sX2_readNumber_100 X Nf k0 hk0 h x4 σ)
      · refine z_aload_n X dX2_readNumber_95 0 rfl ?_
        refine z_iload_n X dX2_readNumber_96 2 rfl ?_
        refine z_callV0 X (g := (fun r2 : cS => ((none, h, r2) : Option Value × Int64 × cS))) (st := []) (st1 := (fun r2 : cS => [])) (rmf := 0) (rml := 0) [.int x3] k0 cal_X2_noteWrong q_11_22 ⟨Nat.le_of_ble_eq_true rfl, Nat.le_of_ble_eq_true rfl⟩ rfl rfl (Nat.le_of_ble_eq_true rfl) rfl hk0.1 (ce2 hk0.1 _ _) (ctX2_noteWrong (kl K) G X.2.2.2.2.2.2.2.1 h σ k0 hk0 x3) dX2_readNumber_97 (fun _ => rfl) (fun r2 => ?_)
        exact z_sub [3] rfl (sX2_readNumber_100 X Nf k0 hk0 h x4 r2)
    · exact z_sub [0, 3] rfl (sX2_readNumber_78 X Nf k0 hk0 h x4 σ)
def fX2_readNumber_11 (L : Nat → Nat) (Nf : Nat) (k0 : Nat) : Nat → Int32 → Int32 → Int32 → Int32 → Int32 → cS → Option (Int32 × cS)
  | 0, _, _, _, _, _, _ => none
  | n + 1, x1, x2, x3, x4, x5, σ => if x1 ≤ x5 then (fX2_readNumber_63 L Nf k0 x2 x3 x4 σ) else (if (σ k0 3) = (-1 : Int32) then (Option.bind (fX2_isAtDigit L σ k0) (fun r1 => if r1 = 0 then (fX2_readNumber_63 L Nf k0 x2 x3 x4 σ) else (Option.bind (fX2_current L σ k0) (fun r2 => bnd ((((x4 * (10 : Int32)) + r2) - (48 : Int32))) (fun t3 => bnd (st2 σ k0 2 ((σ k0 2) + (1 : Int32))) (fun σ4 => bnd (x5 + (1 : Int32)) (fun t5 => fX2_readNumber_11 L Nf k0 n x1 x2 x3 t3 t5 σ4))))))) else (fX2_readNumber_63 L Nf k0 x2 x3 x4 σ))
set_option maxHeartbeats 4000000 in
set_option maxRecDepth 100000 in
theorem sX2_readNumber_11 {K : MCx} {G : Lay} (X : Cx K G RX2 cX2_readNumber 6 (some .int) 3 61) (Nf : Nat) (k0 : Nat) (hk0 : isText G k0) (h : Int64) : ∀ (n : Nat) (x1 : Int32) (x2 : Int32) (x3 : Int32) (x4 : Int32) (x5 : Int32) (σ : cS), Sm K G TT (QM K G (fun r : (Int32 × cS) => ((some (.int r.1), h, r.2) : Option Value × Int64 × cS))) 6 11 [(0, .ref (la G k0)), (1, .int x1), (2, .int x2), (3, .int x3), (4, .int x4), (5, .int x5)] [] h σ (fX2_readNumber_11 (ll G) Nf k0 n x1 x2 x3 x4 x5 σ) := by
  intro n
  induction n with
  | zero => intros; exact z_none
  | succ n ih =>
    intro x1 x2 x3 x4 x5 σ
    unfold fX2_readNumber_11
    refine z_iload X dX2_readNumber_11 5 rfl ?_
    refine z_iload_n X dX2_readNumber_13 1 rfl ?_
    refine z_icmp_ge X 63 dX2_readNumber_14 (by decide) ?_ ?_
    · exact z_sub [0, 2, 3, 4] rfl (sX2_readNumber_63 X Nf k0 hk0 h x2 x3 x4 σ)
    · refine z_aload_n X dX2_readNumber_17 0 rfl ?_
      refine z_get X inlX2 rfl hk0.1 (ce2 hk0.1 _ _) 3 (by decide) q_4_11 rfl dX2_readNumber_18 ?_
      refine z_iconst (v := (-1 : Int32)) X dX2_readNumber_21 (by decide) ?_
      refine z_icmp_ne X 63 dX2_readNumber_22 (by decide) ?_ ?_
      · refine z_aload_n X dX2_readNumber_25 0 rfl ?_
        refine z_callV0 X (g := (fun r1 : Int32 => ((some (.int r1), h, σ) : Option Value × Int64 × cS))) (st := []) (st1 := (fun r1 : Int32 => [.int r1])) (rmf := 2) (rml := 41) [] k0 cal_X2_isAtDigit q_12_10 ⟨Nat.le_of_ble_eq_true rfl, Nat.le_of_ble_eq_true rfl⟩ rfl rfl (Nat.le_of_ble_eq_true rfl) rfl hk0.1 (ce2 hk0.1 _ _) (ctX2_isAtDigit (kl K) G X.2.2.2.2.2.2.2.1 h σ k0 hk0 ) dX2_readNumber_26 (fun _ => rfl) (fun r1 => ?_)
        refine z_if_eq X 63 dX2_readNumber_29 (by decide) ?_ ?_
        · exact z_sub [0, 2, 3, 4] rfl (sX2_readNumber_63 X Nf k0 hk0 h x2 x3 x4 σ)
        · refine z_iload X dX2_readNumber_32 4 rfl ?_
          refine z_bipush (v := (10 : Int32)) X dX2_readNumber_34 (by decide) ?_
          refine z_imul X dX2_readNumber_36 ?_
          refine z_aload_n X dX2_readNumber_37 0 rfl ?_
          refine z_callV0 X (g := (fun r2 : Int32 => ((some (.int r2), h, σ) : Option Value × Int64 × cS))) (st := [.int (x4 * (10 : Int32))]) (st1 := (fun r2 : Int32 => [.int r2, .int (x4 * (10 : Int32))])) (rmf := 1) (rml := 21) [] k0 cal_X2_current q_11_13 ⟨Nat.le_of_ble_eq_true rfl, Nat.le_of_ble_eq_true rfl⟩ rfl rfl (Nat.le_of_ble_eq_true rfl) rfl hk0.1 (ce2 hk0.1 _ _) (ctX2_current (kl K) G X.2.2.2.2.2.2.2.1 h σ k0 hk0 ) dX2_readNumber_38 (fun _ => rfl) (fun r2 => ?_)
          refine z_iadd X dX2_readNumber_41 ?_
          refine z_bipush (v := (48 : Int32)) X dX2_readNumber_42 (by decide) ?_
          refine z_isub X dX2_readNumber_44 ?_
          refine z_nm (fun t3 => ?_)
          refine z_istore X [(4, .int t3), (0, .ref (la G k0)), (1, .int x1), (2, .int x2), (3, .int x3), (5, .int x5)] dX2_readNumber_45 (by decide) rfl ?_
          refine z_aload_n X dX2_readNumber_47 1 rfl ?_
          refine z_dup X dX2_readNumber_48 rfl ?_
          refine z_get X inlX2 rfl hk0.1 (ce2 hk0.1 _ _) 2 (by decide) q_11_3 rfl dX2_readNumber_49 ?_
          refine z_iconst (v := (1 : Int32)) X dX2_readNumber_52 (by decide) ?_
          refine z_iadd X dX2_readNumber_53 ?_
          refine z_put X inlX2 rfl hk0.1 (ce2 hk0.1 _ _) 2 (by decide) q_11_3 tyX2 tyX2_ok nmX2 rfl (cp2 hk0.1 _ _ _ 2 (by decide)) rfl rfl (Nat.le_of_ble_eq_true rfl) dX2_readNumber_54 (fun σ4 => ?_)
          refine z_iinc X (fun t5 => [(5, .int t5), (4, .int t3), (0, .ref (la G k0)), (1, .int x1), (2, .int x2), (3, .int x3)]) dX2_readNumber_57 5 rfl (by decide) (by decide) (fun _ => rfl) (fun t5 => ?_)
          refine z_goto X 11 dX2_readNumber_60 (by decide) ?_
          exact z_sub [2, 3, 4, 5, 1, 0] rfl (ih x1 x2 x3 t3 t5 σ4)
      · exact z_sub [0, 2, 3, 4] rfl (sX2_readNumber_63 X Nf k0 hk0 h x2 x3 x4 σ)
def fX2_readNumber_0 (L : Nat → Nat) (Nf : Nat) (k0 : Nat) (x1 : Int32) (x2 : Int32) (σ : cS) : Option (Int32 × cS) := bnd ((σ k0 2)) (fun t1 => fX2_readNumber_11 L Nf k0 Nf x1 x2 t1 (0 : Int32) (0 : Int32) σ)
set_option maxHeartbeats 4000000 in
set_option maxRecDepth 100000 in
theorem sX2_readNumber_0 {K : MCx} {G : Lay} (X : Cx K G RX2 cX2_readNumber 6 (some .int) 3 61) (Nf : Nat) (k0 : Nat) (hk0 : isText G k0) (h : Int64) (x1 : Int32) (x2 : Int32) (σ : cS) : Sm K G TT (QM K G (fun r : (Int32 × cS) => ((some (.int r.1), h, r.2) : Option Value × Int64 × cS))) 6 0 [(0, .ref (la G k0)), (1, .int x1), (2, .int x2)] [] h σ (fX2_readNumber_0 (ll G) Nf k0 x1 x2 σ) := by
  unfold fX2_readNumber_0
  refine z_aload_n X dX2_readNumber_0 0 rfl ?_
  refine z_get X inlX2 rfl hk0.1 (ce2 hk0.1 _ _) 2 (by decide) q_11_3 rfl dX2_readNumber_1 ?_
  refine z_nm (fun t1 => ?_)
  refine z_istore_n X [(3, .int t1), (0, .ref (la G k0)), (1, .int x1), (2, .int x2)] dX2_readNumber_4 (by decide) rfl ?_
  refine z_iconst (v := (0 : Int32)) X dX2_readNumber_5 (by decide) ?_
  refine z_istore X [(4, .int (0 : Int32)), (3, .int t1), (0, .ref (la G k0)), (1, .int x1), (2, .int x2)] dX2_readNumber_6 (by decide) rfl ?_
  refine z_iconst (v := (0 : Int32)) X dX2_readNumber_8 (by decide) ?_
  refine z_istore X [(5, .int (0 : Int32)), (4, .int (0 : Int32)), (3, .int t1), (0, .ref (la G k0)), (1, .int x1), (2, .int x2)] dX2_readNumber_9 (by decide) rfl ?_
  exact z_sub [3, 4, 5, 2, 1, 0] rfl (sX2_readNumber_11 X Nf k0 hk0 h Nf x1 x2 t1 (0 : Int32) (0 : Int32) σ)
def fX2_readNumber (L : Nat → Nat) (Nf : Nat) (σ : cS) (k0 : Nat) (x1 : Int32) (x2 : Int32) : Option (Int32 × cS) := fX2_readNumber_0 L Nf k0 x1 x2 σ
set_option maxHeartbeats 4000000 in
set_option maxRecDepth 100000 in
theorem ctX2_readNumber (l : Launch) (G : Lay) (hi : Inj G) (Nf : Nat) (h : Int64) (σ : cS) (k0 : Nat) (hk0 : isText G k0) (x1 : Int32) (x2 : Int32) : ∀ r, fX2_readNumber (ll G) Nf σ k0 x1 x2 = some r → CM l yX2_readNumber cX2_readNumber 6 (some .int) 3 61 G [.ref (la G k0), .int x1, .int x2] h σ (some (.int r.1), h, r.2) := by
  refine cm_of (g := (fun r : (Int32 × cS) => ((some (.int r.1), h, r.2) : Option Value × Int64 × cS))) (by decide) hi (Nat.le_of_ble_eq_true rfl) (fun K hKl X => ?_)
  unfold fX2_readNumber
  exact z_sub [0, 1, 2] rfl (sX2_readNumber_0 X Nf k0 hk0 h x1 x2 σ)
def fX2_readOrder_219 (L : Nat → Nat) (Nf : Nat) (k0 : Nat) (y0 : Int32) (σ : cS) : Option (Int32 × cS) := grd (isb y0) (some (y0, σ))
set_option maxHeartbeats 4000000 in
set_option maxRecDepth 100000 in
theorem sX2_readOrder_219 {K : MCx} {G : Lay} (X : Cx K G RX2 cX2_readOrder 1 (some .boolean) 4 86) (Nf : Nat) (k0 : Nat) (hk0 : isText G k0) (h : Int64) (y0 : Int32) (σ : cS) : Sm K G TT (QM K G (fun r : (Int32 × cS) => ((some (.int r.1), h, r.2) : Option Value × Int64 × cS))) 1 219 [] [.int y0] h σ (fX2_readOrder_219 (ll G) Nf k0 y0 σ) := by
  unfold fX2_readOrder_219
  exact z_zret X rfl dX2_readOrder_219
def fX2_readOrder_200 (L : Nat → Nat) (Nf : Nat) (k0 : Nat) (σ : cS) : Option (Int32 × cS) := Option.bind (fX2_readSign L σ k0 (59 : Int32)) (fun r1 => if (r1 k0 3) = (-1 : Int32) then (fX2_readOrder_219 L Nf k0 (1 : Int32) r1) else (fX2_readOrder_219 L Nf k0 (0 : Int32) r1))
set_option maxHeartbeats 4000000 in
set_option maxRecDepth 100000 in
theorem sX2_readOrder_200 {K : MCx} {G : Lay} (X : Cx K G RX2 cX2_readOrder 1 (some .boolean) 4 86) (Nf : Nat) (k0 : Nat) (hk0 : isText G k0) (h : Int64) (σ : cS) : Sm K G TT (QM K G (fun r : (Int32 × cS) => ((some (.int r.1), h, r.2) : Option Value × Int64 × cS))) 1 200 [(0, .ref (la G k0))] [] h σ (fX2_readOrder_200 (ll G) Nf k0 σ) := by
  unfold fX2_readOrder_200
  refine z_aload_n X dX2_readOrder_200 0 rfl ?_
  refine z_bipush (v := (59 : Int32)) X dX2_readOrder_201 (by decide) ?_
  refine z_callV0 X (g := (fun r1 : cS => ((none, h, r1) : Option Value × Int64 × cS))) (st := []) (st1 := (fun r1 : cS => [])) (rmf := 2) (rml := 41) [.int (59 : Int32)] k0 cal_X2_readSign q_11_18 ⟨Nat.le_of_ble_eq_true rfl, Nat.le_of_ble_eq_true rfl⟩ rfl rfl (Nat.le_of_ble_eq_true rfl) rfl hk0.1 (ce2 hk0.1 _ _) (ctX2_readSign (kl K) G X.2.2.2.2.2.2.2.1 h σ k0 hk0 (59 : Int32)) dX2_readOrder_203 (fun _ => rfl) (fun r1 => ?_)
  refine z_aload_n X dX2_readOrder_206 0 rfl ?_
  refine z_get X inlX2 rfl hk0.1 (ce2 hk0.1 _ _) 3 (by decide) q_4_11 rfl dX2_readOrder_207 ?_
  refine z_iconst (v := (-1 : Int32)) X dX2_readOrder_210 (by decide) ?_
  refine z_icmp_ne X 218 dX2_readOrder_211 (by decide) ?_ ?_
  · refine z_iconst (v := (1 : Int32)) X dX2_readOrder_214 (by decide) ?_
    refine z_goto X 219 dX2_readOrder_215 (by decide) ?_
    exact z_sub [] rfl (sX2_readOrder_219 X Nf k0 hk0 h (1 : Int32) r1)
  · refine z_iconst (v := (0 : Int32)) X dX2_readOrder_218 (by decide) ?_
    exact z_sub [] rfl (sX2_readOrder_219 X Nf k0 hk0 h (0 : Int32) r1)
def fX2_readOrder_0 (L : Nat → Nat) (Nf : Nat) (k0 : Nat) (σ : cS) : Option (Int32 × cS) := if (σ k0 2) < (σ k0 1) then (Option.bind (fX2_current L σ k0) (fun r1 => bnd (st2 σ k0 4 r1) (fun σ2 => if (σ2 k0 4) = (43 : Int32) then (Option.bind (fX2_readSign L σ2 k0 (43 : Int32)) (fun r3 => Option.bind (fX2_readNode L r3 k0) (fun r4 => bnd (st2 r4.2 k0 5 r4.1) (fun σ5 => Option.bind (fX2_readNode L σ5 k0) (fun r6 => bnd (st2 r6.2 k0 6 r6.1) (fun σ7 => fX2_readOrder_200 L Nf k0 σ7)))))) else (if (σ2 k0 4) = (45 : Int32) then (Option.bind (fX2_readSign L σ2 k0 (σ2 k0 4)) (fun r8 => Option.bind (fX2_readNumber L Nf r8 k0 (3 : Int32) (999 : Int32)) (fun r9 => bnd (st2 r9.2 k0 7 r9.1) (fun σ10 => fX2_readOrder_200 L Nf k0 σ10)))) else (if (σ2 k0 4) = (98 : Int32) then (Option.bind (fX2_readSign L σ2 k0 (98 : Int32)) (fun r11 => fX2_readOrder_200 L Nf k0 r11)) else (if (σ2 k0 4) = (99 : Int32) then (Option.bind (fX2_readSign L σ2 k0 (99 : Int32)) (fun r12 => Option.bind (fX2_readNode L r12 k0) (fun r13 => bnd (st2 r13.2 k0 5 r13.1) (fun σ14 => Option.bind (fX2_readSign L σ14 k0 (61 : Int32)) (fun r15 => Option.bind (fX2_readNumber L Nf r15 k0 (2 : Int32) (40 : Int32)) (fun r16 => bnd (st2 r16.2 k0 7 r16.1) (fun σ17 => fX2_readOrder_200 L Nf k0 σ17))))))) else (if (σ2 k0 4) = (114 : Int32) then (Option.bind (fX2_readSign L σ2 k0 (114 : Int32)) (fun r18 => Option.bind (fX2_readNode L r18 k0) (fun r19 => bnd (st2 r19.2 k0 5 r19.1) (fun σ20 => fX2_readOrder_200 L Nf k0 σ20)))) else (if (σ2 k0 4) = (116 : Int32) then (Option.bind (fX2_readSign L σ2 k0 (σ2 k0 4)) (fun r21 => Option.bind (fX2_readNumber L Nf r21 k0 (3 : Int32) (999 : Int32)) (fun r22 => bnd (st2 r22.2 k0 7 r22.1) (fun σ23 => fX2_readOrder_200 L Nf k0 σ23)))) else (Option.bind (fX2_noteWrong σ2 k0 (σ2 k0 2)) (fun r24 => fX2_readOrder_200 L Nf k0 r24)))))))))) else (grd (isb (0 : Int32)) (some ((0 : Int32), σ)))
set_option maxHeartbeats 4000000 in
set_option maxRecDepth 100000 in
theorem sX2_readOrder_0 {K : MCx} {G : Lay} (X : Cx K G RX2 cX2_readOrder 1 (some .boolean) 4 86) (Nf : Nat) (k0 : Nat) (hk0 : isText G k0) (h : Int64) (σ : cS) : Sm K G TT (QM K G (fun r : (Int32 × cS) => ((some (.int r.1), h, r.2) : Option Value × Int64 × cS))) 1 0 [(0, .ref (la G k0))] [] h σ (fX2_readOrder_0 (ll G) Nf k0 σ) := by
  unfold fX2_readOrder_0
  refine z_aload_n X dX2_readOrder_0 0 rfl ?_
  refine z_get X inlX2 rfl hk0.1 (ce2 hk0.1 _ _) 2 (by decide) q_11_3 rfl dX2_readOrder_1 ?_
  refine z_aload_n X dX2_readOrder_4 0 rfl ?_
  refine z_get X inlX2 rfl hk0.1 (ce2 hk0.1 _ _) 1 (by decide) q_11_8 rfl dX2_readOrder_5 ?_
  refine z_icmp_lt X 13 dX2_readOrder_8 (by decide) ?_ ?_
  · refine z_aload_n X dX2_readOrder_13 0 rfl ?_
    refine z_aload_n X dX2_readOrder_14 0 rfl ?_
    refine z_callV0 X (g := (fun r1 : Int32 => ((some (.int r1), h, σ) : Option Value × Int64 × cS))) (st := [.ref (la G k0)]) (st1 := (fun r1 : Int32 => [.int r1, .ref (la G k0)])) (rmf := 1) (rml := 21) [] k0 cal_X2_current q_11_13 ⟨Nat.le_of_ble_eq_true rfl, Nat.le_of_ble_eq_true rfl⟩ rfl rfl (Nat.le_of_ble_eq_true rfl) rfl hk0.1 (ce2 hk0.1 _ _) (ctX2_current (kl K) G X.2.2.2.2.2.2.2.1 h σ k0 hk0 ) dX2_readOrder_15 (fun _ => rfl) (fun r1 => ?_)
    refine z_put X inlX2 rfl hk0.1 (ce2 hk0.1 _ _) 4 (by decide) q_11_9 tyX2 tyX2_ok nmX2 rfl (cp2 hk0.1 _ _ _ 4 (by decide)) rfl rfl (Nat.le_of_ble_eq_true rfl) dX2_readOrder_18 (fun σ2 => ?_)
    refine z_aload_n X dX2_readOrder_21 0 rfl ?_
    refine z_get X inlX2 rfl hk0.1 (ce2 hk0.1 _ _) 4 (by decide) q_11_9 rfl dX2_readOrder_22 ?_
    refine z_ite (fun c0 => ?_) (fun c0 => ?_)
    · refine z_lsw (off := 59) X 84 dX2_readOrder_25 (by decide) (by rw [c0]; decide) (by decide) ?_
      refine z_aload_n X dX2_readOrder_84 0 rfl ?_
      refine z_bipush (v := (43 : Int32)) X dX2_readOrder_85 (by decide) ?_
      refine z_callV0 X (g := (fun r3 : cS => ((none, h, r3) : Option Value × Int64 × cS))) (st := []) (st1 := (fun r3 : cS => [])) (rmf := 2) (rml := 41) [.int (43 : Int32)] k0 cal_X2_readSign q_11_18 ⟨Nat.le_of_ble_eq_true rfl, Nat.le_of_ble_eq_true rfl⟩ rfl rfl (Nat.le_of_ble_eq_true rfl) rfl hk0.1 (ce2 hk0.1 _ _) (ctX2_readSign (kl K) G X.2.2.2.2.2.2.2.1 h σ2 k0 hk0 (43 : Int32)) dX2_readOrder_87 (fun _ => rfl) (fun r3 => ?_)
      refine z_aload_n X dX2_readOrder_90 0 rfl ?_
      refine z_aload_n X dX2_readOrder_91 0 rfl ?_
      refine z_callV0 X (g := (fun r4 : (Int32 × cS) => ((some (.int r4.1), h, r4.2) : Option Value × Int64 × cS))) (st := [.ref (la G k0)]) (st1 := (fun r4 : (Int32 × cS) => [.int r4.1, .ref (la G k0)])) (rmf := 2) (rml := 41) [] k0 cal_X2_readNode q_12_2 ⟨Nat.le_of_ble_eq_true rfl, Nat.le_of_ble_eq_true rfl⟩ rfl rfl (Nat.le_of_ble_eq_true rfl) rfl hk0.1 (ce2 hk0.1 _ _) (ctX2_readNode (kl K) G X.2.2.2.2.2.2.2.1 h r3 k0 hk0 ) dX2_readOrder_92 (fun _ => rfl) (fun r4 => ?_)
      refine z_put X inlX2 rfl hk0.1 (ce2 hk0.1 _ _) 5 (by decide) q_11_10 tyX2 tyX2_ok nmX2 rfl (cp2 hk0.1 _ _ _ 5 (by decide)) rfl rfl (Nat.le_of_ble_eq_true rfl) dX2_readOrder_95 (fun σ5 => ?_)
      refine z_aload_n X dX2_readOrder_98 0 rfl ?_
      refine z_aload_n X dX2_readOrder_99 0 rfl ?_
      refine z_callV0 X (g := (fun r6 : (Int32 × cS) => ((some (.int r6.1), h, r6.2) : Option Value × Int64 × cS))) (st := [.ref (la G k0)]) (st1 := (fun r6 : (Int32 × cS) => [.int r6.1, .ref (la G k0)])) (rmf := 2) (rml := 41) [] k0 cal_X2_readNode q_12_2 ⟨Nat.le_of_ble_eq_true rfl, Nat.le_of_ble_eq_true rfl⟩ rfl rfl (Nat.le_of_ble_eq_true rfl) rfl hk0.1 (ce2 hk0.1 _ _) (ctX2_readNode (kl K) G X.2.2.2.2.2.2.2.1 h σ5 k0 hk0 ) dX2_readOrder_100 (fun _ => rfl) (fun r6 => ?_)
      refine z_put X inlX2 rfl hk0.1 (ce2 hk0.1 _ _) 6 (by decide) q_11_11 tyX2 tyX2_ok nmX2 rfl (cp2 hk0.1 _ _ _ 6 (by decide)) rfl rfl (Nat.le_of_ble_eq_true rfl) dX2_readOrder_103 (fun σ7 => ?_)
      refine z_goto X 200 dX2_readOrder_106 (by decide) ?_
      exact z_sub [0] rfl (sX2_readOrder_200 X Nf k0 hk0 h σ7)
    · refine z_ite (fun c1 => ?_) (fun c1 => ?_)
      · refine z_lsw (off := 84) X 109 dX2_readOrder_25 (by decide) (by rw [c1]; decide) (by decide) ?_
        refine z_aload_n X dX2_readOrder_109 0 rfl ?_
        refine z_aload_n X dX2_readOrder_110 0 rfl ?_
        refine z_get X inlX2 rfl hk0.1 (ce2 hk0.1 _ _) 4 (by decide) q_11_9 rfl dX2_readOrder_111 ?_
        refine z_callV0 X (g := (fun r8 : cS => ((none, h, r8) : Option Value × Int64 × cS))) (st := []) (st1 := (fun r8 : cS => [])) (rmf := 2) (rml := 41) [.int (σ2 k0 4)] k0 cal_X2_readSign q_11_18 ⟨Nat.le_of_ble_eq_true rfl, Nat.le_of_ble_eq_true rfl⟩ rfl rfl (Nat.le_of_ble_eq_true rfl) rfl hk0.1 (ce2 hk0.1 _ _) (ctX2_readSign (kl K) G X.2.2.2.2.2.2.2.1 h σ2 k0 hk0 (σ2 k0 4)) dX2_readOrder_114 (fun _ => rfl) (fun r8 => ?_)
        refine z_aload_n X dX2_readOrder_117 0 rfl ?_
        refine z_aload_n X dX2_readOrder_118 0 rfl ?_
        refine z_iconst (v := (3 : Int32)) X dX2_readOrder_119 (by decide) ?_
        refine z_sipush (v := (999 : Int32)) X dX2_readOrder_120 (by decide) ?_
        refine z_callV0 X (g := (fun r9 : (Int32 × cS) => ((some (.int r9.1), h, r9.2) : Option Value × Int64 × cS))) (st := [.ref (la G k0)]) (st1 := (fun r9 : (Int32 × cS) => [.int r9.1, .ref (la G k0)])) (rmf := 3) (rml := 61) [.int (3 : Int32), .int (999 : Int32)] k0 cal_X2_readNumber q_12_6 ⟨Nat.le_of_ble_eq_true rfl, Nat.le_of_ble_eq_true rfl⟩ rfl rfl (Nat.le_of_ble_eq_true rfl) rfl hk0.1 (ce2 hk0.1 _ _) (ctX2_readNumber (kl K) G X.2.2.2.2.2.2.2.1 Nf h r8 k0 hk0 (3 : Int32) (999 : Int32)) dX2_readOrder_123 (fun _ => rfl) (fun r9 => ?_)
        refine z_put X inlX2 rfl hk0.1 (ce2 hk0.1 _ _) 7 (by decide) q_11_12 tyX2 tyX2_ok nmX2 rfl (cp2 hk0.1 _ _ _ 7 (by decide)) rfl rfl (Nat.le_of_ble_eq_true rfl) dX2_readOrder_126 (fun σ10 => ?_)
        refine z_goto X 200 dX2_readOrder_129 (by decide) ?_
        exact z_sub [0] rfl (sX2_readOrder_200 X Nf k0 hk0 h σ10)
      · refine z_ite (fun c2 => ?_) (fun c2 => ?_)
        · refine z_lsw (off := 124) X 149 dX2_readOrder_25 (by decide) (by rw [c2]; decide) (by decide) ?_
          refine z_aload_n X dX2_readOrder_149 0 rfl ?_
          refine z_bipush (v := (98 : Int32)) X dX2_readOrder_150 (by decide) ?_
          refine z_callV0 X (g := (fun r11 : cS => ((none, h, r11) : Option Value × Int64 × cS))) (st := []) (st1 := (fun r11 : cS => [])) (rmf := 2) (rml := 41) [.int (98 : Int32)] k0 cal_X2_readSign q_11_18 ⟨Nat.le_of_ble_eq_true rfl, Nat.le_of_ble_eq_true rfl⟩ rfl rfl (Nat.le_of_ble_eq_true rfl) rfl hk0.1 (ce2 hk0.1 _ _) (ctX2_readSign (kl K) G X.2.2.2.2.2.2.2.1 h σ2 k0 hk0 (98 : Int32)) dX2_readOrder_152 (fun _ => rfl) (fun r11 => ?_)
          refine z_goto X 200 dX2_readOrder_155 (by decide) ?_
          exact z_sub [0] rfl (sX2_readOrder_200 X Nf k0 hk0 h r11)
        · refine z_ite (fun c3 => ?_) (fun c3 => ?_)
          · refine z_lsw (off := 133) X 158 dX2_readOrder_25 (by decide) (by rw [c3]; decide) (by decide) ?_
            refine z_aload_n X dX2_readOrder_158 0 rfl ?_
            refine z_bipush (v := (99 : Int32)) X dX2_readOrder_159 (by decide) ?_
            refine z_callV0 X (g := (fun r12 : cS => ((none, h, r12) : Option Value × Int64 × cS))) (st := []) (st1 := (fun r12 : cS => [])) (rmf := 2) (rml := 41) [.int (99 : Int32)] k0 cal_X2_readSign q_11_18 ⟨Nat.le_of_ble_eq_true rfl, Nat.le_of_ble_eq_true rfl⟩ rfl rfl (Nat.le_of_ble_eq_true rfl) rfl hk0.1 (ce2 hk0.1 _ _) (ctX2_readSign (kl K) G X.2.2.2.2.2.2.2.1 h σ2 k0 hk0 (99 : Int32)) dX2_readOrder_161 (fun _ => rfl) (fun r12 => ?_)
            refine z_aload_n X dX2_readOrder_164 0 rfl ?_
            refine z_aload_n X dX2_readOrder_165 0 rfl ?_
            refine z_callV0 X (g := (fun r13 : (Int32 × cS) => ((some (.int r13.1), h, r13.2) : Option Value × Int64 × cS))) (st := [.ref (la G k0)]) (st1 := (fun r13 : (Int32 × cS) => [.int r13.1, .ref (la G k0)])) (rmf := 2) (rml := 41) [] k0 cal_X2_readNode q_12_2 ⟨Nat.le_of_ble_eq_true rfl, Nat.le_of_ble_eq_true rfl⟩ rfl rfl (Nat.le_of_ble_eq_true rfl) rfl hk0.1 (ce2 hk0.1 _ _) (ctX2_readNode (kl K) G X.2.2.2.2.2.2.2.1 h r12 k0 hk0 ) dX2_readOrder_166 (fun _ => rfl) (fun r13 => ?_)
            refine z_put X inlX2 rfl hk0.1 (ce2 hk0.1 _ _) 5 (by decide) q_11_10 tyX2 tyX2_ok nmX2 rfl (cp2 hk0.1 _ _ _ 5 (by decide)) rfl rfl (Nat.le_of_ble_eq_true rfl) dX2_readOrder_169 (fun σ14 => ?_)
            refine z_aload_n X dX2_readOrder_172 0 rfl ?_
            refine z_bipush (v := (61 : Int32)) X dX2_readOrder_173 (by decide) ?_
            refine z_callV0 X (g := (fun r15 : cS => ((none, h, r15) : Option Value × Int64 × cS))) (st := []) (st1 := (fun r15 : cS => [])) (rmf := 2) (rml := 41) [.int (61 : Int32)] k0 cal_X2_readSign q_11_18 ⟨Nat.le_of_ble_eq_true rfl, Nat.le_of_ble_eq_true rfl⟩ rfl rfl (Nat.le_of_ble_eq_true rfl) rfl hk0.1 (ce2 hk0.1 _ _) (ctX2_readSign (kl K) G X.2.2.2.2.2.2.2.1 h σ14 k0 hk0 (61 : Int32)) dX2_readOrder_175 (fun _ => rfl) (fun r15 => ?_)
            refine z_aload_n X dX2_readOrder_178 0 rfl ?_
            refine z_aload_n X dX2_readOrder_179 0 rfl ?_
            refine z_iconst (v := (2 : Int32)) X dX2_readOrder_180 (by decide) ?_
            refine z_bipush (v := (40 : Int32)) X dX2_readOrder_181 (by decide) ?_
            refine z_callV0 X (g := (fun r16 : (Int32 × cS) => ((some (.int r16.1), h, r16.2) : Option Value × Int64 × cS))) (st := [.ref (la G k0)]) (st1 := (fun r16 : (Int32 × cS) => [.int r16.1, .ref (la G k0)])) (rmf := 3) (rml := 61) [.int (2 : Int32), .int (40 : Int32)] k0 cal_X2_readNumber q_12_6 ⟨Nat.le_of_ble_eq_true rfl, Nat.le_of_ble_eq_true rfl⟩ rfl rfl (Nat.le_of_ble_eq_true rfl) rfl hk0.1 (ce2 hk0.1 _ _) (ctX2_readNumber (kl K) G X.2.2.2.2.2.2.2.1 Nf h r15 k0 hk0 (2 : Int32) (40 : Int32)) dX2_readOrder_183 (fun _ => rfl) (fun r16 => ?_)
            refine z_put X inlX2 rfl hk0.1 (ce2 hk0.1 _ _) 7 (by decide) q_11_12 tyX2 tyX2_ok nmX2 rfl (cp2 hk0.1 _ _ _ 7 (by decide)) rfl rfl (Nat.le_of_ble_eq_true rfl) dX2_readOrder_186 (fun σ17 => ?_)
            refine z_goto X 200 dX2_readOrder_189 (by decide) ?_
            exact z_sub [0] rfl (sX2_readOrder_200 X Nf k0 hk0 h σ17)
          · refine z_ite (fun c4 => ?_) (fun c4 => ?_)
            · refine z_lsw (off := 107) X 132 dX2_readOrder_25 (by decide) (by rw [c4]; decide) (by decide) ?_
              refine z_aload_n X dX2_readOrder_132 0 rfl ?_
              refine z_bipush (v := (114 : Int32)) X dX2_readOrder_133 (by decide) ?_
              refine z_callV0 X (g := (fun r18 : cS => ((none, h, r18) : Option Value × Int64 × cS))) (st := []) (st1 := (fun r18 : cS => [])) (rmf := 2) (rml := 41) [.int (114 : Int32)] k0 cal_X2_readSign q_11_18 ⟨Nat.le_of_ble_eq_true rfl, Nat.le_of_ble_eq_true rfl⟩ rfl rfl (Nat.le_of_ble_eq_true rfl) rfl hk0.1 (ce2 hk0.1 _ _) (ctX2_readSign (kl K) G X.2.2.2.2.2.2.2.1 h σ2 k0 hk0 (114 : Int32)) dX2_readOrder_135 (fun _ => rfl) (fun r18 => ?_)
              refine z_aload_n X dX2_readOrder_138 0 rfl ?_
              refine z_aload_n X dX2_readOrder_139 0 rfl ?_
              refine z_callV0 X (g := (fun r19 : (Int32 × cS) => ((some (.int r19.1), h, r19.2) : Option Value × Int64 × cS))) (st := [.ref (la G k0)]) (st1 := (fun r19 : (Int32 × cS) => [.int r19.1, .ref (la G k0)])) (rmf := 2) (rml := 41) [] k0 cal_X2_readNode q_12_2 ⟨Nat.le_of_ble_eq_true rfl, Nat.le_of_ble_eq_true rfl⟩ rfl rfl (Nat.le_of_ble_eq_true rfl) rfl hk0.1 (ce2 hk0.1 _ _) (ctX2_readNode (kl K) G X.2.2.2.2.2.2.2.1 h r18 k0 hk0 ) dX2_readOrder_140 (fun _ => rfl) (fun r19 => ?_)
              refine z_put X inlX2 rfl hk0.1 (ce2 hk0.1 _ _) 5 (by decide) q_11_10 tyX2 tyX2_ok nmX2 rfl (cp2 hk0.1 _ _ _ 5 (by decide)) rfl rfl (Nat.le_of_ble_eq_true rfl) dX2_readOrder_143 (fun σ20 => ?_)
              refine z_goto X 200 dX2_readOrder_146 (by decide) ?_
              exact z_sub [0] rfl (sX2_readOrder_200 X Nf k0 hk0 h σ20)
            · refine z_ite (fun c5 => ?_) (fun c5 => ?_)
              · refine z_lsw (off := 84) X 109 dX2_readOrder_25 (by decide) (by rw [c5]; decide) (by decide) ?_
                refine z_aload_n X dX2_readOrder_109 0 rfl ?_
                refine z_aload_n X dX2_readOrder_110 0 rfl ?_
                refine z_get X inlX2 rfl hk0.1 (ce2 hk0.1 _ _) 4 (by decide) q_11_9 rfl dX2_readOrder_111 ?_
                refine z_callV0 X (g := (fun r21 : cS => ((none, h, r21) : Option Value × Int64 × cS))) (st := []) (st1 := (fun r21 : cS => [])) (rmf := 2) (rml := 41) [.int (σ2 k0 4)] k0 cal_X2_readSign q_11_18 ⟨Nat.le_of_ble_eq_true rfl, Nat.le_of_ble_eq_true rfl⟩ rfl rfl (Nat.le_of_ble_eq_true rfl) rfl hk0.1 (ce2 hk0.1 _ _) (ctX2_readSign (kl K) G X.2.2.2.2.2.2.2.1 h σ2 k0 hk0 (σ2 k0 4)) dX2_readOrder_114 (fun _ => rfl) (fun r21 => ?_)
                refine z_aload_n X dX2_readOrder_117 0 rfl ?_
                refine z_aload_n X dX2_readOrder_118 0 rfl ?_
                refine z_iconst (v := (3 : Int32)) X dX2_readOrder_119 (by decide) ?_
                refine z_sipush (v := (999 : Int32)) X dX2_readOrder_120 (by decide) ?_
                refine z_callV0 X (g := (fun r22 : (Int32 × cS) => ((some (.int r22.1), h, r22.2) : Option Value × Int64 × cS))) (st := [.ref (la G k0)]) (st1 := (fun r22 : (Int32 × cS) => [.int r22.1, .ref (la G k0)])) (rmf := 3) (rml := 61) [.int (3 : Int32), .int (999 : Int32)] k0 cal_X2_readNumber q_12_6 ⟨Nat.le_of_ble_eq_true rfl, Nat.le_of_ble_eq_true rfl⟩ rfl rfl (Nat.le_of_ble_eq_true rfl) rfl hk0.1 (ce2 hk0.1 _ _) (ctX2_readNumber (kl K) G X.2.2.2.2.2.2.2.1 Nf h r21 k0 hk0 (3 : Int32) (999 : Int32)) dX2_readOrder_123 (fun _ => rfl) (fun r22 => ?_)
                refine z_put X inlX2 rfl hk0.1 (ce2 hk0.1 _ _) 7 (by decide) q_11_12 tyX2 tyX2_ok nmX2 rfl (cp2 hk0.1 _ _ _ 7 (by decide)) rfl rfl (Nat.le_of_ble_eq_true rfl) dX2_readOrder_126 (fun σ23 => ?_)
                refine z_goto X 200 dX2_readOrder_129 (by decide) ?_
                exact z_sub [0] rfl (sX2_readOrder_200 X Nf k0 hk0 h σ23)
              · refine z_lsw (off := 167) X 192 dX2_readOrder_25 (by decide) (by refine (lv_osw (k := (43 : Int32)) c0 (by decide)).trans ?_; refine (lv_osw (k := (45 : Int32)) c1 (by decide)).trans ?_; refine (lv_osw (k := (98 : Int32)) c2 (by decide)).trans ?_; refine (lv_osw (k := (99 : Int32)) c3 (by decide)).trans ?_; refine (lv_osw (k := (114 : Int32)) c4 (by decide)).trans ?_; refine (lv_osw (k := (116 : Int32)) c5 (by decide)).trans ?_; rfl) (by decide) ?_
                refine z_aload_n X dX2_readOrder_192 0 rfl ?_
                refine z_aload_n X dX2_readOrder_193 0 rfl ?_
                refine z_get X inlX2 rfl hk0.1 (ce2 hk0.1 _ _) 2 (by decide) q_11_3 rfl dX2_readOrder_194 ?_
                refine z_callV0 X (g := (fun r24 : cS => ((none, h, r24) : Option Value × Int64 × cS))) (st := []) (st1 := (fun r24 : cS => [])) (rmf := 0) (rml := 0) [.int (σ2 k0 2)] k0 cal_X2_noteWrong q_11_22 ⟨Nat.le_of_ble_eq_true rfl, Nat.le_of_ble_eq_true rfl⟩ rfl rfl (Nat.le_of_ble_eq_true rfl) rfl hk0.1 (ce2 hk0.1 _ _) (ctX2_noteWrong (kl K) G X.2.2.2.2.2.2.2.1 h σ2 k0 hk0 (σ2 k0 2)) dX2_readOrder_197 (fun _ => rfl) (fun r24 => ?_)
                exact z_sub [0] rfl (sX2_readOrder_200 X Nf k0 hk0 h r24)
  · refine z_iconst (v := (0 : Int32)) X dX2_readOrder_11 (by decide) ?_
    exact z_zret X rfl dX2_readOrder_12
def fX2_readOrder (L : Nat → Nat) (Nf : Nat) (σ : cS) (k0 : Nat) : Option (Int32 × cS) := fX2_readOrder_0 L Nf k0 σ
set_option maxHeartbeats 4000000 in
set_option maxRecDepth 100000 in
theorem ctX2_readOrder (l : Launch) (G : Lay) (hi : Inj G) (Nf : Nat) (h : Int64) (σ : cS) (k0 : Nat) (hk0 : isText G k0) : ∀ r, fX2_readOrder (ll G) Nf σ k0 = some r → CM l yX2_readOrder cX2_readOrder 1 (some .boolean) 4 86 G [.ref (la G k0)] h σ (some (.int r.1), h, r.2) := by
  refine cm_of (g := (fun r : (Int32 × cS) => ((some (.int r.1), h, r.2) : Option Value × Int64 × cS))) (by decide) hi (Nat.le_of_ble_eq_true rfl) (fun K hKl X => ?_)
  unfold fX2_readOrder
  exact z_sub [0] rfl (sX2_readOrder_0 X Nf k0 hk0 h σ)
def fX2_findSyntaxError_29 (L : Nat → Nat) (Nf : Nat) (k0 : Nat) (σ : cS) : Option (Int32 × cS) := some ((σ k0 3), σ)
set_option maxHeartbeats 4000000 in
set_option maxRecDepth 100000 in
theorem sX2_findSyntaxError_29 {K : MCx} {G : Lay} (X : Cx K G RX2 cX2_findSyntaxError 3 (some .int) 5 106) (Nf : Nat) (k0 : Nat) (hk0 : isText G k0) (h : Int64) (σ : cS) : Sm K G TT (QM K G (fun r : (Int32 × cS) => ((some (.int r.1), h, r.2) : Option Value × Int64 × cS))) 3 29 [(0, .ref (la G k0))] [] h σ (fX2_findSyntaxError_29 (ll G) Nf k0 σ) := by
  unfold fX2_findSyntaxError_29
  refine z_aload_n X dX2_findSyntaxError_29 0 rfl ?_
  refine z_get X inlX2 rfl hk0.1 (ce2 hk0.1 _ _) 3 (by decide) q_4_11 rfl dX2_findSyntaxError_30 ?_
  exact z_iret X rfl dX2_findSyntaxError_33
def fX2_findSyntaxError_8 (L : Nat → Nat) (Nf : Nat) (k0 : Nat) : Nat → Int32 → Int32 → cS → Option (Int32 × cS)
  | 0, _, _, _ => none
  | n + 1, x1, x2, σ => if (100 : Int32) ≤ x2 then (fX2_findSyntaxError_29 L Nf k0 σ) else (if x1 = 0 then (fX2_findSyntaxError_29 L Nf k0 σ) else (Option.bind (fX2_readOrder L Nf σ k0) (fun r1 => bnd (x2 + (1 : Int32)) (fun t2 => fX2_findSyntaxError_8 L Nf k0 n r1.1 t2 r1.2))))
set_option maxHeartbeats 4000000 in
set_option maxRecDepth 100000 in
theorem sX2_findSyntaxError_8 {K : MCx} {G : Lay} (X : Cx K G RX2 cX2_findSyntaxError 3 (some .int) 5 106) (Nf : Nat) (k0 : Nat) (hk0 : isText G k0) (h : Int64) : ∀ (n : Nat) (x1 : Int32) (x2 : Int32) (σ : cS), Sm K G TT (QM K G (fun r : (Int32 × cS) => ((some (.int r.1), h, r.2) : Option Value × Int64 × cS))) 3 8 [(0, .ref (la G k0)), (1, .int x1), (2, .int x2)] [] h σ (fX2_findSyntaxError_8 (ll G) Nf k0 n x1 x2 σ) := by
  intro n
  induction n with
  | zero => intros; exact z_none
  | succ n ih =>
    intro x1 x2 σ
    unfold fX2_findSyntaxError_8
    refine z_iload_n X dX2_findSyntaxError_8 2 rfl ?_
    refine z_bipush (v := (100 : Int32)) X dX2_findSyntaxError_9 (by decide) ?_
    refine z_icmp_ge X 29 dX2_findSyntaxError_11 (by decide) ?_ ?_
    · exact z_sub [0] rfl (sX2_findSyntaxError_29 X Nf k0 hk0 h σ)
    · refine z_iload_n X dX2_findSyntaxError_14 1 rfl ?_
      refine z_if_eq X 29 dX2_findSyntaxError_15 (by decide) ?_ ?_
      · exact z_sub [0] rfl (sX2_findSyntaxError_29 X Nf k0 hk0 h σ)
      · refine z_aload_n X dX2_findSyntaxError_18 0 rfl ?_
        refine z_callV0 X (g := (fun r1 : (Int32 × cS) => ((some (.int r1.1), h, r1.2) : Option Value × Int64 × cS))) (st := []) (st1 := (fun r1 : (Int32 × cS) => [.int r1.1])) (rmf := 4) (rml := 86) [] k0 cal_X2_readOrder q_11_4 ⟨Nat.le_of_ble_eq_true rfl, Nat.le_of_ble_eq_true rfl⟩ rfl rfl (Nat.le_of_ble_eq_true rfl) rfl hk0.1 (ce2 hk0.1 _ _) (ctX2_readOrder (kl K) G X.2.2.2.2.2.2.2.1 Nf h σ k0 hk0 ) dX2_findSyntaxError_19 (fun _ => rfl) (fun r1 => ?_)
        refine z_istore_n X [(1, .int r1.1), (0, .ref (la G k0)), (2, .int x2)] dX2_findSyntaxError_22 (by decide) rfl ?_
        refine z_iinc X (fun t2 => [(2, .int t2), (1, .int r1.1), (0, .ref (la G k0))]) dX2_findSyntaxError_23 2 rfl (by decide) (by decide) (fun _ => rfl) (fun t2 => ?_)
        refine z_goto X 8 dX2_findSyntaxError_26 (by decide) ?_
        exact z_sub [2, 1, 0] rfl (ih r1.1 t2 r1.2)
def fX2_findSyntaxError_0 (L : Nat → Nat) (Nf : Nat) (k0 : Nat) (σ : cS) : Option (Int32 × cS) := Option.bind (fX2_rewind σ k0) (fun r1 => fX2_findSyntaxError_8 L Nf k0 Nf (1 : Int32) (0 : Int32) r1)
set_option maxHeartbeats 4000000 in
set_option maxRecDepth 100000 in
theorem sX2_findSyntaxError_0 {K : MCx} {G : Lay} (X : Cx K G RX2 cX2_findSyntaxError 3 (some .int) 5 106) (Nf : Nat) (k0 : Nat) (hk0 : isText G k0) (h : Int64) (σ : cS) : Sm K G TT (QM K G (fun r : (Int32 × cS) => ((some (.int r.1), h, r.2) : Option Value × Int64 × cS))) 3 0 [(0, .ref (la G k0))] [] h σ (fX2_findSyntaxError_0 (ll G) Nf k0 σ) := by
  unfold fX2_findSyntaxError_0
  refine z_aload_n X dX2_findSyntaxError_0 0 rfl ?_
  refine z_callV0 X (g := (fun r1 : cS => ((none, h, r1) : Option Value × Int64 × cS))) (st := []) (st1 := (fun r1 : cS => [])) (rmf := 0) (rml := 0) [] k0 cal_X2_rewind q_10_23 ⟨Nat.le_of_ble_eq_true rfl, Nat.le_of_ble_eq_true rfl⟩ rfl rfl (Nat.le_of_ble_eq_true rfl) rfl hk0.1 (ce2 hk0.1 _ _) (ctX2_rewind (kl K) G X.2.2.2.2.2.2.2.1 h σ k0 hk0 ) dX2_findSyntaxError_1 (fun _ => rfl) (fun r1 => ?_)
  refine z_iconst (v := (1 : Int32)) X dX2_findSyntaxError_4 (by decide) ?_
  refine z_istore_n X [(1, .int (1 : Int32)), (0, .ref (la G k0))] dX2_findSyntaxError_5 (by decide) rfl ?_
  refine z_iconst (v := (0 : Int32)) X dX2_findSyntaxError_6 (by decide) ?_
  refine z_istore_n X [(2, .int (0 : Int32)), (1, .int (1 : Int32)), (0, .ref (la G k0))] dX2_findSyntaxError_7 (by decide) rfl ?_
  exact z_sub [2, 1, 0] rfl (sX2_findSyntaxError_8 X Nf k0 hk0 h Nf (1 : Int32) (0 : Int32) r1)
def fX2_findSyntaxError (L : Nat → Nat) (Nf : Nat) (σ : cS) (k0 : Nat) : Option (Int32 × cS) := fX2_findSyntaxError_0 L Nf k0 σ
set_option maxHeartbeats 4000000 in
set_option maxRecDepth 100000 in
theorem ctX2_findSyntaxError (l : Launch) (G : Lay) (hi : Inj G) (Nf : Nat) (h : Int64) (σ : cS) (k0 : Nat) (hk0 : isText G k0) : ∀ r, fX2_findSyntaxError (ll G) Nf σ k0 = some r → CM l yX2_findSyntaxError cX2_findSyntaxError 3 (some .int) 5 106 G [.ref (la G k0)] h σ (some (.int r.1), h, r.2) := by
  refine cm_of (g := (fun r : (Int32 × cS) => ((some (.int r.1), h, r.2) : Option Value × Int64 × cS))) (by decide) hi (Nat.le_of_ble_eq_true rfl) (fun K hKl X => ?_)
  unfold fX2_findSyntaxError
  exact z_sub [0] rfl (sX2_findSyntaxError_0 X Nf k0 hk0 h σ)
