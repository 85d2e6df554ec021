theorem q_1_5 : Cond.initialized RX7 ∈ wsL_law := seg_1 _ (List.mem_of_getElem? (i := 5) rfl)
theorem q_5_4 : Cond.fieldLink RX7 7 "EdgeHoldersModel" "now" "[I" ∈ wsL_law := seg_5 _ (List.mem_of_getElem? (i := 4) rfl)
theorem q_5_5 : Cond.fieldLink RX7 13 "EdgeHoldersModel" "before" "[I" ∈ wsL_law := seg_5 _ (List.mem_of_getElem? (i := 5) rfl)
theorem q_5_6 : Cond.fieldLink RX7 16 "EdgeHoldersModel" "states" "[I" ∈ wsL_law := seg_5 _ (List.mem_of_getElem? (i := 6) rfl)
theorem q_7_5 : Cond.methodLink RX7 36 yX7_in ∈ wsL_law := seg_7 _ (List.mem_of_getElem? (i := 5) rfl)
theorem q_7_6 : Cond.static yX7_in ∈ wsL_law := seg_7 _ (List.mem_of_getElem? (i := 6) rfl)
theorem q_7_7 : Cond.code yX7_in cX7_in 3 (some .boolean) ∈ wsL_law := seg_7 _ (List.mem_of_getElem? (i := 7) rfl)
theorem q_7_8 : Cond.methodLink RX7 46 yX7_refuses ∈ wsL_law := seg_7 _ (List.mem_of_getElem? (i := 8) rfl)
theorem q_7_9 : Cond.instanceMethod yX7_refuses ∈ wsL_law := seg_7 _ (List.mem_of_getElem? (i := 9) rfl)
theorem q_7_10 : Cond.selects RX7 yX7_refuses yX7_refuses ∈ wsL_law := seg_7 _ (List.mem_of_getElem? (i := 10) rfl)
theorem q_7_11 : Cond.code yX7_refuses cX7_refuses 4 (some .boolean) ∈ wsL_law := seg_7 _ (List.mem_of_getElem? (i := 11) rfl)
theorem q_7_12 : Cond.fieldLink RX7 32 "EdgeHoldersModel" "code" "I" ∈ wsL_law := seg_7 _ (List.mem_of_getElem? (i := 12) rfl)
theorem q_7_17 : Cond.fieldLink RX7 40 "EdgeHoldersModel" "stateAt" "I" ∈ wsL_law := seg_7 _ (List.mem_of_getElem? (i := 17) rfl)
theorem q_7_18 : Cond.fieldLink RX7 43 "EdgeHoldersModel" "stateMany" "I" ∈ wsL_law := seg_7 _ (List.mem_of_getElem? (i := 18) rfl)
theorem q_10_15 : Cond.methodLink RX7 50 yX7_holder ∈ wsL_law := seg_10 _ (List.mem_of_getElem? (i := 15) rfl)
theorem q_10_16 : Cond.instanceMethod yX7_holder ∈ wsL_law := seg_10 _ (List.mem_of_getElem? (i := 16) rfl)
theorem q_10_17 : Cond.selects RX7 yX7_holder yX7_holder ∈ wsL_law := seg_10 _ (List.mem_of_getElem? (i := 17) rfl)
theorem q_10_18 : Cond.code yX7_holder cX7_holder 2 (some .int) ∈ wsL_law := seg_10 _ (List.mem_of_getElem? (i := 18) rfl)
theorem cal_X7_in : CalS yX7_in cX7_in 3 (some .boolean) 3 := ⟨q_7_7, q_7_6, q_1_5, by decide +kernel⟩
theorem cal_X7_refuses : Cal yX7_refuses RX7 cX7_refuses 4 (some .boolean) 3 := ⟨q_7_11, q_7_9, q_7_10, q_1_5, by decide +kernel⟩
theorem cal_X7_holder : Cal yX7_holder RX7 cX7_holder 2 (some .int) 1 := ⟨q_10_18, q_10_16, q_10_17, q_1_5, by decide +kernel⟩
def fX7_thrown_0 (σ : cS) (k0 : Nat)  : Option Int32 := some (σ k0 7)
set_option maxHeartbeats 4000000 in
set_option maxRecDepth 100000 in
theorem sX7_thrown_0 {K : MCx} {G : Lay} (X : Cx K G RX7 cX7_thrown 1 (some .int) 0 0) (k0 : Nat) (hk0 : isMod G k0) (h : Int64) (σ : cS) : Sm K G TT (QM K G (fun r : Int32 => ((some (.int r), h, σ) : Option Value × Int64 × cS))) 1 0 [(0, .ref (la G k0))] [] h σ (fX7_thrown_0 σ k0) := by
  unfold fX7_thrown_0
  refine z_aload_n X dX7_thrown_0 0 rfl ?_
  refine z_get X inlX7 rfl hk0.1 (ce7 hk0.1 _ _) 7 (by decide) q_7_12 rfl dX7_thrown_1 ?_
  exact z_iret X rfl dX7_thrown_4
def fX7_thrown (σ : cS) (k0 : Nat) : Option Int32 := fX7_thrown_0 σ k0
set_option maxHeartbeats 4000000 in
set_option maxRecDepth 100000 in
theorem ctX7_thrown (l : Launch) (G : Lay) (hi : Inj G) (h : Int64) (σ : cS) (k0 : Nat) (hk0 : isMod G k0) : ∀ r, fX7_thrown σ k0 = some r → CM l yX7_thrown cX7_thrown 1 (some .int) 0 0 G [.ref (la G k0)] h σ (some (.int r), h, σ) := by
  refine cm_of (g := (fun r : Int32 => ((some (.int r), h, σ) : Option Value × Int64 × cS))) (by decide) hi (Nat.le_of_ble_eq_true rfl) (fun K hKl X => ?_)
  unfold fX7_thrown
  exact z_sub [0] rfl (sX7_thrown_0 X k0 hk0 h σ)
def fX7_in_15 (σ : cS) (y0 : Int32)  : Option Int32 := grd (isb y0) (some y0)
set_option maxHeartbeats 4000000 in
set_option maxRecDepth 100000 in
theorem sX7_in_15 {K : MCx} {G : Lay} (X : Cx K G RX7 cX7_in 3 (some .boolean) 0 0)  (h : Int64) (σ : cS) (y0 : Int32) : Sm K G TT (QM K G (fun r : Int32 => ((some (.int r), h, σ) : Option Value × Int64 × cS))) 3 15 [] [.int y0] h σ (fX7_in_15 σ y0) := by
  unfold fX7_in_15
  exact z_zret X rfl dX7_in_15
def fX7_in_14 (σ : cS)  : Option Int32 := fX7_in_15 σ (0 : Int32)
set_option maxHeartbeats 4000000 in
set_option maxRecDepth 100000 in
theorem sX7_in_14 {K : MCx} {G : Lay} (X : Cx K G RX7 cX7_in 3 (some .boolean) 0 0)  (h : Int64) (σ : cS) : Sm K G TT (QM K G (fun r : Int32 => ((some (.int r), h, σ) : Option Value × Int64 × cS))) 3 14 [] [] h σ (fX7_in_14 σ) := by
  unfold fX7_in_14
  refine z_iconst (v := (0 : Int32)) X dX7_in_14 (by decide) ?_
  exact z_sub [] rfl (sX7_in_15 X  h σ (0 : Int32))
def fX7_in_0 (σ : cS) (x0 : Int32) (x1 : Int32) (x2 : Int32)  : Option Int32 := if x0 < x1 then (fX7_in_14 σ) else (if x2 < x0 then (fX7_in_14 σ) else (fX7_in_15 σ (1 : Int32)))
set_option maxHeartbeats 4000000 in
set_option maxRecDepth 100000 in
theorem sX7_in_0 {K : MCx} {G : Lay} (X : Cx K G RX7 cX7_in 3 (some .boolean) 0 0)  (h : Int64) (σ : cS) (x0 : Int32) (x1 : Int32) (x2 : Int32) : Sm K G TT (QM K G (fun r : Int32 => ((some (.int r), h, σ) : Option Value × Int64 × cS))) 3 0 [(0, .int x0), (1, .int x1), (2, .int x2)] [] h σ (fX7_in_0 σ x0 x1 x2) := by
  unfold fX7_in_0
  refine z_iload_n X dX7_in_0 0 rfl ?_
  refine z_iload_n X dX7_in_1 1 rfl ?_
  refine z_icmp_lt X 14 dX7_in_2 (by decide) ?_ ?_
  · exact z_sub [] rfl (sX7_in_14 X  h σ)
  · refine z_iload_n X dX7_in_5 0 rfl ?_
    refine z_iload_n X dX7_in_6 2 rfl ?_
    refine z_icmp_gt X 14 dX7_in_7 (by decide) ?_ ?_
    · exact z_sub [] rfl (sX7_in_14 X  h σ)
    · refine z_iconst (v := (1 : Int32)) X dX7_in_10 (by decide) ?_
      refine z_goto X 15 dX7_in_11 (by decide) ?_
      exact z_sub [] rfl (sX7_in_15 X  h σ (1 : Int32))
def fX7_in (σ : cS) (x0 : Int32) (x1 : Int32) (x2 : Int32) : Option Int32 := fX7_in_0 σ x0 x1 x2
set_option maxHeartbeats 4000000 in
set_option maxRecDepth 100000 in
theorem ctX7_in (l : Launch) (G : Lay) (hi : Inj G) (h : Int64) (σ : cS)  (x0 : Int32) (x1 : Int32) (x2 : Int32) : ∀ r, fX7_in σ x0 x1 x2 = some r → CM l yX7_in cX7_in 3 (some .boolean) 0 0 G [.int x0, .int x1, .int x2] h σ (some (.int r), h, σ) := by
  refine cm_of (g := (fun r : Int32 => ((some (.int r), h, σ) : Option Value × Int64 × cS))) (by decide) hi (Nat.le_of_ble_eq_true rfl) (fun K hKl X => ?_)
  unfold fX7_in
  exact z_sub [0, 1, 2] rfl (sX7_in_0 X  h σ x0 x1 x2)
def fX7_refuses_41 (k0 : Nat) (y0 : Int32) (σ : cS) : Option (Int32 × cS) := grd (isb y0) (some (y0, σ))
set_option maxHeartbeats 4000000 in
set_option maxRecDepth 100000 in
theorem sX7_refuses_41 {K : MCx} {G : Lay} (X : Cx K G RX7 cX7_refuses 4 (some .boolean) 0 0) (k0 : Nat) (hk0 : isMod G k0) (h : Int64) (y0 : Int32) (σ : cS) : Sm K G TT (QM K G (fun r : (Int32 × cS) => ((some (.int r.1), h, r.2) : Option Value × Int64 × cS))) 4 41 [] [.int y0] h σ (fX7_refuses_41 k0 y0 σ) := by
  unfold fX7_refuses_41
  exact z_zret X rfl dX7_refuses_41
def fX7_refuses_26 (k0 : Nat) (y1 : Int32) (σ : cS) : Option (Int32 × cS) := bnd (st2 σ k0 7 y1) (fun σ1 => if (σ1 k0 7) = 0 then (fX7_refuses_41 k0 (0 : Int32) σ1) else (fX7_refuses_41 k0 (1 : Int32) σ1))
set_option maxHeartbeats 4000000 in
set_option maxRecDepth 100000 in
theorem sX7_refuses_26 {K : MCx} {G : Lay} (X : Cx K G RX7 cX7_refuses 4 (some .boolean) 0 0) (k0 : Nat) (hk0 : isMod G k0) (h : Int64) (y1 : Int32) (σ : cS) : Sm K G TT (QM K G (fun r : (Int32 × cS) => ((some (.int r.1), h, r.2) : Option Value × Int64 × cS))) 4 26 [(0, .ref (la G k0))] [.int y1, .ref (la G k0)] h σ (fX7_refuses_26 k0 y1 σ) := by
  unfold fX7_refuses_26
  refine z_put X inlX7 rfl hk0.1 (ce7 hk0.1 _ _) 7 (by decide) q_7_12 tyX7 tyX7_ok nmX7 rfl (cp7 hk0.1 _ _ _ 7 (by decide)) rfl rfl (Nat.le_of_ble_eq_true rfl) dX7_refuses_26 (fun σ1 => ?_)
  refine z_aload_n X dX7_refuses_29 0 rfl ?_
  refine z_get X inlX7 rfl hk0.1 (ce7 hk0.1 _ _) 7 (by decide) q_7_12 rfl dX7_refuses_30 ?_
  refine z_if_eq X 40 dX7_refuses_33 (by decide) ?_ ?_
  · refine z_iconst (v := (0 : Int32)) X dX7_refuses_40 (by decide) ?_
    exact z_sub [] rfl (sX7_refuses_41 X k0 hk0 h (0 : Int32) σ1)
  · refine z_iconst (v := (1 : Int32)) X dX7_refuses_36 (by decide) ?_
    refine z_goto X 41 dX7_refuses_37 (by decide) ?_
    exact z_sub [] rfl (sX7_refuses_41 X k0 hk0 h (1 : Int32) σ1)
def fX7_refuses_0 (k0 : Nat) (x1 : Int32) (x2 : Int32) (x3 : Int32) (σ : cS) : Option (Int32 × cS) := if x1 = 0 then (if x2 = 0 then (if x3 = 0 then (fX7_refuses_26 k0 (0 : Int32) σ) else (fX7_refuses_26 k0 (3 : Int32) σ)) else (fX7_refuses_26 k0 (2 : Int32) σ)) else (fX7_refuses_26 k0 (1 : Int32) σ)
set_option maxHeartbeats 4000000 in
set_option maxRecDepth 100000 in
theorem sX7_refuses_0 {K : MCx} {G : Lay} (X : Cx K G RX7 cX7_refuses 4 (some .boolean) 0 0) (k0 : Nat) (hk0 : isMod G k0) (h : Int64) (x1 : Int32) (x2 : Int32) (x3 : Int32) (σ : cS) : Sm K G TT (QM K G (fun r : (Int32 × cS) => ((some (.int r.1), h, r.2) : Option Value × Int64 × cS))) 4 0 [(0, .ref (la G k0)), (1, .int x1), (2, .int x2), (3, .int x3)] [] h σ (fX7_refuses_0 k0 x1 x2 x3 σ) := by
  unfold fX7_refuses_0
  refine z_aload_n X dX7_refuses_0 0 rfl ?_
  refine z_iload_n X dX7_refuses_1 1 rfl ?_
  refine z_if_eq X 9 dX7_refuses_2 (by decide) ?_ ?_
  · refine z_iload_n X dX7_refuses_9 2 rfl ?_
    refine z_if_eq X 17 dX7_refuses_10 (by decide) ?_ ?_
    · refine z_iload_n X dX7_refuses_17 3 rfl ?_
      refine z_if_eq X 25 dX7_refuses_18 (by decide) ?_ ?_
      · refine z_iconst (v := (0 : Int32)) X dX7_refuses_25 (by decide) ?_
        exact z_sub [0] rfl (sX7_refuses_26 X k0 hk0 h (0 : Int32) σ)
      · refine z_iconst (v := (3 : Int32)) X dX7_refuses_21 (by decide) ?_
        refine z_goto X 26 dX7_refuses_22 (by decide) ?_
        exact z_sub [0] rfl (sX7_refuses_26 X k0 hk0 h (3 : Int32) σ)
    · refine z_iconst (v := (2 : Int32)) X dX7_refuses_13 (by decide) ?_
      refine z_goto X 26 dX7_refuses_14 (by decide) ?_
      exact z_sub [0] rfl (sX7_refuses_26 X k0 hk0 h (2 : Int32) σ)
  · refine z_iconst (v := (1 : Int32)) X dX7_refuses_5 (by decide) ?_
    refine z_goto X 26 dX7_refuses_6 (by decide) ?_
    exact z_sub [0] rfl (sX7_refuses_26 X k0 hk0 h (1 : Int32) σ)
def fX7_refuses (σ : cS) (k0 : Nat) (x1 : Int32) (x2 : Int32) (x3 : Int32) : Option (Int32 × cS) := fX7_refuses_0 k0 x1 x2 x3 σ
set_option maxHeartbeats 4000000 in
set_option maxRecDepth 100000 in
theorem ctX7_refuses (l : Launch) (G : Lay) (hi : Inj G) (h : Int64) (σ : cS) (k0 : Nat) (hk0 : isMod G k0) (x1 : Int32) (x2 : Int32) (x3 : Int32) : ∀ r, fX7_refuses σ k0 x1 x2 x3 = some r → CM l yX7_refuses cX7_refuses 4 (some .boolean) 0 0 G [.ref (la G k0), .int x1, .int x2, .int x3] h σ (some (.int r.1), h, r.2) := by
  refine cm_of (g := (fun r : (Int32 × cS) => ((some (.int r.1), h, r.2) : Option Value × Int64 × cS))) (by decide) hi (Nat.le_of_ble_eq_true rfl) (fun K hKl X => ?_)
  unfold fX7_refuses
  exact z_sub [0, 1, 2, 3] rfl (sX7_refuses_0 X k0 hk0 h x1 x2 x3 σ)
def fX7_begins_31 (L : Nat → Nat) (Nf : Nat) (k0 : Nat) : Nat → Int32 → cS → Option cS
  | 0, _, _ => none
  | n + 1, x2, σ => if (12 : Int32) ≤ x2 then (some σ) else (grd (inb ((4 : Int32) + x2) (L (k0 + 1))) (bnd (st2 σ (k0 + 1) ((4 : Int32) + x2).toNatClampNeg (3 : Int32)) (fun σ1 => bnd (x2 + (1 : Int32)) (fun t2 => fX7_begins_31 L Nf k0 n t2 σ1))))
set_option maxHeartbeats 4000000 in
set_option maxRecDepth 100000 in
theorem sX7_begins_31 {K : MCx} {G : Lay} (X : Cx K G RX7 cX7_begins 3 none 0 0) (Nf : Nat) (k0 : Nat) (hk0 : isMod G k0) (h : Int64) : ∀ (n : Nat) (x2 : Int32) (σ : cS), Sm K G TT (QM K G (fun r : cS => ((none, h, r) : Option Value × Int64 × cS))) 3 31 [(0, .ref (la G k0)), (2, .int x2)] [] h σ (fX7_begins_31 (ll G) Nf k0 n x2 σ) := by
  intro n
  induction n with
  | zero => intros; exact z_none
  | succ n ih =>
    intro x2 σ
    unfold fX7_begins_31
    refine z_iload_n X dX7_begins_31 1 rfl ?_
    refine z_bipush (v := (12 : Int32)) X dX7_begins_32 (by decide) ?_
    refine z_icmp_ge X 52 dX7_begins_34 (by decide) ?_ ?_
    · exact z_vret X rfl dX7_begins_52
    · refine z_aload_n X dX7_begins_37 0 rfl ?_
      refine z_get X inlX7 rfl hk0.1 (ce7 hk0.1 _ _) 0 (by decide) q_5_4 rfl dX7_begins_38 ?_
      refine z_iconst (v := (4 : Int32)) X dX7_begins_41 (by decide) ?_
      refine z_iload_n X dX7_begins_42 1 rfl ?_
      refine z_iadd X dX7_begins_43 ?_
      refine z_iconst (v := (3 : Int32)) X dX7_begins_44 (by decide) ?_
      refine z_iast X hk0.2.1 dX7_begins_45 (fun σ1 => ?_)
      refine z_iinc X (fun t2 => [(2, .int t2), (0, .ref (la G k0))]) dX7_begins_46 1 rfl (by decide) (by decide) (fun _ => rfl) (fun t2 => ?_)
      refine z_goto X 31 dX7_begins_49 (by decide) ?_
      exact z_sub [1, 0] rfl (ih t2 σ1)
def fX7_begins_2 (L : Nat → Nat) (Nf : Nat) (k0 : Nat) : Nat → Int32 → Int32 → cS → Option cS
  | 0, _, _, _ => none
  | n + 1, x1, x2, σ => if (216 : Int32) ≤ x2 then (grd (inb (0 : Int32) (L (k0 + 1))) (bnd (st2 σ (k0 + 1) (0 : Int32).toNatClampNeg x1) (fun σ1 => fX7_begins_31 L Nf k0 Nf (0 : Int32) σ1))) else (grd (inb x2 (L (k0 + 1))) (bnd (st2 σ (k0 + 1) x2.toNatClampNeg (0 : Int32)) (fun σ2 => bnd (x2 + (1 : Int32)) (fun t3 => fX7_begins_2 L Nf k0 n x1 t3 σ2))))
set_option maxHeartbeats 4000000 in
set_option maxRecDepth 100000 in
theorem sX7_begins_2 {K : MCx} {G : Lay} (X : Cx K G RX7 cX7_begins 3 none 0 0) (Nf : Nat) (k0 : Nat) (hk0 : isMod G k0) (h : Int64) : ∀ (n : Nat) (x1 : Int32) (x2 : Int32) (σ : cS), Sm K G TT (QM K G (fun r : cS => ((none, h, r) : Option Value × Int64 × cS))) 3 2 [(0, .ref (la G k0)), (1, .int x1), (2, .int x2)] [] h σ (fX7_begins_2 (ll G) Nf k0 n x1 x2 σ) := by
  intro n
  induction n with
  | zero => intros; exact z_none
  | succ n ih =>
    intro x1 x2 σ
    unfold fX7_begins_2
    refine z_iload_n X dX7_begins_2 2 rfl ?_
    refine z_sipush (v := (216 : Int32)) X dX7_begins_3 (by decide) ?_
    refine z_icmp_ge X 22 dX7_begins_6 (by decide) ?_ ?_
    · refine z_aload_n X dX7_begins_22 0 rfl ?_
      refine z_get X inlX7 rfl hk0.1 (ce7 hk0.1 _ _) 0 (by decide) q_5_4 rfl dX7_begins_23 ?_
      refine z_iconst (v := (0 : Int32)) X dX7_begins_26 (by decide) ?_
      refine z_iload_n X dX7_begins_27 1 rfl ?_
      refine z_iast X hk0.2.1 dX7_begins_28 (fun σ1 => ?_)
      refine z_iconst (v := (0 : Int32)) X dX7_begins_29 (by decide) ?_
      refine z_istore_n X [(2, .int (0 : Int32)), (0, .ref (la G k0)), (1, .int x1)] dX7_begins_30 (by decide) rfl ?_
      exact z_sub [1, 0] rfl (sX7_begins_31 X Nf k0 hk0 h Nf (0 : Int32) σ1)
    · refine z_aload_n X dX7_begins_9 0 rfl ?_
      refine z_get X inlX7 rfl hk0.1 (ce7 hk0.1 _ _) 0 (by decide) q_5_4 rfl dX7_begins_10 ?_
      refine z_iload_n X dX7_begins_13 2 rfl ?_
      refine z_iconst (v := (0 : Int32)) X dX7_begins_14 (by decide) ?_
      refine z_iast X hk0.2.1 dX7_begins_15 (fun σ2 => ?_)
      refine z_iinc X (fun t3 => [(2, .int t3), (0, .ref (la G k0)), (1, .int x1)]) dX7_begins_16 2 rfl (by decide) (by decide) (fun _ => rfl) (fun t3 => ?_)
      refine z_goto X 2 dX7_begins_19 (by decide) ?_
      exact z_sub [1, 2, 0] rfl (ih x1 t3 σ2)
def fX7_begins_0 (L : Nat → Nat) (Nf : Nat) (k0 : Nat) (x1 : Int32) (σ : cS) : Option cS := fX7_begins_2 L Nf k0 Nf x1 (0 : Int32) σ
set_option maxHeartbeats 4000000 in
set_option maxRecDepth 100000 in
theorem sX7_begins_0 {K : MCx} {G : Lay} (X : Cx K G RX7 cX7_begins 3 none 0 0) (Nf : Nat) (k0 : Nat) (hk0 : isMod G k0) (h : Int64) (x1 : Int32) (σ : cS) : Sm K G TT (QM K G (fun r : cS => ((none, h, r) : Option Value × Int64 × cS))) 3 0 [(0, .ref (la G k0)), (1, .int x1)] [] h σ (fX7_begins_0 (ll G) Nf k0 x1 σ) := by
  unfold fX7_begins_0
  refine z_iconst (v := (0 : Int32)) X dX7_begins_0 (by decide) ?_
  refine z_istore_n X [(2, .int (0 : Int32)), (0, .ref (la G k0)), (1, .int x1)] dX7_begins_1 (by decide) rfl ?_
  exact z_sub [1, 2, 0] rfl (sX7_begins_2 X Nf k0 hk0 h Nf x1 (0 : Int32) σ)
def fX7_begins (L : Nat → Nat) (Nf : Nat) (σ : cS) (k0 : Nat) (x1 : Int32) : Option cS := fX7_begins_0 L Nf k0 x1 σ
set_option maxHeartbeats 4000000 in
set_option maxRecDepth 100000 in
theorem ctX7_begins (l : Launch) (G : Lay) (hi : Inj G) (Nf : Nat) (h : Int64) (σ : cS) (k0 : Nat) (hk0 : isMod G k0) (x1 : Int32) : ∀ r, fX7_begins (ll G) Nf σ k0 x1 = some r → CM l yX7_begins cX7_begins 3 none 0 0 G [.ref (la G k0), .int x1] h σ (none, h, r) := by
  refine cm_of (g := (fun r : cS => ((none, h, r) : Option Value × Int64 × cS))) (by decide) hi (Nat.le_of_ble_eq_true rfl) (fun K hKl X => ?_)
  unfold fX7_begins
  exact z_sub [0, 1] rfl (sX7_begins_0 X Nf k0 hk0 h x1 σ)
def fX7_isNode_0 (L : Nat → Nat) (σ : cS) (k0 : Nat) (x1 : Int32)  : Option Int32 := grd (inb (0 : Int32) (L (k0 + 1))) (Option.bind (fX7_in σ x1 (0 : Int32) ((σ (k0 + 1) (0 : Int32).toNatClampNeg) - (1 : Int32))) (fun r1 => grd (isb r1) (some r1)))
set_option maxHeartbeats 4000000 in
set_option maxRecDepth 100000 in
theorem sX7_isNode_0 {K : MCx} {G : Lay} (X : Cx K G RX7 cX7_isNode 2 (some .boolean) 1 22) (k0 : Nat) (hk0 : isMod G k0) (h : Int64) (σ : cS) (x1 : Int32) : Sm K G TT (QM K G (fun r : Int32 => ((some (.int r), h, σ) : Option Value × Int64 × cS))) 2 0 [(0, .ref (la G k0)), (1, .int x1)] [] h σ (fX7_isNode_0 (ll G) σ k0 x1) := by
  unfold fX7_isNode_0
  refine z_iload_n X dX7_isNode_0 1 rfl ?_
  refine z_iconst (v := (0 : Int32)) X dX7_isNode_1 (by decide) ?_
  refine z_aload_n X dX7_isNode_2 0 rfl ?_
  refine z_get X inlX7 rfl hk0.1 (ce7 hk0.1 _ _) 0 (by decide) q_5_4 rfl dX7_isNode_3 ?_
  refine z_iconst (v := (0 : Int32)) X dX7_isNode_6 (by decide) ?_
  refine z_iald X hk0.2.1 dX7_isNode_7 ?_
  refine z_iconst (v := (1 : Int32)) X dX7_isNode_8 (by decide) ?_
  refine z_isub X dX7_isNode_9 ?_
  refine z_callS0 X (g := (fun r1 : Int32 => ((some (.int r1), h, σ) : Option Value × Int64 × cS))) (st := []) (st1 := (fun r1 : Int32 => [.int r1])) (rmf := 0) (rml := 0) [.int x1, .int (0 : Int32), .int ((σ (k0 + 1) (0 : Int32).toNatClampNeg) - (1 : Int32))] cal_X7_in q_7_5 ⟨Nat.le_of_ble_eq_true rfl, Nat.le_of_ble_eq_true rfl⟩ rfl rfl (Nat.le_of_ble_eq_true rfl) (ctX7_in (kl K) G X.2.2.2.2.2.2.2.1 h σ x1 (0 : Int32) ((σ (k0 + 1) (0 : Int32).toNatClampNeg) - (1 : Int32))) dX7_isNode_10 (fun _ => rfl) (fun r1 => ?_)
  exact z_zret X rfl dX7_isNode_13
def fX7_isNode (L : Nat → Nat) (σ : cS) (k0 : Nat) (x1 : Int32) : Option Int32 := fX7_isNode_0 L σ k0 x1
set_option maxHeartbeats 4000000 in
set_option maxRecDepth 100000 in
theorem ctX7_isNode (l : Launch) (G : Lay) (hi : Inj G) (h : Int64) (σ : cS) (k0 : Nat) (hk0 : isMod G k0) (x1 : Int32) : ∀ r, fX7_isNode (ll G) σ k0 x1 = some r → CM l yX7_isNode cX7_isNode 2 (some .boolean) 1 22 G [.ref (la G k0), .int x1] h σ (some (.int r), h, σ) := by
  refine cm_of (g := (fun r : Int32 => ((some (.int r), h, σ) : Option Value × Int64 × cS))) (by decide) hi (Nat.le_of_ble_eq_true rfl) (fun K hKl X => ?_)
  unfold fX7_isNode
  exact z_sub [0, 1] rfl (sX7_isNode_0 X k0 hk0 h σ x1)
def fX7_copy_2 (L : Nat → Nat) (Nf : Nat) (k0 : Nat) : Nat → Int32 → cS → Option cS
  | 0, _, _ => none
  | n + 1, x1, σ => if (216 : Int32) ≤ x1 then (some σ) else (grd (inb x1 (L (k0 + 1))) (grd (inb x1 (L (k0 + 2))) (bnd (st2 σ (k0 + 2) x1.toNatClampNeg (σ (k0 + 1) x1.toNatClampNeg)) (fun σ1 => bnd (x1 + (1 : Int32)) (fun t2 => fX7_copy_2 L Nf k0 n t2 σ1)))))
set_option maxHeartbeats 4000000 in
set_option maxRecDepth 100000 in
theorem sX7_copy_2 {K : MCx} {G : Lay} (X : Cx K G RX7 cX7_copy 2 none 0 0) (Nf : Nat) (k0 : Nat) (hk0 : isMod G k0) (h : Int64) : ∀ (n : Nat) (x1 : Int32) (σ : cS), Sm K G TT (QM K G (fun r : cS => ((none, h, r) : Option Value × Int64 × cS))) 2 2 [(0, .ref (la G k0)), (1, .int x1)] [] h σ (fX7_copy_2 (ll G) Nf k0 n x1 σ) := by
  intro n
  induction n with
  | zero => intros; exact z_none
  | succ n ih =>
    intro x1 σ
    unfold fX7_copy_2
    refine z_iload_n X dX7_copy_2 1 rfl ?_
    refine z_sipush (v := (216 : Int32)) X dX7_copy_3 (by decide) ?_
    refine z_icmp_ge X 27 dX7_copy_6 (by decide) ?_ ?_
    · exact z_vret X rfl dX7_copy_27
    · refine z_aload_n X dX7_copy_9 0 rfl ?_
      refine z_get X inlX7 rfl hk0.1 (ce7 hk0.1 _ _) 1 (by decide) q_5_5 rfl dX7_copy_10 ?_
      refine z_iload_n X dX7_copy_13 1 rfl ?_
      refine z_aload_n X dX7_copy_14 0 rfl ?_
      refine z_get X inlX7 rfl hk0.1 (ce7 hk0.1 _ _) 0 (by decide) q_5_4 rfl dX7_copy_15 ?_
      refine z_iload_n X dX7_copy_18 1 rfl ?_
      refine z_iald X hk0.2.1 dX7_copy_19 ?_
      refine z_iast X hk0.2.2.1 dX7_copy_20 (fun σ1 => ?_)
      refine z_iinc X (fun t2 => [(1, .int t2), (0, .ref (la G k0))]) dX7_copy_21 1 rfl (by decide) (by decide) (fun _ => rfl) (fun t2 => ?_)
      refine z_goto X 2 dX7_copy_24 (by decide) ?_
      exact z_sub [1, 0] rfl (ih t2 σ1)
def fX7_copy_0 (L : Nat → Nat) (Nf : Nat) (k0 : Nat) (σ : cS) : Option cS := fX7_copy_2 L Nf k0 Nf (0 : Int32) σ
set_option maxHeartbeats 4000000 in
set_option maxRecDepth 100000 in
theorem sX7_copy_0 {K : MCx} {G : Lay} (X : Cx K G RX7 cX7_copy 2 none 0 0) (Nf : Nat) (k0 : Nat) (hk0 : isMod G k0) (h : Int64) (σ : cS) : Sm K G TT (QM K G (fun r : cS => ((none, h, r) : Option Value × Int64 × cS))) 2 0 [(0, .ref (la G k0))] [] h σ (fX7_copy_0 (ll G) Nf k0 σ) := by
  unfold fX7_copy_0
  refine z_iconst (v := (0 : Int32)) X dX7_copy_0 (by decide) ?_
  refine z_istore_n X [(1, .int (0 : Int32)), (0, .ref (la G k0))] dX7_copy_1 (by decide) rfl ?_
  exact z_sub [1, 0] rfl (sX7_copy_2 X Nf k0 hk0 h Nf (0 : Int32) σ)
def fX7_copy (L : Nat → Nat) (Nf : Nat) (σ : cS) (k0 : Nat) : Option cS := fX7_copy_0 L Nf k0 σ
set_option maxHeartbeats 4000000 in
set_option maxRecDepth 100000 in
theorem ctX7_copy (l : Launch) (G : Lay) (hi : Inj G) (Nf : Nat) (h : Int64) (σ : cS) (k0 : Nat) (hk0 : isMod G k0) : ∀ r, fX7_copy (ll G) Nf σ k0 = some r → CM l yX7_copy cX7_copy 2 none 0 0 G [.ref (la G k0)] h σ (none, h, r) := by
  refine cm_of (g := (fun r : cS => ((none, h, r) : Option Value × Int64 × cS))) (by decide) hi (Nat.le_of_ble_eq_true rfl) (fun K hKl X => ?_)
  unfold fX7_copy
  exact z_sub [0] rfl (sX7_copy_0 X Nf k0 hk0 h σ)
def fX7_back_2 (L : Nat → Nat) (Nf : Nat) (k0 : Nat) : Nat → Int32 → cS → Option cS
  | 0, _, _ => none
  | n + 1, x1, σ => if (216 : Int32) ≤ x1 then (some σ) else (grd (inb x1 (L (k0 + 2))) (grd (inb x1 (L (k0 + 1))) (bnd (st2 σ (k0 + 1) x1.toNatClampNeg (σ (k0 + 2) x1.toNatClampNeg)) (fun σ1 => bnd (x1 + (1 : Int32)) (fun t2 => fX7_back_2 L Nf k0 n t2 σ1)))))
set_option maxHeartbeats 4000000 in
set_option maxRecDepth 100000 in
theorem sX7_back_2 {K : MCx} {G : Lay} (X : Cx K G RX7 cX7_back 2 none 0 0) (Nf : Nat) (k0 : Nat) (hk0 : isMod G k0) (h : Int64) : ∀ (n : Nat) (x1 : Int32) (σ : cS), Sm K G TT (QM K G (fun r : cS => ((none, h, r) : Option Value × Int64 × cS))) 2 2 [(0, .ref (la G k0)), (1, .int x1)] [] h σ (fX7_back_2 (ll G) Nf k0 n x1 σ) := by
  intro n
  induction n with
  | zero => intros; exact z_none
  | succ n ih =>
    intro x1 σ
    unfold fX7_back_2
    refine z_iload_n X dX7_back_2 1 rfl ?_
    refine z_sipush (v := (216 : Int32)) X dX7_back_3 (by decide) ?_
    refine z_icmp_ge X 27 dX7_back_6 (by decide) ?_ ?_
    · exact z_vret X rfl dX7_back_27
    · refine z_aload_n X dX7_back_9 0 rfl ?_
      refine z_get X inlX7 rfl hk0.1 (ce7 hk0.1 _ _) 0 (by decide) q_5_4 rfl dX7_back_10 ?_
      refine z_iload_n X dX7_back_13 1 rfl ?_
      refine z_aload_n X dX7_back_14 0 rfl ?_
      refine z_get X inlX7 rfl hk0.1 (ce7 hk0.1 _ _) 1 (by decide) q_5_5 rfl dX7_back_15 ?_
      refine z_iload_n X dX7_back_18 1 rfl ?_
      refine z_iald X hk0.2.2.1 dX7_back_19 ?_
      refine z_iast X hk0.2.1 dX7_back_20 (fun σ1 => ?_)
      refine z_iinc X (fun t2 => [(1, .int t2), (0, .ref (la G k0))]) dX7_back_21 1 rfl (by decide) (by decide) (fun _ => rfl) (fun t2 => ?_)
      refine z_goto X 2 dX7_back_24 (by decide) ?_
      exact z_sub [1, 0] rfl (ih t2 σ1)
def fX7_back_0 (L : Nat → Nat) (Nf : Nat) (k0 : Nat) (σ : cS) : Option cS := fX7_back_2 L Nf k0 Nf (0 : Int32) σ
set_option maxHeartbeats 4000000 in
set_option maxRecDepth 100000 in
theorem sX7_back_0 {K : MCx} {G : Lay} (X : Cx K G RX7 cX7_back 2 none 0 0) (Nf : Nat) (k0 : Nat) (hk0 : isMod G k0) (h : Int64) (σ : cS) : Sm K G TT (QM K G (fun r : cS => ((none, h, r) : Option Value × Int64 × cS))) 2 0 [(0, .ref (la G k0))] [] h σ (fX7_back_0 (ll G) Nf k0 σ) := by
  unfold fX7_back_0
  refine z_iconst (v := (0 : Int32)) X dX7_back_0 (by decide) ?_
  refine z_istore_n X [(1, .int (0 : Int32)), (0, .ref (la G k0))] dX7_back_1 (by decide) rfl ?_
  exact z_sub [1, 0] rfl (sX7_back_2 X Nf k0 hk0 h Nf (0 : Int32) σ)
def fX7_back (L : Nat → Nat) (Nf : Nat) (σ : cS) (k0 : Nat) : Option cS := fX7_back_0 L Nf k0 σ
set_option maxHeartbeats 4000000 in
set_option maxRecDepth 100000 in
theorem ctX7_back (l : Launch) (G : Lay) (hi : Inj G) (Nf : Nat) (h : Int64) (σ : cS) (k0 : Nat) (hk0 : isMod G k0) : ∀ r, fX7_back (ll G) Nf σ k0 = some r → CM l yX7_back cX7_back 2 none 0 0 G [.ref (la G k0)] h σ (none, h, r) := by
  refine cm_of (g := (fun r : cS => ((none, h, r) : Option Value × Int64 × cS))) (by decide) hi (Nat.le_of_ble_eq_true rfl) (fun K hKl X => ?_)
  unfold fX7_back
  exact z_sub [0] rfl (sX7_back_0 X Nf k0 hk0 h σ)
def fX7_save_67 (L : Nat → Nat) (Nf : Nat) (k0 : Nat) (y1 : Int32) (σ : cS) : Option cS := bnd (st2 σ k0 4 y1) (fun σ1 => some σ1)
set_option maxHeartbeats 4000000 in
set_option maxRecDepth 100000 in
theorem sX7_save_67 {K : MCx} {G : Lay} (X : Cx K G RX7 cX7_save 2 none 0 0) (Nf : Nat) (k0 : Nat) (hk0 : isMod G k0) (h : Int64) (y1 : Int32) (σ : cS) : Sm K G TT (QM K G (fun r : cS => ((none, h, r) : Option Value × Int64 × cS))) 2 67 [] [.int y1, .ref (la G k0)] h σ (fX7_save_67 (ll G) Nf k0 y1 σ) := by
  unfold fX7_save_67
  refine z_put X inlX7 rfl hk0.1 (ce7 hk0.1 _ _) 4 (by decide) q_7_18 tyX7 tyX7_ok nmX7 rfl (cp7 hk0.1 _ _ _ 4 (by decide)) rfl rfl (Nat.le_of_ble_eq_true rfl) dX7_save_67 (fun σ1 => ?_)
  exact z_vret X rfl dX7_save_70
def fX7_save_2 (L : Nat → Nat) (Nf : Nat) (k0 : Nat) : Nat → Int32 → cS → Option cS
  | 0, _, _ => none
  | n + 1, x1, σ => if (216 : Int32) ≤ x1 then (grd (nz (4 : Int32)) (bnd (st2 σ k0 5 (((σ k0 5) + (1 : Int32)) - ((σ k0 5) + (1 : Int32)) / (4 : Int32) * (4 : Int32))) (fun σ1 => if (4 : Int32) ≤ (σ1 k0 4) then (fX7_save_67 L Nf k0 (4 : Int32) σ1) else (fX7_save_67 L Nf k0 ((σ1 k0 4) + (1 : Int32)) σ1)))) else (grd (inb x1 (L (k0 + 1))) (grd (inb (((216 : Int32) * (σ k0 5)) + x1) (L (k0 + 3))) (bnd (st2 σ (k0 + 3) (((216 : Int32) * (σ k0 5)) + x1).toNatClampNeg (σ (k0 + 1) x1.toNatClampNeg)) (fun σ2 => bnd (x1 + (1 : Int32)) (fun t3 => fX7_save_2 L Nf k0 n t3 σ2)))))
set_option maxHeartbeats 4000000 in
set_option maxRecDepth 100000 in
theorem sX7_save_2 {K : MCx} {G : Lay} (X : Cx K G RX7 cX7_save 2 none 0 0) (Nf : Nat) (k0 : Nat) (hk0 : isMod G k0) (h : Int64) : ∀ (n : Nat) (x1 : Int32) (σ : cS), Sm K G TT (QM K G (fun r : cS => ((none, h, r) : Option Value × Int64 × cS))) 2 2 [(0, .ref (la G k0)), (1, .int x1)] [] h σ (fX7_save_2 (ll G) Nf k0 n x1 σ) := by
  intro n
  induction n with
  | zero => intros; exact z_none
  | succ n ih =>
    intro x1 σ
    unfold fX7_save_2
    refine z_iload_n X dX7_save_2 1 rfl ?_
    refine z_sipush (v := (216 : Int32)) X dX7_save_3 (by decide) ?_
    refine z_icmp_ge X 36 dX7_save_6 (by decide) ?_ ?_
    · refine z_aload_n X dX7_save_36 0 rfl ?_
      refine z_aload_n X dX7_save_37 0 rfl ?_
      refine z_get X inlX7 rfl hk0.1 (ce7 hk0.1 _ _) 5 (by decide) q_7_17 rfl dX7_save_38 ?_
      refine z_iconst (v := (1 : Int32)) X dX7_save_41 (by decide) ?_
      refine z_iadd X dX7_save_42 ?_
      refine z_iconst (v := (4 : Int32)) X dX7_save_43 (by decide) ?_
      refine z_irem X dX7_save_44 ?_
      refine z_put X inlX7 rfl hk0.1 (ce7 hk0.1 _ _) 5 (by decide) q_7_17 tyX7 tyX7_ok nmX7 rfl (cp7 hk0.1 _ _ _ 5 (by decide)) rfl rfl (Nat.le_of_ble_eq_true rfl) dX7_save_45 (fun σ1 => ?_)
      refine z_aload_n X dX7_save_48 0 rfl ?_
      refine z_aload_n X dX7_save_49 0 rfl ?_
      refine z_get X inlX7 rfl hk0.1 (ce7 hk0.1 _ _) 4 (by decide) q_7_18 rfl dX7_save_50 ?_
      refine z_iconst (v := (4 : Int32)) X dX7_save_53 (by decide) ?_
      refine z_icmp_ge X 66 dX7_save_54 (by decide) ?_ ?_
      · refine z_iconst (v := (4 : Int32)) X dX7_save_66 (by decide) ?_
        exact z_sub [] rfl (sX7_save_67 X Nf k0 hk0 h (4 : Int32) σ1)
      · refine z_aload_n X dX7_save_57 0 rfl ?_
        refine z_get X inlX7 rfl hk0.1 (ce7 hk0.1 _ _) 4 (by decide) q_7_18 rfl dX7_save_58 ?_
        refine z_iconst (v := (1 : Int32)) X dX7_save_61 (by decide) ?_
        refine z_iadd X dX7_save_62 ?_
        refine z_goto X 67 dX7_save_63 (by decide) ?_
        exact z_sub [] rfl (sX7_save_67 X Nf k0 hk0 h ((σ1 k0 4) + (1 : Int32)) σ1)
    · refine z_aload_n X dX7_save_9 0 rfl ?_
      refine z_get X inlX7 rfl hk0.1 (ce7 hk0.1 _ _) 2 (by decide) q_5_6 rfl dX7_save_10 ?_
      refine z_sipush (v := (216 : Int32)) X dX7_save_13 (by decide) ?_
      refine z_aload_n X dX7_save_16 0 rfl ?_
      refine z_get X inlX7 rfl hk0.1 (ce7 hk0.1 _ _) 5 (by decide) q_7_17 rfl dX7_save_17 ?_
      refine z_imul X dX7_save_20 ?_
      refine z_iload_n X dX7_save_21 1 rfl ?_
      refine z_iadd X dX7_save_22 ?_
      refine z_aload_n X dX7_save_23 0 rfl ?_
      refine z_get X inlX7 rfl hk0.1 (ce7 hk0.1 _ _) 0 (by decide) q_5_4 rfl dX7_save_24 ?_
      refine z_iload_n X dX7_save_27 1 rfl ?_
      refine z_iald X hk0.2.1 dX7_save_28 ?_
      refine z_iast X hk0.2.2.2.1 dX7_save_29 (fun σ2 => ?_)
      refine z_iinc X (fun t3 => [(1, .int t3), (0, .ref (la G k0))]) dX7_save_30 1 rfl (by decide) (by decide) (fun _ => rfl) (fun t3 => ?_)
      refine z_goto X 2 dX7_save_33 (by decide) ?_
      exact z_sub [1, 0] rfl (ih t3 σ2)
def fX7_save_0 (L : Nat → Nat) (Nf : Nat) (k0 : Nat) (σ : cS) : Option cS := fX7_save_2 L Nf k0 Nf (0 : Int32) σ
set_option maxHeartbeats 4000000 in
set_option maxRecDepth 100000 in
theorem sX7_save_0 {K : MCx} {G : Lay} (X : Cx K G RX7 cX7_save 2 none 0 0) (Nf : Nat) (k0 : Nat) (hk0 : isMod G k0) (h : Int64) (σ : cS) : Sm K G TT (QM K G (fun r : cS => ((none, h, r) : Option Value × Int64 × cS))) 2 0 [(0, .ref (la G k0))] [] h σ (fX7_save_0 (ll G) Nf k0 σ) := by
  unfold fX7_save_0
  refine z_iconst (v := (0 : Int32)) X dX7_save_0 (by decide) ?_
  refine z_istore_n X [(1, .int (0 : Int32)), (0, .ref (la G k0))] dX7_save_1 (by decide) rfl ?_
  exact z_sub [1, 0] rfl (sX7_save_2 X Nf k0 hk0 h Nf (0 : Int32) σ)
def fX7_save (L : Nat → Nat) (Nf : Nat) (σ : cS) (k0 : Nat) : Option cS := fX7_save_0 L Nf k0 σ
set_option maxHeartbeats 4000000 in
set_option maxRecDepth 100000 in
theorem ctX7_save (l : Launch) (G : Lay) (hi : Inj G) (Nf : Nat) (h : Int64) (σ : cS) (k0 : Nat) (hk0 : isMod G k0) : ∀ r, fX7_save (ll G) Nf σ k0 = some r → CM l yX7_save cX7_save 2 none 0 0 G [.ref (la G k0)] h σ (none, h, r) := by
  refine cm_of (g := (fun r : cS => ((none, h, r) : Option Value × Int64 × cS))) (by decide) hi (Nat.le_of_ble_eq_true rfl) (fun K hKl X => ?_)
  unfold fX7_save
  exact z_sub [0] rfl (sX7_save_0 X Nf k0 hk0 h σ)
def fX7_undo_49 (L : Nat → Nat) (Nf : Nat) (k0 : Nat) : Nat → Int32 → cS → Option (Int32 × cS)
  | 0, _, _ => none
  | n + 1, x1, σ => if (216 : Int32) ≤ x1 then (some ((σ k0 4), σ)) else (grd (inb (((216 : Int32) * (σ k0 5)) + x1) (L (k0 + 3))) (grd (inb x1 (L (k0 + 1))) (bnd (st2 σ (k0 + 1) x1.toNatClampNeg (σ (k0 + 3) (((216 : Int32) * (σ k0 5)) + x1).toNatClampNeg)) (fun σ1 => bnd (x1 + (1 : Int32)) (fun t2 => fX7_undo_49 L Nf k0 n t2 σ1)))))
set_option maxHeartbeats 4000000 in
set_option maxRecDepth 100000 in
theorem sX7_undo_49 {K : MCx} {G : Lay} (X : Cx K G RX7 cX7_undo 2 (some .int) 1 23) (Nf : Nat) (k0 : Nat) (hk0 : isMod G k0) (h : Int64) : ∀ (n : Nat) (x1 : Int32) (σ : cS), Sm K G TT (QM K G (fun r : (Int32 × cS) => ((some (.int r.1), h, r.2) : Option Value × Int64 × cS))) 2 49 [(0, .ref (la G k0)), (1, .int x1)] [] h σ (fX7_undo_49 (ll G) Nf k0 n x1 σ) := by
  intro n
  induction n with
  | zero => intros; exact z_none
  | succ n ih =>
    intro x1 σ
    unfold fX7_undo_49
    refine z_iload_n X dX7_undo_49 1 rfl ?_
    refine z_sipush (v := (216 : Int32)) X dX7_undo_50 (by decide) ?_
    refine z_icmp_ge X 83 dX7_undo_53 (by decide) ?_ ?_
    · refine z_aload_n X dX7_undo_83 0 rfl ?_
      refine z_get X inlX7 rfl hk0.1 (ce7 hk0.1 _ _) 4 (by decide) q_7_18 rfl dX7_undo_84 ?_
      exact z_iret X rfl dX7_undo_87
    · refine z_aload_n X dX7_undo_56 0 rfl ?_
      refine z_get X inlX7 rfl hk0.1 (ce7 hk0.1 _ _) 0 (by decide) q_5_4 rfl dX7_undo_57 ?_
      refine z_iload_n X dX7_undo_60 1 rfl ?_
      refine z_aload_n X dX7_undo_61 0 rfl ?_
      refine z_get X inlX7 rfl hk0.1 (ce7 hk0.1 _ _) 2 (by decide) q_5_6 rfl dX7_undo_62 ?_
      refine z_sipush (v := (216 : Int32)) X dX7_undo_65 (by decide) ?_
      refine z_aload_n X dX7_undo_68 0 rfl ?_
      refine z_get X inlX7 rfl hk0.1 (ce7 hk0.1 _ _) 5 (by decide) q_7_17 rfl dX7_undo_69 ?_
      refine z_imul X dX7_undo_72 ?_
      refine z_iload_n X dX7_undo_73 1 rfl ?_
      refine z_iadd X dX7_undo_74 ?_
      refine z_iald X hk0.2.2.2.1 dX7_undo_75 ?_
      refine z_iast X hk0.2.1 dX7_undo_76 (fun σ1 => ?_)
      refine z_iinc X (fun t2 => [(1, .int t2), (0, .ref (la G k0))]) dX7_undo_77 1 rfl (by decide) (by decide) (fun _ => rfl) (fun t2 => ?_)
      refine z_goto X 49 dX7_undo_80 (by decide) ?_
      exact z_sub [1, 0] rfl (ih t2 σ1)
def fX7_undo_13 (L : Nat → Nat) (Nf : Nat) (k0 : Nat) (y1 : Int32) (σ : cS) : Option (Int32 × cS) := Option.bind (fX7_refuses σ k0 y1 (0 : Int32) (0 : Int32)) (fun r1 => if r1.1 = 0 then (grd (nz (4 : Int32)) (bnd (st2 r1.2 k0 5 ((((r1.2 k0 5) + (4 : Int32)) - (1 : Int32)) - (((r1.2 k0 5) + (4 : Int32)) - (1 : Int32)) / (4 : Int32) * (4 : Int32))) (fun σ2 => bnd (st2 σ2 k0 4 ((σ2 k0 4) - (1 : Int32))) (fun σ3 => fX7_undo_49 L Nf k0 Nf (0 : Int32) σ3)))) else (some ((0 : Int32), r1.2)))
set_option maxHeartbeats 4000000 in
set_option maxRecDepth 100000 in
theorem sX7_undo_13 {K : MCx} {G : Lay} (X : Cx K G RX7 cX7_undo 2 (some .int) 1 23) (Nf : Nat) (k0 : Nat) (hk0 : isMod G k0) (h : Int64) (y1 : Int32) (σ : cS) : Sm K G TT (QM K G (fun r : (Int32 × cS) => ((some (.int r.1), h, r.2) : Option Value × Int64 × cS))) 2 13 [(0, .ref (la G k0))] [.int y1, .ref (la G k0)] h σ (fX7_undo_13 (ll G) Nf k0 y1 σ) := by
  unfold fX7_undo_13
  refine z_iconst (v := (0 : Int32)) X dX7_undo_13 (by decide) ?_
  refine z_iconst (v := (0 : Int32)) X dX7_undo_14 (by decide) ?_
  refine z_callV0 X (g := (fun r1 : (Int32 × cS) => ((some (.int r1.1), h, r1.2) : Option Value × Int64 × cS))) (st := []) (st1 := (fun r1 : (Int32 × cS) => [.int r1.1])) (rmf := 0) (rml := 0) [.int y1, .int (0 : Int32), .int (0 : Int32)] k0 cal_X7_refuses q_7_8 ⟨Nat.le_of_ble_eq_true rfl, Nat.le_of_ble_eq_true rfl⟩ rfl rfl (Nat.le_of_ble_eq_true rfl) rfl hk0.1 (ce7 hk0.1 _ _) (ctX7_refuses (kl K) G X.2.2.2.2.2.2.2.1 h σ k0 hk0 y1 (0 : Int32) (0 : Int32)) dX7_undo_15 (fun _ => rfl) (fun r1 => ?_)
  refine z_if_eq X 23 dX7_undo_18 (by decide) ?_ ?_
  · refine z_aload_n X dX7_undo_23 0 rfl ?_
    refine z_aload_n X dX7_undo_24 0 rfl ?_
    refine z_get X inlX7 rfl hk0.1 (ce7 hk0.1 _ _) 5 (by decide) q_7_17 rfl dX7_undo_25 ?_
    refine z_iconst (v := (4 : Int32)) X dX7_undo_28 (by decide) ?_
    refine z_iadd X dX7_undo_29 ?_
    refine z_iconst (v := (1 : Int32)) X dX7_undo_30 (by decide) ?_
    refine z_isub X dX7_undo_31 ?_
    refine z_iconst (v := (4 : Int32)) X dX7_undo_32 (by decide) ?_
    refine z_irem X dX7_undo_33 ?_
    refine z_put X inlX7 rfl hk0.1 (ce7 hk0.1 _ _) 5 (by decide) q_7_17 tyX7 tyX7_ok nmX7 rfl (cp7 hk0.1 _ _ _ 5 (by decide)) rfl rfl (Nat.le_of_ble_eq_true rfl) dX7_undo_34 (fun σ2 => ?_)
    refine z_aload_n X dX7_undo_37 0 rfl ?_
    refine z_dup X dX7_undo_38 rfl ?_
    refine z_get X inlX7 rfl hk0.1 (ce7 hk0.1 _ _) 4 (by decide) q_7_18 rfl dX7_undo_39 ?_
    refine z_iconst (v := (1 : Int32)) X dX7_undo_42 (by decide) ?_
    refine z_isub X dX7_undo_43 ?_
    refine z_put X inlX7 rfl hk0.1 (ce7 hk0.1 _ _) 4 (by decide) q_7_18 tyX7 tyX7_ok nmX7 rfl (cp7 hk0.1 _ _ _ 4 (by decide)) rfl rfl (Nat.le_of_ble_eq_true rfl) dX7_undo_44 (fun σ3 => ?_)
    refine z_iconst (v := (0 : Int32)) X dX7_undo_47 (by decide) ?_
    refine z_istore_n X [(1, .int (0 : Int32)), (0, .ref (la G k0))] dX7_undo_48 (by decide) rfl ?_
    exact z_sub [1, 0] rfl (sX7_undo_49 X Nf k0 hk0 h Nf (0 : Int32) σ3)
  · refine z_iconst (v := (0 : Int32)) X dX7_undo_21 (by decide) ?_
    exact z_iret X rfl dX7_undo_22
def fX7_undo_0 (L : Nat → Nat) (Nf : Nat) (k0 : Nat) (σ : cS) : Option (Int32 × cS) := if (σ k0 4) = 0 then (fX7_undo_13 L Nf k0 (1 : Int32) σ) else (fX7_undo_13 L Nf k0 (0 : Int32) σ)
set_option maxHeartbeats 4000000 in
set_option maxRecDepth 100000 in
theorem sX7_undo_0 {K : MCx} {G : Lay} (X : Cx K G RX7 cX7_undo 2 (some .int) 1 23) (Nf : Nat) (k0 : Nat) (hk0 : isMod G k0) (h : Int64) (σ : cS) : Sm K G TT (QM K G (fun r : (Int32 × cS) => ((some (.int r.1), h, r.2) : Option Value × Int64 × cS))) 2 0 [(0, .ref (la G k0))] [] h σ (fX7_undo_0 (ll G) Nf k0 σ) := by
  unfold fX7_undo_0
  refine z_aload_n X dX7_undo_0 0 rfl ?_
  refine z_aload_n X dX7_undo_1 0 rfl ?_
  refine z_get X inlX7 rfl hk0.1 (ce7 hk0.1 _ _) 4 (by decide) q_7_18 rfl dX7_undo_2 ?_
  refine z_if_ne X 12 dX7_undo_5 (by decide) ?_ ?_
  · refine z_iconst (v := (1 : Int32)) X dX7_undo_8 (by decide) ?_
    refine z_goto X 13 dX7_undo_9 (by decide) ?_
    exact z_sub [0] rfl (sX7_undo_13 X Nf k0 hk0 h (1 : Int32) σ)
  · refine z_iconst (v := (0 : Int32)) X dX7_undo_12 (by decide) ?_
    exact z_sub [0] rfl (sX7_undo_13 X Nf k0 hk0 h (0 : Int32) σ)
def fX7_undo (L : Nat → Nat) (Nf : Nat) (σ : cS) (k0 : Nat) : Option (Int32 × cS) := fX7_undo_0 L Nf k0 σ
set_option maxHeartbeats 4000000 in
set_option maxRecDepth 100000 in
theorem ctX7_undo (l : Launch) (G : Lay) (hi : Inj G) (Nf : Nat) (h : Int64) (σ : cS) (k0 : Nat) (hk0 : isMod G k0) : ∀ r, fX7_undo (ll G) Nf σ k0 = some r → CM l yX7_undo cX7_undo 2 (some .int) 1 23 G [.ref (la G k0)] h σ (some (.int r.1), h, r.2) := by
  refine cm_of (g := (fun r : (Int32 × cS) => ((some (.int r.1), h, r.2) : Option Value × Int64 × cS))) (by decide) hi (Nat.le_of_ble_eq_true rfl) (fun K hKl X => ?_)
  unfold fX7_undo
  exact z_sub [0] rfl (sX7_undo_0 X Nf k0 hk0 h σ)
def fX7_placeOf_2 (L : Nat → Nat) (Nf : Nat) (σ : cS) (k0 : Nat) : Nat → Int32 → Int32 → Option Int32
  | 0, _, _ => none
  | n + 1, x1, x2 => grd (inb (3 : Int32) (L (k0 + 1))) (if (σ (k0 + 1) (3 : Int32).toNatClampNeg) ≤ x2 then (some (-1 : Int32)) else (grd (inb ((16 : Int32) + x2) (L (k0 + 1))) (if (σ (k0 + 1) ((16 : Int32) + x2).toNatClampNeg) = x1 then (some x2) else (bnd (x2 + (1 : Int32)) (fun t1 => fX7_placeOf_2 L Nf σ k0 n x1 t1)))))
set_option maxHeartbeats 4000000 in
set_option maxRecDepth 100000 in
theorem sX7_placeOf_2 {K : MCx} {G : Lay} (X : Cx K G RX7 cX7_placeOf 3 (some .int) 0 0) (Nf : Nat) (k0 : Nat) (hk0 : isMod G k0) (h : Int64) (σ : cS) : ∀ (n : Nat) (x1 : Int32) (x2 : Int32), Sm K G TT (QM K G (fun r : Int32 => ((some (.int r), h, σ) : Option Value × Int64 × cS))) 3 2 [(0, .ref (la G k0)), (1, .int x1), (2, .int x2)] [] h σ (fX7_placeOf_2 (ll G) Nf σ k0 n x1 x2) := by
  intro n
  induction n with
  | zero => intros; exact z_none
  | succ n ih =>
    intro x1 x2
    unfold fX7_placeOf_2
    refine z_iload_n X dX7_placeOf_2 2 rfl ?_
    refine z_aload_n X dX7_placeOf_3 0 rfl ?_
    refine z_get X inlX7 rfl hk0.1 (ce7 hk0.1 _ _) 0 (by decide) q_5_4 rfl dX7_placeOf_4 ?_
    refine z_iconst (v := (3 : Int32)) X dX7_placeOf_7 (by decide) ?_
    refine z_iald X hk0.2.1 dX7_placeOf_8 ?_
    refine z_icmp_ge X 33 dX7_placeOf_9 (by decide) ?_ ?_
    · refine z_iconst (v := (-1 : Int32)) X dX7_placeOf_33 (by decide) ?_
      exact z_iret X rfl dX7_placeOf_34
    · refine z_aload_n X dX7_placeOf_12 0 rfl ?_
      refine z_get X inlX7 rfl hk0.1 (ce7 hk0.1 _ _) 0 (by decide) q_5_4 rfl dX7_placeOf_13 ?_
      refine z_bipush (v := (16 : Int32)) X dX7_placeOf_16 (by decide) ?_
      refine z_iload_n X dX7_placeOf_18 2 rfl ?_
      refine z_iadd X dX7_placeOf_19 ?_
      refine z_iald X hk0.2.1 dX7_placeOf_20 ?_
      refine z_iload_n X dX7_placeOf_21 1 rfl ?_
      refine z_icmp_ne X 27 dX7_placeOf_22 (by decide) ?_ ?_
      · refine z_iload_n X dX7_placeOf_25 2 rfl ?_
        exact z_iret X rfl dX7_placeOf_26
      · refine z_iinc X (fun t1 => [(2, .int t1), (0, .ref (la G k0)), (1, .int x1)]) dX7_placeOf_27 2 rfl (by decide) (by decide) (fun _ => rfl) (fun t1 => ?_)
        refine z_goto X 2 dX7_placeOf_30 (by decide) ?_
        exact z_sub [1, 2, 0] rfl (ih x1 t1)
def fX7_placeOf_0 (L : Nat → Nat) (Nf : Nat) (σ : cS) (k0 : Nat) (x1 : Int32)  : Option Int32 := fX7_placeOf_2 L Nf σ k0 Nf x1 (0 : Int32)
set_option maxHeartbeats 4000000 in
set_option maxRecDepth 100000 in
theorem sX7_placeOf_0 {K : MCx} {G : Lay} (X : Cx K G RX7 cX7_placeOf 3 (some .int) 0 0) (Nf : Nat) (k0 : Nat) (hk0 : isMod G k0) (h : Int64) (σ : cS) (x1 : Int32) : Sm K G TT (QM K G (fun r : Int32 => ((some (.int r), h, σ) : Option Value × Int64 × cS))) 3 0 [(0, .ref (la G k0)), (1, .int x1)] [] h σ (fX7_placeOf_0 (ll G) Nf σ k0 x1) := by
  unfold fX7_placeOf_0
  refine z_iconst (v := (0 : Int32)) X dX7_placeOf_0 (by decide) ?_
  refine z_istore_n X [(2, .int (0 : Int32)), (0, .ref (la G k0)), (1, .int x1)] dX7_placeOf_1 (by decide) rfl ?_
  exact z_sub [1, 2, 0] rfl (sX7_placeOf_2 X Nf k0 hk0 h σ Nf x1 (0 : Int32))
def fX7_placeOf (L : Nat → Nat) (Nf : Nat) (σ : cS) (k0 : Nat) (x1 : Int32) : Option Int32 := fX7_placeOf_0 L Nf σ k0 x1
set_option maxHeartbeats 4000000 in
set_option maxRecDepth 100000 in
theorem ctX7_placeOf (l : Launch) (G : Lay) (hi : Inj G) (Nf : Nat) (h : Int64) (σ : cS) (k0 : Nat) (hk0 : isMod G k0) (x1 : Int32) : ∀ r, fX7_placeOf (ll G) Nf σ k0 x1 = some r → CM l yX7_placeOf cX7_placeOf 3 (some .int) 0 0 G [.ref (la G k0), .int x1] h σ (some (.int r), h, σ) := by
  refine cm_of (g := (fun r : Int32 => ((some (.int r), h, σ) : Option Value × Int64 × cS))) (by decide) hi (Nat.le_of_ble_eq_true rfl) (fun K hKl X => ?_)
  unfold fX7_placeOf
  exact z_sub [0, 1] rfl (sX7_placeOf_0 X Nf k0 hk0 h σ x1)
def fX7_holder_34 (L : Nat → Nat) (σ : cS) (k0 : Nat) (y0 : Int32)  : Option Int32 := some y0
set_option maxHeartbeats 4000000 in
set_option maxRecDepth 100000 in
theorem sX7_holder_34 {K : MCx} {G : Lay} (X : Cx K G RX7 cX7_holder 2 (some .int) 0 0) (k0 : Nat) (hk0 : isMod G k0) (h : Int64) (σ : cS) (y0 : Int32) : Sm K G TT (QM K G (fun r : Int32 => ((some (.int r), h, σ) : Option Value × Int64 × cS))) 2 34 [] [.int y0] h σ (fX7_holder_34 (ll G) σ k0 y0) := by
  unfold fX7_holder_34
  exact z_iret X rfl dX7_holder_34
def fX7_holder_0 (L : Nat → Nat) (σ : cS) (k0 : Nat) (x1 : Int32)  : Option Int32 := grd (inb ((136 : Int32) + x1) (L (k0 + 1))) (if (σ (k0 + 1) ((136 : Int32) + x1).toNatClampNeg) = 0 then (grd (inb ((56 : Int32) + x1) (L (k0 + 1))) (fX7_holder_34 L σ k0 (σ (k0 + 1) ((56 : Int32) + x1).toNatClampNeg))) else (grd (inb ((96 : Int32) + x1) (L (k0 + 1))) (fX7_holder_34 L σ k0 (σ (k0 + 1) ((96 : Int32) + x1).toNatClampNeg))))
set_option maxHeartbeats 4000000 in
set_option maxRecDepth 100000 in
theorem sX7_holder_0 {K : MCx} {G : Lay} (X : Cx K G RX7 cX7_holder 2 (some .int) 0 0) (k0 : Nat) (hk0 : isMod G k0) (h : Int64) (σ : cS) (x1 : Int32) : Sm K G TT (QM K G (fun r : Int32 => ((some (.int r), h, σ) : Option Value × Int64 × cS))) 2 0 [(0, .ref (la G k0)), (1, .int x1)] [] h σ (fX7_holder_0 (ll G) σ k0 x1) := by
  unfold fX7_holder_0
  refine z_aload_n X dX7_holder_0 0 rfl ?_
  refine z_get X inlX7 rfl hk0.1 (ce7 hk0.1 _ _) 0 (by decide) q_5_4 rfl dX7_holder_1 ?_
  refine z_sipush (v := (136 : Int32)) X dX7_holder_4 (by decide) ?_
  refine z_iload_n X dX7_holder_7 1 rfl ?_
  refine z_iadd X dX7_holder_8 ?_
  refine z_iald X hk0.2.1 dX7_holder_9 ?_
  refine z_if_ne X 25 dX7_holder_10 (by decide) ?_ ?_
  · refine z_aload_n X dX7_holder_13 0 rfl ?_
    refine z_get X inlX7 rfl hk0.1 (ce7 hk0.1 _ _) 0 (by decide) q_5_4 rfl dX7_holder_14 ?_
    refine z_bipush (v := (56 : Int32)) X dX7_holder_17 (by decide) ?_
    refine z_iload_n X dX7_holder_19 1 rfl ?_
    refine z_iadd X dX7_holder_20 ?_
    refine z_iald X hk0.2.1 dX7_holder_21 ?_
    refine z_goto X 34 dX7_holder_22 (by decide) ?_
    exact z_sub [] rfl (sX7_holder_34 X k0 hk0 h σ (σ (k0 + 1) ((56 : Int32) + x1).toNatClampNeg))
  · refine z_aload_n X dX7_holder_25 0 rfl ?_
    refine z_get X inlX7 rfl hk0.1 (ce7 hk0.1 _ _) 0 (by decide) q_5_4 rfl dX7_holder_26 ?_
    refine z_bipush (v := (96 : Int32)) X dX7_holder_29 (by decide) ?_
    refine z_iload_n X dX7_holder_31 1 rfl ?_
    refine z_iadd X dX7_holder_32 ?_
    refine z_iald X hk0.2.1 dX7_holder_33 ?_
    exact z_sub [] rfl (sX7_holder_34 X k0 hk0 h σ (σ (k0 + 1) ((96 : Int32) + x1).toNatClampNeg))
def fX7_holder (L : Nat → Nat) (σ : cS) (k0 : Nat) (x1 : Int32) : Option Int32 := fX7_holder_0 L σ k0 x1
set_option maxHeartbeats 4000000 in
set_option maxRecDepth 100000 in
theorem ctX7_holder (l : Launch) (G : Lay) (hi : Inj G) (h : Int64) (σ : cS) (k0 : Nat) (hk0 : isMod G k0) (x1 : Int32) : ∀ r, fX7_holder (ll G) σ k0 x1 = some r → CM l yX7_holder cX7_holder 2 (some .int) 0 0 G [.ref (la G k0), .int x1] h σ (some (.int r), h, σ) := by
  refine cm_of (g := (fun r : Int32 => ((some (.int r), h, σ) : Option Value × Int64 × cS))) (by decide) hi (Nat.le_of_ble_eq_true rfl) (fun K hKl X => ?_)
  unfold fX7_holder
  exact z_sub [0, 1] rfl (sX7_holder_0 X k0 hk0 h σ x1)
def fX7_other_34 (L : Nat → Nat) (σ : cS) (k0 : Nat) (y0 : Int32)  : Option Int32 := some y0
set_option maxHeartbeats 4000000 in
set_option maxRecDepth 100000 in
theorem sX7_other_34 {K : MCx} {G : Lay} (X : Cx K G RX7 cX7_other 2 (some .int) 0 0) (k0 : Nat) (hk0 : isMod G k0) (h : Int64) (σ : cS) (y0 : Int32) : Sm K G TT (QM K G (fun r : Int32 => ((some (.int r), h, σ) : Option Value × Int64 × cS))) 2 34 [] [.int y0] h σ (fX7_other_34 (ll G) σ k0 y0) := by
  unfold fX7_other_34
  exact z_iret X rfl dX7_other_34
def fX7_other_0 (L : Nat → Nat) (σ : cS) (k0 : Nat) (x1 : Int32)  : Option Int32 := grd (inb ((136 : Int32) + x1) (L (k0 + 1))) (if (σ (k0 + 1) ((136 : Int32) + x1).toNatClampNeg) = 0 then (grd (inb ((96 : Int32) + x1) (L (k0 + 1))) (fX7_other_34 L σ k0 (σ (k0 + 1) ((96 : Int32) + x1).toNatClampNeg))) else (grd (inb ((56 : Int32) + x1) (L (k0 + 1))) (fX7_other_34 L σ k0 (σ (k0 + 1) ((56 : Int32) + x1).toNatClampNeg))))
set_option maxHeartbeats 4000000 in
set_option maxRecDepth 100000 in
theorem sX7_other_0 {K : MCx} {G : Lay} (X : Cx K G RX7 cX7_other 2 (some .int) 0 0) (k0 : Nat) (hk0 : isMod G k0) (h : Int64) (σ : cS) (x1 : Int32) : Sm K G TT (QM K G (fun r : Int32 => ((some (.int r), h, σ) : Option Value × Int64 × cS))) 2 0 [(0, .ref (la G k0)), (1, .int x1)] [] h σ (fX7_other_0 (ll G) σ k0 x1) := by
  unfold fX7_other_0
  refine z_aload_n X dX7_other_0 0 rfl ?_
  refine z_get X inlX7 rfl hk0.1 (ce7 hk0.1 _ _) 0 (by decide) q_5_4 rfl dX7_other_1 ?_
  refine z_sipush (v := (136 : Int32)) X dX7_other_4 (by decide) ?_
  refine z_iload_n X dX7_other_7 1 rfl ?_
  refine z_iadd X dX7_other_8 ?_
  refine z_iald X hk0.2.1 dX7_other_9 ?_
  refine z_if_ne X 25 dX7_other_10 (by decide) ?_ ?_
  · refine z_aload_n X dX7_other_13 0 rfl ?_
    refine z_get X inlX7 rfl hk0.1 (ce7 hk0.1 _ _) 0 (by decide) q_5_4 rfl dX7_other_14 ?_
    refine z_bipush (v := (96 : Int32)) X dX7_other_17 (by decide) ?_
    refine z_iload_n X dX7_other_19 1 rfl ?_
    refine z_iadd X dX7_other_20 ?_
    refine z_iald X hk0.2.1 dX7_other_21 ?_
    refine z_goto X 34 dX7_other_22 (by decide) ?_
    exact z_sub [] rfl (sX7_other_34 X k0 hk0 h σ (σ (k0 + 1) ((96 : Int32) + x1).toNatClampNeg))
  · refine z_aload_n X dX7_other_25 0 rfl ?_
    refine z_get X inlX7 rfl hk0.1 (ce7 hk0.1 _ _) 0 (by decide) q_5_4 rfl dX7_other_26 ?_
    refine z_bipush (v := (56 : Int32)) X dX7_other_29 (by decide) ?_
    refine z_iload_n X dX7_other_31 1 rfl ?_
    refine z_iadd X dX7_other_32 ?_
    refine z_iald X hk0.2.1 dX7_other_33 ?_
    exact z_sub [] rfl (sX7_other_34 X k0 hk0 h σ (σ (k0 + 1) ((56 : Int32) + x1).toNatClampNeg))
def fX7_other (L : Nat → Nat) (σ : cS) (k0 : Nat) (x1 : Int32) : Option Int32 := fX7_other_0 L σ k0 x1
set_option maxHeartbeats 4000000 in
set_option maxRecDepth 100000 in
theorem ctX7_other (l : Launch) (G : Lay) (hi : Inj G) (h : Int64) (σ : cS) (k0 : Nat) (hk0 : isMod G k0) (x1 : Int32) : ∀ r, fX7_other (ll G) σ k0 x1 = some r → CM l yX7_other cX7_other 2 (some .int) 0 0 G [.ref (la G k0), .int x1] h σ (some (.int r), h, σ) := by
  refine cm_of (g := (fun r : Int32 => ((some (.int r), h, σ) : Option Value × Int64 × cS))) (by decide) hi (Nat.le_of_ble_eq_true rfl) (fun K hKl X => ?_)
  unfold fX7_other
  exact z_sub [0, 1] rfl (sX7_other_0 X k0 hk0 h σ x1)
def fX7_load_29 (L : Nat → Nat) (Nf : Nat) (σ : cS) (k0 : Nat) (self4 : Int32 → Int32 → Int32 → Option Int32) (x1 : Int32) (x3 : Int32) (y0 : Int32) (y1 : Int32)  : Option Int32 := bnd ((y0 + y1)) (fun t1 => bnd (x3 + (1 : Int32)) (fun t2 => self4 x1 t1 t2))
set_option maxHeartbeats 4000000 in
set_option maxRecDepth 100000 in
theorem sX7_load_29 {K : MCx} {G : Lay} (X : Cx K G RX7 cX7_load 4 (some .int) 1 21) (Nf : Nat) (k0 : Nat) (hk0 : isMod G k0) (h : Int64) (σ : cS) (self4 : Int32 → Int32 → Int32 → Option Int32) (hself4 : ∀ (x1 : Int32) (x2 : Int32) (x3 : Int32), Sm K G TT (QM K G (fun r : Int32 => ((some (.int r), h, σ) : Option Value × Int64 × cS))) 4 4 [(0, .ref (la G k0)), (1, .int x1), (2, .int x2), (3, .int x3)] [] h σ (self4 x1 x2 x3)) (x1 : Int32) (x3 : Int32) (y0 : Int32) (y1 : Int32) : Sm K G TT (QM K G (fun r : Int32 => ((some (.int r), h, σ) : Option Value × Int64 × cS))) 4 29 [(0, .ref (la G k0)), (1, .int x1), (3, .int x3)] [.int y1, .int y0] h σ (fX7_load_29 (ll G) Nf σ k0 self4 x1 x3 y0 y1) := by
  unfold fX7_load_29
  refine z_iadd X dX7_load_29 ?_
  refine z_nm (fun t1 => ?_)
  refine z_istore_n X [(2, .int t1), (0, .ref (la G k0)), (1, .int x1), (3, .int x3)] dX7_load_30 (by decide) rfl ?_
  refine z_iinc X (fun t2 => [(3, .int t2), (2, .int t1), (0, .ref (la G k0)), (1, .int x1)]) dX7_load_31 3 rfl (by decide) (by decide) (fun _ => rfl) (fun t2 => ?_)
  refine z_goto X 4 dX7_load_34 (by decide) ?_
  exact z_sub [2, 3, 1, 0] rfl (hself4 x1 t1 t2)
def fX7_load_4 (L : Nat → Nat) (Nf : Nat) (σ : cS) (k0 : Nat) : Nat → Int32 → Int32 → Int32 → Option Int32
  | 0, _, _, _ => none
  | n + 1, x1, x2, x3 => grd (inb (3 : Int32) (L (k0 + 1))) (if (σ (k0 + 1) (3 : Int32).toNatClampNeg) ≤ x3 then (some x2) else (Option.bind (fX7_holder L σ k0 x3) (fun r1 => if r1 = x1 then (fX7_load_29 L Nf σ k0 (fX7_load_4 L Nf σ k0 n) x1 x3 x2 (1 : Int32)) else (fX7_load_29 L Nf σ k0 (fX7_load_4 L Nf σ k0 n) x1 x3 x2 (0 : Int32)))))
set_option maxHeartbeats 4000000 in
set_option maxRecDepth 100000 in
theorem sX7_load_4 {K : MCx} {G : Lay} (X : Cx K G RX7 cX7_load 4 (some .int) 1 21) (Nf : Nat) (k0 : Nat) (hk0 : isMod G k0) (h : Int64) (σ : cS) : ∀ (n : Nat) (x1 : Int32) (x2 : Int32) (x3 : Int32), Sm K G TT (QM K G (fun r : Int32 => ((some (.int r), h, σ) : Option Value × Int64 × cS))) 4 4 [(0, .ref (la G k0)), (1, .int x1), (2, .int x2), (3, .int x3)] [] h σ (fX7_load_4 (ll G) Nf σ k0 n x1 x2 x3) := by
  intro n
  induction n with
  | zero => intros; exact z_none
  | succ n ih =>
    intro x1 x2 x3
    unfold fX7_load_4
    refine z_iload_n X dX7_load_4 3 rfl ?_
    refine z_aload_n X dX7_load_5 0 rfl ?_
    refine z_get X inlX7 rfl hk0.1 (ce7 hk0.1 _ _) 0 (by decide) q_5_4 rfl dX7_load_6 ?_
    refine z_iconst (v := (3 : Int32)) X dX7_load_9 (by decide) ?_
    refine z_iald X hk0.2.1 dX7_load_10 ?_
    refine z_icmp_ge X 37 dX7_load_11 (by decide) ?_ ?_
    · refine z_iload_n X dX7_load_37 2 rfl ?_
      exact z_iret X rfl dX7_load_38
    · refine z_iload_n X dX7_load_14 2 rfl ?_
      refine z_aload_n X dX7_load_15 0 rfl ?_
      refine z_iload_n X dX7_load_16 3 rfl ?_
      refine z_callV0 X (g := (fun r1 : Int32 => ((some (.int r1), h, σ) : Option Value × Int64 × cS))) (st := [.int x2]) (st1 := (fun r1 : Int32 => [.int r1, .int x2])) (rmf := 0) (rml := 0) [.int x3] k0 cal_X7_holder q_10_15 ⟨Nat.le_of_ble_eq_true rfl, Nat.le_of_ble_eq_true rfl⟩ rfl rfl (Nat.le_of_ble_eq_true rfl) rfl hk0.1 (ce7 hk0.1 _ _) (ctX7_holder (kl K) G X.2.2.2.2.2.2.2.1 h σ k0 hk0 x3) dX7_load_17 (fun _ => rfl) (fun r1 => ?_)
      refine z_iload_n X dX7_load_20 1 rfl ?_
      refine z_icmp_ne X 28 dX7_load_21 (by decide) ?_ ?_
      · refine z_iconst (v := (1 : Int32)) X dX7_load_24 (by decide) ?_
        refine z_goto X 29 dX7_load_25 (by decide) ?_
        exact z_sub [0, 1, 3] rfl (sX7_load_29 X Nf k0 hk0 h σ (fX7_load_4 (ll G) Nf σ k0 n) ih x1 x3 x2 (1 : Int32))
      · refine z_iconst (v := (0 : Int32)) X dX7_load_28 (by decide) ?_
        exact z_sub [0, 1, 3] rfl (sX7_load_29 X Nf k0 hk0 h σ (fX7_load_4 (ll G) Nf σ k0 n) ih x1 x3 x2 (0 : Int32))
def fX7_load_0 (L : Nat → Nat) (Nf : Nat) (σ : cS) (k0 : Nat) (x1 : Int32)  : Option Int32 := fX7_load_4 L Nf σ k0 Nf x1 (0 : Int32) (0 : Int32)
set_option maxHeartbeats 4000000 in
set_option maxRecDepth 100000 in
theorem sX7_load_0 {K : MCx} {G : Lay} (X : Cx K G RX7 cX7_load 4 (some .int) 1 21) (Nf : Nat) (k0 : Nat) (hk0 : isMod G k0) (h : Int64) (σ : cS) (x1 : Int32) : Sm K G TT (QM K G (fun r : Int32 => ((some (.int r), h, σ) : Option Value × Int64 × cS))) 4 0 [(0, .ref (la G k0)), (1, .int x1)] [] h σ (fX7_load_0 (ll G) Nf σ k0 x1) := by
  unfold fX7_load_0
  refine z_iconst (v := (0 : Int32)) X dX7_load_0 (by decide) ?_
  refine z_istore_n X [(2, .int (0 : Int32)), (0, .ref (la G k0)), (1, .int x1)] dX7_load_1 (by decide) rfl ?_
  refine z_iconst (v := (0 : Int32)) X dX7_load_2 (by decide) ?_
  refine z_istore_n X [(3, .int (0 : Int32)), (2, .int (0 : Int32)), (0, .ref (la G k0)), (1, .int x1)] dX7_load_3 (by decide) rfl ?_
  exact z_sub [2, 3, 1, 0] rfl (sX7_load_4 X Nf k0 hk0 h σ Nf x1 (0 : Int32) (0 : Int32))
def fX7_load (L : Nat → Nat) (Nf : Nat) (σ : cS) (k0 : Nat) (x1 : Int32) : Option Int32 := fX7_load_0 L Nf σ k0 x1
set_option maxHeartbeats 4000000 in
set_option maxRecDepth 100000 in
theorem ctX7_load (l : Launch) (G : Lay) (hi : Inj G) (Nf : Nat) (h : Int64) (σ : cS) (k0 : Nat) (hk0 : isMod G k0) (x1 : Int32) : ∀ r, fX7_load (ll G) Nf σ k0 x1 = some r → CM l yX7_load cX7_load 4 (some .int) 1 21 G [.ref (la G k0), .int x1] h σ (some (.int r), h, σ) := by
  refine cm_of (g := (fun r : Int32 => ((some (.int r), h, σ) : Option Value × Int64 × cS))) (by decide) hi (Nat.le_of_ble_eq_true rfl) (fun K hKl X => ?_)
  unfold fX7_load
  exact z_sub [0, 1] rfl (sX7_load_0 X Nf k0 hk0 h σ x1)
def fX7_turns_0 (L : Nat → Nat) (k0 : Nat) (x1 : Int32) (σ : cS) : Option cS := grd (inb ((136 : Int32) + x1) (L (k0 + 1))) (grd (inb ((136 : Int32) + x1) (L (k0 + 1))) (bnd (st2 σ (k0 + 1) ((136 : Int32) + x1).toNatClampNeg ((1 : Int32) - (σ (k0 + 1) ((136 : Int32) + x1).toNatClampNeg))) (fun σ1 => grd (inb ((176 : Int32) + x1) (L (k0 + 1))) (grd (inb ((176 : Int32) + x1) (L (k0 + 1))) (bnd (st2 σ1 (k0 + 1) ((176 : Int32) + x1).toNatClampNeg ((σ1 (k0 + 1) ((176 : Int32) + x1).toNatClampNeg) + (1 : Int32))) (fun σ2 => grd (inb (2 : Int32) (L (k0 + 1))) (grd (inb (2 : Int32) (L (k0 + 1))) (bnd (st2 σ2 (k0 + 1) (2 : Int32).toNatClampNeg ((σ2 (k0 + 1) (2 : Int32).toNatClampNeg) + (1 : Int32))) (fun σ3 => some σ3)))))))))
set_option maxHeartbeats 4000000 in
set_option maxRecDepth 100000 in
theorem sX7_turns_0 {K : MCx} {G : Lay} (X : Cx K G RX7 cX7_turns 2 none 0 0) (k0 : Nat) (hk0 : isMod G k0) (h : Int64) (x1 : Int32) (σ : cS) : Sm K G TT (QM K G (fun r : cS => ((none, h, r) : Option Value × Int64 × cS))) 2 0 [(0, .ref (la G k0)), (1, .int x1)] [] h σ (fX7_turns_0 (ll G) k0 x1 σ) := by
  unfold fX7_turns_0
  refine z_aload_n X dX7_turns_0 0 rfl ?_
  refine z_get X inlX7 rfl hk0.1 (ce7 hk0.1 _ _) 0 (by decide) q_5_4 rfl dX7_turns_1 ?_
  refine z_sipush (v := (136 : Int32)) X dX7_turns_4 (by decide) ?_
  refine z_iload_n X dX7_turns_7 1 rfl ?_
  refine z_iadd X dX7_turns_8 ?_
  refine z_iconst (v := (1 : Int32)) X dX7_turns_9 (by decide) ?_
  refine z_aload_n X dX7_turns_10 0 rfl ?_
  refine z_get X inlX7 rfl hk0.1 (ce7 hk0.1 _ _) 0 (by decide) q_5_4 rfl dX7_turns_11 ?_
  refine z_sipush (v := (136 : Int32)) X dX7_turns_14 (by decide) ?_
  refine z_iload_n X dX7_turns_17 1 rfl ?_
  refine z_iadd X dX7_turns_18 ?_
  refine z_iald X hk0.2.1 dX7_turns_19 ?_
  refine z_isub X dX7_turns_20 ?_
  refine z_iast X hk0.2.1 dX7_turns_21 (fun σ1 => ?_)
  refine z_aload_n X dX7_turns_22 0 rfl ?_
  refine z_get X inlX7 rfl hk0.1 (ce7 hk0.1 _ _) 0 (by decide) q_5_4 rfl dX7_turns_23 ?_
  refine z_sipush (v := (176 : Int32)) X dX7_turns_26 (by decide) ?_
  refine z_iload_n X dX7_turns_29 1 rfl ?_
  refine z_iadd X dX7_turns_30 ?_
  refine z_dup2 X dX7_turns_31 rfl rfl ?_
  refine z_iald X hk0.2.1 dX7_turns_32 ?_
  refine z_iconst (v := (1 : Int32)) X dX7_turns_33 (by decide) ?_
  refine z_iadd X dX7_turns_34 ?_
  refine z_iast X hk0.2.1 dX7_turns_35 (fun σ2 => ?_)
  refine z_aload_n X dX7_turns_36 0 rfl ?_
  refine z_get X inlX7 rfl hk0.1 (ce7 hk0.1 _ _) 0 (by decide) q_5_4 rfl dX7_turns_37 ?_
  refine z_iconst (v := (2 : Int32)) X dX7_turns_40 (by decide) ?_
  refine z_dup2 X dX7_turns_41 rfl rfl ?_
  refine z_iald X hk0.2.1 dX7_turns_42 ?_
  refine z_iconst (v := (1 : Int32)) X dX7_turns_43 (by decide) ?_
  refine z_iadd X dX7_turns_44 ?_
  refine z_iast X hk0.2.1 dX7_turns_45 (fun σ3 => ?_)
  exact z_vret X rfl dX7_turns_46
def fX7_turns (L : Nat → Nat) (σ : cS) (k0 : Nat) (x1 : Int32) : Option cS := fX7_turns_0 L k0 x1 σ
set_option maxHeartbeats 4000000 in
set_option maxRecDepth 100000 in
theorem ctX7_turns (l : Launch) (G : Lay) (hi : Inj G) (h : Int64) (σ : cS) (k0 : Nat) (hk0 : isMod G k0) (x1 : Int32) : ∀ r, fX7_turns (ll G) σ k0 x1 = some r → CM l yX7_turns cX7_turns 2 none 0 0 G [.ref (la G k0), .int x1] h σ (none, h, r) := by
  refine cm_of (g := (fun r : cS => ((none, h, r) : Option Value × Int64 × cS))) (by decide) hi (Nat.le_of_ble_eq_true rfl) (fun K hKl X => ?_)
  unfold fX7_turns
  exact z_sub [0, 1] rfl (sX7_turns_0 X k0 hk0 h x1 σ)
