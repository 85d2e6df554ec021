theorem q_4_18 : Cond.fieldLink RX1 11 "EdgeHolders$History" "states" "[LEdgeHolders$Graph;" ∈ wsL_law := seg_4 _ (List.mem_of_getElem? (i := 18) rfl)
theorem q_5_11 : Cond.fieldLink RX1 18 "EdgeHolders$History" "next" "I" ∈ wsL_law := seg_5 _ (List.mem_of_getElem? (i := 11) rfl)
theorem q_5_12 : Cond.fieldLink RX1 26 "EdgeHolders$History" "saved" "I" ∈ wsL_law := seg_5 _ (List.mem_of_getElem? (i := 12) rfl)
theorem q_5_13 : Cond.methodLink RX1 22 yX0_copyFrom ∈ wsL_law := seg_5 _ (List.mem_of_getElem? (i := 13) rfl)
theorem q_5_14 : Cond.instanceMethod yX0_copyFrom ∈ wsL_law := seg_5 _ (List.mem_of_getElem? (i := 14) rfl)
theorem q_5_15 : Cond.selects RX0 yX0_copyFrom yX0_copyFrom ∈ wsL_law := seg_5 _ (List.mem_of_getElem? (i := 15) rfl)
theorem q_5_16 : Cond.code yX0_copyFrom cX0_copyFrom 2 none ∈ wsL_law := seg_5 _ (List.mem_of_getElem? (i := 16) rfl)
theorem q_12_18 : Cond.methodLink RX1 29 Lib.Math.min.name ∈ wsL_law := seg_12 _ (List.mem_of_getElem? (i := 18) rfl)
theorem cal_X0_copyFrom : Cal yX0_copyFrom RX0 cX0_copyFrom 2 none 1 := ⟨q_5_16, q_5_14, q_5_15, q_1_12, by decide +kernel⟩
def fX1_save_66 (L : Nat → Nat) (Nf : Nat) (k0 : Nat) (k1 : Nat) (y1 : Int32) (σ : cS) : Option cS := bnd (st2 σ k0 1 y1) (fun σ1 => bnd (st2 σ1 k0 2 (if (4 : Int32) < ((σ1 k0 2) + (1 : Int32)) then (4 : Int32) else ((σ1 k0 2) + (1 : Int32)))) (fun σ2 => some σ2))
set_option maxHeartbeats 4000000 in
set_option maxRecDepth 100000 in
theorem sX1_save_66 {K : MCx} {G : Lay} (X : Cx K G RX1 cX1_save 2 none 2 43) (Nf : Nat) (k0 : Nat) (hk0 : isHist G k0) (k1 : Nat) (hk1 : isGraph G k1) (h : Int64) (y1 : Int32) (σ : cS) : Sm K G TT (QM K G (fun r : cS => ((none, h, r) : Option Value × Int64 × cS))) 2 66 [(0, .ref (la G k0))] [.int y1, .ref (la G k0)] h σ (fX1_save_66 (ll G) Nf k0 k1 y1 σ) := by
  unfold fX1_save_66
  refine z_put X inlX1 rfl hk0.1 (ce1 hk0.1 _ _) 1 (by decide) q_5_11 tyX1 tyX1_ok nmX1 rfl (cp1 hk0.1 _ _ _ 1 (by decide)) rfl rfl (Nat.le_of_ble_eq_true rfl) dX1_save_66 (fun σ1 => ?_)
  refine z_aload_n X dX1_save_69 0 rfl ?_
  refine z_aload_n X dX1_save_70 0 rfl ?_
  refine z_get X inlX1 rfl hk0.1 (ce1 hk0.1 _ _) 2 (by decide) q_5_12 rfl dX1_save_71 ?_
  refine z_iconst (v := (1 : Int32)) X dX1_save_74 (by decide) ?_
  refine z_iadd X dX1_save_75 ?_
  refine z_iconst (v := (4 : Int32)) X dX1_save_76 (by decide) ?_
  refine z_mmin X q_12_18 q_7_1 q_6_14 q_7_2 (by decide) (Nat.le_of_ble_eq_true rfl) dX1_save_77 ?_
  refine z_put X inlX1 rfl hk0.1 (ce1 hk0.1 _ _) 2 (by decide) q_5_12 tyX1 tyX1_ok nmX1 rfl (cp1 hk0.1 _ _ _ 2 (by decide)) rfl rfl (Nat.le_of_ble_eq_true rfl) dX1_save_80 (fun σ2 => ?_)
  exact z_vret X rfl dX1_save_83
def fX1_save_31 (L : Nat → Nat) (Nf : Nat) (k0 : Nat) (k1 : Nat) (σ : cS) : Option cS := some σ
set_option maxHeartbeats 4000000 in
set_option maxRecDepth 100000 in
theorem sX1_save_31 {K : MCx} {G : Lay} (X : Cx K G RX1 cX1_save 2 none 2 43) (Nf : Nat) (k0 : Nat) (hk0 : isHist G k0) (k1 : Nat) (hk1 : isGraph G k1) (h : Int64) (σ : cS) : Sm K G TT (QM K G (fun r : cS => ((none, h, r) : Option Value × Int64 × cS))) 2 31 [] [] h σ (fX1_save_31 (ll G) Nf k0 k1 σ) := by
  unfold fX1_save_31
  exact z_vret X rfl dX1_save_31
def fX1_save_0 (L : Nat → Nat) (Nf : Nat) (k0 : Nat) (k1 : Nat) (σ : cS) : Option cS := if (σ k0 1) < 0 then (fX1_save_31 L Nf k0 k1 σ) else (if (4 : Int32) ≤ (σ k0 1) then (fX1_save_31 L Nf k0 k1 σ) else (grd (inb (σ k0 1) 4) (grd (inb (σ k0 1) 4) (Option.bind (fX0_copyFrom L Nf σ (30 + 15 * (σ k0 1).toNatClampNeg) k1) (fun r3 => if (4 : Int32) ≤ ((r3 k0 1) + (1 : Int32)) then (fX1_save_66 L Nf k0 k1 (0 : Int32) r3) else (fX1_save_66 L Nf k0 k1 ((r3 k0 1) + (1 : Int32)) r3))))))
set_option maxHeartbeats 4000000 in
set_option maxRecDepth 100000 in
theorem sX1_save_0 {K : MCx} {G : Lay} (X : Cx K G RX1 cX1_save 2 none 2 43) (Nf : Nat) (k0 : Nat) (hk0 : isHist G k0) (k1 : Nat) (hk1 : isGraph G k1) (h : Int64) (σ : cS) : Sm K G TT (QM K G (fun r : cS => ((none, h, r) : Option Value × Int64 × cS))) 2 0 [(0, .ref (la G k0)), (1, .ref (la G k1))] [] h σ (fX1_save_0 (ll G) Nf k0 k1 σ) := by
  unfold fX1_save_0
  refine z_aload_n X dX1_save_0 0 rfl ?_
  refine z_get X inlX1 rfl hk0.1 (ce1 hk0.1 _ _) 1 (by decide) q_5_11 rfl dX1_save_1 ?_
  refine z_if_lt X 31 dX1_save_4 (by decide) ?_ ?_
  · exact z_sub [] rfl (sX1_save_31 X Nf k0 hk0 k1 hk1 h σ)
  · refine z_aload_n X dX1_save_7 0 rfl ?_
    refine z_get X inlX1 rfl hk0.1 (ce1 hk0.1 _ _) 1 (by decide) q_5_11 rfl dX1_save_8 ?_
    refine z_aload_n X dX1_save_11 0 rfl ?_
    refine z_get X inlX1 rfl hk0.1 (ce1 hk0.1 _ _) 0 (by decide) q_4_18 rfl dX1_save_12 ?_
    refine z_alenq X hk0.2.1 dX1_save_15 ?_
    refine z_icmp_ge X 31 dX1_save_16 (by decide) ?_ ?_
    · exact z_sub [] rfl (sX1_save_31 X Nf k0 hk0 k1 hk1 h σ)
    · refine z_aload_n X dX1_save_19 0 rfl ?_
      refine z_get X inlX1 rfl hk0.1 (ce1 hk0.1 _ _) 0 (by decide) q_4_18 rfl dX1_save_20 ?_
      refine z_aload_n X dX1_save_23 0 rfl ?_
      refine z_get X inlX1 rfl hk0.1 (ce1 hk0.1 _ _) 1 (by decide) q_5_11 rfl dX1_save_24 ?_
      refine z_aald X hk0.2.1 dX1_save_27 (fun c1 => ?_)
      refine z_ifnonnull X 32 dX1_save_28 (by decide) ?_
      refine z_aload_n X dX1_save_32 0 rfl ?_
      refine z_get X inlX1 rfl hk0.1 (ce1 hk0.1 _ _) 0 (by decide) q_4_18 rfl dX1_save_33 ?_
      refine z_aload_n X dX1_save_36 0 rfl ?_
      refine z_get X inlX1 rfl hk0.1 (ce1 hk0.1 _ _) 1 (by decide) q_5_11 rfl dX1_save_37 ?_
      refine z_aald X hk0.2.1 dX1_save_40 (fun c2 => ?_)
      refine z_aload_n X dX1_save_41 1 rfl ?_
      refine z_callV0 X (g := (fun r3 : cS => ((none, h, r3) : Option Value × Int64 × cS))) (st := []) (st1 := (fun r3 : cS => [])) (rmf := 1) (rml := 22) [.ref (la G k1)] (30 + 15 * (σ k0 1).toNatClampNeg) cal_X0_copyFrom q_5_13 ⟨Nat.le_of_ble_eq_true rfl, Nat.le_of_ble_eq_true rfl⟩ rfl rfl (Nat.le_of_ble_eq_true rfl) rfl (hist_at hk0 c2).1 (ce0 (hist_at hk0 c2).1 _ _) (ctX0_copyFrom (kl K) G X.2.2.2.2.2.2.2.1 Nf h σ (30 + 15 * (σ k0 1).toNatClampNeg) (hist_at hk0 c2) k1 hk1 ) dX1_save_42 (fun _ => rfl) (fun r3 => ?_)
      refine z_aload_n X dX1_save_45 0 rfl ?_
      refine z_aload_n X dX1_save_46 0 rfl ?_
      refine z_get X inlX1 rfl hk0.1 (ce1 hk0.1 _ _) 1 (by decide) q_5_11 rfl dX1_save_47 ?_
      refine z_iconst (v := (1 : Int32)) X dX1_save_50 (by decide) ?_
      refine z_iadd X dX1_save_51 ?_
      refine z_iconst (v := (4 : Int32)) X dX1_save_52 (by decide) ?_
      refine z_icmp_ge X 65 dX1_save_53 (by decide) ?_ ?_
      · refine z_iconst (v := (0 : Int32)) X dX1_save_65 (by decide) ?_
        exact z_sub [0] rfl (sX1_save_66 X Nf k0 hk0 k1 hk1 h (0 : Int32) r3)
      · refine z_aload_n X dX1_save_56 0 rfl ?_
        refine z_get X inlX1 rfl hk0.1 (ce1 hk0.1 _ _) 1 (by decide) q_5_11 rfl dX1_save_57 ?_
        refine z_iconst (v := (1 : Int32)) X dX1_save_60 (by decide) ?_
        refine z_iadd X dX1_save_61 ?_
        refine z_goto X 66 dX1_save_62 (by decide) ?_
        exact z_sub [0] rfl (sX1_save_66 X Nf k0 hk0 k1 hk1 h ((r3 k0 1) + (1 : Int32)) r3)
def fX1_save (L : Nat → Nat) (Nf : Nat) (σ : cS) (k0 : Nat) (k1 : Nat) : Option cS := fX1_save_0 L Nf k0 k1 σ
set_option maxHeartbeats 4000000 in
set_option maxRecDepth 100000 in
theorem ctX1_save (l : Launch) (G : Lay) (hi : Inj G) (Nf : Nat) (h : Int64) (σ : cS) (k0 : Nat) (hk0 : isHist G k0) (k1 : Nat) (hk1 : isGraph G k1) : ∀ r, fX1_save (ll G) Nf σ k0 k1 = some r → CM l yX1_save cX1_save 2 none 2 43 G [.ref (la G k0), .ref (la G k1)] h σ (none, h, r) := by
  refine cm_of (g := (fun r : cS => ((none, h, r) : Option Value × Int64 × cS))) (by decide) hi (Nat.le_of_ble_eq_true rfl) (fun K hKl X => ?_)
  unfold fX1_save
  exact z_sub [0, 1] rfl (sX1_save_0 X Nf k0 hk0 k1 hk1 h σ)
def fX1_restore_44 (L : Nat → Nat) (Nf : Nat) (k0 : Nat) (k1 : Nat) (σ : cS) : Option cS := some σ
set_option maxHeartbeats 4000000 in
set_option maxRecDepth 100000 in
theorem sX1_restore_44 {K : MCx} {G : Lay} (X : Cx K G RX1 cX1_restore 3 none 2 43) (Nf : Nat) (k0 : Nat) (hk0 : isHist G k0) (k1 : Nat) (hk1 : isGraph G k1) (h : Int64) (σ : cS) : Sm K G TT (QM K G (fun r : cS => ((none, h, r) : Option Value × Int64 × cS))) 3 44 [] [] h σ (fX1_restore_44 (ll G) Nf k0 k1 σ) := by
  unfold fX1_restore_44
  exact z_vret X rfl dX1_restore_44
def fX1_restore_17 (L : Nat → Nat) (Nf : Nat) (k0 : Nat) (k1 : Nat) (y0 : Int32) (σ : cS) : Option cS := if (σ k0 2) < (1 : Int32) then (fX1_restore_44 L Nf k0 k1 σ) else (if (4 : Int32) ≤ y0 then (fX1_restore_44 L Nf k0 k1 σ) else (grd (inb y0 4) (grd (inb y0 4) (Option.bind (fX0_copyFrom L Nf σ k1 (30 + 15 * y0.toNatClampNeg)) (fun r3 => bnd (st2 r3 k0 1 y0) (fun σ4 => bnd (st2 σ4 k0 2 ((σ4 k0 2) - (1 : Int32))) (fun σ5 => some σ5)))))))
set_option maxHeartbeats 4000000 in
set_option maxRecDepth 100000 in
theorem sX1_restore_17 {K : MCx} {G : Lay} (X : Cx K G RX1 cX1_restore 3 none 2 43) (Nf : Nat) (k0 : Nat) (hk0 : isHist G k0) (k1 : Nat) (hk1 : isGraph G k1) (h : Int64) (y0 : Int32) (σ : cS) : Sm K G TT (QM K G (fun r : cS => ((none, h, r) : Option Value × Int64 × cS))) 3 17 [(0, .ref (la G k0)), (1, .ref (la G k1))] [.int y0] h σ (fX1_restore_17 (ll G) Nf k0 k1 y0 σ) := by
  unfold fX1_restore_17
  refine z_istore_n X [(2, .int y0), (0, .ref (la G k0)), (1, .ref (la G k1))] dX1_restore_17 (by decide) rfl ?_
  refine z_aload_n X dX1_restore_18 1 rfl ?_
  refine z_get X inlX1 rfl hk0.1 (ce1 hk0.1 _ _) 2 (by decide) q_5_12 rfl dX1_restore_19 ?_
  refine z_iconst (v := (1 : Int32)) X dX1_restore_22 (by decide) ?_
  refine z_icmp_lt X 44 dX1_restore_23 (by decide) ?_ ?_
  · exact z_sub [] rfl (sX1_restore_44 X Nf k0 hk0 k1 hk1 h σ)
  · refine z_iload_n X dX1_restore_26 0 rfl ?_
    refine z_aload_n X dX1_restore_27 1 rfl ?_
    refine z_get X inlX1 rfl hk0.1 (ce1 hk0.1 _ _) 0 (by decide) q_4_18 rfl dX1_restore_28 ?_
    refine z_alenq X hk0.2.1 dX1_restore_31 ?_
    refine z_icmp_ge X 44 dX1_restore_32 (by decide) ?_ ?_
    · exact z_sub [] rfl (sX1_restore_44 X Nf k0 hk0 k1 hk1 h σ)
    · refine z_aload_n X dX1_restore_35 1 rfl ?_
      refine z_get X inlX1 rfl hk0.1 (ce1 hk0.1 _ _) 0 (by decide) q_4_18 rfl dX1_restore_36 ?_
      refine z_iload_n X dX1_restore_39 0 rfl ?_
      refine z_aald X hk0.2.1 dX1_restore_40 (fun c1 => ?_)
      refine z_ifnonnull X 45 dX1_restore_41 (by decide) ?_
      refine z_aload_n X dX1_restore_45 2 rfl ?_
      refine z_aload_n X dX1_restore_46 1 rfl ?_
      refine z_get X inlX1 rfl hk0.1 (ce1 hk0.1 _ _) 0 (by decide) q_4_18 rfl dX1_restore_47 ?_
      refine z_iload_n X dX1_restore_50 0 rfl ?_
      refine z_aald X hk0.2.1 dX1_restore_51 (fun c2 => ?_)
      refine z_callV0 X (g := (fun r3 : cS => ((none, h, r3) : Option Value × Int64 × cS))) (st := []) (st1 := (fun r3 : cS => [])) (rmf := 1) (rml := 22) [.ref (la G (30 + 15 * y0.toNatClampNeg))] k1 cal_X0_copyFrom q_5_13 ⟨Nat.le_of_ble_eq_true rfl, Nat.le_of_ble_eq_true rfl⟩ rfl rfl (Nat.le_of_ble_eq_true rfl) rfl hk1.1 (ce0 hk1.1 _ _) (ctX0_copyFrom (kl K) G X.2.2.2.2.2.2.2.1 Nf h σ k1 hk1 (30 + 15 * y0.toNatClampNeg) (hist_at hk0 c2) ) dX1_restore_52 (fun _ => rfl) (fun r3 => ?_)
      refine z_aload_n X dX1_restore_55 1 rfl ?_
      refine z_iload_n X dX1_restore_56 0 rfl ?_
      refine z_put X inlX1 rfl hk0.1 (ce1 hk0.1 _ _) 1 (by decide) q_5_11 tyX1 tyX1_ok nmX1 rfl (cp1 hk0.1 _ _ _ 1 (by decide)) rfl rfl (Nat.le_of_ble_eq_true rfl) dX1_restore_57 (fun σ4 => ?_)
      refine z_aload_n X dX1_restore_60 1 rfl ?_
      refine z_dup X dX1_restore_61 rfl ?_
      refine z_get X inlX1 rfl hk0.1 (ce1 hk0.1 _ _) 2 (by decide) q_5_12 rfl dX1_restore_62 ?_
      refine z_iconst (v := (1 : Int32)) X dX1_restore_65 (by decide) ?_
      refine z_isub X dX1_restore_66 ?_
      refine z_put X inlX1 rfl hk0.1 (ce1 hk0.1 _ _) 2 (by decide) q_5_12 tyX1 tyX1_ok nmX1 rfl (cp1 hk0.1 _ _ _ 2 (by decide)) rfl rfl (Nat.le_of_ble_eq_true rfl) dX1_restore_67 (fun σ5 => ?_)
      exact z_vret X rfl dX1_restore_70
def fX1_restore_0 (L : Nat → Nat) (Nf : Nat) (k0 : Nat) (k1 : Nat) (σ : cS) : Option cS := if (σ k0 1) ≤ 0 then (fX1_restore_17 L Nf k0 k1 (3 : Int32) σ) else (fX1_restore_17 L Nf k0 k1 ((σ k0 1) - (1 : Int32)) σ)
set_option maxHeartbeats 4000000 in
set_option maxRecDepth 100000 in
theorem sX1_restore_0 {K : MCx} {G : Lay} (X : Cx K G RX1 cX1_restore 3 none 2 43) (Nf : Nat) (k0 : Nat) (hk0 : isHist G k0) (k1 : Nat) (hk1 : isGraph G k1) (h : Int64) (σ : cS) : Sm K G TT (QM K G (fun r : cS => ((none, h, r) : Option Value × Int64 × cS))) 3 0 [(0, .ref (la G k0)), (1, .ref (la G k1))] [] h σ (fX1_restore_0 (ll G) Nf k0 k1 σ) := by
  unfold fX1_restore_0
  refine z_aload_n X dX1_restore_0 0 rfl ?_
  refine z_get X inlX1 rfl hk0.1 (ce1 hk0.1 _ _) 1 (by decide) q_5_11 rfl dX1_restore_1 ?_
  refine z_if_le X 16 dX1_restore_4 (by decide) ?_ ?_
  · refine z_iconst (v := (3 : Int32)) X dX1_restore_16 (by decide) ?_
    exact z_sub [0, 1] rfl (sX1_restore_17 X Nf k0 hk0 k1 hk1 h (3 : Int32) σ)
  · refine z_aload_n X dX1_restore_7 0 rfl ?_
    refine z_get X inlX1 rfl hk0.1 (ce1 hk0.1 _ _) 1 (by decide) q_5_11 rfl dX1_restore_8 ?_
    refine z_iconst (v := (1 : Int32)) X dX1_restore_11 (by decide) ?_
    refine z_isub X dX1_restore_12 ?_
    refine z_goto X 17 dX1_restore_13 (by decide) ?_
    exact z_sub [0, 1] rfl (sX1_restore_17 X Nf k0 hk0 k1 hk1 h ((σ k0 1) - (1 : Int32)) σ)
def fX1_restore (L : Nat → Nat) (Nf : Nat) (σ : cS) (k0 : Nat) (k1 : Nat) : Option cS := fX1_restore_0 L Nf k0 k1 σ
set_option maxHeartbeats 4000000 in
set_option maxRecDepth 100000 in
theorem ctX1_restore (l : Launch) (G : Lay) (hi : Inj G) (Nf : Nat) (h : Int64) (σ : cS) (k0 : Nat) (hk0 : isHist G k0) (k1 : Nat) (hk1 : isGraph G k1) : ∀ r, fX1_restore (ll G) Nf σ k0 k1 = some r → CM l yX1_restore cX1_restore 3 none 2 43 G [.ref (la G k0), .ref (la G k1)] h σ (none, h, r) := by
  refine cm_of (g := (fun r : cS => ((none, h, r) : Option Value × Int64 × cS))) (by decide) hi (Nat.le_of_ble_eq_true rfl) (fun K hKl X => ?_)
  unfold fX1_restore
  exact z_sub [0, 1] rfl (sX1_restore_0 X Nf k0 hk0 k1 hk1 h σ)
