theorem q_22_11 : Cond.methodLink RX7 133 yX7_valueOf ∈ wsL_law := seg_22 _ (List.mem_of_getElem? (i := 11) rfl)
theorem q_22_12 : Cond.instanceMethod yX7_valueOf ∈ wsL_law := seg_22 _ (List.mem_of_getElem? (i := 12) rfl)
theorem q_22_13 : Cond.selects RX7 yX7_valueOf yX7_valueOf ∈ wsL_law := seg_22 _ (List.mem_of_getElem? (i := 13) rfl)
theorem q_22_14 : Cond.code yX7_valueOf cX7_valueOf 7 (some .int) ∈ wsL_law := seg_22 _ (List.mem_of_getElem? (i := 14) rfl)
theorem q_23_3 : Cond.methodLink RX7 139 yX7_pathOf ∈ wsL_law := seg_23 _ (List.mem_of_getElem? (i := 3) rfl)
theorem q_23_4 : Cond.instanceMethod yX7_pathOf ∈ wsL_law := seg_23 _ (List.mem_of_getElem? (i := 4) rfl)
theorem q_23_5 : Cond.selects RX7 yX7_pathOf yX7_pathOf ∈ wsL_law := seg_23 _ (List.mem_of_getElem? (i := 5) rfl)
theorem q_23_6 : Cond.code yX7_pathOf cX7_pathOf 3 (some .int) ∈ wsL_law := seg_23 _ (List.mem_of_getElem? (i := 6) rfl)
theorem q_23_7 : Cond.methodLink RX7 136 yX7_lengthTo ∈ wsL_law := seg_23 _ (List.mem_of_getElem? (i := 7) rfl)
theorem q_23_8 : Cond.instanceMethod yX7_lengthTo ∈ wsL_law := seg_23 _ (List.mem_of_getElem? (i := 8) rfl)
theorem q_23_9 : Cond.selects RX7 yX7_lengthTo yX7_lengthTo ∈ wsL_law := seg_23 _ (List.mem_of_getElem? (i := 9) rfl)
theorem q_23_10 : Cond.code yX7_lengthTo cX7_lengthTo 4 (some .int) ∈ wsL_law := seg_23 _ (List.mem_of_getElem? (i := 10) rfl)
theorem q_24_17 : Cond.methodLink RX7 142 yX7_innerOf ∈ wsL_law := seg_24 _ (List.mem_of_getElem? (i := 17) rfl)
theorem q_24_18 : Cond.instanceMethod yX7_innerOf ∈ wsL_law := seg_24 _ (List.mem_of_getElem? (i := 18) rfl)
theorem q_24_19 : Cond.selects RX7 yX7_innerOf yX7_innerOf ∈ wsL_law := seg_24 _ (List.mem_of_getElem? (i := 19) rfl)
theorem q_24_20 : Cond.code yX7_innerOf cX7_innerOf 6 (some .int) ∈ wsL_law := seg_24 _ (List.mem_of_getElem? (i := 20) rfl)
theorem q_26_13 : Cond.methodLink RX7 146 yX7_densestOf ∈ wsL_law := seg_26 _ (List.mem_of_getElem? (i := 13) rfl)
theorem q_26_14 : Cond.instanceMethod yX7_densestOf ∈ wsL_law := seg_26 _ (List.mem_of_getElem? (i := 14) rfl)
theorem q_26_15 : Cond.selects RX7 yX7_densestOf yX7_densestOf ∈ wsL_law := seg_26 _ (List.mem_of_getElem? (i := 15) rfl)
theorem q_26_16 : Cond.code yX7_densestOf cX7_densestOf 10 (some .int) ∈ wsL_law := seg_26 _ (List.mem_of_getElem? (i := 16) rfl)
theorem q_27_1 : Cond.methodLink RX7 149 yX7_leastOf ∈ wsL_law := seg_27 _ (List.mem_of_getElem? (i := 1) rfl)
theorem q_27_2 : Cond.instanceMethod yX7_leastOf ∈ wsL_law := seg_27 _ (List.mem_of_getElem? (i := 2) rfl)
theorem q_27_3 : Cond.selects RX7 yX7_leastOf yX7_leastOf ∈ wsL_law := seg_27 _ (List.mem_of_getElem? (i := 3) rfl)
theorem q_27_4 : Cond.code yX7_leastOf cX7_leastOf 5 (some .int) ∈ wsL_law := seg_27 _ (List.mem_of_getElem? (i := 4) rfl)
theorem cal_X7_valueOf : Cal yX7_valueOf RX7 cX7_valueOf 7 (some .int) 1 := ⟨q_22_14, q_22_12, q_22_13, q_1_5, by decide +kernel⟩
theorem cal_X7_lengthTo : Cal yX7_lengthTo RX7 cX7_lengthTo 4 (some .int) 1 := ⟨q_23_10, q_23_8, q_23_9, q_1_5, by decide +kernel⟩
theorem cal_X7_pathOf : Cal yX7_pathOf RX7 cX7_pathOf 3 (some .int) 2 := ⟨q_23_6, q_23_4, q_23_5, q_1_5, by decide +kernel⟩
theorem cal_X7_innerOf : Cal yX7_innerOf RX7 cX7_innerOf 6 (some .int) 3 := ⟨q_24_20, q_24_18, q_24_19, q_1_5, by decide +kernel⟩
theorem cal_X7_densestOf : Cal yX7_densestOf RX7 cX7_densestOf 10 (some .int) 2 := ⟨q_26_16, q_26_14, q_26_15, q_1_5, by decide +kernel⟩
theorem cal_X7_leastOf : Cal yX7_leastOf RX7 cX7_leastOf 5 (some .int) 2 := ⟨q_27_4, q_27_2, q_27_3, q_1_5, by decide +kernel⟩
def fX7_valueOf_72 (L : Nat → Nat) (Nf : Nat) (σ : cS) (k0 : Nat) (self11 : Int32 → Int32 → Int32 → Int32 → Int32 → Option Int32) (x1 : Int32) (x2 : Int32) (x3 : Int32) (x5 : Int32) (y0 : Int32) (y1 : Int32)  : Option Int32 := bnd ((y0 + y1)) (fun t1 => bnd (x5 + (1 : Int32)) (fun t2 => self11 x1 x2 x3 t1 t2))
set_option maxHeartbeats 4000000 in
set_option maxRecDepth 100000 in
theorem sX7_valueOf_72 {K : MCx} {G : Lay} (X : Cx K G RX7 cX7_valueOf 7 (some .int) 3 66) (Nf : Nat) (k0 : Nat) (hk0 : isMod G k0) (h : Int64) (σ : cS) (self11 : Int32 → Int32 → Int32 → Int32 → Int32 → Option Int32) (hself11 : ∀ (x1 : Int32) (x2 : Int32) (x3 : Int32) (x4 : Int32) (x5 : Int32), Sm K G TT (QM K G (fun r : Int32 => ((some (.int r), h, σ) : Option Value × Int64 × cS))) 7 11 [(0, .ref (la G k0)), (1, .int x1), (2, .int x2), (3, .int x3), (4, .int x4), (5, .int x5)] [] h σ (self11 x1 x2 x3 x4 x5)) (x1 : Int32) (x2 : Int32) (x3 : Int32) (x5 : Int32) (y0 : Int32) (y1 : Int32) : Sm K G TT (QM K G (fun r : Int32 => ((some (.int r), h, σ) : Option Value × Int64 × cS))) 7 72 [(0, .ref (la G k0)), (1, .int x1), (2, .int x2), (3, .int x3), (5, .int x5)] [.int y1, .int y0] h σ (fX7_valueOf_72 (ll G) Nf σ k0 self11 x1 x2 x3 x5 y0 y1) := by
  unfold fX7_valueOf_72
  refine z_iadd X dX7_valueOf_72 ?_
  refine z_nm (fun t1 => ?_)
  refine z_istore X [(4, .int t1), (0, .ref (la G k0)), (1, .int x1), (2, .int x2), (3, .int x3), (5, .int x5)] dX7_valueOf_73 (by decide) rfl ?_
  refine z_iinc X (fun t2 => [(5, .int t2), (4, .int t1), (0, .ref (la G k0)), (1, .int x1), (2, .int x2), (3, .int x3)]) dX7_valueOf_75 5 rfl (by decide) (by decide) (fun _ => rfl) (fun t2 => ?_)
  refine z_goto X 11 dX7_valueOf_78 (by decide) ?_
  exact z_sub [2, 3, 4, 5, 1, 0] rfl (hself11 x1 x2 x3 t1 t2)
def fX7_valueOf_42 (L : Nat → Nat) (Nf : Nat) (σ : cS) (k0 : Nat) (self11 : Int32 → Int32 → Int32 → Int32 → Int32 → Option Int32) (x1 : Int32) (x3 : Int32) (x4 : Int32) (x5 : Int32) (x6 : Int32) (y0 : Int32)  : Option Int32 := bnd ((x3 + (x6 * x6))) (fun t1 => grd (inb ((4 : Int32) + x5) (L (k0 + 1))) (if x6 ≤ (σ (k0 + 1) ((4 : Int32) + x5).toNatClampNeg) then (fX7_valueOf_72 L Nf σ k0 self11 x1 y0 t1 x5 x4 (0 : Int32)) else (fX7_valueOf_72 L Nf σ k0 self11 x1 y0 t1 x5 x4 (1 : Int32))))
set_option maxHeartbeats 4000000 in
set_option maxRecDepth 100000 in
theorem sX7_valueOf_42 {K : MCx} {G : Lay} (X : Cx K G RX7 cX7_valueOf 7 (some .int) 3 66) (Nf : Nat) (k0 : Nat) (hk0 : isMod G k0) (h : Int64) (σ : cS) (self11 : Int32 → Int32 → Int32 → Int32 → Int32 → Option Int32) (hself11 : ∀ (x1 : Int32) (x2 : Int32) (x3 : Int32) (x4 : Int32) (x5 : Int32), Sm K G TT (QM K G (fun r : Int32 => ((some (.int r), h, σ) : Option Value × Int64 × cS))) 7 11 [(0, .ref (la G k0)), (1, .int x1), (2, .int x2), (3, .int x3), (4, .int x4), (5, .int x5)] [] h σ (self11 x1 x2 x3 x4 x5)) (x1 : Int32) (x3 : Int32) (x4 : Int32) (x5 : Int32) (x6 : Int32) (y0 : Int32) : Sm K G TT (QM K G (fun r : Int32 => ((some (.int r), h, σ) : Option Value × Int64 × cS))) 7 42 [(0, .ref (la G k0)), (1, .int x1), (3, .int x3), (4, .int x4), (5, .int x5), (6, .int x6)] [.int y0] h σ (fX7_valueOf_42 (ll G) Nf σ k0 self11 x1 x3 x4 x5 x6 y0) := by
  unfold fX7_valueOf_42
  refine z_istore_n X [(2, .int y0), (0, .ref (la G k0)), (1, .int x1), (3, .int x3), (4, .int x4), (5, .int x5), (6, .int x6)] dX7_valueOf_42 (by decide) rfl ?_
  refine z_iload_n X dX7_valueOf_43 3 rfl ?_
  refine z_iload X dX7_valueOf_44 6 rfl ?_
  refine z_iload X dX7_valueOf_46 6 rfl ?_
  refine z_imul X dX7_valueOf_48 ?_
  refine z_iadd X dX7_valueOf_49 ?_
  refine z_nm (fun t1 => ?_)
  refine z_istore_n X [(3, .int t1), (2, .int y0), (0, .ref (la G k0)), (1, .int x1), (4, .int x4), (5, .int x5), (6, .int x6)] dX7_valueOf_50 (by decide) rfl ?_
  refine z_iload X dX7_valueOf_51 4 rfl ?_
  refine z_iload X dX7_valueOf_53 6 rfl ?_
  refine z_aload_n X dX7_valueOf_55 2 rfl ?_
  refine z_get X inlX7 rfl hk0.1 (ce7 hk0.1 _ _) 0 (by decide) q_5_4 rfl dX7_valueOf_56 ?_
  refine z_iconst (v := (4 : Int32)) X dX7_valueOf_59 (by decide) ?_
  refine z_iload X dX7_valueOf_60 5 rfl ?_
  refine z_iadd X dX7_valueOf_62 ?_
  refine z_iald X hk0.2.1 dX7_valueOf_63 ?_
  refine z_icmp_le X 71 dX7_valueOf_64 (by decide) ?_ ?_
  · refine z_iconst (v := (0 : Int32)) X dX7_valueOf_71 (by decide) ?_
    exact z_sub [2, 3, 1, 0, 5] rfl (sX7_valueOf_72 X Nf k0 hk0 h σ self11 hself11 x1 y0 t1 x5 x4 (0 : Int32))
  · refine z_iconst (v := (1 : Int32)) X dX7_valueOf_67 (by decide) ?_
    refine z_goto X 72 dX7_valueOf_68 (by decide) ?_
    exact z_sub [2, 3, 1, 0, 5] rfl (sX7_valueOf_72 X Nf k0 hk0 h σ self11 hself11 x1 y0 t1 x5 x4 (1 : Int32))
def fX7_valueOf_11 (L : Nat → Nat) (Nf : Nat) (σ : cS) (k0 : Nat) : Nat → Int32 → Int32 → Int32 → Int32 → Int32 → Option Int32
  | 0, _, _, _, _, _ => none
  | n + 1, x1, x2, x3, x4, x5 => grd (inb (0 : Int32) (L (k0 + 1))) (if (σ (k0 + 1) (0 : Int32).toNatClampNeg) ≤ x5 then (if x1 = (0 : Int32) then (grd (inb (0 : Int32) (L (k0 + 1))) (some (σ (k0 + 1) (0 : Int32).toNatClampNeg))) else (if x1 = (1 : Int32) then (grd (inb (3 : Int32) (L (k0 + 1))) (some (σ (k0 + 1) (3 : Int32).toNatClampNeg))) else (if x1 = (2 : Int32) then (Option.bind (fX7_greatest L Nf σ k0) (fun r1 => some r1)) else (if x1 = (3 : Int32) then (some x2) else (if x1 = (4 : Int32) then (some x3) else (if x1 = (5 : Int32) then (grd (inb (2 : Int32) (L (k0 + 1))) (some (σ (k0 + 1) (2 : Int32).toNatClampNeg))) else (if x1 = (6 : Int32) then (grd (inb (1 : Int32) (L (k0 + 1))) (some (σ (k0 + 1) (1 : Int32).toNatClampNeg))) else (some x4)))))))) else (Option.bind (fX7_load L Nf σ k0 x5) (fun r2 => if x2 ≤ r2 then (fX7_valueOf_42 L Nf σ k0 (fX7_valueOf_11 L Nf σ k0 n) x1 x3 x4 x5 r2 x2) else (fX7_valueOf_42 L Nf σ k0 (fX7_valueOf_11 L Nf σ k0 n) x1 x3 x4 x5 r2 r2))))
set_option maxHeartbeats 4000000 in
set_option maxRecDepth 100000 in
theorem sX7_valueOf_11 {K : MCx} {G : Lay} (X : Cx K G RX7 cX7_valueOf 7 (some .int) 3 66) (Nf : Nat) (k0 : Nat) (hk0 : isMod G k0) (h : Int64) (σ : cS) : ∀ (n : Nat) (x1 : Int32) (x2 : Int32) (x3 : Int32) (x4 : Int32) (x5 : Int32), Sm K G TT (QM K G (fun r : Int32 => ((some (.int r), h, σ) : Option Value × Int64 × cS))) 7 11 [(0, .ref (la G k0)), (1, .int x1), (2, .int x2), (3, .int x3), (4, .int x4), (5, .int x5)] [] h σ (fX7_valueOf_11 (ll G) Nf σ k0 n x1 x2 x3 x4 x5) := by
  intro n
  induction n with
  | zero => intros; exact z_none
  | succ n ih =>
    intro x1 x2 x3 x4 x5
    unfold fX7_valueOf_11
    refine z_iload X dX7_valueOf_11 5 rfl ?_
    refine z_aload_n X dX7_valueOf_13 0 rfl ?_
    refine z_get X inlX7 rfl hk0.1 (ce7 hk0.1 _ _) 0 (by decide) q_5_4 rfl dX7_valueOf_14 ?_
    refine z_iconst (v := (0 : Int32)) X dX7_valueOf_17 (by decide) ?_
    refine z_iald X hk0.2.1 dX7_valueOf_18 ?_
    refine z_icmp_ge X 81 dX7_valueOf_19 (by decide) ?_ ?_
    · refine z_iload_n X dX7_valueOf_81 1 rfl ?_
      refine z_ite (fun c0 => ?_) (fun c0 => ?_)
      · refine z_tsIn (off := 42) X 124 dX7_valueOf_82 (by rw [c0]; decide) (by rw [c0]; decide) (by rw [c0]; rfl) (by decide) ?_
        refine z_aload_n X dX7_valueOf_124 0 rfl ?_
        refine z_get X inlX7 rfl hk0.1 (ce7 hk0.1 _ _) 0 (by decide) q_5_4 rfl dX7_valueOf_125 ?_
        refine z_iconst (v := (0 : Int32)) X dX7_valueOf_128 (by decide) ?_
        refine z_iald X hk0.2.1 dX7_valueOf_129 ?_
        exact z_iret X rfl dX7_valueOf_130
      · refine z_ite (fun c1 => ?_) (fun c1 => ?_)
        · refine z_tsIn (off := 49) X 131 dX7_valueOf_82 (by rw [c1]; decide) (by rw [c1]; decide) (by rw [c1]; rfl) (by decide) ?_
          refine z_aload_n X dX7_valueOf_131 0 rfl ?_
          refine z_get X inlX7 rfl hk0.1 (ce7 hk0.1 _ _) 0 (by decide) q_5_4 rfl dX7_valueOf_132 ?_
          refine z_iconst (v := (3 : Int32)) X dX7_valueOf_135 (by decide) ?_
          refine z_iald X hk0.2.1 dX7_valueOf_136 ?_
          exact z_iret X rfl dX7_valueOf_137
        · refine z_ite (fun c2 => ?_) (fun c2 => ?_)
          · refine z_tsIn (off := 56) X 138 dX7_valueOf_82 (by rw [c2]; decide) (by rw [c2]; decide) (by rw [c2]; rfl) (by decide) ?_
            refine z_aload_n X dX7_valueOf_138 0 rfl ?_
            refine z_callV0 X (g := (fun r1 : Int32 => ((some (.int r1), h, σ) : Option Value × Int64 × cS))) (st := []) (st1 := (fun r1 : Int32 => [.int r1])) (rmf := 2) (rml := 44) [] k0 cal_X7_greatest q_17_10 ⟨Nat.le_of_ble_eq_true rfl, Nat.le_of_ble_eq_true rfl⟩ rfl rfl (Nat.le_of_ble_eq_true rfl) rfl hk0.1 (ce7 hk0.1 _ _) (ctX7_greatest (kl K) G X.2.2.2.2.2.2.2.1 Nf h σ k0 hk0 ) dX7_valueOf_139 (fun _ => rfl) (fun r1 => ?_)
            exact z_iret X rfl dX7_valueOf_142
          · refine z_ite (fun c3 => ?_) (fun c3 => ?_)
            · refine z_tsIn (off := 61) X 143 dX7_valueOf_82 (by rw [c3]; decide) (by rw [c3]; decide) (by rw [c3]; rfl) (by decide) ?_
              refine z_iload_n X dX7_valueOf_143 2 rfl ?_
              exact z_iret X rfl dX7_valueOf_144
            · refine z_ite (fun c4 => ?_) (fun c4 => ?_)
              · refine z_tsIn (off := 63) X 145 dX7_valueOf_82 (by rw [c4]; decide) (by rw [c4]; decide) (by rw [c4]; rfl) (by decide) ?_
                refine z_iload_n X dX7_valueOf_145 3 rfl ?_
                exact z_iret X rfl dX7_valueOf_146
              · refine z_ite (fun c5 => ?_) (fun c5 => ?_)
                · refine z_tsIn (off := 65) X 147 dX7_valueOf_82 (by rw [c5]; decide) (by rw [c5]; decide) (by rw [c5]; rfl) (by decide) ?_
                  refine z_aload_n X dX7_valueOf_147 0 rfl ?_
                  refine z_get X inlX7 rfl hk0.1 (ce7 hk0.1 _ _) 0 (by decide) q_5_4 rfl dX7_valueOf_148 ?_
                  refine z_iconst (v := (2 : Int32)) X dX7_valueOf_151 (by decide) ?_
                  refine z_iald X hk0.2.1 dX7_valueOf_152 ?_
                  exact z_iret X rfl dX7_valueOf_153
                · refine z_ite (fun c6 => ?_) (fun c6 => ?_)
                  · refine z_tsIn (off := 72) X 154 dX7_valueOf_82 (by rw [c6]; decide) (by rw [c6]; decide) (by rw [c6]; rfl) (by decide) ?_
                    refine z_aload_n X dX7_valueOf_154 0 rfl ?_
                    refine z_get X inlX7 rfl hk0.1 (ce7 hk0.1 _ _) 0 (by decide) q_5_4 rfl dX7_valueOf_155 ?_
                    refine z_iconst (v := (1 : Int32)) X dX7_valueOf_158 (by decide) ?_
                    refine z_iald X hk0.2.1 dX7_valueOf_159 ?_
                    exact z_iret X rfl dX7_valueOf_160
                  · refine z_tsOut X 161 dX7_valueOf_82 (by decide) (ts_out_0_6 c0 c1 c2 c3 c4 c5 c6) ?_
                    refine z_iload X dX7_valueOf_161 4 rfl ?_
                    exact z_iret X rfl dX7_valueOf_163
    · refine z_aload_n X dX7_valueOf_22 0 rfl ?_
      refine z_iload X dX7_valueOf_23 5 rfl ?_
      refine z_callV0 X (g := (fun r2 : Int32 => ((some (.int r2), h, σ) : Option Value × Int64 × cS))) (st := []) (st1 := (fun r2 : Int32 => [.int r2])) (rmf := 1) (rml := 21) [.int x5] k0 cal_X7_load q_10_11 ⟨Nat.le_of_ble_eq_true rfl, Nat.le_of_ble_eq_true rfl⟩ rfl rfl (Nat.le_of_ble_eq_true rfl) rfl hk0.1 (ce7 hk0.1 _ _) (ctX7_load (kl K) G X.2.2.2.2.2.2.2.1 Nf h σ k0 hk0 x5) dX7_valueOf_25 (fun _ => rfl) (fun r2 => ?_)
      refine z_istore X [(6, .int r2), (0, .ref (la G k0)), (1, .int x1), (2, .int x2), (3, .int x3), (4, .int x4), (5, .int x5)] dX7_valueOf_28 (by decide) rfl ?_
      refine z_iload X dX7_valueOf_30 0 rfl ?_
      refine z_iload_n X dX7_valueOf_32 3 rfl ?_
      refine z_icmp_ge X 41 dX7_valueOf_33 (by decide) ?_ ?_
      · refine z_iload_n X dX7_valueOf_41 3 rfl ?_
        exact z_sub [1, 2, 4, 5, 6, 0] rfl (sX7_valueOf_42 X Nf k0 hk0 h σ (fX7_valueOf_11 (ll G) Nf σ k0 n) ih x1 x3 x4 x5 r2 x2)
      · refine z_iload X dX7_valueOf_36 0 rfl ?_
        refine z_goto X 42 dX7_valueOf_38 (by decide) ?_
        exact z_sub [1, 2, 4, 5, 6, 0] rfl (sX7_valueOf_42 X Nf k0 hk0 h σ (fX7_valueOf_11 (ll G) Nf σ k0 n) ih x1 x3 x4 x5 r2 r2)
def fX7_valueOf_0 (L : Nat → Nat) (Nf : Nat) (σ : cS) (k0 : Nat) (x1 : Int32)  : Option Int32 := fX7_valueOf_11 L Nf σ k0 Nf x1 (40 : Int32) (0 : Int32) (0 : Int32) (0 : Int32)
set_option maxHeartbeats 4000000 in
set_option maxRecDepth 100000 in
theorem sX7_valueOf_0 {K : MCx} {G : Lay} (X : Cx K G RX7 cX7_valueOf 7 (some .int) 3 66) (Nf : Nat) (k0 : Nat) (hk0 : isMod G k0) (h : Int64) (σ : cS) (x1 : Int32) : Sm K G TT (QM K G (fun r : Int32 => ((some (.int r), h, σ) : Option Value × Int64 × cS))) 7 0 [(0, .ref (la G k0)), (1, .int x1)] [] h σ (fX7_valueOf_0 (ll G) Nf σ k0 x1) := by
  unfold fX7_valueOf_0
  refine z_bipush (v := (40 : Int32)) X dX7_valueOf_0 (by decide) ?_
  refine z_istore_n X [(2, .int (40 : Int32)), (0, .ref (la G k0)), (1, .int x1)] dX7_valueOf_2 (by decide) rfl ?_
  refine z_iconst (v := (0 : Int32)) X dX7_valueOf_3 (by decide) ?_
  refine z_istore_n X [(3, .int (0 : Int32)), (2, .int (40 : Int32)), (0, .ref (la G k0)), (1, .int x1)] dX7_valueOf_4 (by decide) rfl ?_
  refine z_iconst (v := (0 : Int32)) X dX7_valueOf_5 (by decide) ?_
  refine z_istore X [(4, .int (0 : Int32)), (3, .int (0 : Int32)), (2, .int (40 : Int32)), (0, .ref (la G k0)), (1, .int x1)] dX7_valueOf_6 (by decide) rfl ?_
  refine z_iconst (v := (0 : Int32)) X dX7_valueOf_8 (by decide) ?_
  refine z_istore X [(5, .int (0 : Int32)), (4, .int (0 : Int32)), (3, .int (0 : Int32)), (2, .int (40 : Int32)), (0, .ref (la G k0)), (1, .int x1)] dX7_valueOf_9 (by decide) rfl ?_
  exact z_sub [4, 5, 3, 2, 1, 0] rfl (sX7_valueOf_11 X Nf k0 hk0 h σ Nf x1 (40 : Int32) (0 : Int32) (0 : Int32) (0 : Int32))
def fX7_valueOf (L : Nat → Nat) (Nf : Nat) (σ : cS) (k0 : Nat) (x1 : Int32) : Option Int32 := fX7_valueOf_0 L Nf σ k0 x1
set_option maxHeartbeats 4000000 in
set_option maxRecDepth 100000 in
theorem ctX7_valueOf (l : Launch) (G : Lay) (hi : Inj G) (Nf : Nat) (h : Int64) (σ : cS) (k0 : Nat) (hk0 : isMod G k0) (x1 : Int32) : ∀ r, fX7_valueOf (ll G) Nf σ k0 x1 = some r → CM l yX7_valueOf cX7_valueOf 7 (some .int) 3 66 G [.ref (la G k0), .int x1] h σ (some (.int r), h, σ) := by
  refine cm_of (g := (fun r : Int32 => ((some (.int r), h, σ) : Option Value × Int64 × cS))) (by decide) hi (Nat.le_of_ble_eq_true rfl) (fun K hKl X => ?_)
  unfold fX7_valueOf
  exact z_sub [0, 1] rfl (sX7_valueOf_0 X Nf k0 hk0 h σ x1)
def fX7_value_33 (L : Nat → Nat) (Nf : Nat) (k0 : Nat) (y0 : Int32) (σ : cS) : Option (Int32 × cS) := some (y0, σ)
set_option maxHeartbeats 4000000 in
set_option maxRecDepth 100000 in
theorem sX7_value_33 {K : MCx} {G : Lay} (X : Cx K G RX7 cX7_value 2 (some .int) 4 92) (Nf : Nat) (k0 : Nat) (hk0 : isMod G k0) (h : Int64) (y0 : Int32) (σ : cS) : Sm K G TT (QM K G (fun r : (Int32 × cS) => ((some (.int r.1), h, r.2) : Option Value × Int64 × cS))) 2 33 [] [.int y0] h σ (fX7_value_33 (ll G) Nf k0 y0 σ) := by
  unfold fX7_value_33
  exact z_iret X rfl dX7_value_33
def fX7_value_16 (L : Nat → Nat) (Nf : Nat) (k0 : Nat) (x1 : Int32) (y1 : Int32) (σ : cS) : Option (Int32 × cS) := Option.bind (fX7_refuses σ k0 y1 (0 : Int32) (0 : Int32)) (fun r1 => if r1.1 = 0 then (Option.bind (fX7_valueOf L Nf r1.2 k0 x1) (fun r2 => fX7_value_33 L Nf k0 r2 r1.2)) else (fX7_value_33 L Nf k0 (0 : Int32) r1.2))
set_option maxHeartbeats 4000000 in
set_option maxRecDepth 100000 in
theorem sX7_value_16 {K : MCx} {G : Lay} (X : Cx K G RX7 cX7_value 2 (some .int) 4 92) (Nf : Nat) (k0 : Nat) (hk0 : isMod G k0) (h : Int64) (x1 : Int32) (y1 : Int32) (σ : cS) : Sm K G TT (QM K G (fun r : (Int32 × cS) => ((some (.int r.1), h, r.2) : Option Value × Int64 × cS))) 2 16 [(0, .ref (la G k0)), (1, .int x1)] [.int y1, .ref (la G k0)] h σ (fX7_value_16 (ll G) Nf k0 x1 y1 σ) := by
  unfold fX7_value_16
  refine z_iconst (v := (0 : Int32)) X dX7_value_16 (by decide) ?_
  refine z_iconst (v := (0 : Int32)) X dX7_value_17 (by decide) ?_
  refine z_callV0 X (g := (fun r1 : (Int32 × cS) => ((some (.int r1.1), h, r1.2) : Option Value × Int64 × cS))) (st := []) (st1 := (fun r1 : (Int32 × cS) => [.int r1.1])) (rmf := 0) (rml := 0) [.int y1, .int (0 : Int32), .int (0 : Int32)] k0 cal_X7_refuses q_7_8 ⟨Nat.le_of_ble_eq_true rfl, Nat.le_of_ble_eq_true rfl⟩ rfl rfl (Nat.le_of_ble_eq_true rfl) rfl hk0.1 (ce7 hk0.1 _ _) (ctX7_refuses (kl K) G X.2.2.2.2.2.2.2.1 h σ k0 hk0 y1 (0 : Int32) (0 : Int32)) dX7_value_18 (fun _ => rfl) (fun r1 => ?_)
  refine z_if_eq X 28 dX7_value_21 (by decide) ?_ ?_
  · refine z_aload_n X dX7_value_28 0 rfl ?_
    refine z_iload_n X dX7_value_29 1 rfl ?_
    refine z_callV0 X (g := (fun r2 : Int32 => ((some (.int r2), h, r1.2) : Option Value × Int64 × cS))) (st := []) (st1 := (fun r2 : Int32 => [.int r2])) (rmf := 3) (rml := 66) [.int x1] k0 cal_X7_valueOf q_22_11 ⟨Nat.le_of_ble_eq_true rfl, Nat.le_of_ble_eq_true rfl⟩ rfl rfl (Nat.le_of_ble_eq_true rfl) rfl hk0.1 (ce7 hk0.1 _ _) (ctX7_valueOf (kl K) G X.2.2.2.2.2.2.2.1 Nf h r1.2 k0 hk0 x1) dX7_value_30 (fun _ => rfl) (fun r2 => ?_)
    exact z_sub [] rfl (sX7_value_33 X Nf k0 hk0 h r2 r1.2)
  · refine z_iconst (v := (0 : Int32)) X dX7_value_24 (by decide) ?_
    refine z_goto X 33 dX7_value_25 (by decide) ?_
    exact z_sub [] rfl (sX7_value_33 X Nf k0 hk0 h (0 : Int32) r1.2)
def fX7_value_0 (L : Nat → Nat) (Nf : Nat) (k0 : Nat) (x1 : Int32) (σ : cS) : Option (Int32 × cS) := Option.bind (fX7_in σ x1 (0 : Int32) (7 : Int32)) (fun r1 => if r1 = 0 then (fX7_value_16 L Nf k0 x1 (1 : Int32) σ) else (fX7_value_16 L Nf k0 x1 (0 : Int32) σ))
set_option maxHeartbeats 4000000 in
set_option maxRecDepth 100000 in
theorem sX7_value_0 {K : MCx} {G : Lay} (X : Cx K G RX7 cX7_value 2 (some .int) 4 92) (Nf : Nat) (k0 : Nat) (hk0 : isMod G k0) (h : Int64) (x1 : Int32) (σ : cS) : Sm K G TT (QM K G (fun r : (Int32 × cS) => ((some (.int r.1), h, r.2) : Option Value × Int64 × cS))) 2 0 [(0, .ref (la G k0)), (1, .int x1)] [] h σ (fX7_value_0 (ll G) Nf k0 x1 σ) := by
  unfold fX7_value_0
  refine z_aload_n X dX7_value_0 0 rfl ?_
  refine z_iload_n X dX7_value_1 1 rfl ?_
  refine z_iconst (v := (0 : Int32)) X dX7_value_2 (by decide) ?_
  refine z_bipush (v := (7 : Int32)) X dX7_value_3 (by decide) ?_
  refine z_callS0 X (g := (fun r1 : Int32 => ((some (.int r1), h, σ) : Option Value × Int64 × cS))) (st := [.ref (la G k0)]) (st1 := (fun r1 : Int32 => [.int r1, .ref (la G k0)])) (rmf := 0) (rml := 0) [.int x1, .int (0 : Int32), .int (7 : Int32)] cal_X7_in q_7_5 ⟨Nat.le_of_ble_eq_true rfl, Nat.le_of_ble_eq_true rfl⟩ rfl rfl (Nat.le_of_ble_eq_true rfl) (ctX7_in (kl K) G X.2.2.2.2.2.2.2.1 h σ x1 (0 : Int32) (7 : Int32)) dX7_value_5 (fun _ => rfl) (fun r1 => ?_)
  refine z_if_ne X 15 dX7_value_8 (by decide) ?_ ?_
  · refine z_iconst (v := (1 : Int32)) X dX7_value_11 (by decide) ?_
    refine z_goto X 16 dX7_value_12 (by decide) ?_
    exact z_sub [0, 1] rfl (sX7_value_16 X Nf k0 hk0 h x1 (1 : Int32) σ)
  · refine z_iconst (v := (0 : Int32)) X dX7_value_15 (by decide) ?_
    exact z_sub [0, 1] rfl (sX7_value_16 X Nf k0 hk0 h x1 (0 : Int32) σ)
def fX7_value (L : Nat → Nat) (Nf : Nat) (σ : cS) (k0 : Nat) (x1 : Int32) : Option (Int32 × cS) := fX7_value_0 L Nf k0 x1 σ
set_option maxHeartbeats 4000000 in
set_option maxRecDepth 100000 in
theorem ctX7_value (l : Launch) (G : Lay) (hi : Inj G) (Nf : Nat) (h : Int64) (σ : cS) (k0 : Nat) (hk0 : isMod G k0) (x1 : Int32) : ∀ r, fX7_value (ll G) Nf σ k0 x1 = some r → CM l yX7_value cX7_value 2 (some .int) 4 92 G [.ref (la G k0), .int x1] h σ (some (.int r.1), h, r.2) := by
  refine cm_of (g := (fun r : (Int32 × cS) => ((some (.int r.1), h, r.2) : Option Value × Int64 × cS))) (by decide) hi (Nat.le_of_ble_eq_true rfl) (fun K hKl X => ?_)
  unfold fX7_value
  exact z_sub [0, 1] rfl (sX7_value_0 X Nf k0 hk0 h x1 σ)
def fX7_pathOf_25 (L : Nat → Nat) (Nf : Nat) (k0 : Nat) (y0 : Int32) (σ : cS) : Option (Int32 × cS) := some (y0, σ)
set_option maxHeartbeats 4000000 in
set_option maxRecDepth 100000 in
theorem sX7_pathOf_25 {K : MCx} {G : Lay} (X : Cx K G RX7 cX7_pathOf 3 (some .int) 2 45) (Nf : Nat) (k0 : Nat) (hk0 : isMod G k0) (h : Int64) (y0 : Int32) (σ : cS) : Sm K G TT (QM K G (fun r : (Int32 × cS) => ((some (.int r.1), h, r.2) : Option Value × Int64 × cS))) 3 25 [] [.int y0] h σ (fX7_pathOf_25 (ll G) Nf k0 y0 σ) := by
  unfold fX7_pathOf_25
  exact z_iret X rfl dX7_pathOf_25
def fX7_pathOf_0 (L : Nat → Nat) (Nf : Nat) (k0 : Nat) (x1 : Int32) (x2 : Int32) (σ : cS) : Option (Int32 × cS) := Option.bind (fX7_visits L Nf σ k0 x1) (fun r1 => if (((r1 k0 10) >>> (x2 &&& 31)) &&& (1 : Int32)) = 0 then (fX7_pathOf_25 L Nf k0 (-1 : Int32) r1) else (Option.bind (fX7_lengthTo L Nf r1 k0 x2) (fun r2 => fX7_pathOf_25 L Nf k0 r2 r1)))
set_option maxHeartbeats 4000000 in
set_option maxRecDepth 100000 in
theorem sX7_pathOf_0 {K : MCx} {G : Lay} (X : Cx K G RX7 cX7_pathOf 3 (some .int) 2 45) (Nf : Nat) (k0 : Nat) (hk0 : isMod G k0) (h : Int64) (x1 : Int32) (x2 : Int32) (σ : cS) : Sm K G TT (QM K G (fun r : (Int32 × cS) => ((some (.int r.1), h, r.2) : Option Value × Int64 × cS))) 3 0 [(0, .ref (la G k0)), (1, .int x1), (2, .int x2)] [] h σ (fX7_pathOf_0 (ll G) Nf k0 x1 x2 σ) := by
  unfold fX7_pathOf_0
  refine z_aload_n X dX7_pathOf_0 0 rfl ?_
  refine z_iload_n X dX7_pathOf_1 1 rfl ?_
  refine z_callV0 X (g := (fun r1 : cS => ((none, h, r1) : Option Value × Int64 × cS))) (st := []) (st1 := (fun r1 : cS => [])) (rmf := 1) (rml := 21) [.int x1] k0 cal_X7_visits q_15_14 ⟨Nat.le_of_ble_eq_true rfl, Nat.le_of_ble_eq_true rfl⟩ rfl rfl (Nat.le_of_ble_eq_true rfl) rfl hk0.1 (ce7 hk0.1 _ _) (ctX7_visits (kl K) G X.2.2.2.2.2.2.2.1 Nf h σ k0 hk0 x1) dX7_pathOf_2 (fun _ => rfl) (fun r1 => ?_)
  refine z_aload_n X dX7_pathOf_5 0 rfl ?_
  refine z_get X inlX7 rfl hk0.1 (ce7 hk0.1 _ _) 10 (by decide) q_15_18 rfl dX7_pathOf_6 ?_
  refine z_iload_n X dX7_pathOf_9 2 rfl ?_
  refine z_ishr X dX7_pathOf_10 ?_
  refine z_iconst (v := (1 : Int32)) X dX7_pathOf_11 (by decide) ?_
  refine z_iand X dX7_pathOf_12 ?_
  refine z_if_ne X 20 dX7_pathOf_13 (by decide) ?_ ?_
  · refine z_iconst (v := (-1 : Int32)) X dX7_pathOf_16 (by decide) ?_
    refine z_goto X 25 dX7_pathOf_17 (by decide) ?_
    exact z_sub [] rfl (sX7_pathOf_25 X Nf k0 hk0 h (-1 : Int32) r1)
  · refine z_aload_n X dX7_pathOf_20 0 rfl ?_
    refine z_iload_n X dX7_pathOf_21 2 rfl ?_
    refine z_callV0 X (g := (fun r2 : Int32 => ((some (.int r2), h, r1) : Option Value × Int64 × cS))) (st := []) (st1 := (fun r2 : Int32 => [.int r2])) (rmf := 1) (rml := 21) [.int x2] k0 cal_X7_lengthTo q_23_7 ⟨Nat.le_of_ble_eq_true rfl, Nat.le_of_ble_eq_true rfl⟩ rfl rfl (Nat.le_of_ble_eq_true rfl) rfl hk0.1 (ce7 hk0.1 _ _) (ctX7_lengthTo (kl K) G X.2.2.2.2.2.2.2.1 Nf h r1 k0 hk0 x2) dX7_pathOf_22 (fun _ => rfl) (fun r2 => ?_)
    exact z_sub [] rfl (sX7_pathOf_25 X Nf k0 hk0 h r2 r1)
def fX7_pathOf (L : Nat → Nat) (Nf : Nat) (σ : cS) (k0 : Nat) (x1 : Int32) (x2 : Int32) : Option (Int32 × cS) := fX7_pathOf_0 L Nf k0 x1 x2 σ
set_option maxHeartbeats 4000000 in
set_option maxRecDepth 100000 in
theorem ctX7_pathOf (l : Launch) (G : Lay) (hi : Inj G) (Nf : Nat) (h : Int64) (σ : cS) (k0 : Nat) (hk0 : isMod G k0) (x1 : Int32) (x2 : Int32) : ∀ r, fX7_pathOf (ll G) Nf σ k0 x1 x2 = some r → CM l yX7_pathOf cX7_pathOf 3 (some .int) 2 45 G [.ref (la G k0), .int x1, .int x2] h σ (some (.int r.1), h, r.2) := by
  refine cm_of (g := (fun r : (Int32 × cS) => ((some (.int r.1), h, r.2) : Option Value × Int64 × cS))) (by decide) hi (Nat.le_of_ble_eq_true rfl) (fun K hKl X => ?_)
  unfold fX7_pathOf
  exact z_sub [0, 1, 2] rfl (sX7_pathOf_0 X Nf k0 hk0 h x1 x2 σ)
def fX7_path_40 (L : Nat → Nat) (Nf : Nat) (k0 : Nat) (y0 : Int32) (σ : cS) : Option (Int32 × cS) := some (y0, σ)
set_option maxHeartbeats 4000000 in
set_option maxRecDepth 100000 in
theorem sX7_path_40 {K : MCx} {G : Lay} (X : Cx K G RX7 cX7_path 3 (some .int) 3 67) (Nf : Nat) (k0 : Nat) (hk0 : isMod G k0) (h : Int64) (y0 : Int32) (σ : cS) : Sm K G TT (QM K G (fun r : (Int32 × cS) => ((some (.int r.1), h, r.2) : Option Value × Int64 × cS))) 3 40 [] [.int y0] h σ (fX7_path_40 (ll G) Nf k0 y0 σ) := by
  unfold fX7_path_40
  exact z_iret X rfl dX7_path_40
def fX7_path_22 (L : Nat → Nat) (Nf : Nat) (k0 : Nat) (x1 : Int32) (x2 : Int32) (y1 : Int32) (σ : cS) : Option (Int32 × cS) := Option.bind (fX7_refuses σ k0 y1 (0 : Int32) (0 : Int32)) (fun r1 => if r1.1 = 0 then (Option.bind (fX7_pathOf L Nf r1.2 k0 x1 x2) (fun r2 => fX7_path_40 L Nf k0 r2.1 r2.2)) else (fX7_path_40 L Nf k0 (0 : Int32) r1.2))
set_option maxHeartbeats 4000000 in
set_option maxRecDepth 100000 in
theorem sX7_path_22 {K : MCx} {G : Lay} (X : Cx K G RX7 cX7_path 3 (some .int) 3 67) (Nf : Nat) (k0 : Nat) (hk0 : isMod G k0) (h : Int64) (x1 : Int32) (x2 : Int32) (y1 : Int32) (σ : cS) : Sm K G TT (QM K G (fun r : (Int32 × cS) => ((some (.int r.1), h, r.2) : Option Value × Int64 × cS))) 3 22 [(0, .ref (la G k0)), (1, .int x1), (2, .int x2)] [.int y1, .ref (la G k0)] h σ (fX7_path_22 (ll G) Nf k0 x1 x2 y1 σ) := by
  unfold fX7_path_22
  refine z_iconst (v := (0 : Int32)) X dX7_path_22 (by decide) ?_
  refine z_iconst (v := (0 : Int32)) X dX7_path_23 (by decide) ?_
  refine z_callV0 X (g := (fun r1 : (Int32 × cS) => ((some (.int r1.1), h, r1.2) : Option Value × Int64 × cS))) (st := []) (st1 := (fun r1 : (Int32 × cS) => [.int r1.1])) (rmf := 0) (rml := 0) [.int y1, .int (0 : Int32), .int (0 : Int32)] k0 cal_X7_refuses q_7_8 ⟨Nat.le_of_ble_eq_true rfl, Nat.le_of_ble_eq_true rfl⟩ rfl rfl (Nat.le_of_ble_eq_true rfl) rfl hk0.1 (ce7 hk0.1 _ _) (ctX7_refuses (kl K) G X.2.2.2.2.2.2.2.1 h σ k0 hk0 y1 (0 : Int32) (0 : Int32)) dX7_path_24 (fun _ => rfl) (fun r1 => ?_)
  refine z_if_eq X 34 dX7_path_27 (by decide) ?_ ?_
  · refine z_aload_n X dX7_path_34 0 rfl ?_
    refine z_iload_n X dX7_path_35 1 rfl ?_
    refine z_iload_n X dX7_path_36 2 rfl ?_
    refine z_callV0 X (g := (fun r2 : (Int32 × cS) => ((some (.int r2.1), h, r2.2) : Option Value × Int64 × cS))) (st := []) (st1 := (fun r2 : (Int32 × cS) => [.int r2.1])) (rmf := 2) (rml := 45) [.int x1, .int x2] k0 cal_X7_pathOf q_23_3 ⟨Nat.le_of_ble_eq_true rfl, Nat.le_of_ble_eq_true rfl⟩ rfl rfl (Nat.le_of_ble_eq_true rfl) rfl hk0.1 (ce7 hk0.1 _ _) (ctX7_pathOf (kl K) G X.2.2.2.2.2.2.2.1 Nf h r1.2 k0 hk0 x1 x2) dX7_path_37 (fun _ => rfl) (fun r2 => ?_)
    exact z_sub [] rfl (sX7_path_40 X Nf k0 hk0 h r2.1 r2.2)
  · refine z_iconst (v := (0 : Int32)) X dX7_path_30 (by decide) ?_
    refine z_goto X 40 dX7_path_31 (by decide) ?_
    exact z_sub [] rfl (sX7_path_40 X Nf k0 hk0 h (0 : Int32) r1.2)
def fX7_path_17 (L : Nat → Nat) (Nf : Nat) (k0 : Nat) (x1 : Int32) (x2 : Int32) (σ : cS) : Option (Int32 × cS) := fX7_path_22 L Nf k0 x1 x2 (1 : Int32) σ
set_option maxHeartbeats 4000000 in
set_option maxRecDepth 100000 in
theorem sX7_path_17 {K : MCx} {G : Lay} (X : Cx K G RX7 cX7_path 3 (some .int) 3 67) (Nf : Nat) (k0 : Nat) (hk0 : isMod G k0) (h : Int64) (x1 : Int32) (x2 : Int32) (σ : cS) : Sm K G TT (QM K G (fun r : (Int32 × cS) => ((some (.int r.1), h, r.2) : Option Value × Int64 × cS))) 3 17 [(0, .ref (la G k0)), (1, .int x1), (2, .int x2)] [.ref (la G k0)] h σ (fX7_path_17 (ll G) Nf k0 x1 x2 σ) := by
  unfold fX7_path_17
  refine z_iconst (v := (1 : Int32)) X dX7_path_17 (by decide) ?_
  refine z_goto X 22 dX7_path_18 (by decide) ?_
  exact z_sub [0, 1, 2] rfl (sX7_path_22 X Nf k0 hk0 h x1 x2 (1 : Int32) σ)
def fX7_path_0 (L : Nat → Nat) (Nf : Nat) (k0 : Nat) (x1 : Int32) (x2 : Int32) (σ : cS) : Option (Int32 × cS) := Option.bind (fX7_isNode L σ k0 x1) (fun r1 => if r1 = 0 then (fX7_path_17 L Nf k0 x1 x2 σ) else (Option.bind (fX7_isNode L σ k0 x2) (fun r2 => if r2 = 0 then (fX7_path_17 L Nf k0 x1 x2 σ) else (fX7_path_22 L Nf k0 x1 x2 (0 : Int32) σ))))
set_option maxHeartbeats 4000000 in
set_option maxRecDepth 100000 in
theorem sX7_path_0 {K : MCx} {G : Lay} (X : Cx K G RX7 cX7_path 3 (some .int) 3 67) (Nf : Nat) (k0 : Nat) (hk0 : isMod G k0) (h : Int64) (x1 : Int32) (x2 : Int32) (σ : cS) : Sm K G TT (QM K G (fun r : (Int32 × cS) => ((some (.int r.1), h, r.2) : Option Value × Int64 × cS))) 3 0 [(0, .ref (la G k0)), (1, .int x1), (2, .int x2)] [] h σ (fX7_path_0 (ll G) Nf k0 x1 x2 σ) := by
  unfold fX7_path_0
  refine z_aload_n X dX7_path_0 0 rfl ?_
  refine z_aload_n X dX7_path_1 0 rfl ?_
  refine z_iload_n X dX7_path_2 1 rfl ?_
  refine z_callV0 X (g := (fun r1 : Int32 => ((some (.int r1), h, σ) : Option Value × Int64 × cS))) (st := [.ref (la G k0)]) (st1 := (fun r1 : Int32 => [.int r1, .ref (la G k0)])) (rmf := 1) (rml := 22) [.int x1] k0 cal_X7_isNode q_10_3 ⟨Nat.le_of_ble_eq_true rfl, Nat.le_of_ble_eq_true rfl⟩ rfl rfl (Nat.le_of_ble_eq_true rfl) rfl hk0.1 (ce7 hk0.1 _ _) (ctX7_isNode (kl K) G X.2.2.2.2.2.2.2.1 h σ k0 hk0 x1) dX7_path_3 (fun _ => rfl) (fun r1 => ?_)
  refine z_if_eq X 17 dX7_path_6 (by decide) ?_ ?_
  · exact z_sub [0, 1, 2] rfl (sX7_path_17 X Nf k0 hk0 h x1 x2 σ)
  · refine z_aload_n X dX7_path_9 0 rfl ?_
    refine z_iload_n X dX7_path_10 2 rfl ?_
    refine z_callV0 X (g := (fun r2 : Int32 => ((some (.int r2), h, σ) : Option Value × Int64 × cS))) (st := [.ref (la G k0)]) (st1 := (fun r2 : Int32 => [.int r2, .ref (la G k0)])) (rmf := 1) (rml := 22) [.int x2] k0 cal_X7_isNode q_10_3 ⟨Nat.le_of_ble_eq_true rfl, Nat.le_of_ble_eq_true rfl⟩ rfl rfl (Nat.le_of_ble_eq_true rfl) rfl hk0.1 (ce7 hk0.1 _ _) (ctX7_isNode (kl K) G X.2.2.2.2.2.2.2.1 h σ k0 hk0 x2) dX7_path_11 (fun _ => rfl) (fun r2 => ?_)
    refine z_if_ne X 21 dX7_path_14 (by decide) ?_ ?_
    · exact z_sub [0, 1, 2] rfl (sX7_path_17 X Nf k0 hk0 h x1 x2 σ)
    · refine z_iconst (v := (0 : Int32)) X dX7_path_21 (by decide) ?_
      exact z_sub [0, 1, 2] rfl (sX7_path_22 X Nf k0 hk0 h x1 x2 (0 : Int32) σ)
def fX7_path (L : Nat → Nat) (Nf : Nat) (σ : cS) (k0 : Nat) (x1 : Int32) (x2 : Int32) : Option (Int32 × cS) := fX7_path_0 L Nf k0 x1 x2 σ
set_option maxHeartbeats 4000000 in
set_option maxRecDepth 100000 in
theorem ctX7_path (l : Launch) (G : Lay) (hi : Inj G) (Nf : Nat) (h : Int64) (σ : cS) (k0 : Nat) (hk0 : isMod G k0) (x1 : Int32) (x2 : Int32) : ∀ r, fX7_path (ll G) Nf σ k0 x1 x2 = some r → CM l yX7_path cX7_path 3 (some .int) 3 67 G [.ref (la G k0), .int x1, .int x2] h σ (some (.int r.1), h, r.2) := by
  refine cm_of (g := (fun r : (Int32 × cS) => ((some (.int r.1), h, r.2) : Option Value × Int64 × cS))) (by decide) hi (Nat.le_of_ble_eq_true rfl) (fun K hKl X => ?_)
  unfold fX7_path
  exact z_sub [0, 1, 2] rfl (sX7_path_0 X Nf k0 hk0 h x1 x2 σ)
def fX7_step_60 (L : Nat → Nat) (Nf : Nat) (k0 : Nat) : Nat → Int32 → Int32 → Int32 → cS → Option (Int32 × cS)
  | 0, _, _, _, _ => none
  | n + 1, x3, x4, x5, σ => if x5 ≤ x3 then (grd (inb x4 (L (k0 + 6))) (grd (inb ((16 : Int32) + (σ (k0 + 6) x4.toNatClampNeg)) (L (k0 + 1))) (some ((σ (k0 + 1) ((16 : Int32) + (σ (k0 + 6) x4.toNatClampNeg)).toNatClampNeg), σ)))) else (grd (inb x4 (L (k0 + 6))) (Option.bind (fX7_holder L σ k0 (σ (k0 + 6) x4.toNatClampNeg)) (fun r1 => bnd (x5 + (-1 : Int32)) (fun t2 => fX7_step_60 L Nf k0 n x3 r1 t2 σ))))
set_option maxHeartbeats 4000000 in
set_option maxRecDepth 100000 in
theorem sX7_step_60 {K : MCx} {G : Lay} (X : Cx K G RX7 cX7_step 6 (some .int) 3 67) (Nf : Nat) (k0 : Nat) (hk0 : isMod G k0) (h : Int64) : ∀ (n : Nat) (x3 : Int32) (x4 : Int32) (x5 : Int32) (σ : cS), Sm K G TT (QM K G (fun r : (Int32 × cS) => ((some (.int r.1), h, r.2) : Option Value × Int64 × cS))) 6 60 [(0, .ref (la G k0)), (3, .int x3), (4, .int x4), (5, .int x5)] [] h σ (fX7_step_60 (ll G) Nf k0 n x3 x4 x5 σ) := by
  intro n
  induction n with
  | zero => intros; exact z_none
  | succ n ih =>
    intro x3 x4 x5 σ
    unfold fX7_step_60
    refine z_iload X dX7_step_60 3 rfl ?_
    refine z_iload_n X dX7_step_62 1 rfl ?_
    refine z_icmp_le X 85 dX7_step_63 (by decide) ?_ ?_
    · refine z_aload_n X dX7_step_85 0 rfl ?_
      refine z_get X inlX7 rfl hk0.1 (ce7 hk0.1 _ _) 0 (by decide) q_5_4 rfl dX7_step_86 ?_
      refine z_bipush (v := (16 : Int32)) X dX7_step_89 (by decide) ?_
      refine z_aload_n X dX7_step_91 0 rfl ?_
      refine z_get X inlX7 rfl hk0.1 (ce7 hk0.1 _ _) 9 (by decide) q_5_9 rfl dX7_step_92 ?_
      refine z_iload X dX7_step_95 2 rfl ?_
      refine z_iald X hk0.2.2.2.2.2.2.1 dX7_step_97 ?_
      refine z_iadd X dX7_step_98 ?_
      refine z_iald X hk0.2.1 dX7_step_99 ?_
      exact z_iret X rfl dX7_step_100
    · refine z_aload_n X dX7_step_66 0 rfl ?_
      refine z_aload_n X dX7_step_67 0 rfl ?_
      refine z_get X inlX7 rfl hk0.1 (ce7 hk0.1 _ _) 9 (by decide) q_5_9 rfl dX7_step_68 ?_
      refine z_iload X dX7_step_71 2 rfl ?_
      refine z_iald X hk0.2.2.2.2.2.2.1 dX7_step_73 ?_
      refine z_callV0 X (g := (fun r1 : Int32 => ((some (.int r1), h, σ) : Option Value × Int64 × cS))) (st := []) (st1 := (fun r1 : Int32 => [.int r1])) (rmf := 0) (rml := 0) [.int (σ (k0 + 6) x4.toNatClampNeg)] k0 cal_X7_holder q_10_15 ⟨Nat.le_of_ble_eq_true rfl, Nat.le_of_ble_eq_true rfl⟩ rfl rfl (Nat.le_of_ble_eq_true rfl) rfl hk0.1 (ce7 hk0.1 _ _) (ctX7_holder (kl K) G X.2.2.2.2.2.2.2.1 h σ k0 hk0 (σ (k0 + 6) x4.toNatClampNeg)) dX7_step_74 (fun _ => rfl) (fun r1 => ?_)
      refine z_istore X [(4, .int r1), (0, .ref (la G k0)), (3, .int x3), (5, .int x5)] dX7_step_77 (by decide) rfl ?_
      refine z_iinc X (fun t2 => [(5, .int t2), (4, .int r1), (0, .ref (la G k0)), (3, .int x3)]) dX7_step_79 3 rfl (by decide) (by decide) (fun _ => rfl) (fun t2 => ?_)
      refine z_goto X 60 dX7_step_82 (by decide) ?_
      exact z_sub [2, 3, 1, 0] rfl (ih x3 r1 t2 σ)
def fX7_step_38 (L : Nat → Nat) (Nf : Nat) (k0 : Nat) (x2 : Int32) (x3 : Int32) (y1 : Int32) (σ : cS) : Option (Int32 × cS) := Option.bind (fX7_refuses σ k0 y1 (0 : Int32) (0 : Int32)) (fun r1 => if r1.1 = 0 then (Option.bind (fX7_lengthTo L Nf r1.2 k0 x2) (fun r2 => bnd ((r2 - (1 : Int32))) (fun t3 => fX7_step_60 L Nf k0 Nf x3 x2 t3 r1.2))) else (some ((0 : Int32), r1.2)))
set_option maxHeartbeats 4000000 in
set_option maxRecDepth 100000 in
theorem sX7_step_38 {K : MCx} {G : Lay} (X : Cx K G RX7 cX7_step 6 (some .int) 3 67) (Nf : Nat) (k0 : Nat) (hk0 : isMod G k0) (h : Int64) (x2 : Int32) (x3 : Int32) (y1 : Int32) (σ : cS) : Sm K G TT (QM K G (fun r : (Int32 × cS) => ((some (.int r.1), h, r.2) : Option Value × Int64 × cS))) 6 38 [(0, .ref (la G k0)), (2, .int x2), (3, .int x3)] [.int y1, .ref (la G k0)] h σ (fX7_step_38 (ll G) Nf k0 x2 x3 y1 σ) := by
  unfold fX7_step_38
  refine z_iconst (v := (0 : Int32)) X dX7_step_38 (by decide) ?_
  refine z_iconst (v := (0 : Int32)) X dX7_step_39 (by decide) ?_
  refine z_callV0 X (g := (fun r1 : (Int32 × cS) => ((some (.int r1.1), h, r1.2) : Option Value × Int64 × cS))) (st := []) (st1 := (fun r1 : (Int32 × cS) => [.int r1.1])) (rmf := 0) (rml := 0) [.int y1, .int (0 : Int32), .int (0 : Int32)] k0 cal_X7_refuses q_7_8 ⟨Nat.le_of_ble_eq_true rfl, Nat.le_of_ble_eq_true rfl⟩ rfl rfl (Nat.le_of_ble_eq_true rfl) rfl hk0.1 (ce7 hk0.1 _ _) (ctX7_refuses (kl K) G X.2.2.2.2.2.2.2.1 h σ k0 hk0 y1 (0 : Int32) (0 : Int32)) dX7_step_40 (fun _ => rfl) (fun r1 => ?_)
  refine z_if_eq X 48 dX7_step_43 (by decide) ?_ ?_
  · refine z_iload_n X dX7_step_48 1 rfl ?_
    refine z_istore X [(4, .int x2), (0, .ref (la G k0)), (2, .int x2), (3, .int x3)] dX7_step_49 (by decide) rfl ?_
    refine z_aload_n X dX7_step_51 1 rfl ?_
    refine z_iload_n X dX7_step_52 2 rfl ?_
    refine z_callV0 X (g := (fun r2 : Int32 => ((some (.int r2), h, r1.2) : Option Value × Int64 × cS))) (st := []) (st1 := (fun r2 : Int32 => [.int r2])) (rmf := 1) (rml := 21) [.int x2] k0 cal_X7_lengthTo q_23_7 ⟨Nat.le_of_ble_eq_true rfl, Nat.le_of_ble_eq_true rfl⟩ rfl rfl (Nat.le_of_ble_eq_true rfl) rfl hk0.1 (ce7 hk0.1 _ _) (ctX7_lengthTo (kl K) G X.2.2.2.2.2.2.2.1 Nf h r1.2 k0 hk0 x2) dX7_step_53 (fun _ => rfl) (fun r2 => ?_)
    refine z_iconst (v := (1 : Int32)) X dX7_step_56 (by decide) ?_
    refine z_isub X dX7_step_57 ?_
    refine z_nm (fun t3 => ?_)
    refine z_istore X [(5, .int t3), (4, .int x2), (0, .ref (la G k0)), (2, .int x2), (3, .int x3)] dX7_step_58 (by decide) rfl ?_
    exact z_sub [2, 4, 1, 0] rfl (sX7_step_60 X Nf k0 hk0 h Nf x3 x2 t3 r1.2)
  · refine z_iconst (v := (0 : Int32)) X dX7_step_46 (by decide) ?_
    exact z_iret X rfl dX7_step_47
def fX7_step_33 (L : Nat → Nat) (Nf : Nat) (k0 : Nat) (x2 : Int32) (x3 : Int32) (σ : cS) : Option (Int32 × cS) := fX7_step_38 L Nf k0 x2 x3 (1 : Int32) σ
set_option maxHeartbeats 4000000 in
set_option maxRecDepth 100000 in
theorem sX7_step_33 {K : MCx} {G : Lay} (X : Cx K G RX7 cX7_step 6 (some .int) 3 67) (Nf : Nat) (k0 : Nat) (hk0 : isMod G k0) (h : Int64) (x2 : Int32) (x3 : Int32) (σ : cS) : Sm K G TT (QM K G (fun r : (Int32 × cS) => ((some (.int r.1), h, r.2) : Option Value × Int64 × cS))) 6 33 [(0, .ref (la G k0)), (2, .int x2), (3, .int x3)] [.ref (la G k0)] h σ (fX7_step_33 (ll G) Nf k0 x2 x3 σ) := by
  unfold fX7_step_33
  refine z_iconst (v := (1 : Int32)) X dX7_step_33 (by decide) ?_
  refine z_goto X 38 dX7_step_34 (by decide) ?_
  exact z_sub [0, 1, 2] rfl (sX7_step_38 X Nf k0 hk0 h x2 x3 (1 : Int32) σ)
def fX7_step_0 (L : Nat → Nat) (Nf : Nat) (k0 : Nat) (x1 : Int32) (x2 : Int32) (x3 : Int32) (σ : cS) : Option (Int32 × cS) := Option.bind (fX7_isNode L σ k0 x1) (fun r1 => if r1 = 0 then (fX7_step_33 L Nf k0 x2 x3 σ) else (Option.bind (fX7_isNode L σ k0 x2) (fun r2 => if r2 = 0 then (fX7_step_33 L Nf k0 x2 x3 σ) else (Option.bind (fX7_pathOf L Nf σ k0 x1 x2) (fun r3 => Option.bind (fX7_in r3.2 x3 (0 : Int32) (r3.1 - (1 : Int32))) (fun r4 => if r4 = 0 then (fX7_step_33 L Nf k0 x2 x3 r3.2) else (fX7_step_38 L Nf k0 x2 x3 (0 : Int32) r3.2)))))))
set_option maxHeartbeats 4000000 in
set_option maxRecDepth 100000 in
theorem sX7_step_0 {K : MCx} {G : Lay} (X : Cx K G RX7 cX7_step 6 (some .int) 3 67) (Nf : Nat) (k0 : Nat) (hk0 : isMod G k0) (h : Int64) (x1 : Int32) (x2 : Int32) (x3 : Int32) (σ : cS) : Sm K G TT (QM K G (fun r : (Int32 × cS) => ((some (.int r.1), h, r.2) : Option Value × Int64 × cS))) 6 0 [(0, .ref (la G k0)), (1, .int x1), (2, .int x2), (3, .int x3)] [] h σ (fX7_step_0 (ll G) Nf k0 x1 x2 x3 σ) := by
  unfold fX7_step_0
  refine z_aload_n X dX7_step_0 0 rfl ?_
  refine z_aload_n X dX7_step_1 0 rfl ?_
  refine z_iload_n X dX7_step_2 1 rfl ?_
  refine z_callV0 X (g := (fun r1 : Int32 => ((some (.int r1), h, σ) : Option Value × Int64 × cS))) (st := [.ref (la G k0)]) (st1 := (fun r1 : Int32 => [.int r1, .ref (la G k0)])) (rmf := 1) (rml := 22) [.int x1] k0 cal_X7_isNode q_10_3 ⟨Nat.le_of_ble_eq_true rfl, Nat.le_of_ble_eq_true rfl⟩ rfl rfl (Nat.le_of_ble_eq_true rfl) rfl hk0.1 (ce7 hk0.1 _ _) (ctX7_isNode (kl K) G X.2.2.2.2.2.2.2.1 h σ k0 hk0 x1) dX7_step_3 (fun _ => rfl) (fun r1 => ?_)
  refine z_if_eq X 33 dX7_step_6 (by decide) ?_ ?_
  · exact z_sub [0, 2, 3] rfl (sX7_step_33 X Nf k0 hk0 h x2 x3 σ)
  · refine z_aload_n X dX7_step_9 0 rfl ?_
    refine z_iload_n X dX7_step_10 2 rfl ?_
    refine z_callV0 X (g := (fun r2 : Int32 => ((some (.int r2), h, σ) : Option Value × Int64 × cS))) (st := [.ref (la G k0)]) (st1 := (fun r2 : Int32 => [.int r2, .ref (la G k0)])) (rmf := 1) (rml := 22) [.int x2] k0 cal_X7_isNode q_10_3 ⟨Nat.le_of_ble_eq_true rfl, Nat.le_of_ble_eq_true rfl⟩ rfl rfl (Nat.le_of_ble_eq_true rfl) rfl hk0.1 (ce7 hk0.1 _ _) (ctX7_isNode (kl K) G X.2.2.2.2.2.2.2.1 h σ k0 hk0 x2) dX7_step_11 (fun _ => rfl) (fun r2 => ?_)
    refine z_if_eq X 33 dX7_step_14 (by decide) ?_ ?_
    · exact z_sub [0, 2, 3] rfl (sX7_step_33 X Nf k0 hk0 h x2 x3 σ)
    · refine z_iload_n X dX7_step_17 3 rfl ?_
      refine z_iconst (v := (0 : Int32)) X dX7_step_18 (by decide) ?_
      refine z_aload_n X dX7_step_19 0 rfl ?_
      refine z_iload_n X dX7_step_20 1 rfl ?_
      refine z_iload_n X dX7_step_21 2 rfl ?_
      refine z_callV0 X (g := (fun r3 : (Int32 × cS) => ((some (.int r3.1), h, r3.2) : Option Value × Int64 × cS))) (st := [.int (0 : Int32), .int x3, .ref (la G k0)]) (st1 := (fun r3 : (Int32 × cS) => [.int r3.1, .int (0 : Int32), .int x3, .ref (la G k0)])) (rmf := 2) (rml := 45) [.int x1, .int x2] k0 cal_X7_pathOf q_23_3 ⟨Nat.le_of_ble_eq_true rfl, Nat.le_of_ble_eq_true rfl⟩ rfl rfl (Nat.le_of_ble_eq_true rfl) rfl hk0.1 (ce7 hk0.1 _ _) (ctX7_pathOf (kl K) G X.2.2.2.2.2.2.2.1 Nf h σ k0 hk0 x1 x2) dX7_step_22 (fun _ => rfl) (fun r3 => ?_)
      refine z_iconst (v := (1 : Int32)) X dX7_step_25 (by decide) ?_
      refine z_isub X dX7_step_26 ?_
      refine z_callS0 X (g := (fun r4 : Int32 => ((some (.int r4), h, r3.2) : Option Value × Int64 × cS))) (st := [.ref (la G k0)]) (st1 := (fun r4 : Int32 => [.int r4, .ref (la G k0)])) (rmf := 0) (rml := 0) [.int x3, .int (0 : Int32), .int (r3.1 - (1 : Int32))] cal_X7_in q_7_5 ⟨Nat.le_of_ble_eq_true rfl, Nat.le_of_ble_eq_true rfl⟩ rfl rfl (Nat.le_of_ble_eq_true rfl) (ctX7_in (kl K) G X.2.2.2.2.2.2.2.1 h r3.2 x3 (0 : Int32) (r3.1 - (1 : Int32))) dX7_step_27 (fun _ => rfl) (fun r4 => ?_)
      refine z_if_ne X 37 dX7_step_30 (by decide) ?_ ?_
      · exact z_sub [0, 2, 3] rfl (sX7_step_33 X Nf k0 hk0 h x2 x3 r3.2)
      · refine z_iconst (v := (0 : Int32)) X dX7_step_37 (by decide) ?_
        exact z_sub [0, 2, 3] rfl (sX7_step_38 X Nf k0 hk0 h x2 x3 (0 : Int32) r3.2)
def fX7_step (L : Nat → Nat) (Nf : Nat) (σ : cS) (k0 : Nat) (x1 : Int32) (x2 : Int32) (x3 : Int32) : Option (Int32 × cS) := fX7_step_0 L Nf k0 x1 x2 x3 σ
set_option maxHeartbeats 4000000 in
set_option maxRecDepth 100000 in
theorem ctX7_step (l : Launch) (G : Lay) (hi : Inj G) (Nf : Nat) (h : Int64) (σ : cS) (k0 : Nat) (hk0 : isMod G k0) (x1 : Int32) (x2 : Int32) (x3 : Int32) : ∀ r, fX7_step (ll G) Nf σ k0 x1 x2 x3 = some r → CM l yX7_step cX7_step 6 (some .int) 3 67 G [.ref (la G k0), .int x1, .int x2, .int x3] h σ (some (.int r.1), h, r.2) := by
  refine cm_of (g := (fun r : (Int32 × cS) => ((some (.int r.1), h, r.2) : Option Value × Int64 × cS))) (by decide) hi (Nat.le_of_ble_eq_true rfl) (fun K hKl X => ?_)
  unfold fX7_step
  exact z_sub [0, 1, 2, 3] rfl (sX7_step_0 X Nf k0 hk0 h x1 x2 x3 σ)
def fX7_innerOf_81 (L : Nat → Nat) (Nf : Nat) (σ : cS) (k0 : Nat) (self21 : Int32 → Int32 → Int32 → Int32 → Option Int32) (x1 : Int32) (x2 : Int32) (x5 : Int32) (y0 : Int32) (y1 : Int32)  : Option Int32 := bnd ((y0 + y1)) (fun t1 => bnd (x5 + (1 : Int32)) (fun t2 => self21 x1 x2 t1 t2))
set_option maxHeartbeats 4000000 in
set_option maxRecDepth 100000 in
theorem sX7_innerOf_81 {K : MCx} {G : Lay} (X : Cx K G RX7 cX7_innerOf 6 (some .int) 0 0) (Nf : Nat) (k0 : Nat) (hk0 : isMod G k0) (h : Int64) (σ : cS) (self21 : Int32 → Int32 → Int32 → Int32 → Option Int32) (hself21 : ∀ (x1 : Int32) (x2 : Int32) (x4 : Int32) (x5 : Int32), Sm K G TT (QM K G (fun r : Int32 => ((some (.int r), h, σ) : Option Value × Int64 × cS))) 6 21 [(0, .ref (la G k0)), (1, .int x1), (2, .int x2), (4, .int x4), (5, .int x5)] [] h σ (self21 x1 x2 x4 x5)) (x1 : Int32) (x2 : Int32) (x5 : Int32) (y0 : Int32) (y1 : Int32) : Sm K G TT (QM K G (fun r : Int32 => ((some (.int r), h, σ) : Option Value × Int64 × cS))) 6 81 [(0, .ref (la G k0)), (1, .int x1), (2, .int x2), (5, .int x5)] [.int y1, .int y0] h σ (fX7_innerOf_81 (ll G) Nf σ k0 self21 x1 x2 x5 y0 y1) := by
  unfold fX7_innerOf_81
  refine z_iadd X dX7_innerOf_81 ?_
  refine z_nm (fun t1 => ?_)
  refine z_istore X [(4, .int t1), (0, .ref (la G k0)), (1, .int x1), (2, .int x2), (5, .int x5)] dX7_innerOf_82 (by decide) rfl ?_
  refine z_iinc X (fun t2 => [(5, .int t2), (4, .int t1), (0, .ref (la G k0)), (1, .int x1), (2, .int x2)]) dX7_innerOf_84 4 rfl (by decide) (by decide) (fun _ => rfl) (fun t2 => ?_)
  refine z_goto X 21 dX7_innerOf_87 (by decide) ?_
  exact z_sub [2, 3, 4, 1, 0] rfl (hself21 x1 x2 t1 t2)
def fX7_innerOf_80 (L : Nat → Nat) (Nf : Nat) (σ : cS) (k0 : Nat) (self21 : Int32 → Int32 → Int32 → Int32 → Option Int32) (x1 : Int32) (x2 : Int32) (x5 : Int32) (y0 : Int32)  : Option Int32 := fX7_innerOf_81 L Nf σ k0 self21 x1 x2 x5 y0 (0 : Int32)
set_option maxHeartbeats 4000000 in
set_option maxRecDepth 100000 in
theorem sX7_innerOf_80 {K : MCx} {G : Lay} (X : Cx K G RX7 cX7_innerOf 6 (some .int) 0 0) (Nf : Nat) (k0 : Nat) (hk0 : isMod G k0) (h : Int64) (σ : cS) (self21 : Int32 → Int32 → Int32 → Int32 → Option Int32) (hself21 : ∀ (x1 : Int32) (x2 : Int32) (x4 : Int32) (x5 : Int32), Sm K G TT (QM K G (fun r : Int32 => ((some (.int r), h, σ) : Option Value × Int64 × cS))) 6 21 [(0, .ref (la G k0)), (1, .int x1), (2, .int x2), (4, .int x4), (5, .int x5)] [] h σ (self21 x1 x2 x4 x5)) (x1 : Int32) (x2 : Int32) (x5 : Int32) (y0 : Int32) : Sm K G TT (QM K G (fun r : Int32 => ((some (.int r), h, σ) : Option Value × Int64 × cS))) 6 80 [(0, .ref (la G k0)), (1, .int x1), (2, .int x2), (5, .int x5)] [.int y0] h σ (fX7_innerOf_80 (ll G) Nf σ k0 self21 x1 x2 x5 y0) := by
  unfold fX7_innerOf_80
  refine z_iconst (v := (0 : Int32)) X dX7_innerOf_80 (by decide) ?_
  exact z_sub [0, 1, 2, 3] rfl (sX7_innerOf_81 X Nf k0 hk0 h σ self21 hself21 x1 x2 x5 y0 (0 : Int32))
def fX7_innerOf_21 (L : Nat → Nat) (Nf : Nat) (σ : cS) (k0 : Nat) : Nat → Int32 → Int32 → Int32 → Int32 → Option Int32
  | 0, _, _, _, _ => none
  | n + 1, x1, x2, x4, x5 => grd (inb (3 : Int32) (L (k0 + 1))) (if (σ (k0 + 1) (3 : Int32).toNatClampNeg) ≤ x5 then (some x4) else (if x5 = x2 then (fX7_innerOf_80 L Nf σ k0 (fX7_innerOf_21 L Nf σ k0 n) x1 x2 x5 x4) else (grd (inb ((56 : Int32) + x5) (L (k0 + 1))) (if ((x1 >>> ((σ (k0 + 1) ((56 : Int32) + x5).toNatClampNeg) &&& 31)) &&& (1 : Int32)) = (1 : Int32) then (grd (inb ((96 : Int32) + x5) (L (k0 + 1))) (if ((x1 >>> ((σ (k0 + 1) ((96 : Int32) + x5).toNatClampNeg) &&& 31)) &&& (1 : Int32)) = (1 : Int32) then (fX7_innerOf_81 L Nf σ k0 (fX7_innerOf_21 L Nf σ k0 n) x1 x2 x5 x4 (1 : Int32)) else (fX7_innerOf_80 L Nf σ k0 (fX7_innerOf_21 L Nf σ k0 n) x1 x2 x5 x4))) else (fX7_innerOf_80 L Nf σ k0 (fX7_innerOf_21 L Nf σ k0 n) x1 x2 x5 x4)))))
set_option maxHeartbeats 4000000 in
set_option maxRecDepth 100000 in
theorem sX7_innerOf_21 {K : MCx} {G : Lay} (X : Cx K G RX7 cX7_innerOf 6 (some .int) 0 0) (Nf : Nat) (k0 : Nat) (hk0 : isMod G k0) (h : Int64) (σ : cS) : ∀ (n : Nat) (x1 : Int32) (x2 : Int32) (x4 : Int32) (x5 : Int32), Sm K G TT (QM K G (fun r : Int32 => ((some (.int r), h, σ) : Option Value × Int64 × cS))) 6 21 [(0, .ref (la G k0)), (1, .int x1), (2, .int x2), (4, .int x4), (5, .int x5)] [] h σ (fX7_innerOf_21 (ll G) Nf σ k0 n x1 x2 x4 x5) := by
  intro n
  induction n with
  | zero => intros; exact z_none
  | succ n ih =>
    intro x1 x2 x4 x5
    unfold fX7_innerOf_21
    refine z_iload X dX7_innerOf_21 4 rfl ?_
    refine z_aload_n X dX7_innerOf_23 0 rfl ?_
    refine z_get X inlX7 rfl hk0.1 (ce7 hk0.1 _ _) 0 (by decide) q_5_4 rfl dX7_innerOf_24 ?_
    refine z_iconst (v := (3 : Int32)) X dX7_innerOf_27 (by decide) ?_
    refine z_iald X hk0.2.1 dX7_innerOf_28 ?_
    refine z_icmp_ge X 90 dX7_innerOf_29 (by decide) ?_ ?_
    · refine z_iload X dX7_innerOf_90 3 rfl ?_
      exact z_iret X rfl dX7_innerOf_92
    · refine z_iload X dX7_innerOf_32 3 rfl ?_
      refine z_iload X dX7_innerOf_34 4 rfl ?_
      refine z_iload_n X dX7_innerOf_36 2 rfl ?_
      refine z_icmp_eq X 80 dX7_innerOf_37 (by decide) ?_ ?_
      · exact z_sub [0, 1, 2, 4] rfl (sX7_innerOf_80 X Nf k0 hk0 h σ (fX7_innerOf_21 (ll G) Nf σ k0 n) ih x1 x2 x5 x4)
      · refine z_iload_n X dX7_innerOf_40 1 rfl ?_
        refine z_aload_n X dX7_innerOf_41 0 rfl ?_
        refine z_get X inlX7 rfl hk0.1 (ce7 hk0.1 _ _) 0 (by decide) q_5_4 rfl dX7_innerOf_42 ?_
        refine z_bipush (v := (56 : Int32)) X dX7_innerOf_45 (by decide) ?_
        refine z_iload X dX7_innerOf_47 4 rfl ?_
        refine z_iadd X dX7_innerOf_49 ?_
        refine z_iald X hk0.2.1 dX7_innerOf_50 ?_
        refine z_ishr X dX7_innerOf_51 ?_
        refine z_iconst (v := (1 : Int32)) X dX7_innerOf_52 (by decide) ?_
        refine z_iand X dX7_innerOf_53 ?_
        refine z_iconst (v := (1 : Int32)) X dX7_innerOf_54 (by decide) ?_
        refine z_icmp_ne X 80 dX7_innerOf_55 (by decide) ?_ ?_
        · refine z_iload_n X dX7_innerOf_58 1 rfl ?_
          refine z_aload_n X dX7_innerOf_59 0 rfl ?_
          refine z_get X inlX7 rfl hk0.1 (ce7 hk0.1 _ _) 0 (by decide) q_5_4 rfl dX7_innerOf_60 ?_
          refine z_bipush (v := (96 : Int32)) X dX7_innerOf_63 (by decide) ?_
          refine z_iload X dX7_innerOf_65 4 rfl ?_
          refine z_iadd X dX7_innerOf_67 ?_
          refine z_iald X hk0.2.1 dX7_innerOf_68 ?_
          refine z_ishr X dX7_innerOf_69 ?_
          refine z_iconst (v := (1 : Int32)) X dX7_innerOf_70 (by decide) ?_
          refine z_iand X dX7_innerOf_71 ?_
          refine z_iconst (v := (1 : Int32)) X dX7_innerOf_72 (by decide) ?_
          refine z_icmp_ne X 80 dX7_innerOf_73 (by decide) ?_ ?_
          · refine z_iconst (v := (1 : Int32)) X dX7_innerOf_76 (by decide) ?_
            refine z_goto X 81 dX7_innerOf_77 (by decide) ?_
            exact z_sub [0, 1, 2, 4] rfl (sX7_innerOf_81 X Nf k0 hk0 h σ (fX7_innerOf_21 (ll G) Nf σ k0 n) ih x1 x2 x5 x4 (1 : Int32))
          · exact z_sub [0, 1, 2, 4] rfl (sX7_innerOf_80 X Nf k0 hk0 h σ (fX7_innerOf_21 (ll G) Nf σ k0 n) ih x1 x2 x5 x4)
        · exact z_sub [0, 1, 2, 4] rfl (sX7_innerOf_80 X Nf k0 hk0 h σ (fX7_innerOf_21 (ll G) Nf σ k0 n) ih x1 x2 x5 x4)
def fX7_innerOf_16 (L : Nat → Nat) (Nf : Nat) (σ : cS) (k0 : Nat) (x1 : Int32) (x2 : Int32) (y0 : Int32)  : Option Int32 := fX7_innerOf_21 L Nf σ k0 Nf x1 x2 y0 (0 : Int32)
set_option maxHeartbeats 4000000 in
set_option maxRecDepth 100000 in
theorem sX7_innerOf_16 {K : MCx} {G : Lay} (X : Cx K G RX7 cX7_innerOf 6 (some .int) 0 0) (Nf : Nat) (k0 : Nat) (hk0 : isMod G k0) (h : Int64) (σ : cS) (x1 : Int32) (x2 : Int32) (y0 : Int32) : Sm K G TT (QM K G (fun r : Int32 => ((some (.int r), h, σ) : Option Value × Int64 × cS))) 6 16 [(0, .ref (la G k0)), (1, .int x1), (2, .int x2)] [.int y0] h σ (fX7_innerOf_16 (ll G) Nf σ k0 x1 x2 y0) := by
  unfold fX7_innerOf_16
  refine z_istore X [(4, .int y0), (0, .ref (la G k0)), (1, .int x1), (2, .int x2)] dX7_innerOf_16 (by decide) rfl ?_
  refine z_iconst (v := (0 : Int32)) X dX7_innerOf_18 (by decide) ?_
  refine z_istore X [(5, .int (0 : Int32)), (4, .int y0), (0, .ref (la G k0)), (1, .int x1), (2, .int x2)] dX7_innerOf_19 (by decide) rfl ?_
  exact z_sub [2, 3, 4, 1, 0] rfl (sX7_innerOf_21 X Nf k0 hk0 h σ Nf x1 x2 y0 (0 : Int32))
def fX7_innerOf_15 (L : Nat → Nat) (Nf : Nat) (σ : cS) (k0 : Nat) (x1 : Int32) (x2 : Int32)  : Option Int32 := fX7_innerOf_16 L Nf σ k0 x1 x2 (0 : Int32)
set_option maxHeartbeats 4000000 in
set_option maxRecDepth 100000 in
theorem sX7_innerOf_15 {K : MCx} {G : Lay} (X : Cx K G RX7 cX7_innerOf 6 (some .int) 0 0) (Nf : Nat) (k0 : Nat) (hk0 : isMod G k0) (h : Int64) (σ : cS) (x1 : Int32) (x2 : Int32) : Sm K G TT (QM K G (fun r : Int32 => ((some (.int r), h, σ) : Option Value × Int64 × cS))) 6 15 [(0, .ref (la G k0)), (1, .int x1), (2, .int x2)] [] h σ (fX7_innerOf_15 (ll G) Nf σ k0 x1 x2) := by
  unfold fX7_innerOf_15
  refine z_iconst (v := (0 : Int32)) X dX7_innerOf_15 (by decide) ?_
  exact z_sub [0, 1, 2] rfl (sX7_innerOf_16 X Nf k0 hk0 h σ x1 x2 (0 : Int32))
def fX7_innerOf_0 (L : Nat → Nat) (Nf : Nat) (σ : cS) (k0 : Nat) (x1 : Int32) (x2 : Int32) (x3 : Int32)  : Option Int32 := if x3 = 0 then (fX7_innerOf_15 L Nf σ k0 x1 x2) else (if (x1 &&& x3) = x3 then (fX7_innerOf_16 L Nf σ k0 x1 x2 (1 : Int32)) else (fX7_innerOf_15 L Nf σ k0 x1 x2))
set_option maxHeartbeats 4000000 in
set_option maxRecDepth 100000 in
theorem sX7_innerOf_0 {K : MCx} {G : Lay} (X : Cx K G RX7 cX7_innerOf 6 (some .int) 0 0) (Nf : Nat) (k0 : Nat) (hk0 : isMod G k0) (h : Int64) (σ : cS) (x1 : Int32) (x2 : Int32) (x3 : Int32) : Sm K G TT (QM K G (fun r : Int32 => ((some (.int r), h, σ) : Option Value × Int64 × cS))) 6 0 [(0, .ref (la G k0)), (1, .int x1), (2, .int x2), (3, .int x3)] [] h σ (fX7_innerOf_0 (ll G) Nf σ k0 x1 x2 x3) := by
  unfold fX7_innerOf_0
  refine z_iload_n X dX7_innerOf_0 3 rfl ?_
  refine z_if_eq X 15 dX7_innerOf_1 (by decide) ?_ ?_
  · exact z_sub [0, 1, 2] rfl (sX7_innerOf_15 X Nf k0 hk0 h σ x1 x2)
  · refine z_iload_n X dX7_innerOf_4 1 rfl ?_
    refine z_iload_n X dX7_innerOf_5 3 rfl ?_
    refine z_iand X dX7_innerOf_6 ?_
    refine z_iload_n X dX7_innerOf_7 3 rfl ?_
    refine z_icmp_ne X 15 dX7_innerOf_8 (by decide) ?_ ?_
    · refine z_iconst (v := (1 : Int32)) X dX7_innerOf_11 (by decide) ?_
      refine z_goto X 16 dX7_innerOf_12 (by decide) ?_
      exact z_sub [0, 1, 2] rfl (sX7_innerOf_16 X Nf k0 hk0 h σ x1 x2 (1 : Int32))
    · exact z_sub [0, 1, 2] rfl (sX7_innerOf_15 X Nf k0 hk0 h σ x1 x2)
def fX7_innerOf (L : Nat → Nat) (Nf : Nat) (σ : cS) (k0 : Nat) (x1 : Int32) (x2 : Int32) (x3 : Int32) : Option Int32 := fX7_innerOf_0 L Nf σ k0 x1 x2 x3
set_option maxHeartbeats 4000000 in
set_option maxRecDepth 100000 in
theorem ctX7_innerOf (l : Launch) (G : Lay) (hi : Inj G) (Nf : Nat) (h : Int64) (σ : cS) (k0 : Nat) (hk0 : isMod G k0) (x1 : Int32) (x2 : Int32) (x3 : Int32) : ∀ r, fX7_innerOf (ll G) Nf σ k0 x1 x2 x3 = some r → CM l yX7_innerOf cX7_innerOf 6 (some .int) 0 0 G [.ref (la G k0), .int x1, .int x2, .int x3] h σ (some (.int r), h, σ) := by
  refine cm_of (g := (fun r : Int32 => ((some (.int r), h, σ) : Option Value × Int64 × cS))) (by decide) hi (Nat.le_of_ble_eq_true rfl) (fun K hKl X => ?_)
  unfold fX7_innerOf
  exact z_sub [0, 1, 2, 3] rfl (sX7_innerOf_0 X Nf k0 hk0 h σ x1 x2 x3)
def fX7_densestOf_82 (L : Nat → Nat) (Nf : Nat) (σ : cS) (k0 : Nat) (self11 : Int32 → Int32 → Int32 → Int32 → Int32 → Int32 → Option Int32) (x1 : Int32) (x2 : Int32) (x3 : Int32) (x4 : Int32) (x5 : Int32) (x6 : Int32)  : Option Int32 := bnd (x6 + (1 : Int32)) (fun t1 => self11 x1 x2 x3 x4 x5 t1)
set_option maxHeartbeats 4000000 in
set_option maxRecDepth 100000 in
theorem sX7_densestOf_82 {K : MCx} {G : Lay} (X : Cx K G RX7 cX7_densestOf 10 (some .int) 1 25) (Nf : Nat) (k0 : Nat) (hk0 : isMod G k0) (h : Int64) (σ : cS) (self11 : Int32 → Int32 → Int32 → Int32 → Int32 → Int32 → Option Int32) (hself11 : ∀ (x1 : Int32) (x2 : Int32) (x3 : Int32) (x4 : Int32) (x5 : Int32) (x6 : Int32), Sm K G TT (QM K G (fun r : Int32 => ((some (.int r), h, σ) : Option Value × Int64 × cS))) 10 11 [(0, .ref (la G k0)), (1, .int x1), (2, .int x2), (3, .int x3), (4, .int x4), (5, .int x5), (6, .int x6)] [] h σ (self11 x1 x2 x3 x4 x5 x6)) (x1 : Int32) (x2 : Int32) (x3 : Int32) (x4 : Int32) (x5 : Int32) (x6 : Int32) : Sm K G TT (QM K G (fun r : Int32 => ((some (.int r), h, σ) : Option Value × Int64 × cS))) 10 82 [(0, .ref (la G k0)), (1, .int x1), (2, .int x2), (3, .int x3), (4, .int x4), (5, .int x5), (6, .int x6)] [] h σ (fX7_densestOf_82 (ll G) Nf σ k0 self11 x1 x2 x3 x4 x5 x6) := by
  unfold fX7_densestOf_82
  refine z_iinc X (fun t1 => [(6, .int t1), (0, .ref (la G k0)), (1, .int x1), (2, .int x2), (3, .int x3), (4, .int x4), (5, .int x5)]) dX7_densestOf_82 6 rfl (by decide) (by decide) (fun _ => rfl) (fun t1 => ?_)
  refine z_goto X 11 dX7_densestOf_85 (by decide) ?_
  exact z_sub [1, 2, 3, 4, 5, 6, 0] rfl (hself11 x1 x2 x3 x4 x5 t1)
def fX7_densestOf_71 (L : Nat → Nat) (Nf : Nat) (σ : cS) (k0 : Nat) (self11 : Int32 → Int32 → Int32 → Int32 → Int32 → Int32 → Option Int32) (x1 : Int32) (x2 : Int32) (x6 : Int32) (x7 : Int32) (x8 : Int32)  : Option Int32 := fX7_densestOf_82 L Nf σ k0 self11 x1 x2 x6 x8 x7 x6
set_option maxHeartbeats 4000000 in
set_option maxRecDepth 100000 in
theorem sX7_densestOf_71 {K : MCx} {G : Lay} (X : Cx K G RX7 cX7_densestOf 10 (some .int) 1 25) (Nf : Nat) (k0 : Nat) (hk0 : isMod G k0) (h : Int64) (σ : cS) (self11 : Int32 → Int32 → Int32 → Int32 → Int32 → Int32 → Option Int32) (hself11 : ∀ (x1 : Int32) (x2 : Int32) (x3 : Int32) (x4 : Int32) (x5 : Int32) (x6 : Int32), Sm K G TT (QM K G (fun r : Int32 => ((some (.int r), h, σ) : Option Value × Int64 × cS))) 10 11 [(0, .ref (la G k0)), (1, .int x1), (2, .int x2), (3, .int x3), (4, .int x4), (5, .int x5), (6, .int x6)] [] h σ (self11 x1 x2 x3 x4 x5 x6)) (x1 : Int32) (x2 : Int32) (x6 : Int32) (x7 : Int32) (x8 : Int32) : Sm K G TT (QM K G (fun r : Int32 => ((some (.int r), h, σ) : Option Value × Int64 × cS))) 10 71 [(0, .ref (la G k0)), (1, .int x1), (2, .int x2), (6, .int x6), (7, .int x7), (8, .int x8)] [] h σ (fX7_densestOf_71 (ll G) Nf σ k0 self11 x1 x2 x6 x7 x8) := by
  unfold fX7_densestOf_71
  refine z_iload X dX7_densestOf_71 3 rfl ?_
  refine z_istore_n X [(3, .int x6), (0, .ref (la G k0)), (1, .int x1), (2, .int x2), (6, .int x6), (7, .int x7), (8, .int x8)] dX7_densestOf_73 (by decide) rfl ?_
  refine z_iload X dX7_densestOf_74 6 rfl ?_
  refine z_istore X [(4, .int x8), (3, .int x6), (0, .ref (la G k0)), (1, .int x1), (2, .int x2), (6, .int x6), (7, .int x7), (8, .int x8)] dX7_densestOf_76 (by decide) rfl ?_
  refine z_iload X dX7_densestOf_78 6 rfl ?_
  refine z_istore X [(5, .int x7), (4, .int x8), (3, .int x6), (0, .ref (la G k0)), (1, .int x1), (2, .int x2), (6, .int x6), (7, .int x7), (8, .int x8)] dX7_densestOf_80 (by decide) rfl ?_
  exact z_sub [3, 4, 5, 2, 1, 0, 6] rfl (sX7_densestOf_82 X Nf k0 hk0 h σ self11 hself11 x1 x2 x6 x8 x7 x6)
def fX7_densestOf_11 (L : Nat → Nat) (Nf : Nat) (σ : cS) (k0 : Nat) : Nat → Int32 → Int32 → Int32 → Int32 → Int32 → Int32 → Option Int32
  | 0, _, _, _, _, _, _ => none
  | n + 1, x1, x2, x3, x4, x5, x6 => grd (inb (0 : Int32) (L (k0 + 1))) (if ((1 : Int32) <<< ((σ (k0 + 1) (0 : Int32).toNatClampNeg) &&& 31)) ≤ x6 then (some x3) else (Option.bind (fX7_bits Nf σ x6) (fun r1 => Option.bind (fX7_innerOf L Nf σ k0 x6 x1 x2) (fun r2 => bnd (((r2 * x5) - (x4 * r1))) (fun t3 => if 0 < t3 then (fX7_densestOf_71 L Nf σ k0 (fX7_densestOf_11 L Nf σ k0 n) x1 x2 x6 r1 r2) else (if t3 = 0 then (if r1 ≤ x5 then (fX7_densestOf_82 L Nf σ k0 (fX7_densestOf_11 L Nf σ k0 n) x1 x2 x3 x4 x5 x6) else (fX7_densestOf_71 L Nf σ k0 (fX7_densestOf_11 L Nf σ k0 n) x1 x2 x6 r1 r2)) else (fX7_densestOf_82 L Nf σ k0 (fX7_densestOf_11 L Nf σ k0 n) x1 x2 x3 x4 x5 x6)))))))
set_option maxHeartbeats 4000000 in
set_option maxRecDepth 100000 in
theorem sX7_densestOf_11 {K : MCx} {G : Lay} (X : Cx K G RX7 cX7_densestOf 10 (some .int) 1 25) (Nf : Nat) (k0 : Nat) (hk0 : isMod G k0) (h : Int64) (σ : cS) : ∀ (n : Nat) (x1 : Int32) (x2 : Int32) (x3 : Int32) (x4 : Int32) (x5 : Int32) (x6 : Int32), Sm K G TT (QM K G (fun r : Int32 => ((some (.int r), h, σ) : Option Value × Int64 × cS))) 10 11 [(0, .ref (la G k0)), (1, .int x1), (2, .int x2), (3, .int x3), (4, .int x4), (5, .int x5), (6, .int x6)] [] h σ (fX7_densestOf_11 (ll G) Nf σ k0 n x1 x2 x3 x4 x5 x6) := by
  intro n
  induction n with
  | zero => intros; exact z_none
  | succ n ih =>
    intro x1 x2 x3 x4 x5 x6
    unfold fX7_densestOf_11
    refine z_iload X dX7_densestOf_11 6 rfl ?_
    refine z_iconst (v := (1 : Int32)) X dX7_densestOf_13 (by decide) ?_
    refine z_aload_n X dX7_densestOf_14 0 rfl ?_
    refine z_get X inlX7 rfl hk0.1 (ce7 hk0.1 _ _) 0 (by decide) q_5_4 rfl dX7_densestOf_15 ?_
    refine z_iconst (v := (0 : Int32)) X dX7_densestOf_18 (by decide) ?_
    refine z_iald X hk0.2.1 dX7_densestOf_19 ?_
    refine z_ishl X dX7_densestOf_20 ?_
    refine z_icmp_ge X 88 dX7_densestOf_21 (by decide) ?_ ?_
    · refine z_iload_n X dX7_densestOf_88 3 rfl ?_
      exact z_iret X rfl dX7_densestOf_89
    · refine z_iload X dX7_densestOf_24 6 rfl ?_
      refine z_callS0 X (g := (fun r1 : Int32 => ((some (.int r1), h, σ) : Option Value × Int64 × cS))) (st := []) (st1 := (fun r1 : Int32 => [.int r1])) (rmf := 0) (rml := 0) [.int x6] cal_X7_bits q_20_5 ⟨Nat.le_of_ble_eq_true rfl, Nat.le_of_ble_eq_true rfl⟩ rfl rfl (Nat.le_of_ble_eq_true rfl) (ctX7_bits (kl K) G X.2.2.2.2.2.2.2.1 Nf h σ x6) dX7_densestOf_26 (fun _ => rfl) (fun r1 => ?_)
      refine z_istore X [(7, .int r1), (0, .ref (la G k0)), (1, .int x1), (2, .int x2), (3, .int x3), (4, .int x4), (5, .int x5), (6, .int x6)] dX7_densestOf_29 (by decide) rfl ?_
      refine z_aload_n X dX7_densestOf_31 1 rfl ?_
      refine z_iload X dX7_densestOf_32 7 rfl ?_
      refine z_iload_n X dX7_densestOf_34 2 rfl ?_
      refine z_iload_n X dX7_densestOf_35 3 rfl ?_
      refine z_callV0 X (g := (fun r2 : Int32 => ((some (.int r2), h, σ) : Option Value × Int64 × cS))) (st := []) (st1 := (fun r2 : Int32 => [.int r2])) (rmf := 0) (rml := 0) [.int x6, .int x1, .int x2] k0 cal_X7_innerOf q_24_17 ⟨Nat.le_of_ble_eq_true rfl, Nat.le_of_ble_eq_true rfl⟩ rfl rfl (Nat.le_of_ble_eq_true rfl) rfl hk0.1 (ce7 hk0.1 _ _) (ctX7_innerOf (kl K) G X.2.2.2.2.2.2.2.1 Nf h σ k0 hk0 x6 x1 x2) dX7_densestOf_36 (fun _ => rfl) (fun r2 => ?_)
      refine z_istore X [(8, .int r2), (7, .int r1), (0, .ref (la G k0)), (1, .int x1), (2, .int x2), (3, .int x3), (4, .int x4), (5, .int x5), (6, .int x6)] dX7_densestOf_39 (by decide) rfl ?_
      refine z_iload X dX7_densestOf_41 0 rfl ?_
      refine z_iload X dX7_densestOf_43 7 rfl ?_
      refine z_imul X dX7_densestOf_45 ?_
      refine z_iload X dX7_densestOf_46 6 rfl ?_
      refine z_iload X dX7_densestOf_48 1 rfl ?_
      refine z_imul X dX7_densestOf_50 ?_
      refine z_isub X dX7_densestOf_51 ?_
      refine z_nm (fun t3 => ?_)
      refine z_istore X [(9, .int t3), (8, .int r2), (7, .int r1), (0, .ref (la G k0)), (1, .int x1), (2, .int x2), (3, .int x3), (4, .int x4), (5, .int x5), (6, .int x6)] dX7_densestOf_52 (by decide) rfl ?_
      refine z_iload X dX7_densestOf_54 0 rfl ?_
      refine z_if_gt X 71 dX7_densestOf_56 (by decide) ?_ ?_
      · exact z_sub [3, 4, 5, 9, 2, 1] rfl (sX7_densestOf_71 X Nf k0 hk0 h σ (fX7_densestOf_11 (ll G) Nf σ k0 n) ih x1 x2 x6 r1 r2)
      · refine z_iload X dX7_densestOf_59 0 rfl ?_
        refine z_if_ne X 82 dX7_densestOf_61 (by decide) ?_ ?_
        · refine z_iload X dX7_densestOf_64 2 rfl ?_
          refine z_iload X dX7_densestOf_66 8 rfl ?_
          refine z_icmp_le X 82 dX7_densestOf_68 (by decide) ?_ ?_
          · exact z_sub [3, 4, 5, 6, 7, 8, 9] rfl (sX7_densestOf_82 X Nf k0 hk0 h σ (fX7_densestOf_11 (ll G) Nf σ k0 n) ih x1 x2 x3 x4 x5 x6)
          · exact z_sub [3, 4, 5, 9, 2, 1] rfl (sX7_densestOf_71 X Nf k0 hk0 h σ (fX7_densestOf_11 (ll G) Nf σ k0 n) ih x1 x2 x6 r1 r2)
        · exact z_sub [3, 4, 5, 6, 7, 8, 9] rfl (sX7_densestOf_82 X Nf k0 hk0 h σ (fX7_densestOf_11 (ll G) Nf σ k0 n) ih x1 x2 x3 x4 x5 x6)
def fX7_densestOf_0 (L : Nat → Nat) (Nf : Nat) (σ : cS) (k0 : Nat) (x1 : Int32) (x2 : Int32)  : Option Int32 := fX7_densestOf_11 L Nf σ k0 Nf x1 x2 (1 : Int32) (0 : Int32) (1 : Int32) (1 : Int32)
set_option maxHeartbeats 4000000 in
set_option maxRecDepth 100000 in
theorem sX7_densestOf_0 {K : MCx} {G : Lay} (X : Cx K G RX7 cX7_densestOf 10 (some .int) 1 25) (Nf : Nat) (k0 : Nat) (hk0 : isMod G k0) (h : Int64) (σ : cS) (x1 : Int32) (x2 : Int32) : Sm K G TT (QM K G (fun r : Int32 => ((some (.int r), h, σ) : Option Value × Int64 × cS))) 10 0 [(0, .ref (la G k0)), (1, .int x1), (2, .int x2)] [] h σ (fX7_densestOf_0 (ll G) Nf σ k0 x1 x2) := by
  unfold fX7_densestOf_0
  refine z_iconst (v := (1 : Int32)) X dX7_densestOf_0 (by decide) ?_
  refine z_istore_n X [(3, .int (1 : Int32)), (0, .ref (la G k0)), (1, .int x1), (2, .int x2)] dX7_densestOf_1 (by decide) rfl ?_
  refine z_iconst (v := (0 : Int32)) X dX7_densestOf_2 (by decide) ?_
  refine z_istore X [(4, .int (0 : Int32)), (3, .int (1 : Int32)), (0, .ref (la G k0)), (1, .int x1), (2, .int x2)] dX7_densestOf_3 (by decide) rfl ?_
  refine z_iconst (v := (1 : Int32)) X dX7_densestOf_5 (by decide) ?_
  refine z_istore X [(5, .int (1 : Int32)), (4, .int (0 : Int32)), (3, .int (1 : Int32)), (0, .ref (la G k0)), (1, .int x1), (2, .int x2)] dX7_densestOf_6 (by decide) rfl ?_
  refine z_iconst (v := (1 : Int32)) X dX7_densestOf_8 (by decide) ?_
  refine z_istore X [(6, .int (1 : Int32)), (5, .int (1 : Int32)), (4, .int (0 : Int32)), (3, .int (1 : Int32)), (0, .ref (la G k0)), (1, .int x1), (2, .int x2)] dX7_densestOf_9 (by decide) rfl ?_
  exact z_sub [4, 5, 6, 3, 2, 1, 0] rfl (sX7_densestOf_11 X Nf k0 hk0 h σ Nf x1 x2 (1 : Int32) (0 : Int32) (1 : Int32) (1 : Int32))
def fX7_densestOf (L : Nat → Nat) (Nf : Nat) (σ : cS) (k0 : Nat) (x1 : Int32) (x2 : Int32) : Option Int32 := fX7_densestOf_0 L Nf σ k0 x1 x2
set_option maxHeartbeats 4000000 in
set_option maxRecDepth 100000 in
theorem ctX7_densestOf (l : Launch) (G : Lay) (hi : Inj G) (Nf : Nat) (h : Int64) (σ : cS) (k0 : Nat) (hk0 : isMod G k0) (x1 : Int32) (x2 : Int32) : ∀ r, fX7_densestOf (ll G) Nf σ k0 x1 x2 = some r → CM l yX7_densestOf cX7_densestOf 10 (some .int) 1 25 G [.ref (la G k0), .int x1, .int x2] h σ (some (.int r), h, σ) := by
  refine cm_of (g := (fun r : Int32 => ((some (.int r), h, σ) : Option Value × Int64 × cS))) (by decide) hi (Nat.le_of_ble_eq_true rfl) (fun K hKl X => ?_)
  unfold fX7_densestOf
  exact z_sub [0, 1, 2] rfl (sX7_densestOf_0 X Nf k0 hk0 h σ x1 x2)
def fX7_leastOf_0 (L : Nat → Nat) (Nf : Nat) (σ : cS) (k0 : Nat) (x1 : Int32) (x2 : Int32)  : Option Int32 := Option.bind (fX7_densestOf L Nf σ k0 x1 x2) (fun r1 => Option.bind (fX7_bits Nf σ r1) (fun r2 => Option.bind (fX7_innerOf L Nf σ k0 r1 x1 x2) (fun r3 => grd (nz r2) (some (((r3 + r2) - (1 : Int32)) / r2)))))
set_option maxHeartbeats 4000000 in
set_option maxRecDepth 100000 in
theorem sX7_leastOf_0 {K : MCx} {G : Lay} (X : Cx K G RX7 cX7_leastOf 5 (some .int) 2 54) (Nf : Nat) (k0 : Nat) (hk0 : isMod G k0) (h : Int64) (σ : cS) (x1 : Int32) (x2 : Int32) : Sm K G TT (QM K G (fun r : Int32 => ((some (.int r), h, σ) : Option Value × Int64 × cS))) 5 0 [(0, .ref (la G k0)), (1, .int x1), (2, .int x2)] [] h σ (fX7_leastOf_0 (ll G) Nf σ k0 x1 x2) := by
  unfold fX7_leastOf_0
  refine z_aload_n X dX7_leastOf_0 0 rfl ?_
  refine z_iload_n X dX7_leastOf_1 1 rfl ?_
  refine z_iload_n X dX7_leastOf_2 2 rfl ?_
  refine z_callV0 X (g := (fun r1 : Int32 => ((some (.int r1), h, σ) : Option Value × Int64 × cS))) (st := []) (st1 := (fun r1 : Int32 => [.int r1])) (rmf := 1) (rml := 25) [.int x1, .int x2] k0 cal_X7_densestOf q_26_13 ⟨Nat.le_of_ble_eq_true rfl, Nat.le_of_ble_eq_true rfl⟩ rfl rfl (Nat.le_of_ble_eq_true rfl) rfl hk0.1 (ce7 hk0.1 _ _) (ctX7_densestOf (kl K) G X.2.2.2.2.2.2.2.1 Nf h σ k0 hk0 x1 x2) dX7_leastOf_3 (fun _ => rfl) (fun r1 => ?_)
  refine z_istore_n X [(3, .int r1), (0, .ref (la G k0)), (1, .int x1), (2, .int x2)] dX7_leastOf_6 (by decide) rfl ?_
  refine z_iload_n X dX7_leastOf_7 0 rfl ?_
  refine z_callS0 X (g := (fun r2 : Int32 => ((some (.int r2), h, σ) : Option Value × Int64 × cS))) (st := []) (st1 := (fun r2 : Int32 => [.int r2])) (rmf := 0) (rml := 0) [.int r1] cal_X7_bits q_20_5 ⟨Nat.le_of_ble_eq_true rfl, Nat.le_of_ble_eq_true rfl⟩ rfl rfl (Nat.le_of_ble_eq_true rfl) (ctX7_bits (kl K) G X.2.2.2.2.2.2.2.1 Nf h σ r1) dX7_leastOf_8 (fun _ => rfl) (fun r2 => ?_)
  refine z_istore X [(4, .int r2), (3, .int r1), (0, .ref (la G k0)), (1, .int x1), (2, .int x2)] dX7_leastOf_11 (by decide) rfl ?_
  refine z_aload_n X dX7_leastOf_13 2 rfl ?_
  refine z_iload_n X dX7_leastOf_14 1 rfl ?_
  refine z_iload_n X dX7_leastOf_15 3 rfl ?_
  refine z_iload_n X dX7_leastOf_16 4 rfl ?_
  refine z_callV0 X (g := (fun r3 : Int32 => ((some (.int r3), h, σ) : Option Value × Int64 × cS))) (st := []) (st1 := (fun r3 : Int32 => [.int r3])) (rmf := 0) (rml := 0) [.int r1, .int x1, .int x2] k0 cal_X7_innerOf q_24_17 ⟨Nat.le_of_ble_eq_true rfl, Nat.le_of_ble_eq_true rfl⟩ rfl rfl (Nat.le_of_ble_eq_true rfl) rfl hk0.1 (ce7 hk0.1 _ _) (ctX7_innerOf (kl K) G X.2.2.2.2.2.2.2.1 Nf h σ k0 hk0 r1 x1 x2) dX7_leastOf_17 (fun _ => rfl) (fun r3 => ?_)
  refine z_iload X dX7_leastOf_20 0 rfl ?_
  refine z_iadd X dX7_leastOf_22 ?_
  refine z_iconst (v := (1 : Int32)) X dX7_leastOf_23 (by decide) ?_
  refine z_isub X dX7_leastOf_24 ?_
  refine z_iload X dX7_leastOf_25 0 rfl ?_
  refine z_idiv X dX7_leastOf_27 ?_
  exact z_iret X rfl dX7_leastOf_28
def fX7_leastOf (L : Nat → Nat) (Nf : Nat) (σ : cS) (k0 : Nat) (x1 : Int32) (x2 : Int32) : Option Int32 := fX7_leastOf_0 L Nf σ k0 x1 x2
set_option maxHeartbeats 4000000 in
set_option maxRecDepth 100000 in
theorem ctX7_leastOf (l : Launch) (G : Lay) (hi : Inj G) (Nf : Nat) (h : Int64) (σ : cS) (k0 : Nat) (hk0 : isMod G k0) (x1 : Int32) (x2 : Int32) : ∀ r, fX7_leastOf (ll G) Nf σ k0 x1 x2 = some r → CM l yX7_leastOf cX7_leastOf 5 (some .int) 2 54 G [.ref (la G k0), .int x1, .int x2] h σ (some (.int r), h, σ) := by
  refine cm_of (g := (fun r : Int32 => ((some (.int r), h, σ) : Option Value × Int64 × cS))) (by decide) hi (Nat.le_of_ble_eq_true rfl) (fun K hKl X => ?_)
  unfold fX7_leastOf
  exact z_sub [0, 1, 2] rfl (sX7_leastOf_0 X Nf k0 hk0 h σ x1 x2)
def fX7_inner_43 (L : Nat → Nat) (Nf : Nat) (k0 : Nat) (y0 : Int32) (σ : cS) : Option (Int32 × cS) := some (y0, σ)
set_option maxHeartbeats 4000000 in
set_option maxRecDepth 100000 in
theorem sX7_inner_43 {K : MCx} {G : Lay} (X : Cx K G RX7 cX7_inner 2 (some .int) 1 25) (Nf : Nat) (k0 : Nat) (hk0 : isMod G k0) (h : Int64) (y0 : Int32) (σ : cS) : Sm K G TT (QM K G (fun r : (Int32 × cS) => ((some (.int r.1), h, r.2) : Option Value × Int64 × cS))) 2 43 [] [.int y0] h σ (fX7_inner_43 (ll G) Nf k0 y0 σ) := by
  unfold fX7_inner_43
  exact z_iret X rfl dX7_inner_43
def fX7_inner_24 (L : Nat → Nat) (Nf : Nat) (k0 : Nat) (x1 : Int32) (y1 : Int32) (σ : cS) : Option (Int32 × cS) := Option.bind (fX7_refuses σ k0 y1 (0 : Int32) (0 : Int32)) (fun r1 => if r1.1 = 0 then (Option.bind (fX7_innerOf L Nf r1.2 k0 x1 (-1 : Int32) (0 : Int32)) (fun r2 => fX7_inner_43 L Nf k0 r2 r1.2)) else (fX7_inner_43 L Nf k0 (0 : Int32) r1.2))
set_option maxHeartbeats 4000000 in
set_option maxRecDepth 100000 in
theorem sX7_inner_24 {K : MCx} {G : Lay} (X : Cx K G RX7 cX7_inner 2 (some .int) 1 25) (Nf : Nat) (k0 : Nat) (hk0 : isMod G k0) (h : Int64) (x1 : Int32) (y1 : Int32) (σ : cS) : Sm K G TT (QM K G (fun r : (Int32 × cS) => ((some (.int r.1), h, r.2) : Option Value × Int64 × cS))) 2 24 [(0, .ref (la G k0)), (1, .int x1)] [.int y1, .ref (la G k0)] h σ (fX7_inner_24 (ll G) Nf k0 x1 y1 σ) := by
  unfold fX7_inner_24
  refine z_iconst (v := (0 : Int32)) X dX7_inner_24 (by decide) ?_
  refine z_iconst (v := (0 : Int32)) X dX7_inner_25 (by decide) ?_
  refine z_callV0 X (g := (fun r1 : (Int32 × cS) => ((some (.int r1.1), h, r1.2) : Option Value × Int64 × cS))) (st := []) (st1 := (fun r1 : (Int32 × cS) => [.int r1.1])) (rmf := 0) (rml := 0) [.int y1, .int (0 : Int32), .int (0 : Int32)] k0 cal_X7_refuses q_7_8 ⟨Nat.le_of_ble_eq_true rfl, Nat.le_of_ble_eq_true rfl⟩ rfl rfl (Nat.le_of_ble_eq_true rfl) rfl hk0.1 (ce7 hk0.1 _ _) (ctX7_refuses (kl K) G X.2.2.2.2.2.2.2.1 h σ k0 hk0 y1 (0 : Int32) (0 : Int32)) dX7_inner_26 (fun _ => rfl) (fun r1 => ?_)
  refine z_if_eq X 36 dX7_inner_29 (by decide) ?_ ?_
  · refine z_aload_n X dX7_inner_36 0 rfl ?_
    refine z_iload_n X dX7_inner_37 1 rfl ?_
    refine z_iconst (v := (-1 : Int32)) X dX7_inner_38 (by decide) ?_
    refine z_iconst (v := (0 : Int32)) X dX7_inner_39 (by decide) ?_
    refine z_callV0 X (g := (fun r2 : Int32 => ((some (.int r2), h, r1.2) : Option Value × Int64 × cS))) (st := []) (st1 := (fun r2 : Int32 => [.int r2])) (rmf := 0) (rml := 0) [.int x1, .int (-1 : Int32), .int (0 : Int32)] k0 cal_X7_innerOf q_24_17 ⟨Nat.le_of_ble_eq_true rfl, Nat.le_of_ble_eq_true rfl⟩ rfl rfl (Nat.le_of_ble_eq_true rfl) rfl hk0.1 (ce7 hk0.1 _ _) (ctX7_innerOf (kl K) G X.2.2.2.2.2.2.2.1 Nf h r1.2 k0 hk0 x1 (-1 : Int32) (0 : Int32)) dX7_inner_40 (fun _ => rfl) (fun r2 => ?_)
    exact z_sub [] rfl (sX7_inner_43 X Nf k0 hk0 h r2 r1.2)
  · refine z_iconst (v := (0 : Int32)) X dX7_inner_32 (by decide) ?_
    refine z_goto X 43 dX7_inner_33 (by decide) ?_
    exact z_sub [] rfl (sX7_inner_43 X Nf k0 hk0 h (0 : Int32) r1.2)
def fX7_inner_0 (L : Nat → Nat) (Nf : Nat) (k0 : Nat) (x1 : Int32) (σ : cS) : Option (Int32 × cS) := grd (inb (0 : Int32) (L (k0 + 1))) (Option.bind (fX7_in σ x1 (1 : Int32) (((1 : Int32) <<< ((σ (k0 + 1) (0 : Int32).toNatClampNeg) &&& 31)) - (1 : Int32))) (fun r1 => if r1 = 0 then (fX7_inner_24 L Nf k0 x1 (1 : Int32) σ) else (fX7_inner_24 L Nf k0 x1 (0 : Int32) σ)))
set_option maxHeartbeats 4000000 in
set_option maxRecDepth 100000 in
theorem sX7_inner_0 {K : MCx} {G : Lay} (X : Cx K G RX7 cX7_inner 2 (some .int) 1 25) (Nf : Nat) (k0 : Nat) (hk0 : isMod G k0) (h : Int64) (x1 : Int32) (σ : cS) : Sm K G TT (QM K G (fun r : (Int32 × cS) => ((some (.int r.1), h, r.2) : Option Value × Int64 × cS))) 2 0 [(0, .ref (la G k0)), (1, .int x1)] [] h σ (fX7_inner_0 (ll G) Nf k0 x1 σ) := by
  unfold fX7_inner_0
  refine z_aload_n X dX7_inner_0 0 rfl ?_
  refine z_iload_n X dX7_inner_1 1 rfl ?_
  refine z_iconst (v := (1 : Int32)) X dX7_inner_2 (by decide) ?_
  refine z_iconst (v := (1 : Int32)) X dX7_inner_3 (by decide) ?_
  refine z_aload_n X dX7_inner_4 0 rfl ?_
  refine z_get X inlX7 rfl hk0.1 (ce7 hk0.1 _ _) 0 (by decide) q_5_4 rfl dX7_inner_5 ?_
  refine z_iconst (v := (0 : Int32)) X dX7_inner_8 (by decide) ?_
  refine z_iald X hk0.2.1 dX7_inner_9 ?_
  refine z_ishl X dX7_inner_10 ?_
  refine z_iconst (v := (1 : Int32)) X dX7_inner_11 (by decide) ?_
  refine z_isub X dX7_inner_12 ?_
  refine z_callS0 X (g := (fun r1 : Int32 => ((some (.int r1), h, σ) : Option Value × Int64 × cS))) (st := [.ref (la G k0)]) (st1 := (fun r1 : Int32 => [.int r1, .ref (la G k0)])) (rmf := 0) (rml := 0) [.int x1, .int (1 : Int32), .int (((1 : Int32) <<< ((σ (k0 + 1) (0 : Int32).toNatClampNeg) &&& 31)) - (1 : Int32))] cal_X7_in q_7_5 ⟨Nat.le_of_ble_eq_true rfl, Nat.le_of_ble_eq_true rfl⟩ rfl rfl (Nat.le_of_ble_eq_true rfl) (ctX7_in (kl K) G X.2.2.2.2.2.2.2.1 h σ x1 (1 : Int32) (((1 : Int32) <<< ((σ (k0 + 1) (0 : Int32).toNatClampNeg) &&& 31)) - (1 : Int32))) dX7_inner_13 (fun _ => rfl) (fun r1 => ?_)
  refine z_if_ne X 23 dX7_inner_16 (by decide) ?_ ?_
  · refine z_iconst (v := (1 : Int32)) X dX7_inner_19 (by decide) ?_
    refine z_goto X 24 dX7_inner_20 (by decide) ?_
    exact z_sub [0, 1] rfl (sX7_inner_24 X Nf k0 hk0 h x1 (1 : Int32) σ)
  · refine z_iconst (v := (0 : Int32)) X dX7_inner_23 (by decide) ?_
    exact z_sub [0, 1] rfl (sX7_inner_24 X Nf k0 hk0 h x1 (0 : Int32) σ)
def fX7_inner (L : Nat → Nat) (Nf : Nat) (σ : cS) (k0 : Nat) (x1 : Int32) : Option (Int32 × cS) := fX7_inner_0 L Nf k0 x1 σ
set_option maxHeartbeats 4000000 in
set_option maxRecDepth 100000 in
theorem ctX7_inner (l : Launch) (G : Lay) (hi : Inj G) (Nf : Nat) (h : Int64) (σ : cS) (k0 : Nat) (hk0 : isMod G k0) (x1 : Int32) : ∀ r, fX7_inner (ll G) Nf σ k0 x1 = some r → CM l yX7_inner cX7_inner 2 (some .int) 1 25 G [.ref (la G k0), .int x1] h σ (some (.int r.1), h, r.2) := by
  refine cm_of (g := (fun r : (Int32 × cS) => ((some (.int r.1), h, r.2) : Option Value × Int64 × cS))) (by decide) hi (Nat.le_of_ble_eq_true rfl) (fun K hKl X => ?_)
  unfold fX7_inner
  exact z_sub [0, 1] rfl (sX7_inner_0 X Nf k0 hk0 h x1 σ)
def fX7_densest_0 (L : Nat → Nat) (Nf : Nat) (k0 : Nat) (σ : cS) : Option (Int32 × cS) := bnd (st2 σ k0 7 (0 : Int32)) (fun σ1 => Option.bind (fX7_densestOf L Nf σ1 k0 (-1 : Int32) (0 : Int32)) (fun r2 => some (r2, σ1)))
set_option maxHeartbeats 4000000 in
set_option maxRecDepth 100000 in
theorem sX7_densest_0 {K : MCx} {G : Lay} (X : Cx K G RX7 cX7_densest 1 (some .int) 2 54) (Nf : Nat) (k0 : Nat) (hk0 : isMod G k0) (h : Int64) (σ : cS) : Sm K G TT (QM K G (fun r : (Int32 × cS) => ((some (.int r.1), h, r.2) : Option Value × Int64 × cS))) 1 0 [(0, .ref (la G k0))] [] h σ (fX7_densest_0 (ll G) Nf k0 σ) := by
  unfold fX7_densest_0
  refine z_aload_n X dX7_densest_0 0 rfl ?_
  refine z_iconst (v := (0 : Int32)) X dX7_densest_1 (by decide) ?_
  refine z_put X inlX7 rfl hk0.1 (ce7 hk0.1 _ _) 7 (by decide) q_7_12 tyX7 tyX7_ok nmX7 rfl (cp7 hk0.1 _ _ _ 7 (by decide)) rfl rfl (Nat.le_of_ble_eq_true rfl) dX7_densest_2 (fun σ1 => ?_)
  refine z_aload_n X dX7_densest_5 0 rfl ?_
  refine z_iconst (v := (-1 : Int32)) X dX7_densest_6 (by decide) ?_
  refine z_iconst (v := (0 : Int32)) X dX7_densest_7 (by decide) ?_
  refine z_callV0 X (g := (fun r2 : Int32 => ((some (.int r2), h, σ1) : Option Value × Int64 × cS))) (st := []) (st1 := (fun r2 : Int32 => [.int r2])) (rmf := 1) (rml := 25) [.int (-1 : Int32), .int (0 : Int32)] k0 cal_X7_densestOf q_26_13 ⟨Nat.le_of_ble_eq_true rfl, Nat.le_of_ble_eq_true rfl⟩ rfl rfl (Nat.le_of_ble_eq_true rfl) rfl hk0.1 (ce7 hk0.1 _ _) (ctX7_densestOf (kl K) G X.2.2.2.2.2.2.2.1 Nf h σ1 k0 hk0 (-1 : Int32) (0 : Int32)) dX7_densest_8 (fun _ => rfl) (fun r2 => ?_)
  exact z_iret X rfl dX7_densest_11
def fX7_densest (L : Nat → Nat) (Nf : Nat) (σ : cS) (k0 : Nat) : Option (Int32 × cS) := fX7_densest_0 L Nf k0 σ
set_option maxHeartbeats 4000000 in
set_option maxRecDepth 100000 in
theorem ctX7_densest (l : Launch) (G : Lay) (hi : Inj G) (Nf : Nat) (h : Int64) (σ : cS) (k0 : Nat) (hk0 : isMod G k0) : ∀ r, fX7_densest (ll G) Nf σ k0 = some r → CM l yX7_densest cX7_densest 1 (some .int) 2 54 G [.ref (la G k0)] h σ (some (.int r.1), h, r.2) := by
  refine cm_of (g := (fun r : (Int32 × cS) => ((some (.int r.1), h, r.2) : Option Value × Int64 × cS))) (by decide) hi (Nat.le_of_ble_eq_true rfl) (fun K hKl X => ?_)
  unfold fX7_densest
  exact z_sub [0] rfl (sX7_densest_0 X Nf k0 hk0 h σ)
def fX7_least_0 (L : Nat → Nat) (Nf : Nat) (k0 : Nat) (σ : cS) : Option (Int32 × cS) := bnd (st2 σ k0 7 (0 : Int32)) (fun σ1 => Option.bind (fX7_leastOf L Nf σ1 k0 (-1 : Int32) (0 : Int32)) (fun r2 => some (r2, σ1)))
set_option maxHeartbeats 4000000 in
set_option maxRecDepth 100000 in
theorem sX7_least_0 {K : MCx} {G : Lay} (X : Cx K G RX7 cX7_least 1 (some .int) 3 78) (Nf : Nat) (k0 : Nat) (hk0 : isMod G k0) (h : Int64) (σ : cS) : Sm K G TT (QM K G (fun r : (Int32 × cS) => ((some (.int r.1), h, r.2) : Option Value × Int64 × cS))) 1 0 [(0, .ref (la G k0))] [] h σ (fX7_least_0 (ll G) Nf k0 σ) := by
  unfold fX7_least_0
  refine z_aload_n X dX7_least_0 0 rfl ?_
  refine z_iconst (v := (0 : Int32)) X dX7_least_1 (by decide) ?_
  refine z_put X inlX7 rfl hk0.1 (ce7 hk0.1 _ _) 7 (by decide) q_7_12 tyX7 tyX7_ok nmX7 rfl (cp7 hk0.1 _ _ _ 7 (by decide)) rfl rfl (Nat.le_of_ble_eq_true rfl) dX7_least_2 (fun σ1 => ?_)
  refine z_aload_n X dX7_least_5 0 rfl ?_
  refine z_iconst (v := (-1 : Int32)) X dX7_least_6 (by decide) ?_
  refine z_iconst (v := (0 : Int32)) X dX7_least_7 (by decide) ?_
  refine z_callV0 X (g := (fun r2 : Int32 => ((some (.int r2), h, σ1) : Option Value × Int64 × cS))) (st := []) (st1 := (fun r2 : Int32 => [.int r2])) (rmf := 2) (rml := 54) [.int (-1 : Int32), .int (0 : Int32)] k0 cal_X7_leastOf q_27_1 ⟨Nat.le_of_ble_eq_true rfl, Nat.le_of_ble_eq_true rfl⟩ rfl rfl (Nat.le_of_ble_eq_true rfl) rfl hk0.1 (ce7 hk0.1 _ _) (ctX7_leastOf (kl K) G X.2.2.2.2.2.2.2.1 Nf h σ1 k0 hk0 (-1 : Int32) (0 : Int32)) dX7_least_8 (fun _ => rfl) (fun r2 => ?_)
  exact z_iret X rfl dX7_least_11
def fX7_least (L : Nat → Nat) (Nf : Nat) (σ : cS) (k0 : Nat) : Option (Int32 × cS) := fX7_least_0 L Nf k0 σ
set_option maxHeartbeats 4000000 in
set_option maxRecDepth 100000 in
theorem ctX7_least (l : Launch) (G : Lay) (hi : Inj G) (Nf : Nat) (h : Int64) (σ : cS) (k0 : Nat) (hk0 : isMod G k0) : ∀ r, fX7_least (ll G) Nf σ k0 = some r → CM l yX7_least cX7_least 1 (some .int) 3 78 G [.ref (la G k0)] h σ (some (.int r.1), h, r.2) := by
  refine cm_of (g := (fun r : (Int32 × cS) => ((some (.int r.1), h, r.2) : Option Value × Int64 × cS))) (by decide) hi (Nat.le_of_ble_eq_true rfl) (fun K hKl X => ?_)
  unfold fX7_least
  exact z_sub [0] rfl (sX7_least_0 X Nf k0 hk0 h σ)
def fX7_tooDense_104 (L : Nat → Nat) (Nf : Nat) (k0 : Nat) (self11 : Int32 → Int32 → Int32 → cS → Option (Int32 × cS)) (x1 : Int32) (x3 : Int32) (y0 : Int32) (σ : cS) : Option (Int32 × cS) := bnd (x3 + (1 : Int32)) (fun t1 => self11 x1 y0 t1 σ)
set_option maxHeartbeats 4000000 in
set_option maxRecDepth 100000 in
theorem sX7_tooDense_104 {K : MCx} {G : Lay} (X : Cx K G RX7 cX7_tooDense 6 (some .int) 1 25) (Nf : Nat) (k0 : Nat) (hk0 : isMod G k0) (h : Int64) (self11 : Int32 → Int32 → Int32 → cS → Option (Int32 × cS)) (hself11 : ∀ (x1 : Int32) (x2 : Int32) (x3 : Int32) (σ : cS), Sm K G TT (QM K G (fun r : (Int32 × cS) => ((some (.int r.1), h, r.2) : Option Value × Int64 × cS))) 6 11 [(0, .ref (la G k0)), (1, .int x1), (2, .int x2), (3, .int x3)] [] h σ (self11 x1 x2 x3 σ)) (x1 : Int32) (x3 : Int32) (y0 : Int32) (σ : cS) : Sm K G TT (QM K G (fun r : (Int32 × cS) => ((some (.int r.1), h, r.2) : Option Value × Int64 × cS))) 6 104 [(0, .ref (la G k0)), (1, .int x1), (3, .int x3)] [.int y0] h σ (fX7_tooDense_104 (ll G) Nf k0 self11 x1 x3 y0 σ) := by
  unfold fX7_tooDense_104
  refine z_istore_n X [(2, .int y0), (0, .ref (la G k0)), (1, .int x1), (3, .int x3)] dX7_tooDense_104 (by decide) rfl ?_
  refine z_iinc X (fun t1 => [(3, .int t1), (2, .int y0), (0, .ref (la G k0)), (1, .int x1)]) dX7_tooDense_105 3 rfl (by decide) (by decide) (fun _ => rfl) (fun t1 => ?_)
  refine z_goto X 11 dX7_tooDense_108 (by decide) ?_
  exact z_sub [2, 3, 1, 0] rfl (hself11 x1 y0 t1 σ)
def fX7_tooDense_91 (L : Nat → Nat) (Nf : Nat) (k0 : Nat) (self11 : Int32 → Int32 → Int32 → cS → Option (Int32 × cS)) (x2 : Int32) (x3 : Int32) (x4 : Int32) (y0 : Int32) (σ : cS) : Option (Int32 × cS) := if x4 ≤ x2 then (fX7_tooDense_104 L Nf k0 self11 y0 x3 x2 σ) else (fX7_tooDense_104 L Nf k0 self11 y0 x3 x4 σ)
set_option maxHeartbeats 4000000 in
set_option maxRecDepth 100000 in
theorem sX7_tooDense_91 {K : MCx} {G : Lay} (X : Cx K G RX7 cX7_tooDense 6 (some .int) 1 25) (Nf : Nat) (k0 : Nat) (hk0 : isMod G k0) (h : Int64) (self11 : Int32 → Int32 → Int32 → cS → Option (Int32 × cS)) (hself11 : ∀ (x1 : Int32) (x2 : Int32) (x3 : Int32) (σ : cS), Sm K G TT (QM K G (fun r : (Int32 × cS) => ((some (.int r.1), h, r.2) : Option Value × Int64 × cS))) 6 11 [(0, .ref (la G k0)), (1, .int x1), (2, .int x2), (3, .int x3)] [] h σ (self11 x1 x2 x3 σ)) (x2 : Int32) (x3 : Int32) (x4 : Int32) (y0 : Int32) (σ : cS) : Sm K G TT (QM K G (fun r : (Int32 × cS) => ((some (.int r.1), h, r.2) : Option Value × Int64 × cS))) 6 91 [(0, .ref (la G k0)), (2, .int x2), (3, .int x3), (4, .int x4)] [.int y0] h σ (fX7_tooDense_91 (ll G) Nf k0 self11 x2 x3 x4 y0 σ) := by
  unfold fX7_tooDense_91
  refine z_istore_n X [(1, .int y0), (0, .ref (la G k0)), (2, .int x2), (3, .int x3), (4, .int x4)] dX7_tooDense_91 (by decide) rfl ?_
  refine z_iload X dX7_tooDense_92 4 rfl ?_
  refine z_iload_n X dX7_tooDense_94 2 rfl ?_
  refine z_icmp_le X 103 dX7_tooDense_95 (by decide) ?_ ?_
  · refine z_iload_n X dX7_tooDense_103 2 rfl ?_
    exact z_sub [1, 0, 3] rfl (sX7_tooDense_104 X Nf k0 hk0 h self11 hself11 y0 x3 x2 σ)
  · refine z_iload X dX7_tooDense_98 4 rfl ?_
    refine z_goto X 104 dX7_tooDense_100 (by decide) ?_
    exact z_sub [1, 0, 3] rfl (sX7_tooDense_104 X Nf k0 hk0 h self11 hself11 y0 x3 x4 σ)
def fX7_tooDense_71 (L : Nat → Nat) (Nf : Nat) (k0 : Nat) (self11 : Int32 → Int32 → Int32 → cS → Option (Int32 × cS)) (self35 : Int32 → Int32 → Int32 → Int32 → Int32 → cS → Option (Int32 × cS)) (x1 : Int32) (x2 : Int32) (x3 : Int32) (x5 : Int32) (y0 : Int32) (y1 : Int32) (σ : cS) : Option (Int32 × cS) := bnd ((y0 - y1)) (fun t1 => bnd (x5 + (1 : Int32)) (fun t2 => self35 x1 x2 x3 t1 t2 σ))
set_option maxHeartbeats 4000000 in
set_option maxRecDepth 100000 in
theorem sX7_tooDense_71 {K : MCx} {G : Lay} (X : Cx K G RX7 cX7_tooDense 6 (some .int) 1 25) (Nf : Nat) (k0 : Nat) (hk0 : isMod G k0) (h : Int64) (self11 : Int32 → Int32 → Int32 → cS → Option (Int32 × cS)) (hself11 : ∀ (x1 : Int32) (x2 : Int32) (x3 : Int32) (σ : cS), Sm K G TT (QM K G (fun r : (Int32 × cS) => ((some (.int r.1), h, r.2) : Option Value × Int64 × cS))) 6 11 [(0, .ref (la G k0)), (1, .int x1), (2, .int x2), (3, .int x3)] [] h σ (self11 x1 x2 x3 σ)) (self35 : Int32 → Int32 → Int32 → Int32 → Int32 → cS → Option (Int32 × cS)) (hself35 : ∀ (x1 : Int32) (x2 : Int32) (x3 : Int32) (x4 : Int32) (x5 : Int32) (σ : cS), Sm K G TT (QM K G (fun r : (Int32 × cS) => ((some (.int r.1), h, r.2) : Option Value × Int64 × cS))) 6 35 [(0, .ref (la G k0)), (1, .int x1), (2, .int x2), (3, .int x3), (4, .int x4), (5, .int x5)] [] h σ (self35 x1 x2 x3 x4 x5 σ)) (x1 : Int32) (x2 : Int32) (x3 : Int32) (x5 : Int32) (y0 : Int32) (y1 : Int32) (σ : cS) : Sm K G TT (QM K G (fun r : (Int32 × cS) => ((some (.int r.1), h, r.2) : Option Value × Int64 × cS))) 6 71 [(0, .ref (la G k0)), (1, .int x1), (2, .int x2), (3, .int x3), (5, .int x5)] [.int y1, .int y0] h σ (fX7_tooDense_71 (ll G) Nf k0 self11 self35 x1 x2 x3 x5 y0 y1 σ) := by
  unfold fX7_tooDense_71
  refine z_isub X dX7_tooDense_71 ?_
  refine z_nm (fun t1 => ?_)
  refine z_istore X [(4, .int t1), (0, .ref (la G k0)), (1, .int x1), (2, .int x2), (3, .int x3), (5, .int x5)] dX7_tooDense_72 (by decide) rfl ?_
  refine z_iinc X (fun t2 => [(5, .int t2), (4, .int t1), (0, .ref (la G k0)), (1, .int x1), (2, .int x2), (3, .int x3)]) dX7_tooDense_74 5 rfl (by decide) (by decide) (fun _ => rfl) (fun t2 => ?_)
  refine z_goto X 35 dX7_tooDense_77 (by decide) ?_
  exact z_sub [2, 3, 4, 5, 1, 0] rfl (hself35 x1 x2 x3 t1 t2 σ)
def fX7_tooDense_35 (L : Nat → Nat) (Nf : Nat) (k0 : Nat) (self11 : Int32 → Int32 → Int32 → cS → Option (Int32 × cS)) : Nat → Int32 → Int32 → Int32 → Int32 → Int32 → cS → Option (Int32 × cS)
  | 0, _, _, _, _, _, _ => none
  | n + 1, x1, x2, x3, x4, x5, σ => grd (inb (0 : Int32) (L (k0 + 1))) (if (σ (k0 + 1) (0 : Int32).toNatClampNeg) ≤ x5 then (if x4 ≤ x2 then (fX7_tooDense_91 L Nf k0 self11 x2 x3 x4 x1 σ) else (fX7_tooDense_91 L Nf k0 self11 x2 x3 x4 x3 σ)) else (if ((x3 >>> (x5 &&& 31)) &&& (1 : Int32)) = (1 : Int32) then (grd (inb ((4 : Int32) + x5) (L (k0 + 1))) (fX7_tooDense_71 L Nf k0 self11 (fX7_tooDense_35 L Nf k0 self11 n) x1 x2 x3 x5 x4 (σ (k0 + 1) ((4 : Int32) + x5).toNatClampNeg) σ)) else (fX7_tooDense_71 L Nf k0 self11 (fX7_tooDense_35 L Nf k0 self11 n) x1 x2 x3 x5 x4 (0 : Int32) σ)))
set_option maxHeartbeats 4000000 in
set_option maxRecDepth 100000 in
theorem sX7_tooDense_35 {K : MCx} {G : Lay} (X : Cx K G RX7 cX7_tooDense 6 (some .int) 1 25) (Nf : Nat) (k0 : Nat) (hk0 : isMod G k0) (h : Int64) (self11 : Int32 → Int32 → Int32 → cS → Option (Int32 × cS)) (hself11 : ∀ (x1 : Int32) (x2 : Int32) (x3 : Int32) (σ : cS), Sm K G TT (QM K G (fun r : (Int32 × cS) => ((some (.int r.1), h, r.2) : Option Value × Int64 × cS))) 6 11 [(0, .ref (la G k0)), (1, .int x1), (2, .int x2), (3, .int x3)] [] h σ (self11 x1 x2 x3 σ)) : ∀ (n : Nat) (x1 : Int32) (x2 : Int32) (x3 : Int32) (x4 : Int32) (x5 : Int32) (σ : cS), Sm K G TT (QM K G (fun r : (Int32 × cS) => ((some (.int r.1), h, r.2) : Option Value × Int64 × cS))) 6 35 [(0, .ref (la G k0)), (1, .int x1), (2, .int x2), (3, .int x3), (4, .int x4), (5, .int x5)] [] h σ (fX7_tooDense_35 (ll G) Nf k0 self11 n x1 x2 x3 x4 x5 σ) := by
  intro n
  induction n with
  | zero => intros; exact z_none
  | succ n ih =>
    intro x1 x2 x3 x4 x5 σ
    unfold fX7_tooDense_35
    refine z_iload X dX7_tooDense_35 5 rfl ?_
    refine z_aload_n X dX7_tooDense_37 0 rfl ?_
    refine z_get X inlX7 rfl hk0.1 (ce7 hk0.1 _ _) 0 (by decide) q_5_4 rfl dX7_tooDense_38 ?_
    refine z_iconst (v := (0 : Int32)) X dX7_tooDense_41 (by decide) ?_
    refine z_iald X hk0.2.1 dX7_tooDense_42 ?_
    refine z_icmp_ge X 80 dX7_tooDense_43 (by decide) ?_ ?_
    · refine z_iload X dX7_tooDense_80 4 rfl ?_
      refine z_iload_n X dX7_tooDense_82 2 rfl ?_
      refine z_icmp_le X 90 dX7_tooDense_83 (by decide) ?_ ?_
      · refine z_iload_n X dX7_tooDense_90 1 rfl ?_
        exact z_sub [0, 2, 3, 4] rfl (sX7_tooDense_91 X Nf k0 hk0 h self11 hself11 x2 x3 x4 x1 σ)
      · refine z_iload_n X dX7_tooDense_86 3 rfl ?_
        refine z_goto X 91 dX7_tooDense_87 (by decide) ?_
        exact z_sub [0, 2, 3, 4] rfl (sX7_tooDense_91 X Nf k0 hk0 h self11 hself11 x2 x3 x4 x3 σ)
    · refine z_iload X dX7_tooDense_46 4 rfl ?_
      refine z_iload_n X dX7_tooDense_48 3 rfl ?_
      refine z_iload X dX7_tooDense_49 5 rfl ?_
      refine z_ishr X dX7_tooDense_51 ?_
      refine z_iconst (v := (1 : Int32)) X dX7_tooDense_52 (by decide) ?_
      refine z_iand X dX7_tooDense_53 ?_
      refine z_iconst (v := (1 : Int32)) X dX7_tooDense_54 (by decide) ?_
      refine z_icmp_ne X 70 dX7_tooDense_55 (by decide) ?_ ?_
      · refine z_aload_n X dX7_tooDense_58 0 rfl ?_
        refine z_get X inlX7 rfl hk0.1 (ce7 hk0.1 _ _) 0 (by decide) q_5_4 rfl dX7_tooDense_59 ?_
        refine z_iconst (v := (4 : Int32)) X dX7_tooDense_62 (by decide) ?_
        refine z_iload X dX7_tooDense_63 5 rfl ?_
        refine z_iadd X dX7_tooDense_65 ?_
        refine z_iald X hk0.2.1 dX7_tooDense_66 ?_
        refine z_goto X 71 dX7_tooDense_67 (by decide) ?_
        exact z_sub [0, 1, 2, 3, 5] rfl (sX7_tooDense_71 X Nf k0 hk0 h self11 hself11 (fX7_tooDense_35 (ll G) Nf k0 self11 n) ih x1 x2 x3 x5 x4 (σ (k0 + 1) ((4 : Int32) + x5).toNatClampNeg) σ)
      · refine z_iconst (v := (0 : Int32)) X dX7_tooDense_70 (by decide) ?_
        exact z_sub [0, 1, 2, 3, 5] rfl (sX7_tooDense_71 X Nf k0 hk0 h self11 hself11 (fX7_tooDense_35 (ll G) Nf k0 self11 n) ih x1 x2 x3 x5 x4 (0 : Int32) σ)
def fX7_tooDense_11 (L : Nat → Nat) (Nf : Nat) (k0 : Nat) : Nat → Int32 → Int32 → Int32 → cS → Option (Int32 × cS)
  | 0, _, _, _, _ => none
  | n + 1, x1, x2, x3, σ => grd (inb (0 : Int32) (L (k0 + 1))) (if ((1 : Int32) <<< ((σ (k0 + 1) (0 : Int32).toNatClampNeg) &&& 31)) ≤ x3 then (some (x1, σ)) else (Option.bind (fX7_innerOf L Nf σ k0 x3 (-1 : Int32) (0 : Int32)) (fun r1 => fX7_tooDense_35 L Nf k0 (fX7_tooDense_11 L Nf k0 n) Nf x1 x2 x3 r1 (0 : Int32) σ)))
set_option maxHeartbeats 4000000 in
set_option maxRecDepth 100000 in
theorem sX7_tooDense_11 {K : MCx} {G : Lay} (X : Cx K G RX7 cX7_tooDense 6 (some .int) 1 25) (Nf : Nat) (k0 : Nat) (hk0 : isMod G k0) (h : Int64) : ∀ (n : Nat) (x1 : Int32) (x2 : Int32) (x3 : Int32) (σ : cS), Sm K G TT (QM K G (fun r : (Int32 × cS) => ((some (.int r.1), h, r.2) : Option Value × Int64 × cS))) 6 11 [(0, .ref (la G k0)), (1, .int x1), (2, .int x2), (3, .int x3)] [] h σ (fX7_tooDense_11 (ll G) Nf k0 n x1 x2 x3 σ) := by
  intro n
  induction n with
  | zero => intros; exact z_none
  | succ n ih =>
    intro x1 x2 x3 σ
    unfold fX7_tooDense_11
    refine z_iload_n X dX7_tooDense_11 3 rfl ?_
    refine z_iconst (v := (1 : Int32)) X dX7_tooDense_12 (by decide) ?_
    refine z_aload_n X dX7_tooDense_13 0 rfl ?_
    refine z_get X inlX7 rfl hk0.1 (ce7 hk0.1 _ _) 0 (by decide) q_5_4 rfl dX7_tooDense_14 ?_
    refine z_iconst (v := (0 : Int32)) X dX7_tooDense_17 (by decide) ?_
    refine z_iald X hk0.2.1 dX7_tooDense_18 ?_
    refine z_ishl X dX7_tooDense_19 ?_
    refine z_icmp_ge X 111 dX7_tooDense_20 (by decide) ?_ ?_
    · refine z_iload_n X dX7_tooDense_111 1 rfl ?_
      exact z_iret X rfl dX7_tooDense_112
    · refine z_aload_n X dX7_tooDense_23 0 rfl ?_
      refine z_iload_n X dX7_tooDense_24 3 rfl ?_
      refine z_iconst (v := (-1 : Int32)) X dX7_tooDense_25 (by decide) ?_
      refine z_iconst (v := (0 : Int32)) X dX7_tooDense_26 (by decide) ?_
      refine z_callV0 X (g := (fun r1 : Int32 => ((some (.int r1), h, σ) : Option Value × Int64 × cS))) (st := []) (st1 := (fun r1 : Int32 => [.int r1])) (rmf := 0) (rml := 0) [.int x3, .int (-1 : Int32), .int (0 : Int32)] k0 cal_X7_innerOf q_24_17 ⟨Nat.le_of_ble_eq_true rfl, Nat.le_of_ble_eq_true rfl⟩ rfl rfl (Nat.le_of_ble_eq_true rfl) rfl hk0.1 (ce7 hk0.1 _ _) (ctX7_innerOf (kl K) G X.2.2.2.2.2.2.2.1 Nf h σ k0 hk0 x3 (-1 : Int32) (0 : Int32)) dX7_tooDense_27 (fun _ => rfl) (fun r1 => ?_)
      refine z_istore X [(4, .int r1), (0, .ref (la G k0)), (1, .int x1), (2, .int x2), (3, .int x3)] dX7_tooDense_30 (by decide) rfl ?_
      refine z_iconst (v := (0 : Int32)) X dX7_tooDense_32 (by decide) ?_
      refine z_istore X [(5, .int (0 : Int32)), (4, .int r1), (0, .ref (la G k0)), (1, .int x1), (2, .int x2), (3, .int x3)] dX7_tooDense_33 (by decide) rfl ?_
      exact z_sub [2, 3, 4, 5, 1, 0] rfl (sX7_tooDense_35 X Nf k0 hk0 h (fX7_tooDense_11 (ll G) Nf k0 n) ih Nf x1 x2 x3 r1 (0 : Int32) σ)
def fX7_tooDense_0 (L : Nat → Nat) (Nf : Nat) (k0 : Nat) (σ : cS) : Option (Int32 × cS) := bnd (st2 σ k0 7 (0 : Int32)) (fun σ1 => fX7_tooDense_11 L Nf k0 Nf (-1 : Int32) (0 : Int32) (1 : Int32) σ1)
set_option maxHeartbeats 4000000 in
set_option maxRecDepth 100000 in
theorem sX7_tooDense_0 {K : MCx} {G : Lay} (X : Cx K G RX7 cX7_tooDense 6 (some .int) 1 25) (Nf : Nat) (k0 : Nat) (hk0 : isMod G k0) (h : Int64) (σ : cS) : Sm K G TT (QM K G (fun r : (Int32 × cS) => ((some (.int r.1), h, r.2) : Option Value × Int64 × cS))) 6 0 [(0, .ref (la G k0))] [] h σ (fX7_tooDense_0 (ll G) Nf k0 σ) := by
  unfold fX7_tooDense_0
  refine z_aload_n X dX7_tooDense_0 0 rfl ?_
  refine z_iconst (v := (0 : Int32)) X dX7_tooDense_1 (by decide) ?_
  refine z_put X inlX7 rfl hk0.1 (ce7 hk0.1 _ _) 7 (by decide) q_7_12 tyX7 tyX7_ok nmX7 rfl (cp7 hk0.1 _ _ _ 7 (by decide)) rfl rfl (Nat.le_of_ble_eq_true rfl) dX7_tooDense_2 (fun σ1 => ?_)
  refine z_iconst (v := (-1 : Int32)) X dX7_tooDense_5 (by decide) ?_
  refine z_istore_n X [(1, .int (-1 : Int32)), (0, .ref (la G k0))] dX7_tooDense_6 (by decide) rfl ?_
  refine z_iconst (v := (0 : Int32)) X dX7_tooDense_7 (by decide) ?_
  refine z_istore_n X [(2, .int (0 : Int32)), (1, .int (-1 : Int32)), (0, .ref (la G k0))] dX7_tooDense_8 (by decide) rfl ?_
  refine z_iconst (v := (1 : Int32)) X dX7_tooDense_9 (by decide) ?_
  refine z_istore_n X [(3, .int (1 : Int32)), (2, .int (0 : Int32)), (1, .int (-1 : Int32)), (0, .ref (la G k0))] dX7_tooDense_10 (by decide) rfl ?_
  exact z_sub [3, 2, 1, 0] rfl (sX7_tooDense_11 X Nf k0 hk0 h Nf (-1 : Int32) (0 : Int32) (1 : Int32) σ1)
def fX7_tooDense (L : Nat → Nat) (Nf : Nat) (σ : cS) (k0 : Nat) : Option (Int32 × cS) := fX7_tooDense_0 L Nf k0 σ
set_option maxHeartbeats 4000000 in
set_option maxRecDepth 100000 in
theorem ctX7_tooDense (l : Launch) (G : Lay) (hi : Inj G) (Nf : Nat) (h : Int64) (σ : cS) (k0 : Nat) (hk0 : isMod G k0) : ∀ r, fX7_tooDense (ll G) Nf σ k0 = some r → CM l yX7_tooDense cX7_tooDense 6 (some .int) 1 25 G [.ref (la G k0)] h σ (some (.int r.1), h, r.2) := by
  refine cm_of (g := (fun r : (Int32 × cS) => ((some (.int r.1), h, r.2) : Option Value × Int64 × cS))) (by decide) hi (Nat.le_of_ble_eq_true rfl) (fun K hKl X => ?_)
  unfold fX7_tooDense
  exact z_sub [0] rfl (sX7_tooDense_0 X Nf k0 hk0 h σ)
def fX7_leastWith_55 (L : Nat → Nat) (Nf : Nat) (k0 : Nat) (y0 : Int32) (σ : cS) : Option (Int32 × cS) := some (y0, σ)
set_option maxHeartbeats 4000000 in
set_option maxRecDepth 100000 in
theorem sX7_leastWith_55 {K : MCx} {G : Lay} (X : Cx K G RX7 cX7_leastWith 3 (some .int) 3 78) (Nf : Nat) (k0 : Nat) (hk0 : isMod G k0) (h : Int64) (y0 : Int32) (σ : cS) : Sm K G TT (QM K G (fun r : (Int32 × cS) => ((some (.int r.1), h, r.2) : Option Value × Int64 × cS))) 3 55 [] [.int y0] h σ (fX7_leastWith_55 (ll G) Nf k0 y0 σ) := by
  unfold fX7_leastWith_55
  exact z_iret X rfl dX7_leastWith_55
def fX7_leastWith_32 (L : Nat → Nat) (Nf : Nat) (k0 : Nat) (x1 : Int32) (x2 : Int32) (y1 : Int32) (y2 : Int32) (σ : cS) : Option (Int32 × cS) := Option.bind (fX7_refuses σ k0 y1 y2 (0 : Int32)) (fun r1 => if r1.1 = 0 then (Option.bind (fX7_leastOf L Nf r1.2 k0 (-1 : Int32) (((1 : Int32) <<< (x1 &&& 31)) ||| ((1 : Int32) <<< (x2 &&& 31)))) (fun r2 => fX7_leastWith_55 L Nf k0 r2 r1.2)) else (fX7_leastWith_55 L Nf k0 (0 : Int32) r1.2))
set_option maxHeartbeats 4000000 in
set_option maxRecDepth 100000 in
theorem sX7_leastWith_32 {K : MCx} {G : Lay} (X : Cx K G RX7 cX7_leastWith 3 (some .int) 3 78) (Nf : Nat) (k0 : Nat) (hk0 : isMod G k0) (h : Int64) (x1 : Int32) (x2 : Int32) (y1 : Int32) (y2 : Int32) (σ : cS) : Sm K G TT (QM K G (fun r : (Int32 × cS) => ((some (.int r.1), h, r.2) : Option Value × Int64 × cS))) 3 32 [(0, .ref (la G k0)), (1, .int x1), (2, .int x2)] [.int y2, .int y1, .ref (la G k0)] h σ (fX7_leastWith_32 (ll G) Nf k0 x1 x2 y1 y2 σ) := by
  unfold fX7_leastWith_32
  refine z_iconst (v := (0 : Int32)) X dX7_leastWith_32 (by decide) ?_
  refine z_callV0 X (g := (fun r1 : (Int32 × cS) => ((some (.int r1.1), h, r1.2) : Option Value × Int64 × cS))) (st := []) (st1 := (fun r1 : (Int32 × cS) => [.int r1.1])) (rmf := 0) (rml := 0) [.int y1, .int y2, .int (0 : Int32)] k0 cal_X7_refuses q_7_8 ⟨Nat.le_of_ble_eq_true rfl, Nat.le_of_ble_eq_true rfl⟩ rfl rfl (Nat.le_of_ble_eq_true rfl) rfl hk0.1 (ce7 hk0.1 _ _) (ctX7_refuses (kl K) G X.2.2.2.2.2.2.2.1 h σ k0 hk0 y1 y2 (0 : Int32)) dX7_leastWith_33 (fun _ => rfl) (fun r1 => ?_)
  refine z_if_eq X 43 dX7_leastWith_36 (by decide) ?_ ?_
  · refine z_aload_n X dX7_leastWith_43 0 rfl ?_
    refine z_iconst (v := (-1 : Int32)) X dX7_leastWith_44 (by decide) ?_
    refine z_iconst (v := (1 : Int32)) X dX7_leastWith_45 (by decide) ?_
    refine z_iload_n X dX7_leastWith_46 1 rfl ?_
    refine z_ishl X dX7_leastWith_47 ?_
    refine z_iconst (v := (1 : Int32)) X dX7_leastWith_48 (by decide) ?_
    refine z_iload_n X dX7_leastWith_49 2 rfl ?_
    refine z_ishl X dX7_leastWith_50 ?_
    refine z_ior X dX7_leastWith_51 ?_
    refine z_callV0 X (g := (fun r2 : Int32 => ((some (.int r2), h, r1.2) : Option Value × Int64 × cS))) (st := []) (st1 := (fun r2 : Int32 => [.int r2])) (rmf := 2) (rml := 54) [.int (-1 : Int32), .int (((1 : Int32) <<< (x1 &&& 31)) ||| ((1 : Int32) <<< (x2 &&& 31)))] k0 cal_X7_leastOf q_27_1 ⟨Nat.le_of_ble_eq_true rfl, Nat.le_of_ble_eq_true rfl⟩ rfl rfl (Nat.le_of_ble_eq_true rfl) rfl hk0.1 (ce7 hk0.1 _ _) (ctX7_leastOf (kl K) G X.2.2.2.2.2.2.2.1 Nf h r1.2 k0 hk0 (-1 : Int32) (((1 : Int32) <<< (x1 &&& 31)) ||| ((1 : Int32) <<< (x2 &&& 31)))) dX7_leastWith_52 (fun _ => rfl) (fun r2 => ?_)
    exact z_sub [] rfl (sX7_leastWith_55 X Nf k0 hk0 h r2 r1.2)
  · refine z_iconst (v := (0 : Int32)) X dX7_leastWith_39 (by decide) ?_
    refine z_goto X 55 dX7_leastWith_40 (by decide) ?_
    exact z_sub [] rfl (sX7_leastWith_55 X Nf k0 hk0 h (0 : Int32) r1.2)
def fX7_leastWith_22 (L : Nat → Nat) (Nf : Nat) (k0 : Nat) (x1 : Int32) (x2 : Int32) (y1 : Int32) (σ : cS) : Option (Int32 × cS) := if x1 = x2 then (fX7_leastWith_32 L Nf k0 x1 x2 y1 (1 : Int32) σ) else (fX7_leastWith_32 L Nf k0 x1 x2 y1 (0 : Int32) σ)
set_option maxHeartbeats 4000000 in
set_option maxRecDepth 100000 in
theorem sX7_leastWith_22 {K : MCx} {G : Lay} (X : Cx K G RX7 cX7_leastWith 3 (some .int) 3 78) (Nf : Nat) (k0 : Nat) (hk0 : isMod G k0) (h : Int64) (x1 : Int32) (x2 : Int32) (y1 : Int32) (σ : cS) : Sm K G TT (QM K G (fun r : (Int32 × cS) => ((some (.int r.1), h, r.2) : Option Value × Int64 × cS))) 3 22 [(0, .ref (la G k0)), (1, .int x1), (2, .int x2)] [.int y1, .ref (la G k0)] h σ (fX7_leastWith_22 (ll G) Nf k0 x1 x2 y1 σ) := by
  unfold fX7_leastWith_22
  refine z_iload_n X dX7_leastWith_22 1 rfl ?_
  refine z_iload_n X dX7_leastWith_23 2 rfl ?_
  refine z_icmp_ne X 31 dX7_leastWith_24 (by decide) ?_ ?_
  · refine z_iconst (v := (1 : Int32)) X dX7_leastWith_27 (by decide) ?_
    refine z_goto X 32 dX7_leastWith_28 (by decide) ?_
    exact z_sub [0, 1, 2] rfl (sX7_leastWith_32 X Nf k0 hk0 h x1 x2 y1 (1 : Int32) σ)
  · refine z_iconst (v := (0 : Int32)) X dX7_leastWith_31 (by decide) ?_
    exact z_sub [0, 1, 2] rfl (sX7_leastWith_32 X Nf k0 hk0 h x1 x2 y1 (0 : Int32) σ)
def fX7_leastWith_17 (L : Nat → Nat) (Nf : Nat) (k0 : Nat) (x1 : Int32) (x2 : Int32) (σ : cS) : Option (Int32 × cS) := fX7_leastWith_22 L Nf k0 x1 x2 (1 : Int32) σ
set_option maxHeartbeats 4000000 in
set_option maxRecDepth 100000 in
theorem sX7_leastWith_17 {K : MCx} {G : Lay} (X : Cx K G RX7 cX7_leastWith 3 (some .int) 3 78) (Nf : Nat) (k0 : Nat) (hk0 : isMod G k0) (h : Int64) (x1 : Int32) (x2 : Int32) (σ : cS) : Sm K G TT (QM K G (fun r : (Int32 × cS) => ((some (.int r.1), h, r.2) : Option Value × Int64 × cS))) 3 17 [(0, .ref (la G k0)), (1, .int x1), (2, .int x2)] [.ref (la G k0)] h σ (fX7_leastWith_17 (ll G) Nf k0 x1 x2 σ) := by
  unfold fX7_leastWith_17
  refine z_iconst (v := (1 : Int32)) X dX7_leastWith_17 (by decide) ?_
  refine z_goto X 22 dX7_leastWith_18 (by decide) ?_
  exact z_sub [0, 1, 2] rfl (sX7_leastWith_22 X Nf k0 hk0 h x1 x2 (1 : Int32) σ)
def fX7_leastWith_0 (L : Nat → Nat) (Nf : Nat) (k0 : Nat) (x1 : Int32) (x2 : Int32) (σ : cS) : Option (Int32 × cS) := Option.bind (fX7_isNode L σ k0 x1) (fun r1 => if r1 = 0 then (fX7_leastWith_17 L Nf k0 x1 x2 σ) else (Option.bind (fX7_isNode L σ k0 x2) (fun r2 => if r2 = 0 then (fX7_leastWith_17 L Nf k0 x1 x2 σ) else (fX7_leastWith_22 L Nf k0 x1 x2 (0 : Int32) σ))))
set_option maxHeartbeats 4000000 in
set_option maxRecDepth 100000 in
theorem sX7_leastWith_0 {K : MCx} {G : Lay} (X : Cx K G RX7 cX7_leastWith 3 (some .int) 3 78) (Nf : Nat) (k0 : Nat) (hk0 : isMod G k0) (h : Int64) (x1 : Int32) (x2 : Int32) (σ : cS) : Sm K G TT (QM K G (fun r : (Int32 × cS) => ((some (.int r.1), h, r.2) : Option Value × Int64 × cS))) 3 0 [(0, .ref (la G k0)), (1, .int x1), (2, .int x2)] [] h σ (fX7_leastWith_0 (ll G) Nf k0 x1 x2 σ) := by
  unfold fX7_leastWith_0
  refine z_aload_n X dX7_leastWith_0 0 rfl ?_
  refine z_aload_n X dX7_leastWith_1 0 rfl ?_
  refine z_iload_n X dX7_leastWith_2 1 rfl ?_
  refine z_callV0 X (g := (fun r1 : Int32 => ((some (.int r1), h, σ) : Option Value × Int64 × cS))) (st := [.ref (la G k0)]) (st1 := (fun r1 : Int32 => [.int r1, .ref (la G k0)])) (rmf := 1) (rml := 22) [.int x1] k0 cal_X7_isNode q_10_3 ⟨Nat.le_of_ble_eq_true rfl, Nat.le_of_ble_eq_true rfl⟩ rfl rfl (Nat.le_of_ble_eq_true rfl) rfl hk0.1 (ce7 hk0.1 _ _) (ctX7_isNode (kl K) G X.2.2.2.2.2.2.2.1 h σ k0 hk0 x1) dX7_leastWith_3 (fun _ => rfl) (fun r1 => ?_)
  refine z_if_eq X 17 dX7_leastWith_6 (by decide) ?_ ?_
  · exact z_sub [0, 1, 2] rfl (sX7_leastWith_17 X Nf k0 hk0 h x1 x2 σ)
  · refine z_aload_n X dX7_leastWith_9 0 rfl ?_
    refine z_iload_n X dX7_leastWith_10 2 rfl ?_
    refine z_callV0 X (g := (fun r2 : Int32 => ((some (.int r2), h, σ) : Option Value × Int64 × cS))) (st := [.ref (la G k0)]) (st1 := (fun r2 : Int32 => [.int r2, .ref (la G k0)])) (rmf := 1) (rml := 22) [.int x2] k0 cal_X7_isNode q_10_3 ⟨Nat.le_of_ble_eq_true rfl, Nat.le_of_ble_eq_true rfl⟩ rfl rfl (Nat.le_of_ble_eq_true rfl) rfl hk0.1 (ce7 hk0.1 _ _) (ctX7_isNode (kl K) G X.2.2.2.2.2.2.2.1 h σ k0 hk0 x2) dX7_leastWith_11 (fun _ => rfl) (fun r2 => ?_)
    refine z_if_ne X 21 dX7_leastWith_14 (by decide) ?_ ?_
    · exact z_sub [0, 1, 2] rfl (sX7_leastWith_17 X Nf k0 hk0 h x1 x2 σ)
    · refine z_iconst (v := (0 : Int32)) X dX7_leastWith_21 (by decide) ?_
      exact z_sub [0, 1, 2] rfl (sX7_leastWith_22 X Nf k0 hk0 h x1 x2 (0 : Int32) σ)
def fX7_leastWith (L : Nat → Nat) (Nf : Nat) (σ : cS) (k0 : Nat) (x1 : Int32) (x2 : Int32) : Option (Int32 × cS) := fX7_leastWith_0 L Nf k0 x1 x2 σ
set_option maxHeartbeats 4000000 in
set_option maxRecDepth 100000 in
theorem ctX7_leastWith (l : Launch) (G : Lay) (hi : Inj G) (Nf : Nat) (h : Int64) (σ : cS) (k0 : Nat) (hk0 : isMod G k0) (x1 : Int32) (x2 : Int32) : ∀ r, fX7_leastWith (ll G) Nf σ k0 x1 x2 = some r → CM l yX7_leastWith cX7_leastWith 3 (some .int) 3 78 G [.ref (la G k0), .int x1, .int x2] h σ (some (.int r.1), h, r.2) := by
  refine cm_of (g := (fun r : (Int32 × cS) => ((some (.int r.1), h, r.2) : Option Value × Int64 × cS))) (by decide) hi (Nat.le_of_ble_eq_true rfl) (fun K hKl X => ?_)
  unfold fX7_leastWith
  exact z_sub [0, 1, 2] rfl (sX7_leastWith_0 X Nf k0 hk0 h x1 x2 σ)
def fX7_leastWithout_22 (L : Nat → Nat) (Nf : Nat) (k0 : Nat) (y0 : Int32) (σ : cS) : Option (Int32 × cS) := some (y0, σ)
set_option maxHeartbeats 4000000 in
set_option maxRecDepth 100000 in
theorem sX7_leastWithout_22 {K : MCx} {G : Lay} (X : Cx K G RX7 cX7_leastWithout 2 (some .int) 3 78) (Nf : Nat) (k0 : Nat) (hk0 : isMod G k0) (h : Int64) (y0 : Int32) (σ : cS) : Sm K G TT (QM K G (fun r : (Int32 × cS) => ((some (.int r.1), h, r.2) : Option Value × Int64 × cS))) 2 22 [] [.int y0] h σ (fX7_leastWithout_22 (ll G) Nf k0 y0 σ) := by
  unfold fX7_leastWithout_22
  exact z_iret X rfl dX7_leastWithout_22
def fX7_leastWithout_0 (L : Nat → Nat) (Nf : Nat) (k0 : Nat) (x1 : Int32) (σ : cS) : Option (Int32 × cS) := Option.bind (fX7_refusesEdge L Nf σ k0 x1) (fun r1 => if r1.1 = 0 then (Option.bind (fX7_placeOf L Nf r1.2 k0 x1) (fun r2 => Option.bind (fX7_leastOf L Nf r1.2 k0 r2 (0 : Int32)) (fun r3 => fX7_leastWithout_22 L Nf k0 r3 r1.2))) else (fX7_leastWithout_22 L Nf k0 (0 : Int32) r1.2))
set_option maxHeartbeats 4000000 in
set_option maxRecDepth 100000 in
theorem sX7_leastWithout_0 {K : MCx} {G : Lay} (X : Cx K G RX7 cX7_leastWithout 2 (some .int) 3 78) (Nf : Nat) (k0 : Nat) (hk0 : isMod G k0) (h : Int64) (x1 : Int32) (σ : cS) : Sm K G TT (QM K G (fun r : (Int32 × cS) => ((some (.int r.1), h, r.2) : Option Value × Int64 × cS))) 2 0 [(0, .ref (la G k0)), (1, .int x1)] [] h σ (fX7_leastWithout_0 (ll G) Nf k0 x1 σ) := by
  unfold fX7_leastWithout_0
  refine z_aload_n X dX7_leastWithout_0 0 rfl ?_
  refine z_iload_n X dX7_leastWithout_1 1 rfl ?_
  refine z_callV0 X (g := (fun r1 : (Int32 × cS) => ((some (.int r1.1), h, r1.2) : Option Value × Int64 × cS))) (st := []) (st1 := (fun r1 : (Int32 × cS) => [.int r1.1])) (rmf := 1) (rml := 23) [.int x1] k0 cal_X7_refusesEdge q_12_1 ⟨Nat.le_of_ble_eq_true rfl, Nat.le_of_ble_eq_true rfl⟩ rfl rfl (Nat.le_of_ble_eq_true rfl) rfl hk0.1 (ce7 hk0.1 _ _) (ctX7_refusesEdge (kl K) G X.2.2.2.2.2.2.2.1 Nf h σ k0 hk0 x1) dX7_leastWithout_2 (fun _ => rfl) (fun r1 => ?_)
  refine z_if_eq X 12 dX7_leastWithout_5 (by decide) ?_ ?_
  · refine z_aload_n X dX7_leastWithout_12 0 rfl ?_
    refine z_aload_n X dX7_leastWithout_13 0 rfl ?_
    refine z_iload_n X dX7_leastWithout_14 1 rfl ?_
    refine z_callV0 X (g := (fun r2 : Int32 => ((some (.int r2), h, r1.2) : Option Value × Int64 × cS))) (st := [.ref (la G k0)]) (st1 := (fun r2 : Int32 => [.int r2, .ref (la G k0)])) (rmf := 0) (rml := 0) [.int x1] k0 cal_X7_placeOf q_12_5 ⟨Nat.le_of_ble_eq_true rfl, Nat.le_of_ble_eq_true rfl⟩ rfl rfl (Nat.le_of_ble_eq_true rfl) rfl hk0.1 (ce7 hk0.1 _ _) (ctX7_placeOf (kl K) G X.2.2.2.2.2.2.2.1 Nf h r1.2 k0 hk0 x1) dX7_leastWithout_15 (fun _ => rfl) (fun r2 => ?_)
    refine z_iconst (v := (0 : Int32)) X dX7_leastWithout_18 (by decide) ?_
    refine z_callV0 X (g := (fun r3 : Int32 => ((some (.int r3), h, r1.2) : Option Value × Int64 × cS))) (st := []) (st1 := (fun r3 : Int32 => [.int r3])) (rmf := 2) (rml := 54) [.int r2, .int (0 : Int32)] k0 cal_X7_leastOf q_27_1 ⟨Nat.le_of_ble_eq_true rfl, Nat.le_of_ble_eq_true rfl⟩ rfl rfl (Nat.le_of_ble_eq_true rfl) rfl hk0.1 (ce7 hk0.1 _ _) (ctX7_leastOf (kl K) G X.2.2.2.2.2.2.2.1 Nf h r1.2 k0 hk0 r2 (0 : Int32)) dX7_leastWithout_19 (fun _ => rfl) (fun r3 => ?_)
    exact z_sub [] rfl (sX7_leastWithout_22 X Nf k0 hk0 h r3 r1.2)
  · refine z_iconst (v := (0 : Int32)) X dX7_leastWithout_8 (by decide) ?_
    refine z_goto X 22 dX7_leastWithout_9 (by decide) ?_
    exact z_sub [] rfl (sX7_leastWithout_22 X Nf k0 hk0 h (0 : Int32) r1.2)
def fX7_leastWithout (L : Nat → Nat) (Nf : Nat) (σ : cS) (k0 : Nat) (x1 : Int32) : Option (Int32 × cS) := fX7_leastWithout_0 L Nf k0 x1 σ
set_option maxHeartbeats 4000000 in
set_option maxRecDepth 100000 in
theorem ctX7_leastWithout (l : Launch) (G : Lay) (hi : Inj G) (Nf : Nat) (h : Int64) (σ : cS) (k0 : Nat) (hk0 : isMod G k0) (x1 : Int32) : ∀ r, fX7_leastWithout (ll G) Nf σ k0 x1 = some r → CM l yX7_leastWithout cX7_leastWithout 2 (some .int) 3 78 G [.ref (la G k0), .int x1] h σ (some (.int r.1), h, r.2) := by
  refine cm_of (g := (fun r : (Int32 × cS) => ((some (.int r.1), h, r.2) : Option Value × Int64 × cS))) (by decide) hi (Nat.le_of_ble_eq_true rfl) (fun K hKl X => ?_)
  unfold fX7_leastWithout
  exact z_sub [0, 1] rfl (sX7_leastWithout_0 X Nf k0 hk0 h x1 σ)
