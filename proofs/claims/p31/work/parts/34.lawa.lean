theorem q_17_1 : Cond.constantLong RL 74 (7) ∈ wsL_law := seg_17 _ (List.mem_of_getElem? (i := 1) rfl)
theorem q_17_2 : Cond.constantLong RL 76 (31) ∈ wsL_law := seg_17 _ (List.mem_of_getElem? (i := 2) rfl)
theorem q_23_19 : Cond.constant RL 8 (2147483647) ∈ wsL_law := seg_23 _ (List.mem_of_getElem? (i := 19) rfl)
def fL_low_0 (σ : cS) (x0 : Int32) (x1 : Int32)  : Option Int32 := grd (nz x1) (some ((x0 &&& (2147483647 : Int32)) - (x0 &&& (2147483647 : Int32)) / x1 * x1))
set_option maxHeartbeats 4000000 in
set_option maxRecDepth 100000 in
theorem sL_low_0 {K : MCx} {G : Lay} (X : Cx K G RL cL_low 2 (some .int) 0 0)  (h : Int64) (σ : cS) (x0 : Int32) (x1 : Int32) : Sm K G TT (QM K G (fun r : Int32 => ((some (.int r), h, σ) : Option Value × Int64 × cS))) 2 0 [(0, .int x0), (1, .int x1)] [] h σ (fL_low_0 σ x0 x1) := by
  unfold fL_low_0
  refine z_iload_n X dL_low_0 0 rfl ?_
  refine z_ldc X q_23_19 dL_low_1 ?_
  refine z_iand X dL_low_3 ?_
  refine z_iload_n X dL_low_4 1 rfl ?_
  refine z_irem X dL_low_5 ?_
  exact z_iret X rfl dL_low_6
def fL_low (σ : cS) (x0 : Int32) (x1 : Int32) : Option Int32 := fL_low_0 σ x0 x1
set_option maxHeartbeats 4000000 in
set_option maxRecDepth 100000 in
theorem ctL_low (l : Launch) (G : Lay) (hi : Inj G) (h : Int64) (σ : cS)  (x0 : Int32) (x1 : Int32) : ∀ r, fL_low σ x0 x1 = some r → CM l yL_low cL_low 2 (some .int) 0 0 G [.int x0, .int x1] h σ (some (.int r), h, σ) := by
  refine cm_of (g := (fun r : Int32 => ((some (.int r), h, σ) : Option Value × Int64 × cS))) (by decide) hi (Nat.le_of_ble_eq_true rfl) (fun K hKl X => ?_)
  unfold fL_low
  exact z_sub [0, 1] rfl (sL_low_0 X  h σ x0 x1)
def fL_print_109 (L : Nat → Nat) (Nf : Nat) (k0 : Nat) (self80 : Int64 → Int32 → cS → Option (Int64 × cS)) : Nat → Int64 → Int32 → Int32 → Int32 → cS → Option (Int64 × cS)
  | 0, _, _, _, _, _ => none
  | n + 1, x1, x3, x4, x5, σ => if (4 : Int32) ≤ x5 then (bnd (x3 + (1 : Int32)) (fun t1 => self80 x1 t1 σ)) else (ibn (fX6_edge L Nf σ k0 x4 x5) (fun r2 => bnd ((((31 : Int64) * x1) + r2.toInt64)) (fun t3 => bnd (x5 + (1 : Int32)) (fun t4 => fL_print_109 L Nf k0 self80 n t3 x3 x4 t4 σ))))
set_option maxHeartbeats 4000000 in
set_option maxRecDepth 100000 in
theorem sL_print_109 {K : MCx} {G : Lay} (X : Cx K G RL cL_print 6 (some .long) 8 135) (Nf : Nat) (k0 : Nat) (hk0 : isEH G k0) (h : Int64) (self80 : Int64 → Int32 → cS → Option (Int64 × cS)) (hself80 : ∀ (x1 : Int64) (x3 : Int32) (σ : cS), Sm K G TT (QM K G (fun r : (Int64 × cS) => ((some (.long r.1), h, r.2) : Option Value × Int64 × cS))) 6 80 [(0, .ref (la G k0)), (1, .long x1), (3, .int x3)] [] h σ (self80 x1 x3 σ)) : ∀ (n : Nat) (x1 : Int64) (x3 : Int32) (x4 : Int32) (x5 : Int32) (σ : cS), Sm K G TT (QM K G (fun r : (Int64 × cS) => ((some (.long r.1), h, r.2) : Option Value × Int64 × cS))) 6 109 [(0, .ref (la G k0)), (1, .long x1), (3, .int x3), (4, .int x4), (5, .int x5)] [] h σ (fL_print_109 (ll G) Nf k0 self80 n x1 x3 x4 x5 σ) := by
  intro n
  induction n with
  | zero => intros; exact z_none
  | succ n ih =>
    intro x1 x3 x4 x5 σ
    unfold fL_print_109
    refine z_iload X dL_print_109 4 rfl ?_
    refine z_iconst (v := (4 : Int32)) X dL_print_111 (by decide) ?_
    refine z_icmp_ge X 137 dL_print_112 (by decide) ?_ ?_
    · refine z_iinc X (fun t1 => [(3, .int t1), (0, .ref (la G k0)), (1, .long x1), (4, .int x4), (5, .int x5)]) dL_print_137 2 rfl (by decide) (by decide) (fun _ => rfl) (fun t1 => ?_)
      refine z_goto X 80 dL_print_140 (by decide) ?_
      exact z_sub [1, 2, 0] rfl (hself80 x1 t1 σ)
    · refine z_ldc2 X q_17_2 dL_print_115 ?_
      refine z_lload_n X dL_print_118 1 rfl ?_
      refine z_lmul X dL_print_119 ?_
      refine z_aload_n X dL_print_120 0 rfl ?_
      refine z_iload X dL_print_121 3 rfl ?_
      refine z_iload X dL_print_123 4 rfl ?_
      refine z_callVN X (g := (fun r2 : Int32 => ((some (.int r2), h, σ) : Option Value × Int64 × cS))) (st := [.long ((31 : Int64) * x1)]) (st1 := (fun r2 : Int32 => [.int r2, .long ((31 : Int64) * x1)])) (rmf := 7) (rml := 112) [.int x4, .int x5] k0 cal_X6_edge q_18_2 ⟨Nat.le_of_ble_eq_true rfl, Nat.le_of_ble_eq_true rfl⟩ rfl rfl (Nat.le_of_ble_eq_true rfl) rfl hk0.1 (ce6 hk0.1 _ _) (ctX6_edge_n (kl K) G X.2.2.2.2.2.2.2.1 Nf h σ k0 hk0 x4 x5) dL_print_125 (fun _ => rfl) (fun r2 => ?_)
      refine z_i2l X dL_print_128 ?_
      refine z_ladd X dL_print_129 ?_
      refine z_nml (fun t3 => ?_)
      refine z_lstore_n X [(1, .long t3), (0, .ref (la G k0)), (3, .int x3), (4, .int x4), (5, .int x5)] dL_print_130 (by decide) rfl ?_
      refine z_iinc X (fun t4 => [(5, .int t4), (1, .long t3), (0, .ref (la G k0)), (3, .int x3), (4, .int x4)]) dL_print_131 4 rfl (by decide) (by decide) (fun _ => rfl) (fun t4 => ?_)
      refine z_goto X 109 dL_print_134 (by decide) ?_
      exact z_sub [2, 1, 3, 4, 0] rfl (ih t3 x3 x4 t4 σ)
def fL_print_80 (L : Nat → Nat) (Nf : Nat) (k0 : Nat) : Nat → Int64 → Int32 → cS → Option (Int64 × cS)
  | 0, _, _, _ => none
  | n + 1, x1, x3, σ => ibn (fX6_value L Nf σ k0 (1 : Int32)) (fun r1 => if r1 ≤ x3 then (some (x1, σ)) else (ibn (fX6_edgeAt L σ k0 x3) (fun r2 => bnd ((((31 : Int64) * x1) + r2.toInt64)) (fun t3 => fL_print_109 L Nf k0 (fL_print_80 L Nf k0 n) Nf t3 x3 r2 (0 : Int32) σ))))
set_option maxHeartbeats 4000000 in
set_option maxRecDepth 100000 in
theorem sL_print_80 {K : MCx} {G : Lay} (X : Cx K G RL cL_print 6 (some .long) 8 135) (Nf : Nat) (k0 : Nat) (hk0 : isEH G k0) (h : Int64) : ∀ (n : Nat) (x1 : Int64) (x3 : Int32) (σ : cS), Sm K G TT (QM K G (fun r : (Int64 × cS) => ((some (.long r.1), h, r.2) : Option Value × Int64 × cS))) 6 80 [(0, .ref (la G k0)), (1, .long x1), (3, .int x3)] [] h σ (fL_print_80 (ll G) Nf k0 n x1 x3 σ) := by
  intro n
  induction n with
  | zero => intros; exact z_none
  | succ n ih =>
    intro x1 x3 σ
    unfold fL_print_80
    refine z_iload_n X dL_print_80 2 rfl ?_
    refine z_aload_n X dL_print_81 0 rfl ?_
    refine z_iconst (v := (1 : Int32)) X dL_print_82 (by decide) ?_
    refine z_callVN X (g := (fun r1 : Int32 => ((some (.int r1), h, σ) : Option Value × Int64 × cS))) (st := [.int x3]) (st1 := (fun r1 : Int32 => [.int r1, .int x3])) (rmf := 6) (rml := 90) [.int (1 : Int32)] k0 cal_X6_value q_6_2 ⟨Nat.le_of_ble_eq_true rfl, Nat.le_of_ble_eq_true rfl⟩ rfl rfl (Nat.le_of_ble_eq_true rfl) rfl hk0.1 (ce6 hk0.1 _ _) (ctX6_value_n (kl K) G X.2.2.2.2.2.2.2.1 Nf h σ k0 hk0 (1 : Int32)) dL_print_83 (fun _ => rfl) (fun r1 => ?_)
    refine z_icmp_ge X 143 dL_print_86 (by decide) ?_ ?_
    · refine z_lload_n X dL_print_143 1 rfl ?_
      exact z_lret X rfl dL_print_144
    · refine z_aload_n X dL_print_89 0 rfl ?_
      refine z_iload_n X dL_print_90 2 rfl ?_
      refine z_callVN X (g := (fun r2 : Int32 => ((some (.int r2), h, σ) : Option Value × Int64 × cS))) (st := []) (st1 := (fun r2 : Int32 => [.int r2])) (rmf := 6) (rml := 90) [.int x3] k0 cal_X6_edgeAt q_17_22 ⟨Nat.le_of_ble_eq_true rfl, Nat.le_of_ble_eq_true rfl⟩ rfl rfl (Nat.le_of_ble_eq_true rfl) rfl hk0.1 (ce6 hk0.1 _ _) (ctX6_edgeAt_n (kl K) G X.2.2.2.2.2.2.2.1 h σ k0 hk0 x3) dL_print_91 (fun _ => rfl) (fun r2 => ?_)
      refine z_istore X [(4, .int r2), (0, .ref (la G k0)), (1, .long x1), (3, .int x3)] dL_print_94 (by decide) rfl ?_
      refine z_ldc2 X q_17_2 dL_print_96 ?_
      refine z_lload_n X dL_print_99 2 rfl ?_
      refine z_lmul X dL_print_100 ?_
      refine z_iload X dL_print_101 0 rfl ?_
      refine z_i2l X dL_print_103 ?_
      refine z_ladd X dL_print_104 ?_
      refine z_nml (fun t3 => ?_)
      refine z_lstore_n X [(1, .long t3), (4, .int r2), (0, .ref (la G k0)), (3, .int x3)] dL_print_105 (by decide) rfl ?_
      refine z_iconst (v := (0 : Int32)) X dL_print_106 (by decide) ?_
      refine z_istore X [(5, .int (0 : Int32)), (1, .long t3), (4, .int r2), (0, .ref (la G k0)), (3, .int x3)] dL_print_107 (by decide) rfl ?_
      exact z_sub [3, 1, 4, 2, 0] rfl (sL_print_109 X Nf k0 hk0 h (fL_print_80 (ll G) Nf k0 n) ih Nf t3 x3 r2 (0 : Int32) σ)
def fL_print_45 (L : Nat → Nat) (Nf : Nat) (k0 : Nat) (self33 : Int64 → Int32 → cS → Option (Int64 × cS)) : Nat → Int64 → Int32 → Int32 → cS → Option (Int64 × cS)
  | 0, _, _, _, _ => none
  | n + 1, x1, x3, x4, σ => if (5 : Int32) ≤ x4 then (bnd (x3 + (1 : Int32)) (fun t1 => self33 x1 t1 σ)) else (ibn (fX6_node L Nf σ k0 x3 x4) (fun r2 => bnd ((((31 : Int64) * x1) + r2.1.toInt64)) (fun t3 => bnd (x4 + (1 : Int32)) (fun t4 => fL_print_45 L Nf k0 self33 n t3 x3 t4 r2.2))))
set_option maxHeartbeats 4000000 in
set_option maxRecDepth 100000 in
theorem sL_print_45 {K : MCx} {G : Lay} (X : Cx K G RL cL_print 6 (some .long) 8 135) (Nf : Nat) (k0 : Nat) (hk0 : isEH G k0) (h : Int64) (self33 : Int64 → Int32 → cS → Option (Int64 × cS)) (hself33 : ∀ (x1 : Int64) (x3 : Int32) (σ : cS), Sm K G TT (QM K G (fun r : (Int64 × cS) => ((some (.long r.1), h, r.2) : Option Value × Int64 × cS))) 6 33 [(0, .ref (la G k0)), (1, .long x1), (3, .int x3)] [] h σ (self33 x1 x3 σ)) : ∀ (n : Nat) (x1 : Int64) (x3 : Int32) (x4 : Int32) (σ : cS), Sm K G TT (QM K G (fun r : (Int64 × cS) => ((some (.long r.1), h, r.2) : Option Value × Int64 × cS))) 6 45 [(0, .ref (la G k0)), (1, .long x1), (3, .int x3), (4, .int x4)] [] h σ (fL_print_45 (ll G) Nf k0 self33 n x1 x3 x4 σ) := by
  intro n
  induction n with
  | zero => intros; exact z_none
  | succ n ih =>
    intro x1 x3 x4 σ
    unfold fL_print_45
    refine z_iload X dL_print_45 3 rfl ?_
    refine z_iconst (v := (5 : Int32)) X dL_print_47 (by decide) ?_
    refine z_icmp_ge X 72 dL_print_48 (by decide) ?_ ?_
    · refine z_iinc X (fun t1 => [(3, .int t1), (0, .ref (la G k0)), (1, .long x1), (4, .int x4)]) dL_print_72 2 rfl (by decide) (by decide) (fun _ => rfl) (fun t1 => ?_)
      refine z_goto X 33 dL_print_75 (by decide) ?_
      exact z_sub [1, 2, 0] rfl (hself33 x1 t1 σ)
    · refine z_ldc2 X q_17_2 dL_print_51 ?_
      refine z_lload_n X dL_print_54 1 rfl ?_
      refine z_lmul X dL_print_55 ?_
      refine z_aload_n X dL_print_56 0 rfl ?_
      refine z_iload_n X dL_print_57 2 rfl ?_
      refine z_iload X dL_print_58 3 rfl ?_
      refine z_callVN X (g := (fun r2 : (Int32 × cS) => ((some (.int r2.1), h, r2.2) : Option Value × Int64 × cS))) (st := [.long ((31 : Int64) * x1)]) (st1 := (fun r2 : (Int32 × cS) => [.int r2.1, .long ((31 : Int64) * x1)])) (rmf := 7) (rml := 111) [.int x3, .int x4] k0 cal_X6_node q_17_3 ⟨Nat.le_of_ble_eq_true rfl, Nat.le_of_ble_eq_true rfl⟩ rfl rfl (Nat.le_of_ble_eq_true rfl) rfl hk0.1 (ce6 hk0.1 _ _) (ctX6_node_n (kl K) G X.2.2.2.2.2.2.2.1 Nf h σ k0 hk0 x3 x4) dL_print_60 (fun _ => rfl) (fun r2 => ?_)
      refine z_i2l X dL_print_63 ?_
      refine z_ladd X dL_print_64 ?_
      refine z_nml (fun t3 => ?_)
      refine z_lstore_n X [(1, .long t3), (0, .ref (la G k0)), (3, .int x3), (4, .int x4)] dL_print_65 (by decide) rfl ?_
      refine z_iinc X (fun t4 => [(4, .int t4), (1, .long t3), (0, .ref (la G k0)), (3, .int x3)]) dL_print_66 3 rfl (by decide) (by decide) (fun _ => rfl) (fun t4 => ?_)
      refine z_goto X 45 dL_print_69 (by decide) ?_
      exact z_sub [2, 1, 3, 0] rfl (ih t3 x3 t4 r2.2)
def fL_print_33 (L : Nat → Nat) (Nf : Nat) (k0 : Nat) : Nat → Int64 → Int32 → cS → Option (Int64 × cS)
  | 0, _, _, _ => none
  | n + 1, x1, x3, σ => ibn (fX6_value L Nf σ k0 (0 : Int32)) (fun r1 => if r1 ≤ x3 then (fL_print_80 L Nf k0 Nf x1 (0 : Int32) σ) else (fL_print_45 L Nf k0 (fL_print_33 L Nf k0 n) Nf x1 x3 (0 : Int32) σ))
set_option maxHeartbeats 4000000 in
set_option maxRecDepth 100000 in
theorem sL_print_33 {K : MCx} {G : Lay} (X : Cx K G RL cL_print 6 (some .long) 8 135) (Nf : Nat) (k0 : Nat) (hk0 : isEH G k0) (h : Int64) : ∀ (n : Nat) (x1 : Int64) (x3 : Int32) (σ : cS), Sm K G TT (QM K G (fun r : (Int64 × cS) => ((some (.long r.1), h, r.2) : Option Value × Int64 × cS))) 6 33 [(0, .ref (la G k0)), (1, .long x1), (3, .int x3)] [] h σ (fL_print_33 (ll G) Nf k0 n x1 x3 σ) := by
  intro n
  induction n with
  | zero => intros; exact z_none
  | succ n ih =>
    intro x1 x3 σ
    unfold fL_print_33
    refine z_iload_n X dL_print_33 2 rfl ?_
    refine z_aload_n X dL_print_34 0 rfl ?_
    refine z_iconst (v := (0 : Int32)) X dL_print_35 (by decide) ?_
    refine z_callVN X (g := (fun r1 : Int32 => ((some (.int r1), h, σ) : Option Value × Int64 × cS))) (st := [.int x3]) (st1 := (fun r1 : Int32 => [.int r1, .int x3])) (rmf := 6) (rml := 90) [.int (0 : Int32)] k0 cal_X6_value q_6_2 ⟨Nat.le_of_ble_eq_true rfl, Nat.le_of_ble_eq_true rfl⟩ rfl rfl (Nat.le_of_ble_eq_true rfl) rfl hk0.1 (ce6 hk0.1 _ _) (ctX6_value_n (kl K) G X.2.2.2.2.2.2.2.1 Nf h σ k0 hk0 (0 : Int32)) dL_print_36 (fun _ => rfl) (fun r1 => ?_)
    refine z_icmp_ge X 78 dL_print_39 (by decide) ?_ ?_
    · refine z_iconst (v := (0 : Int32)) X dL_print_78 (by decide) ?_
      refine z_istore_n X [(3, .int (0 : Int32)), (0, .ref (la G k0)), (1, .long x1)] dL_print_79 (by decide) rfl ?_
      exact z_sub [1, 2, 0] rfl (sL_print_80 X Nf k0 hk0 h Nf x1 (0 : Int32) σ)
    · refine z_iconst (v := (0 : Int32)) X dL_print_42 (by decide) ?_
      refine z_istore X [(4, .int (0 : Int32)), (0, .ref (la G k0)), (1, .long x1), (3, .int x3)] dL_print_43 (by decide) rfl ?_
      exact z_sub [1, 2, 3, 0] rfl (sL_print_45 X Nf k0 hk0 h (fL_print_33 (ll G) Nf k0 n) ih Nf x1 x3 (0 : Int32) σ)
def fL_print_6 (L : Nat → Nat) (Nf : Nat) (k0 : Nat) : Nat → Int64 → Int32 → cS → Option (Int64 × cS)
  | 0, _, _, _ => none
  | n + 1, x1, x3, σ => if (8 : Int32) ≤ x3 then (fL_print_33 L Nf k0 Nf x1 (0 : Int32) σ) else (ibn (fX6_value L Nf σ k0 x3) (fun r1 => bnd ((((31 : Int64) * x1) + r1.toInt64)) (fun t2 => bnd (x3 + (1 : Int32)) (fun t3 => fL_print_6 L Nf k0 n t2 t3 σ))))
set_option maxHeartbeats 4000000 in
set_option maxRecDepth 100000 in
theorem sL_print_6 {K : MCx} {G : Lay} (X : Cx K G RL cL_print 6 (some .long) 8 135) (Nf : Nat) (k0 : Nat) (hk0 : isEH G k0) (h : Int64) : ∀ (n : Nat) (x1 : Int64) (x3 : Int32) (σ : cS), Sm K G TT (QM K G (fun r : (Int64 × cS) => ((some (.long r.1), h, r.2) : Option Value × Int64 × cS))) 6 6 [(0, .ref (la G k0)), (1, .long x1), (3, .int x3)] [] h σ (fL_print_6 (ll G) Nf k0 n x1 x3 σ) := by
  intro n
  induction n with
  | zero => intros; exact z_none
  | succ n ih =>
    intro x1 x3 σ
    unfold fL_print_6
    refine z_iload_n X dL_print_6 2 rfl ?_
    refine z_bipush (v := (8 : Int32)) X dL_print_7 (by decide) ?_
    refine z_icmp_ge X 31 dL_print_9 (by decide) ?_ ?_
    · refine z_iconst (v := (0 : Int32)) X dL_print_31 (by decide) ?_
      refine z_istore_n X [(3, .int (0 : Int32)), (0, .ref (la G k0)), (1, .long x1)] dL_print_32 (by decide) rfl ?_
      exact z_sub [1, 2, 0] rfl (sL_print_33 X Nf k0 hk0 h Nf x1 (0 : Int32) σ)
    · refine z_ldc2 X q_17_2 dL_print_12 ?_
      refine z_lload_n X dL_print_15 1 rfl ?_
      refine z_lmul X dL_print_16 ?_
      refine z_aload_n X dL_print_17 0 rfl ?_
      refine z_iload_n X dL_print_18 2 rfl ?_
      refine z_callVN X (g := (fun r1 : Int32 => ((some (.int r1), h, σ) : Option Value × Int64 × cS))) (st := [.long ((31 : Int64) * x1)]) (st1 := (fun r1 : Int32 => [.int r1, .long ((31 : Int64) * x1)])) (rmf := 6) (rml := 90) [.int x3] k0 cal_X6_value q_6_2 ⟨Nat.le_of_ble_eq_true rfl, Nat.le_of_ble_eq_true rfl⟩ rfl rfl (Nat.le_of_ble_eq_true rfl) rfl hk0.1 (ce6 hk0.1 _ _) (ctX6_value_n (kl K) G X.2.2.2.2.2.2.2.1 Nf h σ k0 hk0 x3) dL_print_19 (fun _ => rfl) (fun r1 => ?_)
      refine z_i2l X dL_print_22 ?_
      refine z_ladd X dL_print_23 ?_
      refine z_nml (fun t2 => ?_)
      refine z_lstore_n X [(1, .long t2), (0, .ref (la G k0)), (3, .int x3)] dL_print_24 (by decide) rfl ?_
      refine z_iinc X (fun t3 => [(3, .int t3), (1, .long t2), (0, .ref (la G k0))]) dL_print_25 2 rfl (by decide) (by decide) (fun _ => rfl) (fun t3 => ?_)
      refine z_goto X 6 dL_print_28 (by decide) ?_
      exact z_sub [2, 1, 0] rfl (ih t2 t3 σ)
def fL_print_0 (L : Nat → Nat) (Nf : Nat) (k0 : Nat) (σ : cS) : Option (Int64 × cS) := fL_print_6 L Nf k0 Nf (7 : Int64) (0 : Int32) σ
set_option maxHeartbeats 4000000 in
set_option maxRecDepth 100000 in
theorem sL_print_0 {K : MCx} {G : Lay} (X : Cx K G RL cL_print 6 (some .long) 8 135) (Nf : Nat) (k0 : Nat) (hk0 : isEH G k0) (h : Int64) (σ : cS) : Sm K G TT (QM K G (fun r : (Int64 × cS) => ((some (.long r.1), h, r.2) : Option Value × Int64 × cS))) 6 0 [(0, .ref (la G k0))] [] h σ (fL_print_0 (ll G) Nf k0 σ) := by
  unfold fL_print_0
  refine z_ldc2 X q_17_1 dL_print_0 ?_
  refine z_lstore_n X [(1, .long (7 : Int64)), (0, .ref (la G k0))] dL_print_3 (by decide) rfl ?_
  refine z_iconst (v := (0 : Int32)) X dL_print_4 (by decide) ?_
  refine z_istore_n X [(3, .int (0 : Int32)), (1, .long (7 : Int64)), (0, .ref (la G k0))] dL_print_5 (by decide) rfl ?_
  exact z_sub [2, 1, 0] rfl (sL_print_6 X Nf k0 hk0 h Nf (7 : Int64) (0 : Int32) σ)
def fL_print (L : Nat → Nat) (Nf : Nat) (σ : cS) (k0 : Nat) : Option (Int64 × cS) := fL_print_0 L Nf k0 σ
set_option maxHeartbeats 4000000 in
set_option maxRecDepth 100000 in
theorem ctL_print (l : Launch) (G : Lay) (hi : Inj G) (Nf : Nat) (h : Int64) (σ : cS) (k0 : Nat) (hk0 : isEH G k0) : ∀ r, fL_print (ll G) Nf σ k0 = some r → CM l yL_print cL_print 6 (some .long) 8 135 G [.ref (la G k0)] h σ (some (.long r.1), h, r.2) := by
  refine cm_of (g := (fun r : (Int64 × cS) => ((some (.long r.1), h, r.2) : Option Value × Int64 × cS))) (by decide) hi (Nat.le_of_ble_eq_true rfl) (fun K hKl X => ?_)
  unfold fL_print
  exact z_sub [0] rfl (sL_print_0 X Nf k0 hk0 h σ)
