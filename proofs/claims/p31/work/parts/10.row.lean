theorem q_3_1 : Cond.fieldLink RX4 7 "EdgeHolders$Row" "cells" "[I" ∈ wsL_law := seg_3 _ (List.mem_of_getElem? (i := 1) rfl)
def fX4_get_23 (L : Nat → Nat) (σ : cS) (k0 : Nat) (y0 : Int32)  : Option Int32 := some y0
set_option maxHeartbeats 4000000 in
set_option maxRecDepth 100000 in
theorem sX4_get_23 {K : MCx} {G : Lay} (X : Cx K G RX4 cX4_get 2 (some .int) 0 0) (k0 : Nat) (hk0 : isRow G k0) (h : Int64) (σ : cS) (y0 : Int32) : Sm K G TT (QM K G (fun r : Int32 => ((some (.int r), h, σ) : Option Value × Int64 × cS))) 2 23 [] [.int y0] h σ (fX4_get_23 (ll G) σ k0 y0) := by
  unfold fX4_get_23
  exact z_iret X rfl dX4_get_23
def fX4_get_22 (L : Nat → Nat) (σ : cS) (k0 : Nat)  : Option Int32 := fX4_get_23 L σ k0 (0 : Int32)
set_option maxHeartbeats 4000000 in
set_option maxRecDepth 100000 in
theorem sX4_get_22 {K : MCx} {G : Lay} (X : Cx K G RX4 cX4_get 2 (some .int) 0 0) (k0 : Nat) (hk0 : isRow G k0) (h : Int64) (σ : cS) : Sm K G TT (QM K G (fun r : Int32 => ((some (.int r), h, σ) : Option Value × Int64 × cS))) 2 22 [] [] h σ (fX4_get_22 (ll G) σ k0) := by
  unfold fX4_get_22
  refine z_iconst (v := (0 : Int32)) X dX4_get_22 (by decide) ?_
  exact z_sub [] rfl (sX4_get_23 X k0 hk0 h σ (0 : Int32))
def fX4_get_0 (L : Nat → Nat) (σ : cS) (k0 : Nat) (x1 : Int32)  : Option Int32 := if x1 < 0 then (fX4_get_22 L σ k0) else (if (Int32.ofNat (L (k0 + 1))) ≤ x1 then (fX4_get_22 L σ k0) else (grd (inb x1 (L (k0 + 1))) (fX4_get_23 L σ k0 (σ (k0 + 1) x1.toNatClampNeg))))
set_option maxHeartbeats 4000000 in
set_option maxRecDepth 100000 in
theorem sX4_get_0 {K : MCx} {G : Lay} (X : Cx K G RX4 cX4_get 2 (some .int) 0 0) (k0 : Nat) (hk0 : isRow G k0) (h : Int64) (σ : cS) (x1 : Int32) : Sm K G TT (QM K G (fun r : Int32 => ((some (.int r), h, σ) : Option Value × Int64 × cS))) 2 0 [(0, .ref (la G k0)), (1, .int x1)] [] h σ (fX4_get_0 (ll G) σ k0 x1) := by
  unfold fX4_get_0
  refine z_iload_n X dX4_get_0 1 rfl ?_
  refine z_if_lt X 22 dX4_get_1 (by decide) ?_ ?_
  · exact z_sub [] rfl (sX4_get_22 X k0 hk0 h σ)
  · refine z_iload_n X dX4_get_4 1 rfl ?_
    refine z_aload_n X dX4_get_5 0 rfl ?_
    refine z_get X inlX4 rfl hk0.1 (ce4 hk0.1 _ _) 0 (by decide) q_3_1 rfl dX4_get_6 ?_
    refine z_alen X hk0.2 dX4_get_9 ?_
    refine z_icmp_ge X 22 dX4_get_10 (by decide) ?_ ?_
    · exact z_sub [] rfl (sX4_get_22 X k0 hk0 h σ)
    · refine z_aload_n X dX4_get_13 0 rfl ?_
      refine z_get X inlX4 rfl hk0.1 (ce4 hk0.1 _ _) 0 (by decide) q_3_1 rfl dX4_get_14 ?_
      refine z_iload_n X dX4_get_17 1 rfl ?_
      refine z_iald X hk0.2 dX4_get_18 ?_
      refine z_goto X 23 dX4_get_19 (by decide) ?_
      exact z_sub [] rfl (sX4_get_23 X k0 hk0 h σ (σ (k0 + 1) x1.toNatClampNeg))
def fX4_get (L : Nat → Nat) (σ : cS) (k0 : Nat) (x1 : Int32) : Option Int32 := fX4_get_0 L σ k0 x1
set_option maxHeartbeats 4000000 in
set_option maxRecDepth 100000 in
theorem ctX4_get (l : Launch) (G : Lay) (hi : Inj G) (h : Int64) (σ : cS) (k0 : Nat) (hk0 : isRow G k0) (x1 : Int32) : ∀ r, fX4_get (ll G) σ k0 x1 = some r → CM l yX4_get cX4_get 2 (some .int) 0 0 G [.ref (la G k0), .int x1] h σ (some (.int r), h, σ) := by
  refine cm_of (g := (fun r : Int32 => ((some (.int r), h, σ) : Option Value × Int64 × cS))) (by decide) hi (Nat.le_of_ble_eq_true rfl) (fun K hKl X => ?_)
  unfold fX4_get
  exact z_sub [0, 1] rfl (sX4_get_0 X k0 hk0 h σ x1)
def fX4_set_20 (L : Nat → Nat) (k0 : Nat) (σ : cS) : Option cS := some σ
set_option maxHeartbeats 4000000 in
set_option maxRecDepth 100000 in
theorem sX4_set_20 {K : MCx} {G : Lay} (X : Cx K G RX4 cX4_set 3 none 0 0) (k0 : Nat) (hk0 : isRow G k0) (h : Int64) (σ : cS) : Sm K G TT (QM K G (fun r : cS => ((none, h, r) : Option Value × Int64 × cS))) 3 20 [] [] h σ (fX4_set_20 (ll G) k0 σ) := by
  unfold fX4_set_20
  exact z_vret X rfl dX4_set_20
def fX4_set_0 (L : Nat → Nat) (k0 : Nat) (x1 : Int32) (x2 : Int32) (σ : cS) : Option cS := if x1 < 0 then (fX4_set_20 L k0 σ) else (if (Int32.ofNat (L (k0 + 1))) ≤ x1 then (fX4_set_20 L k0 σ) else (grd (inb x1 (L (k0 + 1))) (bnd (st2 σ (k0 + 1) x1.toNatClampNeg x2) (fun σ1 => fX4_set_20 L k0 σ1))))
set_option maxHeartbeats 4000000 in
set_option maxRecDepth 100000 in
theorem sX4_set_0 {K : MCx} {G : Lay} (X : Cx K G RX4 cX4_set 3 none 0 0) (k0 : Nat) (hk0 : isRow G k0) (h : Int64) (x1 : Int32) (x2 : Int32) (σ : cS) : Sm K G TT (QM K G (fun r : cS => ((none, h, r) : Option Value × Int64 × cS))) 3 0 [(0, .ref (la G k0)), (1, .int x1), (2, .int x2)] [] h σ (fX4_set_0 (ll G) k0 x1 x2 σ) := by
  unfold fX4_set_0
  refine z_iload_n X dX4_set_0 1 rfl ?_
  refine z_if_lt X 20 dX4_set_1 (by decide) ?_ ?_
  · exact z_sub [] rfl (sX4_set_20 X k0 hk0 h σ)
  · refine z_iload_n X dX4_set_4 1 rfl ?_
    refine z_aload_n X dX4_set_5 0 rfl ?_
    refine z_get X inlX4 rfl hk0.1 (ce4 hk0.1 _ _) 0 (by decide) q_3_1 rfl dX4_set_6 ?_
    refine z_alen X hk0.2 dX4_set_9 ?_
    refine z_icmp_ge X 20 dX4_set_10 (by decide) ?_ ?_
    · exact z_sub [] rfl (sX4_set_20 X k0 hk0 h σ)
    · refine z_aload_n X dX4_set_13 0 rfl ?_
      refine z_get X inlX4 rfl hk0.1 (ce4 hk0.1 _ _) 0 (by decide) q_3_1 rfl dX4_set_14 ?_
      refine z_iload_n X dX4_set_17 1 rfl ?_
      refine z_iload_n X dX4_set_18 2 rfl ?_
      refine z_iast X hk0.2 dX4_set_19 (fun σ1 => ?_)
      exact z_sub [] rfl (sX4_set_20 X k0 hk0 h σ1)
def fX4_set (L : Nat → Nat) (σ : cS) (k0 : Nat) (x1 : Int32) (x2 : Int32) : Option cS := fX4_set_0 L k0 x1 x2 σ
set_option maxHeartbeats 4000000 in
set_option maxRecDepth 100000 in
theorem ctX4_set (l : Launch) (G : Lay) (hi : Inj G) (h : Int64) (σ : cS) (k0 : Nat) (hk0 : isRow G k0) (x1 : Int32) (x2 : Int32) : ∀ r, fX4_set (ll G) σ k0 x1 x2 = some r → CM l yX4_set cX4_set 3 none 0 0 G [.ref (la G k0), .int x1, .int x2] h σ (none, h, r) := by
  refine cm_of (g := (fun r : cS => ((none, h, r) : Option Value × Int64 × cS))) (by decide) hi (Nat.le_of_ble_eq_true rfl) (fun K hKl X => ?_)
  unfold fX4_set
  exact z_sub [0, 1, 2] rfl (sX4_set_0 X k0 hk0 h x1 x2 σ)
def fX4_increase_23 (L : Nat → Nat) (k0 : Nat) (σ : cS) : Option cS := some σ
set_option maxHeartbeats 4000000 in
set_option maxRecDepth 100000 in
theorem sX4_increase_23 {K : MCx} {G : Lay} (X : Cx K G RX4 cX4_increase 3 none 0 0) (k0 : Nat) (hk0 : isRow G k0) (h : Int64) (σ : cS) : Sm K G TT (QM K G (fun r : cS => ((none, h, r) : Option Value × Int64 × cS))) 3 23 [] [] h σ (fX4_increase_23 (ll G) k0 σ) := by
  unfold fX4_increase_23
  exact z_vret X rfl dX4_increase_23
def fX4_increase_0 (L : Nat → Nat) (k0 : Nat) (x1 : Int32) (x2 : Int32) (σ : cS) : Option cS := if x1 < 0 then (fX4_increase_23 L k0 σ) else (if (Int32.ofNat (L (k0 + 1))) ≤ x1 then (fX4_increase_23 L k0 σ) else (grd (inb x1 (L (k0 + 1))) (grd (inb x1 (L (k0 + 1))) (bnd (st2 σ (k0 + 1) x1.toNatClampNeg ((σ (k0 + 1) x1.toNatClampNeg) + x2)) (fun σ1 => fX4_increase_23 L k0 σ1)))))
set_option maxHeartbeats 4000000 in
set_option maxRecDepth 100000 in
theorem sX4_increase_0 {K : MCx} {G : Lay} (X : Cx K G RX4 cX4_increase 3 none 0 0) (k0 : Nat) (hk0 : isRow G k0) (h : Int64) (x1 : Int32) (x2 : Int32) (σ : cS) : Sm K G TT (QM K G (fun r : cS => ((none, h, r) : Option Value × Int64 × cS))) 3 0 [(0, .ref (la G k0)), (1, .int x1), (2, .int x2)] [] h σ (fX4_increase_0 (ll G) k0 x1 x2 σ) := by
  unfold fX4_increase_0
  refine z_iload_n X dX4_increase_0 1 rfl ?_
  refine z_if_lt X 23 dX4_increase_1 (by decide) ?_ ?_
  · exact z_sub [] rfl (sX4_increase_23 X k0 hk0 h σ)
  · refine z_iload_n X dX4_increase_4 1 rfl ?_
    refine z_aload_n X dX4_increase_5 0 rfl ?_
    refine z_get X inlX4 rfl hk0.1 (ce4 hk0.1 _ _) 0 (by decide) q_3_1 rfl dX4_increase_6 ?_
    refine z_alen X hk0.2 dX4_increase_9 ?_
    refine z_icmp_ge X 23 dX4_increase_10 (by decide) ?_ ?_
    · exact z_sub [] rfl (sX4_increase_23 X k0 hk0 h σ)
    · refine z_aload_n X dX4_increase_13 0 rfl ?_
      refine z_get X inlX4 rfl hk0.1 (ce4 hk0.1 _ _) 0 (by decide) q_3_1 rfl dX4_increase_14 ?_
      refine z_iload_n X dX4_increase_17 1 rfl ?_
      refine z_dup2 X dX4_increase_18 rfl rfl ?_
      refine z_iald X hk0.2 dX4_increase_19 ?_
      refine z_iload_n X dX4_increase_20 2 rfl ?_
      refine z_iadd X dX4_increase_21 ?_
      refine z_iast X hk0.2 dX4_increase_22 (fun σ1 => ?_)
      exact z_sub [] rfl (sX4_increase_23 X k0 hk0 h σ1)
def fX4_increase (L : Nat → Nat) (σ : cS) (k0 : Nat) (x1 : Int32) (x2 : Int32) : Option cS := fX4_increase_0 L k0 x1 x2 σ
set_option maxHeartbeats 4000000 in
set_option maxRecDepth 100000 in
theorem ctX4_increase (l : Launch) (G : Lay) (hi : Inj G) (h : Int64) (σ : cS) (k0 : Nat) (hk0 : isRow G k0) (x1 : Int32) (x2 : Int32) : ∀ r, fX4_increase (ll G) σ k0 x1 x2 = some r → CM l yX4_increase cX4_increase 3 none 0 0 G [.ref (la G k0), .int x1, .int x2] h σ (none, h, r) := by
  refine cm_of (g := (fun r : cS => ((none, h, r) : Option Value × Int64 × cS))) (by decide) hi (Nat.le_of_ble_eq_true rfl) (fun K hKl X => ?_)
  unfold fX4_increase
  exact z_sub [0, 1, 2] rfl (sX4_increase_0 X k0 hk0 h x1 x2 σ)
def fX4_fill_2 (L : Nat → Nat) (Nf : Nat) (k0 : Nat) : Nat → Int32 → Int32 → cS → Option cS
  | 0, _, _, _ => none
  | n + 1, x1, x2, σ => if (Int32.ofNat (L (k0 + 1))) ≤ x2 then (some σ) else (grd (inb x2 (L (k0 + 1))) (bnd (st2 σ (k0 + 1) x2.toNatClampNeg x1) (fun σ1 => bnd (x2 + (1 : Int32)) (fun t2 => fX4_fill_2 L Nf k0 n x1 t2 σ1))))
set_option maxHeartbeats 4000000 in
set_option maxRecDepth 100000 in
theorem sX4_fill_2 {K : MCx} {G : Lay} (X : Cx K G RX4 cX4_fill 3 none 0 0) (Nf : Nat) (k0 : Nat) (hk0 : isRow G k0) (h : Int64) : ∀ (n : Nat) (x1 : Int32) (x2 : Int32) (σ : cS), Sm K G TT (QM K G (fun r : cS => ((none, h, r) : Option Value × Int64 × cS))) 3 2 [(0, .ref (la G k0)), (1, .int x1), (2, .int x2)] [] h σ (fX4_fill_2 (ll G) Nf k0 n x1 x2 σ) := by
  intro n
  induction n with
  | zero => intros; exact z_none
  | succ n ih =>
    intro x1 x2 σ
    unfold fX4_fill_2
    refine z_iload_n X dX4_fill_2 2 rfl ?_
    refine z_aload_n X dX4_fill_3 0 rfl ?_
    refine z_get X inlX4 rfl hk0.1 (ce4 hk0.1 _ _) 0 (by decide) q_3_1 rfl dX4_fill_4 ?_
    refine z_alen X hk0.2 dX4_fill_7 ?_
    refine z_icmp_ge X 24 dX4_fill_8 (by decide) ?_ ?_
    · exact z_vret X rfl dX4_fill_24
    · refine z_aload_n X dX4_fill_11 0 rfl ?_
      refine z_get X inlX4 rfl hk0.1 (ce4 hk0.1 _ _) 0 (by decide) q_3_1 rfl dX4_fill_12 ?_
      refine z_iload_n X dX4_fill_15 2 rfl ?_
      refine z_iload_n X dX4_fill_16 1 rfl ?_
      refine z_iast X hk0.2 dX4_fill_17 (fun σ1 => ?_)
      refine z_iinc X (fun t2 => [(2, .int t2), (0, .ref (la G k0)), (1, .int x1)]) dX4_fill_18 2 rfl (by decide) (by decide) (fun _ => rfl) (fun t2 => ?_)
      refine z_goto X 2 dX4_fill_21 (by decide) ?_
      exact z_sub [1, 2, 0] rfl (ih x1 t2 σ1)
def fX4_fill_0 (L : Nat → Nat) (Nf : Nat) (k0 : Nat) (x1 : Int32) (σ : cS) : Option cS := fX4_fill_2 L Nf k0 Nf x1 (0 : Int32) σ
set_option maxHeartbeats 4000000 in
set_option maxRecDepth 100000 in
theorem sX4_fill_0 {K : MCx} {G : Lay} (X : Cx K G RX4 cX4_fill 3 none 0 0) (Nf : Nat) (k0 : Nat) (hk0 : isRow G k0) (h : Int64) (x1 : Int32) (σ : cS) : Sm K G TT (QM K G (fun r : cS => ((none, h, r) : Option Value × Int64 × cS))) 3 0 [(0, .ref (la G k0)), (1, .int x1)] [] h σ (fX4_fill_0 (ll G) Nf k0 x1 σ) := by
  unfold fX4_fill_0
  refine z_iconst (v := (0 : Int32)) X dX4_fill_0 (by decide) ?_
  refine z_istore_n X [(2, .int (0 : Int32)), (0, .ref (la G k0)), (1, .int x1)] dX4_fill_1 (by decide) rfl ?_
  exact z_sub [1, 2, 0] rfl (sX4_fill_2 X Nf k0 hk0 h Nf x1 (0 : Int32) σ)
def fX4_fill (L : Nat → Nat) (Nf : Nat) (σ : cS) (k0 : Nat) (x1 : Int32) : Option cS := fX4_fill_0 L Nf k0 x1 σ
set_option maxHeartbeats 4000000 in
set_option maxRecDepth 100000 in
theorem ctX4_fill (l : Launch) (G : Lay) (hi : Inj G) (Nf : Nat) (h : Int64) (σ : cS) (k0 : Nat) (hk0 : isRow G k0) (x1 : Int32) : ∀ r, fX4_fill (ll G) Nf σ k0 x1 = some r → CM l yX4_fill cX4_fill 3 none 0 0 G [.ref (la G k0), .int x1] h σ (none, h, r) := by
  refine cm_of (g := (fun r : cS => ((none, h, r) : Option Value × Int64 × cS))) (by decide) hi (Nat.le_of_ble_eq_true rfl) (fun K hKl X => ?_)
  unfold fX4_fill
  exact z_sub [0, 1] rfl (sX4_fill_0 X Nf k0 hk0 h x1 σ)
def fX4_copyFrom_38 (L : Nat → Nat) (Nf : Nat) (k0 : Nat) (k1 : Nat) (σ : cS) : Option cS := some σ
set_option maxHeartbeats 4000000 in
set_option maxRecDepth 100000 in
theorem sX4_copyFrom_38 {K : MCx} {G : Lay} (X : Cx K G RX4 cX4_copyFrom 3 none 0 0) (Nf : Nat) (k0 : Nat) (hk0 : isRow G k0) (k1 : Nat) (hk1 : isRow G k1) (h : Int64) (σ : cS) : Sm K G TT (QM K G (fun r : cS => ((none, h, r) : Option Value × Int64 × cS))) 3 38 [] [] h σ (fX4_copyFrom_38 (ll G) Nf k0 k1 σ) := by
  unfold fX4_copyFrom_38
  exact z_vret X rfl dX4_copyFrom_38
def fX4_copyFrom_2 (L : Nat → Nat) (Nf : Nat) (k0 : Nat) (k1 : Nat) : Nat → Int32 → cS → Option cS
  | 0, _, _ => none
  | n + 1, x2, σ => if (Int32.ofNat (L (k0 + 1))) ≤ x2 then (fX4_copyFrom_38 L Nf k0 k1 σ) else (if (Int32.ofNat (L (k1 + 1))) ≤ x2 then (fX4_copyFrom_38 L Nf k0 k1 σ) else (grd (inb x2 (L (k1 + 1))) (grd (inb x2 (L (k0 + 1))) (bnd (st2 σ (k0 + 1) x2.toNatClampNeg (σ (k1 + 1) x2.toNatClampNeg)) (fun σ1 => bnd (x2 + (1 : Int32)) (fun t2 => fX4_copyFrom_2 L Nf k0 k1 n t2 σ1))))))
set_option maxHeartbeats 4000000 in
set_option maxRecDepth 100000 in
theorem sX4_copyFrom_2 {K : MCx} {G : Lay} (X : Cx K G RX4 cX4_copyFrom 3 none 0 0) (Nf : Nat) (k0 : Nat) (hk0 : isRow G k0) (k1 : Nat) (hk1 : isRow G k1) (h : Int64) : ∀ (n : Nat) (x2 : Int32) (σ : cS), Sm K G TT (QM K G (fun r : cS => ((none, h, r) : Option Value × Int64 × cS))) 3 2 [(0, .ref (la G k0)), (1, .ref (la G k1)), (2, .int x2)] [] h σ (fX4_copyFrom_2 (ll G) Nf k0 k1 n x2 σ) := by
  intro n
  induction n with
  | zero => intros; exact z_none
  | succ n ih =>
    intro x2 σ
    unfold fX4_copyFrom_2
    refine z_iload_n X dX4_copyFrom_2 2 rfl ?_
    refine z_aload_n X dX4_copyFrom_3 0 rfl ?_
    refine z_get X inlX4 rfl hk0.1 (ce4 hk0.1 _ _) 0 (by decide) q_3_1 rfl dX4_copyFrom_4 ?_
    refine z_alen X hk0.2 dX4_copyFrom_7 ?_
    refine z_icmp_ge X 38 dX4_copyFrom_8 (by decide) ?_ ?_
    · exact z_sub [] rfl (sX4_copyFrom_38 X Nf k0 hk0 k1 hk1 h σ)
    · refine z_iload_n X dX4_copyFrom_11 2 rfl ?_
      refine z_aload_n X dX4_copyFrom_12 1 rfl ?_
      refine z_get X inlX4 rfl hk1.1 (ce4 hk1.1 _ _) 0 (by decide) q_3_1 rfl dX4_copyFrom_13 ?_
      refine z_alen X hk1.2 dX4_copyFrom_16 ?_
      refine z_icmp_ge X 38 dX4_copyFrom_17 (by decide) ?_ ?_
      · exact z_sub [] rfl (sX4_copyFrom_38 X Nf k0 hk0 k1 hk1 h σ)
      · refine z_aload_n X dX4_copyFrom_20 0 rfl ?_
        refine z_get X inlX4 rfl hk0.1 (ce4 hk0.1 _ _) 0 (by decide) q_3_1 rfl dX4_copyFrom_21 ?_
        refine z_iload_n X dX4_copyFrom_24 2 rfl ?_
        refine z_aload_n X dX4_copyFrom_25 1 rfl ?_
        refine z_get X inlX4 rfl hk1.1 (ce4 hk1.1 _ _) 0 (by decide) q_3_1 rfl dX4_copyFrom_26 ?_
        refine z_iload_n X dX4_copyFrom_29 2 rfl ?_
        refine z_iald X hk1.2 dX4_copyFrom_30 ?_
        refine z_iast X hk0.2 dX4_copyFrom_31 (fun σ1 => ?_)
        refine z_iinc X (fun t2 => [(2, .int t2), (0, .ref (la G k0)), (1, .ref (la G k1))]) dX4_copyFrom_32 2 rfl (by decide) (by decide) (fun _ => rfl) (fun t2 => ?_)
        refine z_goto X 2 dX4_copyFrom_35 (by decide) ?_
        exact z_sub [1, 2, 0] rfl (ih t2 σ1)
def fX4_copyFrom_0 (L : Nat → Nat) (Nf : Nat) (k0 : Nat) (k1 : Nat) (σ : cS) : Option cS := fX4_copyFrom_2 L Nf k0 k1 Nf (0 : Int32) σ
set_option maxHeartbeats 4000000 in
set_option maxRecDepth 100000 in
theorem sX4_copyFrom_0 {K : MCx} {G : Lay} (X : Cx K G RX4 cX4_copyFrom 3 none 0 0) (Nf : Nat) (k0 : Nat) (hk0 : isRow G k0) (k1 : Nat) (hk1 : isRow G k1) (h : Int64) (σ : cS) : Sm K G TT (QM K G (fun r : cS => ((none, h, r) : Option Value × Int64 × cS))) 3 0 [(0, .ref (la G k0)), (1, .ref (la G k1))] [] h σ (fX4_copyFrom_0 (ll G) Nf k0 k1 σ) := by
  unfold fX4_copyFrom_0
  refine z_iconst (v := (0 : Int32)) X dX4_copyFrom_0 (by decide) ?_
  refine z_istore_n X [(2, .int (0 : Int32)), (0, .ref (la G k0)), (1, .ref (la G k1))] dX4_copyFrom_1 (by decide) rfl ?_
  exact z_sub [1, 2, 0] rfl (sX4_copyFrom_2 X Nf k0 hk0 k1 hk1 h Nf (0 : Int32) σ)
def fX4_copyFrom (L : Nat → Nat) (Nf : Nat) (σ : cS) (k0 : Nat) (k1 : Nat) : Option cS := fX4_copyFrom_0 L Nf k0 k1 σ
set_option maxHeartbeats 4000000 in
set_option maxRecDepth 100000 in
theorem ctX4_copyFrom (l : Launch) (G : Lay) (hi : Inj G) (Nf : Nat) (h : Int64) (σ : cS) (k0 : Nat) (hk0 : isRow G k0) (k1 : Nat) (hk1 : isRow G k1) : ∀ r, fX4_copyFrom (ll G) Nf σ k0 k1 = some r → CM l yX4_copyFrom cX4_copyFrom 3 none 0 0 G [.ref (la G k0), .ref (la G k1)] h σ (none, h, r) := by
  refine cm_of (g := (fun r : cS => ((none, h, r) : Option Value × Int64 × cS))) (by decide) hi (Nat.le_of_ble_eq_true rfl) (fun K hKl X => ?_)
  unfold fX4_copyFrom
  exact z_sub [0, 1] rfl (sX4_copyFrom_0 X Nf k0 hk0 k1 hk1 h σ)
def fX4_closeGap_10 (L : Nat → Nat) (Nf : Nat) (k0 : Nat) : Nat → Int32 → cS → Option cS
  | 0, _, _ => none
  | n + 1, x2, σ => if ((Int32.ofNat (L (k0 + 1))) - (1 : Int32)) ≤ x2 then (some σ) else (grd (inb (x2 + (1 : Int32)) (L (k0 + 1))) (grd (inb x2 (L (k0 + 1))) (bnd (st2 σ (k0 + 1) x2.toNatClampNeg (σ (k0 + 1) (x2 + (1 : Int32)).toNatClampNeg)) (fun σ1 => bnd (x2 + (1 : Int32)) (fun t2 => fX4_closeGap_10 L Nf k0 n t2 σ1)))))
set_option maxHeartbeats 4000000 in
set_option maxRecDepth 100000 in
theorem sX4_closeGap_10 {K : MCx} {G : Lay} (X : Cx K G RX4 cX4_closeGap 3 none 0 0) (Nf : Nat) (k0 : Nat) (hk0 : isRow G k0) (h : Int64) : ∀ (n : Nat) (x2 : Int32) (σ : cS), Sm K G TT (QM K G (fun r : cS => ((none, h, r) : Option Value × Int64 × cS))) 3 10 [(0, .ref (la G k0)), (2, .int x2)] [] h σ (fX4_closeGap_10 (ll G) Nf k0 n x2 σ) := by
  intro n
  induction n with
  | zero => intros; exact z_none
  | succ n ih =>
    intro x2 σ
    unfold fX4_closeGap_10
    refine z_iload_n X dX4_closeGap_10 1 rfl ?_
    refine z_aload_n X dX4_closeGap_11 0 rfl ?_
    refine z_get X inlX4 rfl hk0.1 (ce4 hk0.1 _ _) 0 (by decide) q_3_1 rfl dX4_closeGap_12 ?_
    refine z_alen X hk0.2 dX4_closeGap_15 ?_
    refine z_iconst (v := (1 : Int32)) X dX4_closeGap_16 (by decide) ?_
    refine z_isub X dX4_closeGap_17 ?_
    refine z_icmp_ge X 41 dX4_closeGap_18 (by decide) ?_ ?_
    · exact z_vret X rfl dX4_closeGap_41
    · refine z_aload_n X dX4_closeGap_21 0 rfl ?_
      refine z_get X inlX4 rfl hk0.1 (ce4 hk0.1 _ _) 0 (by decide) q_3_1 rfl dX4_closeGap_22 ?_
      refine z_iload_n X dX4_closeGap_25 1 rfl ?_
      refine z_aload_n X dX4_closeGap_26 0 rfl ?_
      refine z_get X inlX4 rfl hk0.1 (ce4 hk0.1 _ _) 0 (by decide) q_3_1 rfl dX4_closeGap_27 ?_
      refine z_iload_n X dX4_closeGap_30 1 rfl ?_
      refine z_iconst (v := (1 : Int32)) X dX4_closeGap_31 (by decide) ?_
      refine z_iadd X dX4_closeGap_32 ?_
      refine z_iald X hk0.2 dX4_closeGap_33 ?_
      refine z_iast X hk0.2 dX4_closeGap_34 (fun σ1 => ?_)
      refine z_iinc X (fun t2 => [(2, .int t2), (0, .ref (la G k0))]) dX4_closeGap_35 1 rfl (by decide) (by decide) (fun _ => rfl) (fun t2 => ?_)
      refine z_goto X 10 dX4_closeGap_38 (by decide) ?_
      exact z_sub [1, 0] rfl (ih t2 σ1)
def fX4_closeGap_9 (L : Nat → Nat) (Nf : Nat) (k0 : Nat) (y0 : Int32) (σ : cS) : Option cS := fX4_closeGap_10 L Nf k0 Nf y0 σ
set_option maxHeartbeats 4000000 in
set_option maxRecDepth 100000 in
theorem sX4_closeGap_9 {K : MCx} {G : Lay} (X : Cx K G RX4 cX4_closeGap 3 none 0 0) (Nf : Nat) (k0 : Nat) (hk0 : isRow G k0) (h : Int64) (y0 : Int32) (σ : cS) : Sm K G TT (QM K G (fun r : cS => ((none, h, r) : Option Value × Int64 × cS))) 3 9 [(0, .ref (la G k0))] [.int y0] h σ (fX4_closeGap_9 (ll G) Nf k0 y0 σ) := by
  unfold fX4_closeGap_9
  refine z_istore_n X [(2, .int y0), (0, .ref (la G k0))] dX4_closeGap_9 (by decide) rfl ?_
  exact z_sub [1, 0] rfl (sX4_closeGap_10 X Nf k0 hk0 h Nf y0 σ)
def fX4_closeGap_0 (L : Nat → Nat) (Nf : Nat) (k0 : Nat) (x1 : Int32) (σ : cS) : Option cS := if 0 ≤ x1 then (fX4_closeGap_9 L Nf k0 x1 σ) else (fX4_closeGap_9 L Nf k0 (0 : Int32) σ)
set_option maxHeartbeats 4000000 in
set_option maxRecDepth 100000 in
theorem sX4_closeGap_0 {K : MCx} {G : Lay} (X : Cx K G RX4 cX4_closeGap 3 none 0 0) (Nf : Nat) (k0 : Nat) (hk0 : isRow G k0) (h : Int64) (x1 : Int32) (σ : cS) : Sm K G TT (QM K G (fun r : cS => ((none, h, r) : Option Value × Int64 × cS))) 3 0 [(0, .ref (la G k0)), (1, .int x1)] [] h σ (fX4_closeGap_0 (ll G) Nf k0 x1 σ) := by
  unfold fX4_closeGap_0
  refine z_iload_n X dX4_closeGap_0 1 rfl ?_
  refine z_if_ge X 8 dX4_closeGap_1 (by decide) ?_ ?_
  · refine z_iload_n X dX4_closeGap_8 1 rfl ?_
    exact z_sub [0] rfl (sX4_closeGap_9 X Nf k0 hk0 h x1 σ)
  · refine z_iconst (v := (0 : Int32)) X dX4_closeGap_4 (by decide) ?_
    refine z_goto X 9 dX4_closeGap_5 (by decide) ?_
    exact z_sub [0] rfl (sX4_closeGap_9 X Nf k0 hk0 h (0 : Int32) σ)
def fX4_closeGap (L : Nat → Nat) (Nf : Nat) (σ : cS) (k0 : Nat) (x1 : Int32) : Option cS := fX4_closeGap_0 L Nf k0 x1 σ
set_option maxHeartbeats 4000000 in
set_option maxRecDepth 100000 in
theorem ctX4_closeGap (l : Launch) (G : Lay) (hi : Inj G) (Nf : Nat) (h : Int64) (σ : cS) (k0 : Nat) (hk0 : isRow G k0) (x1 : Int32) : ∀ r, fX4_closeGap (ll G) Nf σ k0 x1 = some r → CM l yX4_closeGap cX4_closeGap 3 none 0 0 G [.ref (la G k0), .int x1] h σ (none, h, r) := by
  refine cm_of (g := (fun r : cS => ((none, h, r) : Option Value × Int64 × cS))) (by decide) hi (Nat.le_of_ble_eq_true rfl) (fun K hKl X => ?_)
  unfold fX4_closeGap
  exact z_sub [0, 1] rfl (sX4_closeGap_0 X Nf k0 hk0 h x1 σ)
