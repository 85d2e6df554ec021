def fL_law_924 (L : Nat → Nat) (Nf : Nat) (xs : Nat → Int32) (Ln : Nat) (y0 : Int32) (σ : cS) : Option ((Int32 × cS) × Nat) := grd (isb y0) (some ((y0, σ), 0))
set_option maxHeartbeats 4000000 in
set_option maxRecDepth 100000 in
theorem sL_law_924 {K : MCx} {a : Nat → Nat} (Nf : Nat) (D : va_G) (cI cG cL : ClassId) (Z : State → Prop) (b Ln : Nat) (xs : Nat → Int32) (X : Cx K (Gc D cI cG cL a) RL cL_law 18 (some .boolean) 12 456) (Y : YL K (Gc D cI cG cL a) Z b Ln xs) (h : Int64) (y0 : Int32) (σ : cS) : Sm K (Gc D cI cG cL a) (PL K) (QL Z) 18 924 [] [.int y0] h σ (fL_law_924 (lCt ()) Nf xs Ln y0 σ) := by
  unfold fL_law_924
  exact z_lawret X Y
def fL_law_923 (L : Nat → Nat) (Nf : Nat) (xs : Nat → Int32) (Ln : Nat) (σ : cS) : Option ((Int32 × cS) × Nat) := fL_law_924 L Nf xs Ln (0 : Int32) σ
set_option maxHeartbeats 4000000 in
set_option maxRecDepth 100000 in
theorem sL_law_923 {K : MCx} {a : Nat → Nat} (Nf : Nat) (D : va_G) (cI cG cL : ClassId) (Z : State → Prop) (b Ln : Nat) (xs : Nat → Int32) (X : Cx K (Gc D cI cG cL a) RL cL_law 18 (some .boolean) 12 456) (Y : YL K (Gc D cI cG cL a) Z b Ln xs) (h : Int64) (σ : cS) : Sm K (Gc D cI cG cL a) (PL K) (QL Z) 18 923 [] [] h σ (fL_law_923 (lCt ()) Nf xs Ln σ) := by
  unfold fL_law_923
  refine z_iconst (v := (0 : Int32)) X dL_law_923 (by decide) ?_
  exact z_sub [] rfl (sL_law_924 Nf D cI cG cL Z b Ln xs X Y h (0 : Int32) σ)
def fL_law_901 (L : Nat → Nat) (Nf : Nat) (xs : Nat → Int32) (Ln : Nat) (x2 : Int32) (σ : cS) : Option ((Int32 × cS) × Nat) := if x2 = 0 then (fL_law_923 L Nf xs Ln σ) else (Option.bind (fL_areHeld L Nf σ 107) (fun r1 => if r1.1 = 0 then (fL_law_923 L Nf xs Ln r1.2) else (wbn (fL_refused L Nf r1.2 107) (fun r2 => if r2.1 = 0 then (fL_law_923 L Nf xs Ln r2.2) else (fL_law_924 L Nf xs Ln (1 : Int32) r2.2)))))
set_option maxHeartbeats 4000000 in
set_option maxRecDepth 100000 in
theorem sL_law_901 {K : MCx} {a : Nat → Nat} (Nf : Nat) (D : va_G) (cI cG cL : ClassId) (Z : State → Prop) (b Ln : Nat) (xs : Nat → Int32) (X : Cx K (Gc D cI cG cL a) RL cL_law 18 (some .boolean) 12 456) (Y : YL K (Gc D cI cG cL a) Z b Ln xs) (h : Int64) (x2 : Int32) (σ : cS) : Sm K (Gc D cI cG cL a) (PL K) (QL Z) 18 901 [(1, .ref (la (Gc D cI cG cL a) 107)), (2, .int x2)] [] h σ (fL_law_901 (lCt ()) Nf xs Ln x2 σ) := by
  unfold fL_law_901
  refine z_iload_n X dL_law_901 1 rfl ?_
  refine z_if_eq X 923 dL_law_902 (by decide) ?_ ?_
  · exact z_sub [] rfl (sL_law_923 Nf D cI cG cL Z b Ln xs X Y h σ)
  · refine z_aload_n X dL_law_905 0 rfl ?_
    refine z_callS0 X (g := (fun r1 : (Int32 × cS) => ((some (.int r1.1), h, r1.2) : Option Value × Int64 × cS))) (st := []) (st1 := (fun r1 : (Int32 × cS) => [.int r1.1])) (rmf := 8) (rml := 135) [.ref (la (Gc D cI cG cL a) 107)] cal_L_areHeld q_24_0 ⟨Nat.le_of_ble_eq_true rfl, Nat.le_of_ble_eq_true rfl⟩ rfl rfl (Nat.le_of_ble_eq_true rfl) (ctL_areHeld (kl K) _ X.2.2.2.2.2.2.2.1 Nf h σ 107 (isEH_law Y.1) ) dL_law_906 (fun _ => rfl) (fun r1 => ?_)
    refine z_if_eq X 923 dL_law_909 (by decide) ?_ ?_
    · exact z_sub [] rfl (sL_law_923 Nf D cI cG cL Z b Ln xs X Y h r1.2)
    · refine z_aload_n X dL_law_912 0 rfl ?_
      refine z_callA (P := fun K => PL K) (Q := fun _ => QL Z) (pq_L Z) X (g := (fun r2 : (Int32 × cS) => ((some (.int r2.1), h, r2.2) : Option Value × Int64 × cS))) (fr := 9) (lo := 160) (st := []) (st1 := (fun r2 : (Int32 × cS) => [.int r2.1])) [.ref (la (Gc D cI cG cL a) 107)] (fun hfl => ctL_refused (kl K) hfl _ X.2.2.2.2.2.2.2.1 Nf h r1.2 107 (isEH_law Y.1) ) cal_L_refused q_16_19 ⟨Nat.le_of_ble_eq_true rfl, Nat.le_of_ble_eq_true rfl⟩ rfl rfl (Nat.le_of_ble_eq_true rfl) dL_law_913 (fun _ => rfl) (fun r2 nr2 X => ?_)
      refine z_if_eq X 923 dL_law_916 (by decide) ?_ ?_
      · exact z_sub [] rfl (sL_law_923 Nf D cI cG cL Z b Ln xs X Y h r2.2)
      · refine z_iconst (v := (1 : Int32)) X dL_law_919 (by decide) ?_
        refine z_goto X 924 dL_law_920 (by decide) ?_
        exact z_sub [] rfl (sL_law_924 Nf D cI cG cL Z b Ln xs X Y h (1 : Int32) r2.2)
def fL_law_894 (L : Nat → Nat) (Nf : Nat) (xs : Nat → Int32) (Ln : Nat) (self98 : Int32 → Int32 → cS → Option ((Int32 × cS) × Nat)) (x3 : Int32) (y0 : Int32) (σ : cS) : Option ((Int32 × cS) × Nat) := bnd (x3 + (1 : Int32)) (fun t1 => self98 y0 t1 σ)
set_option maxHeartbeats 4000000 in
set_option maxRecDepth 100000 in
theorem sL_law_894 {K : MCx} {a : Nat → Nat} (Nf : Nat) (D : va_G) (cI cG cL : ClassId) (Z : State → Prop) (b Ln : Nat) (xs : Nat → Int32) (X : Cx K (Gc D cI cG cL a) RL cL_law 18 (some .boolean) 12 456) (Y : YL K (Gc D cI cG cL a) Z b Ln xs) (h : Int64) (self98 : Int32 → Int32 → cS → Option ((Int32 × cS) × Nat)) (hself98 : ∀ (K : MCx) (a : Nat → Nat) (X : Cx K (Gc D cI cG cL a) RL cL_law 18 (some .boolean) 12 456) (Y : YL K (Gc D cI cG cL a) Z b Ln xs) (x2 : Int32) (x3 : Int32) (σ : cS), Sm K (Gc D cI cG cL a) (PL K) (QL Z) 18 98 [(0, .ref b), (1, .ref (la (Gc D cI cG cL a) 107)), (2, .int x2), (3, .int x3)] [] h σ (self98 x2 x3 σ)) (x3 : Int32) (y0 : Int32) (σ : cS) : Sm K (Gc D cI cG cL a) (PL K) (QL Z) 18 894 [(0, .ref b), (1, .ref (la (Gc D cI cG cL a) 107)), (3, .int x3)] [.int y0] h σ (fL_law_894 (lCt ()) Nf xs Ln self98 x3 y0 σ) := by
  unfold fL_law_894
  refine z_istore_n X [(2, .int y0), (0, .ref b), (1, .ref (la (Gc D cI cG cL a) 107)), (3, .int x3)] dL_law_894 (by decide) rfl ?_
  refine z_iinc X (fun t1 => [(3, .int t1), (2, .int y0), (0, .ref b), (1, .ref (la (Gc D cI cG cL a) 107))]) dL_law_895 3 rfl (by decide) (by decide) (fun _ => rfl) (fun t1 => ?_)
  refine z_goto X 98 dL_law_898 (by decide) ?_
  exact z_sub [2, 3, 1, 0] rfl (hself98 _ _ X Y y0 t1 σ)
def fL_law_893 (L : Nat → Nat) (Nf : Nat) (xs : Nat → Int32) (Ln : Nat) (self98 : Int32 → Int32 → cS → Option ((Int32 × cS) × Nat)) (x3 : Int32) (σ : cS) : Option ((Int32 × cS) × Nat) := fL_law_894 L Nf xs Ln self98 x3 (0 : Int32) σ
set_option maxHeartbeats 4000000 in
set_option maxRecDepth 100000 in
theorem sL_law_893 {K : MCx} {a : Nat → Nat} (Nf : Nat) (D : va_G) (cI cG cL : ClassId) (Z : State → Prop) (b Ln : Nat) (xs : Nat → Int32) (X : Cx K (Gc D cI cG cL a) RL cL_law 18 (some .boolean) 12 456) (Y : YL K (Gc D cI cG cL a) Z b Ln xs) (h : Int64) (self98 : Int32 → Int32 → cS → Option ((Int32 × cS) × Nat)) (hself98 : ∀ (K : MCx) (a : Nat → Nat) (X : Cx K (Gc D cI cG cL a) RL cL_law 18 (some .boolean) 12 456) (Y : YL K (Gc D cI cG cL a) Z b Ln xs) (x2 : Int32) (x3 : Int32) (σ : cS), Sm K (Gc D cI cG cL a) (PL K) (QL Z) 18 98 [(0, .ref b), (1, .ref (la (Gc D cI cG cL a) 107)), (2, .int x2), (3, .int x3)] [] h σ (self98 x2 x3 σ)) (x3 : Int32) (σ : cS) : Sm K (Gc D cI cG cL a) (PL K) (QL Z) 18 893 [(0, .ref b), (1, .ref (la (Gc D cI cG cL a) 107)), (3, .int x3)] [] h σ (fL_law_893 (lCt ()) Nf xs Ln self98 x3 σ) := by
  unfold fL_law_893
  refine z_iconst (v := (0 : Int32)) X dL_law_893 (by decide) ?_
  exact z_sub [0, 1, 2] rfl (sL_law_894 Nf D cI cG cL Z b Ln xs X Y h self98 hself98 x3 (0 : Int32) σ)
def fL_law_889 (L : Nat → Nat) (Nf : Nat) (xs : Nat → Int32) (Ln : Nat) (self98 : Int32 → Int32 → cS → Option ((Int32 × cS) × Nat)) (x3 : Int32) (σ : cS) : Option ((Int32 × cS) × Nat) := fL_law_894 L Nf xs Ln self98 x3 (1 : Int32) σ
set_option maxHeartbeats 4000000 in
set_option maxRecDepth 100000 in
theorem sL_law_889 {K : MCx} {a : Nat → Nat} (Nf : Nat) (D : va_G) (cI cG cL : ClassId) (Z : State → Prop) (b Ln : Nat) (xs : Nat → Int32) (X : Cx K (Gc D cI cG cL a) RL cL_law 18 (some .boolean) 12 456) (Y : YL K (Gc D cI cG cL a) Z b Ln xs) (h : Int64) (self98 : Int32 → Int32 → cS → Option ((Int32 × cS) × Nat)) (hself98 : ∀ (K : MCx) (a : Nat → Nat) (X : Cx K (Gc D cI cG cL a) RL cL_law 18 (some .boolean) 12 456) (Y : YL K (Gc D cI cG cL a) Z b Ln xs) (x2 : Int32) (x3 : Int32) (σ : cS), Sm K (Gc D cI cG cL a) (PL K) (QL Z) 18 98 [(0, .ref b), (1, .ref (la (Gc D cI cG cL a) 107)), (2, .int x2), (3, .int x3)] [] h σ (self98 x2 x3 σ)) (x3 : Int32) (σ : cS) : Sm K (Gc D cI cG cL a) (PL K) (QL Z) 18 889 [(0, .ref b), (1, .ref (la (Gc D cI cG cL a) 107)), (3, .int x3)] [] h σ (fL_law_889 (lCt ()) Nf xs Ln self98 x3 σ) := by
  unfold fL_law_889
  refine z_iconst (v := (1 : Int32)) X dL_law_889 (by decide) ?_
  refine z_goto X 894 dL_law_890 (by decide) ?_
  exact z_sub [0, 1, 2] rfl (sL_law_894 Nf D cI cG cL Z b Ln xs X Y h self98 hself98 x3 (1 : Int32) σ)
def fL_law_874 (L : Nat → Nat) (Nf : Nat) (xs : Nat → Int32) (Ln : Nat) (self98 : Int32 → Int32 → cS → Option ((Int32 × cS) × Nat)) (x3 : Int32) (σ : cS) : Option ((Int32 × cS) × Nat) := grd (nz (9 : Int32)) (if (x3 - x3 / (9 : Int32) * (9 : Int32)) = (5 : Int32) then (wbn (fL_refused L Nf σ 107) (fun r1 => if r1.1 = 0 then (fL_law_893 L Nf xs Ln self98 x3 r1.2) else (fL_law_889 L Nf xs Ln self98 x3 r1.2))) else (fL_law_889 L Nf xs Ln self98 x3 σ))
set_option maxHeartbeats 4000000 in
set_option maxRecDepth 100000 in
theorem sL_law_874 {K : MCx} {a : Nat → Nat} (Nf : Nat) (D : va_G) (cI cG cL : ClassId) (Z : State → Prop) (b Ln : Nat) (xs : Nat → Int32) (X : Cx K (Gc D cI cG cL a) RL cL_law 18 (some .boolean) 12 456) (Y : YL K (Gc D cI cG cL a) Z b Ln xs) (h : Int64) (self98 : Int32 → Int32 → cS → Option ((Int32 × cS) × Nat)) (hself98 : ∀ (K : MCx) (a : Nat → Nat) (X : Cx K (Gc D cI cG cL a) RL cL_law 18 (some .boolean) 12 456) (Y : YL K (Gc D cI cG cL a) Z b Ln xs) (x2 : Int32) (x3 : Int32) (σ : cS), Sm K (Gc D cI cG cL a) (PL K) (QL Z) 18 98 [(0, .ref b), (1, .ref (la (Gc D cI cG cL a) 107)), (2, .int x2), (3, .int x3)] [] h σ (self98 x2 x3 σ)) (x3 : Int32) (σ : cS) : Sm K (Gc D cI cG cL a) (PL K) (QL Z) 18 874 [(0, .ref b), (1, .ref (la (Gc D cI cG cL a) 107)), (3, .int x3)] [] h σ (fL_law_874 (lCt ()) Nf xs Ln self98 x3 σ) := by
  unfold fL_law_874
  refine z_iload_n X dL_law_874 2 rfl ?_
  refine z_bipush (v := (9 : Int32)) X dL_law_875 (by decide) ?_
  refine z_irem X dL_law_877 ?_
  refine z_iconst (v := (5 : Int32)) X dL_law_878 (by decide) ?_
  refine z_icmp_ne X 889 dL_law_879 (by decide) ?_ ?_
  · refine z_aload_n X dL_law_882 1 rfl ?_
    refine z_callA (P := fun K => PL K) (Q := fun _ => QL Z) (pq_L Z) X (g := (fun r1 : (Int32 × cS) => ((some (.int r1.1), h, r1.2) : Option Value × Int64 × cS))) (fr := 9) (lo := 160) (st := []) (st1 := (fun r1 : (Int32 × cS) => [.int r1.1])) [.ref (la (Gc D cI cG cL a) 107)] (fun hfl => ctL_refused (kl K) hfl _ X.2.2.2.2.2.2.2.1 Nf h σ 107 (isEH_law Y.1) ) cal_L_refused q_16_19 ⟨Nat.le_of_ble_eq_true rfl, Nat.le_of_ble_eq_true rfl⟩ rfl rfl (Nat.le_of_ble_eq_true rfl) dL_law_883 (fun _ => rfl) (fun r1 nr1 X => ?_)
    refine z_if_eq X 893 dL_law_886 (by decide) ?_ ?_
    · exact z_sub [0, 1, 2] rfl (sL_law_893 Nf D cI cG cL Z b Ln xs X Y h self98 hself98 x3 r1.2)
    · exact z_sub [0, 1, 2] rfl (sL_law_889 Nf D cI cG cL Z b Ln xs X Y h self98 hself98 x3 r1.2)
  · exact z_sub [0, 1, 2] rfl (sL_law_889 Nf D cI cG cL Z b Ln xs X Y h self98 hself98 x3 σ)
def fL_law_836 (L : Nat → Nat) (Nf : Nat) (xs : Nat → Int32) (Ln : Nat) (self98 : Int32 → Int32 → cS → Option ((Int32 × cS) × Nat)) (x3 : Int32) (x5 : Int32) (x6 : Int32) (x7 : Int32) (σ : cS) : Option ((Int32 × cS) × Nat) := grd (nz (8 : Int32)) (if (x3 - x3 / (8 : Int32) * (8 : Int32)) = (3 : Int32) then (grd (nz x5) (grd (nz x5) (grd (nz (x5 - (1 : Int32))) (grd (nz x5) (wbn (fL_isAhead L Nf σ 107 (x6 - x6 / x5 * x5) ((((x6 - x6 / x5 * x5) + (1 : Int32)) + (x7 - x7 / (x5 - (1 : Int32)) * (x5 - (1 : Int32)))) - (((x6 - x6 / x5 * x5) + (1 : Int32)) + (x7 - x7 / (x5 - (1 : Int32)) * (x5 - (1 : Int32)))) / x5 * x5)) (fun r1 => if r1.1 = 0 then (fL_law_893 L Nf xs Ln self98 x3 r1.2) else (fL_law_874 L Nf xs Ln self98 x3 r1.2))))))) else (fL_law_874 L Nf xs Ln self98 x3 σ))
set_option maxHeartbeats 4000000 in
set_option maxRecDepth 100000 in
theorem sL_law_836 {K : MCx} {a : Nat → Nat} (Nf : Nat) (D : va_G) (cI cG cL : ClassId) (Z : State → Prop) (b Ln : Nat) (xs : Nat → Int32) (X : Cx K (Gc D cI cG cL a) RL cL_law 18 (some .boolean) 12 456) (Y : YL K (Gc D cI cG cL a) Z b Ln xs) (h : Int64) (self98 : Int32 → Int32 → cS → Option ((Int32 × cS) × Nat)) (hself98 : ∀ (K : MCx) (a : Nat → Nat) (X : Cx K (Gc D cI cG cL a) RL cL_law 18 (some .boolean) 12 456) (Y : YL K (Gc D cI cG cL a) Z b Ln xs) (x2 : Int32) (x3 : Int32) (σ : cS), Sm K (Gc D cI cG cL a) (PL K) (QL Z) 18 98 [(0, .ref b), (1, .ref (la (Gc D cI cG cL a) 107)), (2, .int x2), (3, .int x3)] [] h σ (self98 x2 x3 σ)) (x3 : Int32) (x5 : Int32) (x6 : Int32) (x7 : Int32) (σ : cS) : Sm K (Gc D cI cG cL a) (PL K) (QL Z) 18 836 [(0, .ref b), (1, .ref (la (Gc D cI cG cL a) 107)), (3, .int x3), (5, .int x5), (6, .int x6), (7, .int x7)] [] h σ (fL_law_836 (lCt ()) Nf xs Ln self98 x3 x5 x6 x7 σ) := by
  unfold fL_law_836
  refine z_iload_n X dL_law_836 2 rfl ?_
  refine z_bipush (v := (8 : Int32)) X dL_law_837 (by decide) ?_
  refine z_irem X dL_law_839 ?_
  refine z_iconst (v := (3 : Int32)) X dL_law_840 (by decide) ?_
  refine z_icmp_ne X 874 dL_law_841 (by decide) ?_ ?_
  · refine z_aload_n X dL_law_844 1 rfl ?_
    refine z_iload X dL_law_845 4 rfl ?_
    refine z_iload X dL_law_847 3 rfl ?_
    refine z_irem X dL_law_849 ?_
    refine z_iload X dL_law_850 4 rfl ?_
    refine z_iload X dL_law_852 3 rfl ?_
    refine z_irem X dL_law_854 ?_
    refine z_iconst (v := (1 : Int32)) X dL_law_855 (by decide) ?_
    refine z_iadd X dL_law_856 ?_
    refine z_iload X dL_law_857 5 rfl ?_
    refine z_iload X dL_law_859 3 rfl ?_
    refine z_iconst (v := (1 : Int32)) X dL_law_861 (by decide) ?_
    refine z_isub X dL_law_862 ?_
    refine z_irem X dL_law_863 ?_
    refine z_iadd X dL_law_864 ?_
    refine z_iload X dL_law_865 3 rfl ?_
    refine z_irem X dL_law_867 ?_
    refine z_callA (P := fun K => PL K) (Q := fun _ => QL Z) (pq_L Z) X (g := (fun r1 : (Int32 × cS) => ((some (.int r1.1), h, r1.2) : Option Value × Int64 × cS))) (fr := 9) (lo := 160) (st := []) (st1 := (fun r1 : (Int32 × cS) => [.int r1.1])) [.ref (la (Gc D cI cG cL a) 107), .int (x6 - x6 / x5 * x5), .int ((((x6 - x6 / x5 * x5) + (1 : Int32)) + (x7 - x7 / (x5 - (1 : Int32)) * (x5 - (1 : Int32)))) - (((x6 - x6 / x5 * x5) + (1 : Int32)) + (x7 - x7 / (x5 - (1 : Int32)) * (x5 - (1 : Int32)))) / x5 * x5)] (fun hfl => ctL_isAhead (kl K) hfl _ X.2.2.2.2.2.2.2.1 Nf h σ 107 (isEH_law Y.1) (x6 - x6 / x5 * x5) ((((x6 - x6 / x5 * x5) + (1 : Int32)) + (x7 - x7 / (x5 - (1 : Int32)) * (x5 - (1 : Int32)))) - (((x6 - x6 / x5 * x5) + (1 : Int32)) + (x7 - x7 / (x5 - (1 : Int32)) * (x5 - (1 : Int32)))) / x5 * x5)) cal_L_isAhead q_24_22 ⟨Nat.le_of_ble_eq_true rfl, Nat.le_of_ble_eq_true rfl⟩ rfl rfl (Nat.le_of_ble_eq_true rfl) dL_law_868 (fun _ => rfl) (fun r1 nr1 X => ?_)
    refine z_if_eq X 893 dL_law_871 (by decide) ?_ ?_
    · exact z_sub [0, 1, 2] rfl (sL_law_893 Nf D cI cG cL Z b Ln xs X Y h self98 hself98 x3 r1.2)
    · exact z_sub [0, 1, 2] rfl (sL_law_874 Nf D cI cG cL Z b Ln xs X Y h self98 hself98 x3 r1.2)
  · exact z_sub [0, 1, 2] rfl (sL_law_874 Nf D cI cG cL Z b Ln xs X Y h self98 hself98 x3 σ)
def fL_law_789 (L : Nat → Nat) (Nf : Nat) (xs : Nat → Int32) (Ln : Nat) (self98 : Int32 → Int32 → cS → Option ((Int32 × cS) × Nat)) (x3 : Int32) (x4 : Int32) (x5 : Int32) (x6 : Int32) (x7 : Int32) (σ : cS) : Option ((Int32 × cS) × Nat) := grd (nz x5) (grd (nz x5) (wbn (fL_isPath L Nf σ 107 (x6 - x6 / x5 * x5) (x7 - x7 / x5 * x5)) (fun r1 => if r1.1 = 0 then (fL_law_893 L Nf xs Ln self98 x3 r1.2) else (grd (nz (4 : Int32)) (if (x3 - x3 / (4 : Int32) * (4 : Int32)) = (1 : Int32) then (Option.bind (fL_low r1.2 (x4 >>> ((7 : Int32) &&& 31)) (((1 : Int32) <<< (x5 &&& 31)) - (1 : Int32))) (fun r2 => Option.bind (fL_isDense L Nf r1.2 107 ((1 : Int32) + r2)) (fun r3 => if r3.1 = 0 then (fL_law_893 L Nf xs Ln self98 x3 r3.2) else (fL_law_836 L Nf xs Ln self98 x3 x5 x6 x7 r3.2)))) else (fL_law_836 L Nf xs Ln self98 x3 x5 x6 x7 r1.2))))))
set_option maxHeartbeats 4000000 in
set_option maxRecDepth 100000 in
theorem sL_law_789 {K : MCx} {a : Nat → Nat} (Nf : Nat) (D : va_G) (cI cG cL : ClassId) (Z : State → Prop) (b Ln : Nat) (xs : Nat → Int32) (X : Cx K (Gc D cI cG cL a) RL cL_law 18 (some .boolean) 12 456) (Y : YL K (Gc D cI cG cL a) Z b Ln xs) (h : Int64) (self98 : Int32 → Int32 → cS → Option ((Int32 × cS) × Nat)) (hself98 : ∀ (K : MCx) (a : Nat → Nat) (X : Cx K (Gc D cI cG cL a) RL cL_law 18 (some .boolean) 12 456) (Y : YL K (Gc D cI cG cL a) Z b Ln xs) (x2 : Int32) (x3 : Int32) (σ : cS), Sm K (Gc D cI cG cL a) (PL K) (QL Z) 18 98 [(0, .ref b), (1, .ref (la (Gc D cI cG cL a) 107)), (2, .int x2), (3, .int x3)] [] h σ (self98 x2 x3 σ)) (x3 : Int32) (x4 : Int32) (x5 : Int32) (x6 : Int32) (x7 : Int32) (σ : cS) : Sm K (Gc D cI cG cL a) (PL K) (QL Z) 18 789 [(0, .ref b), (1, .ref (la (Gc D cI cG cL a) 107)), (3, .int x3), (4, .int x4), (5, .int x5), (6, .int x6), (7, .int x7)] [] h σ (fL_law_789 (lCt ()) Nf xs Ln self98 x3 x4 x5 x6 x7 σ) := by
  unfold fL_law_789
  refine z_aload_n X dL_law_789 1 rfl ?_
  refine z_iload X dL_law_790 5 rfl ?_
  refine z_iload X dL_law_792 4 rfl ?_
  refine z_irem X dL_law_794 ?_
  refine z_iload X dL_law_795 6 rfl ?_
  refine z_iload X dL_law_797 4 rfl ?_
  refine z_irem X dL_law_799 ?_
  refine z_callA (P := fun K => PL K) (Q := fun _ => QL Z) (pq_L Z) X (g := (fun r1 : (Int32 × cS) => ((some (.int r1.1), h, r1.2) : Option Value × Int64 × cS))) (fr := 9) (lo := 160) (st := []) (st1 := (fun r1 : (Int32 × cS) => [.int r1.1])) [.ref (la (Gc D cI cG cL a) 107), .int (x6 - x6 / x5 * x5), .int (x7 - x7 / x5 * x5)] (fun hfl => ctL_isPath (kl K) hfl _ X.2.2.2.2.2.2.2.1 Nf h σ 107 (isEH_law Y.1) (x6 - x6 / x5 * x5) (x7 - x7 / x5 * x5)) cal_L_isPath q_24_3 ⟨Nat.le_of_ble_eq_true rfl, Nat.le_of_ble_eq_true rfl⟩ rfl rfl (Nat.le_of_ble_eq_true rfl) dL_law_800 (fun _ => rfl) (fun r1 nr1 X => ?_)
  refine z_if_eq X 893 dL_law_803 (by decide) ?_ ?_
  · exact z_sub [0, 1, 2] rfl (sL_law_893 Nf D cI cG cL Z b Ln xs X Y h self98 hself98 x3 r1.2)
  · refine z_iload_n X dL_law_806 2 rfl ?_
    refine z_iconst (v := (4 : Int32)) X dL_law_807 (by decide) ?_
    refine z_irem X dL_law_808 ?_
    refine z_iconst (v := (1 : Int32)) X dL_law_809 (by decide) ?_
    refine z_icmp_ne X 836 dL_law_810 (by decide) ?_ ?_
    · refine z_aload_n X dL_law_813 1 rfl ?_
      refine z_iconst (v := (1 : Int32)) X dL_law_814 (by decide) ?_
      refine z_iload X dL_law_815 3 rfl ?_
      refine z_bipush (v := (7 : Int32)) X dL_law_817 (by decide) ?_
      refine z_ishr X dL_law_819 ?_
      refine z_iconst (v := (1 : Int32)) X dL_law_820 (by decide) ?_
      refine z_iload X dL_law_821 4 rfl ?_
      refine z_ishl X dL_law_823 ?_
      refine z_iconst (v := (1 : Int32)) X dL_law_824 (by decide) ?_
      refine z_isub X dL_law_825 ?_
      refine z_callS0 X (g := (fun r2 : Int32 => ((some (.int r2), h, r1.2) : Option Value × Int64 × cS))) (st := [.int (1 : Int32), .ref (la (Gc D cI cG cL a) 107)]) (st1 := (fun r2 : Int32 => [.int r2, .int (1 : Int32), .ref (la (Gc D cI cG cL a) 107)])) (rmf := 0) (rml := 0) [.int (x4 >>> ((7 : Int32) &&& 31)), .int (((1 : Int32) <<< (x5 &&& 31)) - (1 : Int32))] cal_L_low q_23_16 ⟨Nat.le_of_ble_eq_true rfl, Nat.le_of_ble_eq_true rfl⟩ rfl rfl (Nat.le_of_ble_eq_true rfl) (ctL_low (kl K) _ X.2.2.2.2.2.2.2.1 h r1.2 (x4 >>> ((7 : Int32) &&& 31)) (((1 : Int32) <<< (x5 &&& 31)) - (1 : Int32))) dL_law_826 (fun _ => rfl) (fun r2 => ?_)
      refine z_iadd X dL_law_829 ?_
      refine z_callS0 X (g := (fun r3 : (Int32 × cS) => ((some (.int r3.1), h, r3.2) : Option Value × Int64 × cS))) (st := []) (st1 := (fun r3 : (Int32 × cS) => [.int r3.1])) (rmf := 8) (rml := 133) [.ref (la (Gc D cI cG cL a) 107), .int ((1 : Int32) + r2)] cal_L_isDense q_24_6 ⟨Nat.le_of_ble_eq_true rfl, Nat.le_of_ble_eq_true rfl⟩ rfl rfl (Nat.le_of_ble_eq_true rfl) (ctL_isDense (kl K) _ X.2.2.2.2.2.2.2.1 Nf h r1.2 107 (isEH_law Y.1) ((1 : Int32) + r2)) dL_law_830 (fun _ => rfl) (fun r3 => ?_)
      refine z_if_eq X 893 dL_law_833 (by decide) ?_ ?_
      · exact z_sub [0, 1, 2] rfl (sL_law_893 Nf D cI cG cL Z b Ln xs X Y h self98 hself98 x3 r3.2)
      · exact z_sub [0, 1, 2, 4, 5, 6] rfl (sL_law_836 Nf D cI cG cL Z b Ln xs X Y h self98 hself98 x3 x5 x6 x7 r3.2)
    · exact z_sub [0, 1, 2, 4, 5, 6] rfl (sL_law_836 Nf D cI cG cL Z b Ln xs X Y h self98 hself98 x3 x5 x6 x7 r1.2)
def fL_law_775 (L : Nat → Nat) (Nf : Nat) (xs : Nat → Int32) (Ln : Nat) (self98 : Int32 → Int32 → cS → Option ((Int32 × cS) × Nat)) (x3 : Int32) (x4 : Int32) (x5 : Int32) (x6 : Int32) (x7 : Int32) (σ : cS) : Option ((Int32 × cS) × Nat) := grd (nz (3 : Int32)) (if (x3 - x3 / (3 : Int32) * (3 : Int32)) = (2 : Int32) then (Option.bind (fL_areHeld L Nf σ 107) (fun r1 => if r1.1 = 0 then (fL_law_893 L Nf xs Ln self98 x3 r1.2) else (fL_law_789 L Nf xs Ln self98 x3 x4 x5 x6 x7 r1.2))) else (fL_law_789 L Nf xs Ln self98 x3 x4 x5 x6 x7 σ))
set_option maxHeartbeats 4000000 in
set_option maxRecDepth 100000 in
theorem sL_law_775 {K : MCx} {a : Nat → Nat} (Nf : Nat) (D : va_G) (cI cG cL : ClassId) (Z : State → Prop) (b Ln : Nat) (xs : Nat → Int32) (X : Cx K (Gc D cI cG cL a) RL cL_law 18 (some .boolean) 12 456) (Y : YL K (Gc D cI cG cL a) Z b Ln xs) (h : Int64) (self98 : Int32 → Int32 → cS → Option ((Int32 × cS) × Nat)) (hself98 : ∀ (K : MCx) (a : Nat → Nat) (X : Cx K (Gc D cI cG cL a) RL cL_law 18 (some .boolean) 12 456) (Y : YL K (Gc D cI cG cL a) Z b Ln xs) (x2 : Int32) (x3 : Int32) (σ : cS), Sm K (Gc D cI cG cL a) (PL K) (QL Z) 18 98 [(0, .ref b), (1, .ref (la (Gc D cI cG cL a) 107)), (2, .int x2), (3, .int x3)] [] h σ (self98 x2 x3 σ)) (x3 : Int32) (x4 : Int32) (x5 : Int32) (x6 : Int32) (x7 : Int32) (σ : cS) : Sm K (Gc D cI cG cL a) (PL K) (QL Z) 18 775 [(0, .ref b), (1, .ref (la (Gc D cI cG cL a) 107)), (3, .int x3), (4, .int x4), (5, .int x5), (6, .int x6), (7, .int x7)] [] h σ (fL_law_775 (lCt ()) Nf xs Ln self98 x3 x4 x5 x6 x7 σ) := by
  unfold fL_law_775
  refine z_iload_n X dL_law_775 2 rfl ?_
  refine z_iconst (v := (3 : Int32)) X dL_law_776 (by decide) ?_
  refine z_irem X dL_law_777 ?_
  refine z_iconst (v := (2 : Int32)) X dL_law_778 (by decide) ?_
  refine z_icmp_ne X 789 dL_law_779 (by decide) ?_ ?_
  · refine z_aload_n X dL_law_782 1 rfl ?_
    refine z_callS0 X (g := (fun r1 : (Int32 × cS) => ((some (.int r1.1), h, r1.2) : Option Value × Int64 × cS))) (st := []) (st1 := (fun r1 : (Int32 × cS) => [.int r1.1])) (rmf := 8) (rml := 135) [.ref (la (Gc D cI cG cL a) 107)] cal_L_areHeld q_24_0 ⟨Nat.le_of_ble_eq_true rfl, Nat.le_of_ble_eq_true rfl⟩ rfl rfl (Nat.le_of_ble_eq_true rfl) (ctL_areHeld (kl K) _ X.2.2.2.2.2.2.2.1 Nf h σ 107 (isEH_law Y.1) ) dL_law_783 (fun _ => rfl) (fun r1 => ?_)
    refine z_if_eq X 893 dL_law_786 (by decide) ?_ ?_
    · exact z_sub [0, 1, 2] rfl (sL_law_893 Nf D cI cG cL Z b Ln xs X Y h self98 hself98 x3 r1.2)
    · exact z_sub [0, 1, 2, 3, 4, 5, 6] rfl (sL_law_789 Nf D cI cG cL Z b Ln xs X Y h self98 hself98 x3 x4 x5 x6 x7 r1.2)
  · exact z_sub [0, 1, 2, 3, 4, 5, 6] rfl (sL_law_789 Nf D cI cG cL Z b Ln xs X Y h self98 hself98 x3 x4 x5 x6 x7 σ)
def fL_law_743 (L : Nat → Nat) (Nf : Nat) (xs : Nat → Int32) (Ln : Nat) (self98 : Int32 → Int32 → cS → Option ((Int32 × cS) × Nat)) (x2 : Int32) (x3 : Int32) (x4 : Int32) (x6 : Int32) (x7 : Int32) (x14 : Int32) (σ : cS) : Option ((Int32 × cS) × Nat) := ibn (fX6_value L Nf σ 107 (0 : Int32)) (fun r1 => if x2 = 0 then (fL_law_893 L Nf xs Ln self98 x3 σ) else (if 0 ≤ x14 then (fL_law_775 L Nf xs Ln self98 x3 x4 r1 x6 x7 σ) else (if x14 = (-2052 : Int32) then (fL_law_775 L Nf xs Ln self98 x3 x4 r1 x6 x7 σ) else (if x14 = (-2054 : Int32) then (fL_law_775 L Nf xs Ln self98 x3 x4 r1 x6 x7 σ) else (fL_law_893 L Nf xs Ln self98 x3 σ)))))
set_option maxHeartbeats 4000000 in
set_option maxRecDepth 100000 in
theorem sL_law_743 {K : MCx} {a : Nat → Nat} (Nf : Nat) (D : va_G) (cI cG cL : ClassId) (Z : State → Prop) (b Ln : Nat) (xs : Nat → Int32) (X : Cx K (Gc D cI cG cL a) RL cL_law 18 (some .boolean) 12 456) (Y : YL K (Gc D cI cG cL a) Z b Ln xs) (h : Int64) (self98 : Int32 → Int32 → cS → Option ((Int32 × cS) × Nat)) (hself98 : ∀ (K : MCx) (a : Nat → Nat) (X : Cx K (Gc D cI cG cL a) RL cL_law 18 (some .boolean) 12 456) (Y : YL K (Gc D cI cG cL a) Z b Ln xs) (x2 : Int32) (x3 : Int32) (σ : cS), Sm K (Gc D cI cG cL a) (PL K) (QL Z) 18 98 [(0, .ref b), (1, .ref (la (Gc D cI cG cL a) 107)), (2, .int x2), (3, .int x3)] [] h σ (self98 x2 x3 σ)) (x2 : Int32) (x3 : Int32) (x4 : Int32) (x6 : Int32) (x7 : Int32) (x14 : Int32) (σ : cS) : Sm K (Gc D cI cG cL a) (PL K) (QL Z) 18 743 [(0, .ref b), (1, .ref (la (Gc D cI cG cL a) 107)), (2, .int x2), (3, .int x3), (4, .int x4), (6, .int x6), (7, .int x7), (14, .int x14)] [] h σ (fL_law_743 (lCt ()) Nf xs Ln self98 x2 x3 x4 x6 x7 x14 σ) := by
  unfold fL_law_743
  refine z_aload_n X dL_law_743 1 rfl ?_
  refine z_iconst (v := (0 : Int32)) X dL_law_744 (by decide) ?_
  refine z_callVN X (g := (fun r1 : Int32 => ((some (.int r1), h, σ) : Option Value × Int64 × cS))) (st := []) (st1 := (fun r1 : Int32 => [.int r1])) (rmf := 6) (rml := 90) [.int (0 : Int32)] 107 cal_X6_value q_6_2 ⟨Nat.le_of_ble_eq_true rfl, Nat.le_of_ble_eq_true rfl⟩ rfl rfl (Nat.le_of_ble_eq_true rfl) rfl (isEH_law Y.1).1 (ce6 (isEH_law Y.1).1 _ _) (ctX6_value_n (kl K) _ X.2.2.2.2.2.2.2.1 Nf h σ 107 (isEH_law Y.1) (0 : Int32)) dL_law_745 (fun _ => rfl) (fun r1 => ?_)
  refine z_istore X [(5, .int r1), (0, .ref b), (1, .ref (la (Gc D cI cG cL a) 107)), (2, .int x2), (3, .int x3), (4, .int x4), (6, .int x6), (7, .int x7), (14, .int x14)] dL_law_748 (by decide) rfl ?_
  refine z_iload_n X dL_law_750 3 rfl ?_
  refine z_if_eq X 893 dL_law_751 (by decide) ?_ ?_
  · exact z_sub [1, 2, 4] rfl (sL_law_893 Nf D cI cG cL Z b Ln xs X Y h self98 hself98 x3 σ)
  · refine z_iload X dL_law_754 8 rfl ?_
    refine z_if_ge X 775 dL_law_756 (by decide) ?_ ?_
    · exact z_sub [1, 2, 4, 5, 0, 6, 7] rfl (sL_law_775 Nf D cI cG cL Z b Ln xs X Y h self98 hself98 x3 x4 r1 x6 x7 σ)
    · refine z_iload X dL_law_759 8 rfl ?_
      refine z_sipush (v := (-2052 : Int32)) X dL_law_761 (by decide) ?_
      refine z_icmp_eq X 775 dL_law_764 (by decide) ?_ ?_
      · exact z_sub [1, 2, 4, 5, 0, 6, 7] rfl (sL_law_775 Nf D cI cG cL Z b Ln xs X Y h self98 hself98 x3 x4 r1 x6 x7 σ)
      · refine z_iload X dL_law_767 8 rfl ?_
        refine z_sipush (v := (-2054 : Int32)) X dL_law_769 (by decide) ?_
        refine z_icmp_ne X 893 dL_law_772 (by decide) ?_ ?_
        · exact z_sub [1, 2, 4, 5, 0, 6, 7] rfl (sL_law_775 Nf D cI cG cL Z b Ln xs X Y h self98 hself98 x3 x4 r1 x6 x7 σ)
        · exact z_sub [1, 2, 4] rfl (sL_law_893 Nf D cI cG cL Z b Ln xs X Y h self98 hself98 x3 σ)
def fL_law_733 (L : Nat → Nat) (Nf : Nat) (xs : Nat → Int32) (Ln : Nat) (self98 : Int32 → Int32 → cS → Option ((Int32 × cS) × Nat)) (x3 : Int32) (x4 : Int32) (x6 : Int32) (x7 : Int32) (x14 : Int32) (y0 : Int32) (σ : cS) : Option ((Int32 × cS) × Nat) := fL_law_743 L Nf xs Ln self98 y0 x3 x4 x6 x7 x14 σ
set_option maxHeartbeats 4000000 in
set_option maxRecDepth 100000 in
theorem sL_law_733 {K : MCx} {a : Nat → Nat} (Nf : Nat) (D : va_G) (cI cG cL : ClassId) (Z : State → Prop) (b Ln : Nat) (xs : Nat → Int32) (X : Cx K (Gc D cI cG cL a) RL cL_law 18 (some .boolean) 12 456) (Y : YL K (Gc D cI cG cL a) Z b Ln xs) (h : Int64) (self98 : Int32 → Int32 → cS → Option ((Int32 × cS) × Nat)) (hself98 : ∀ (K : MCx) (a : Nat → Nat) (X : Cx K (Gc D cI cG cL a) RL cL_law 18 (some .boolean) 12 456) (Y : YL K (Gc D cI cG cL a) Z b Ln xs) (x2 : Int32) (x3 : Int32) (σ : cS), Sm K (Gc D cI cG cL a) (PL K) (QL Z) 18 98 [(0, .ref b), (1, .ref (la (Gc D cI cG cL a) 107)), (2, .int x2), (3, .int x3)] [] h σ (self98 x2 x3 σ)) (x3 : Int32) (x4 : Int32) (x6 : Int32) (x7 : Int32) (x14 : Int32) (y0 : Int32) (σ : cS) : Sm K (Gc D cI cG cL a) (PL K) (QL Z) 18 733 [(0, .ref b), (1, .ref (la (Gc D cI cG cL a) 107)), (3, .int x3), (4, .int x4), (6, .int x6), (7, .int x7), (14, .int x14)] [.int y0] h σ (fL_law_733 (lCt ()) Nf xs Ln self98 x3 x4 x6 x7 x14 y0 σ) := by
  unfold fL_law_733
  refine z_istore_n X [(2, .int y0), (0, .ref b), (1, .ref (la (Gc D cI cG cL a) 107)), (3, .int x3), (4, .int x4), (6, .int x6), (7, .int x7), (14, .int x14)] dL_law_733 (by decide) rfl ?_
  refine z_goto X 743 dL_law_734 (by decide) ?_
  exact z_sub [1, 2, 0, 3, 4, 5, 6, 7] rfl (sL_law_743 Nf D cI cG cL Z b Ln xs X Y h self98 hself98 y0 x3 x4 x6 x7 x14 σ)
def fL_law_732 (L : Nat → Nat) (Nf : Nat) (xs : Nat → Int32) (Ln : Nat) (self98 : Int32 → Int32 → cS → Option ((Int32 × cS) × Nat)) (x3 : Int32) (x4 : Int32) (x6 : Int32) (x7 : Int32) (x14 : Int32) (σ : cS) : Option ((Int32 × cS) × Nat) := fL_law_733 L Nf xs Ln self98 x3 x4 x6 x7 x14 (0 : Int32) σ
set_option maxHeartbeats 4000000 in
set_option maxRecDepth 100000 in
theorem sL_law_732 {K : MCx} {a : Nat → Nat} (Nf : Nat) (D : va_G) (cI cG cL : ClassId) (Z : State → Prop) (b Ln : Nat) (xs : Nat → Int32) (X : Cx K (Gc D cI cG cL a) RL cL_law 18 (some .boolean) 12 456) (Y : YL K (Gc D cI cG cL a) Z b Ln xs) (h : Int64) (self98 : Int32 → Int32 → cS → Option ((Int32 × cS) × Nat)) (hself98 : ∀ (K : MCx) (a : Nat → Nat) (X : Cx K (Gc D cI cG cL a) RL cL_law 18 (some .boolean) 12 456) (Y : YL K (Gc D cI cG cL a) Z b Ln xs) (x2 : Int32) (x3 : Int32) (σ : cS), Sm K (Gc D cI cG cL a) (PL K) (QL Z) 18 98 [(0, .ref b), (1, .ref (la (Gc D cI cG cL a) 107)), (2, .int x2), (3, .int x3)] [] h σ (self98 x2 x3 σ)) (x3 : Int32) (x4 : Int32) (x6 : Int32) (x7 : Int32) (x14 : Int32) (σ : cS) : Sm K (Gc D cI cG cL a) (PL K) (QL Z) 18 732 [(0, .ref b), (1, .ref (la (Gc D cI cG cL a) 107)), (3, .int x3), (4, .int x4), (6, .int x6), (7, .int x7), (14, .int x14)] [] h σ (fL_law_732 (lCt ()) Nf xs Ln self98 x3 x4 x6 x7 x14 σ) := by
  unfold fL_law_732
  refine z_iconst (v := (0 : Int32)) X dL_law_732 (by decide) ?_
  exact z_sub [0, 1, 2, 3, 4, 5, 6] rfl (sL_law_733 Nf D cI cG cL Z b Ln xs X Y h self98 hself98 x3 x4 x6 x7 x14 (0 : Int32) σ)
def fL_law_728 (L : Nat → Nat) (Nf : Nat) (xs : Nat → Int32) (Ln : Nat) (self98 : Int32 → Int32 → cS → Option ((Int32 × cS) × Nat)) (x3 : Int32) (x4 : Int32) (x6 : Int32) (x7 : Int32) (x14 : Int32) (σ : cS) : Option ((Int32 × cS) × Nat) := fL_law_733 L Nf xs Ln self98 x3 x4 x6 x7 x14 (1 : Int32) σ
set_option maxHeartbeats 4000000 in
set_option maxRecDepth 100000 in
theorem sL_law_728 {K : MCx} {a : Nat → Nat} (Nf : Nat) (D : va_G) (cI cG cL : ClassId) (Z : State → Prop) (b Ln : Nat) (xs : Nat → Int32) (X : Cx K (Gc D cI cG cL a) RL cL_law 18 (some .boolean) 12 456) (Y : YL K (Gc D cI cG cL a) Z b Ln xs) (h : Int64) (self98 : Int32 → Int32 → cS → Option ((Int32 × cS) × Nat)) (hself98 : ∀ (K : MCx) (a : Nat → Nat) (X : Cx K (Gc D cI cG cL a) RL cL_law 18 (some .boolean) 12 456) (Y : YL K (Gc D cI cG cL a) Z b Ln xs) (x2 : Int32) (x3 : Int32) (σ : cS), Sm K (Gc D cI cG cL a) (PL K) (QL Z) 18 98 [(0, .ref b), (1, .ref (la (Gc D cI cG cL a) 107)), (2, .int x2), (3, .int x3)] [] h σ (self98 x2 x3 σ)) (x3 : Int32) (x4 : Int32) (x6 : Int32) (x7 : Int32) (x14 : Int32) (σ : cS) : Sm K (Gc D cI cG cL a) (PL K) (QL Z) 18 728 [(0, .ref b), (1, .ref (la (Gc D cI cG cL a) 107)), (3, .int x3), (4, .int x4), (6, .int x6), (7, .int x7), (14, .int x14)] [] h σ (fL_law_728 (lCt ()) Nf xs Ln self98 x3 x4 x6 x7 x14 σ) := by
  unfold fL_law_728
  refine z_iconst (v := (1 : Int32)) X dL_law_728 (by decide) ?_
  refine z_goto X 733 dL_law_729 (by decide) ?_
  exact z_sub [0, 1, 2, 3, 4, 5, 6] rfl (sL_law_733 Nf D cI cG cL Z b Ln xs X Y h self98 hself98 x3 x4 x6 x7 x14 (1 : Int32) σ)
def fL_law_671 (L : Nat → Nat) (Nf : Nat) (xs : Nat → Int32) (Ln : Nat) (self98 : Int32 → Int32 → cS → Option ((Int32 × cS) × Nat)) : Nat → Int32 → Int32 → Int32 → Int32 → Int32 → Int32 → Int32 → Int32 → Int32 → Int32 → Int32 → cS → Option ((Int32 × cS) × Nat)
  | 0, _, _, _, _, _, _, _, _, _, _, _, _ => none
  | n + 1, x3, x4, x6, x7, x8, x9, x11, x12, x14, x15, x17, σ => if x15 ≤ x17 then (if x15 ≤ 0 then (fL_law_728 L Nf xs Ln self98 x3 x4 x6 x7 x14 σ) else (ibn (fX6_node L Nf σ 107 x8 (0 : Int32)) (fun r1 => if r1.1 = (x11 - (1 : Int32)) then (ibn (fX6_node L Nf r1.2 107 x9 (0 : Int32)) (fun r2 => if r2.1 = (x12 + (1 : Int32)) then (fL_law_728 L Nf xs Ln self98 x3 x4 x6 x7 x14 r2.2) else (fL_law_732 L Nf xs Ln self98 x3 x4 x6 x7 x14 r2.2))) else (fL_law_732 L Nf xs Ln self98 x3 x4 x6 x7 x14 r1.2)))) else (grd (inb x17 (L 108)) (wbn (w1n (fL_turn L Nf σ 107 (σ 108 x17.toNatClampNeg))) (fun r3 => bnd (x17 + (1 : Int32)) (fun t4 => fL_law_671 L Nf xs Ln self98 n x3 x4 x6 x7 x8 x9 x11 x12 r3.1 x15 t4 r3.2))))
set_option maxHeartbeats 4000000 in
set_option maxRecDepth 100000 in
theorem sL_law_671 (Nf : Nat) (D : va_G) (cI cG cL : ClassId) (Z : State → Prop) (b Ln : Nat) (xs : Nat → Int32) (h : Int64) (self98 : Int32 → Int32 → cS → Option ((Int32 × cS) × Nat)) (hself98 : ∀ (K : MCx) (a : Nat → Nat) (X : Cx K (Gc D cI cG cL a) RL cL_law 18 (some .boolean) 12 456) (Y : YL K (Gc D cI cG cL a) Z b Ln xs) (x2 : Int32) (x3 : Int32) (σ : cS), Sm K (Gc D cI cG cL a) (PL K) (QL Z) 18 98 [(0, .ref b), (1, .ref (la (Gc D cI cG cL a) 107)), (2, .int x2), (3, .int x3)] [] h σ (self98 x2 x3 σ)) : ∀ (n : Nat) (K : MCx) (a : Nat → Nat) (X : Cx K (Gd D cI cG cL a) RL cL_law 18 (some .boolean) 12 456) (Y : YL2 K (Gd D cI cG cL a) Z b Ln xs) (x3 : Int32) (x4 : Int32) (x6 : Int32) (x7 : Int32) (x8 : Int32) (x9 : Int32) (x11 : Int32) (x12 : Int32) (x14 : Int32) (x15 : Int32) (x17 : Int32) (σ : cS), Sm K (Gd D cI cG cL a) (PL K) (QL Z) 18 671 [(0, .ref b), (1, .ref (la (Gd D cI cG cL a) 107)), (3, .int x3), (4, .int x4), (6, .int x6), (7, .int x7), (8, .int x8), (9, .int x9), (11, .int x11), (12, .int x12), (14, .int x14), (15, .int x15), (16, .ref (la (Gd D cI cG cL a) 108)), (17, .int x17)] [] h σ (fL_law_671 (lCt ()) Nf xs Ln self98 n x3 x4 x6 x7 x8 x9 x11 x12 x14 x15 x17 σ) := by
  intro n
  induction n with
  | zero => intros; exact z_none
  | succ n ih =>
    intro K a X Y x3 x4 x6 x7 x8 x9 x11 x12 x14 x15 x17 σ
    unfold fL_law_671
    refine z_iload X dL_law_671 13 rfl ?_
    refine z_iload X dL_law_673 11 rfl ?_
    refine z_icmp_ge X 695 dL_law_675 (by decide) ?_ ?_
    · refine z_sub [0, 1, 2, 3, 4, 5, 6, 7, 8, 9, 10, 11, 13] rfl ?_
      refine z_drop X Y (fun X Y => ?_)
      refine z_iload X dL_law_695 11 rfl ?_
      refine z_if_le X 728 dL_law_697 (by decide) ?_ ?_
      · exact z_sub [0, 1, 2, 3, 4, 5, 10] rfl (sL_law_728 Nf D cI cG cL Z b Ln xs X Y h self98 hself98 x3 x4 x6 x7 x14 σ)
      · refine z_aload_n X dL_law_700 1 rfl ?_
        refine z_iload X dL_law_701 6 rfl ?_
        refine z_iconst (v := (0 : Int32)) X dL_law_703 (by decide) ?_
        refine z_callVN X (g := (fun r1 : (Int32 × cS) => ((some (.int r1.1), h, r1.2) : Option Value × Int64 × cS))) (st := []) (st1 := (fun r1 : (Int32 × cS) => [.int r1.1])) (rmf := 7) (rml := 111) [.int x8, .int (0 : Int32)] 107 cal_X6_node q_17_3 ⟨Nat.le_of_ble_eq_true rfl, Nat.le_of_ble_eq_true rfl⟩ rfl rfl (Nat.le_of_ble_eq_true rfl) rfl (isEH_law Y.1).1 (ce6 (isEH_law Y.1).1 _ _) (ctX6_node_n (kl K) _ X.2.2.2.2.2.2.2.1 Nf h σ 107 (isEH_law Y.1) x8 (0 : Int32)) dL_law_704 (fun _ => rfl) (fun r1 => ?_)
        refine z_iload X dL_law_707 8 rfl ?_
        refine z_iconst (v := (1 : Int32)) X dL_law_709 (by decide) ?_
        refine z_isub X dL_law_710 ?_
        refine z_icmp_ne X 732 dL_law_711 (by decide) ?_ ?_
        · refine z_aload_n X dL_law_714 1 rfl ?_
          refine z_iload X dL_law_715 7 rfl ?_
          refine z_iconst (v := (0 : Int32)) X dL_law_717 (by decide) ?_
          refine z_callVN X (g := (fun r2 : (Int32 × cS) => ((some (.int r2.1), h, r2.2) : Option Value × Int64 × cS))) (st := []) (st1 := (fun r2 : (Int32 × cS) => [.int r2.1])) (rmf := 7) (rml := 111) [.int x9, .int (0 : Int32)] 107 cal_X6_node q_17_3 ⟨Nat.le_of_ble_eq_true rfl, Nat.le_of_ble_eq_true rfl⟩ rfl rfl (Nat.le_of_ble_eq_true rfl) rfl (isEH_law Y.1).1 (ce6 (isEH_law Y.1).1 _ _) (ctX6_node_n (kl K) _ X.2.2.2.2.2.2.2.1 Nf h r1.2 107 (isEH_law Y.1) x9 (0 : Int32)) dL_law_718 (fun _ => rfl) (fun r2 => ?_)
          refine z_iload X dL_law_721 9 rfl ?_
          refine z_iconst (v := (1 : Int32)) X dL_law_723 (by decide) ?_
          refine z_iadd X dL_law_724 ?_
          refine z_icmp_ne X 732 dL_law_725 (by decide) ?_ ?_
          · exact z_sub [0, 1, 2, 3, 4, 5, 10] rfl (sL_law_728 Nf D cI cG cL Z b Ln xs X Y h self98 hself98 x3 x4 x6 x7 x14 r2.2)
          · exact z_sub [0, 1, 2, 3, 4, 5, 10] rfl (sL_law_732 Nf D cI cG cL Z b Ln xs X Y h self98 hself98 x3 x4 x6 x7 x14 r2.2)
        · exact z_sub [0, 1, 2, 3, 4, 5, 10] rfl (sL_law_732 Nf D cI cG cL Z b Ln xs X Y h self98 hself98 x3 x4 x6 x7 x14 r1.2)
    · refine z_aload_n X dL_law_678 1 rfl ?_
      refine z_aload X dL_law_679 12 rfl ?_
      refine z_iload X dL_law_681 13 rfl ?_
      refine z_iald X (ob_law2 Y.1) dL_law_683 ?_
      refine z_callW (P := fun K => PL K) (Q := fun _ => QL Z) (pq_L Z) X (n := 2) (fr := 8) (lo := 134) (st := []) [.ref (la (Gd D cI cG cL a) 107), .int (σ 108 x17.toNatClampNeg)] (fun hfl => hL_turn (kl K) hfl _ X.2.2.2.2.2.2.2.1 Nf h σ 107 (isEH_law2 Y.1) (σ 108 x17.toNatClampNeg)) q_19_18 q_19_17 q_4_22 q_19_16 (by decide +kernel) ⟨Nat.le_of_ble_eq_true rfl, Nat.le_of_ble_eq_true rfl⟩ rfl rfl (Nat.le_of_ble_eq_true rfl) dL_law_684 (fun r3 X => ?_)
      refine z_istore X [(14, .int r3.1), (0, .ref b), (1, .ref (la (Gd D cI cG cL a) 107)), (3, .int x3), (4, .int x4), (6, .int x6), (7, .int x7), (8, .int x8), (9, .int x9), (11, .int x11), (12, .int x12), (15, .int x15), (16, .ref (la (Gd D cI cG cL a) 108)), (17, .int x17)] dL_law_687 (by decide) rfl ?_
      refine z_iinc X (fun t4 => [(17, .int t4), (14, .int r3.1), (0, .ref b), (1, .ref (la (Gd D cI cG cL a) 107)), (3, .int x3), (4, .int x4), (6, .int x6), (7, .int x7), (8, .int x8), (9, .int x9), (11, .int x11), (12, .int x12), (15, .int x15), (16, .ref (la (Gd D cI cG cL a) 108))]) dL_law_689 13 rfl (by decide) (by decide) (fun _ => rfl) (fun t4 => ?_)
      refine z_goto X 671 dL_law_692 (by decide) ?_
      exact z_sub [2, 3, 4, 5, 6, 7, 8, 9, 10, 11, 1, 12, 13, 0] rfl (ih _ _ X Y x3 x4 x6 x7 x8 x9 x11 x12 r3.1 x15 t4 r3.2)
def fL_law_640 (L : Nat → Nat) (Nf : Nat) (xs : Nat → Int32) (Ln : Nat) (self98 : Int32 → Int32 → cS → Option ((Int32 × cS) × Nat)) : Nat → Int32 → Int32 → Int32 → Int32 → Int32 → Int32 → Int32 → Int32 → Int32 → Int32 → Int32 → cS → Option ((Int32 × cS) × Nat)
  | 0, _, _, _, _, _, _, _, _, _, _, _, _ => none
  | n + 1, x3, x4, x6, x7, x8, x9, x11, x12, x14, x15, x17, σ => if x15 ≤ x17 then (fL_law_671 L Nf xs Ln self98 Nf x3 x4 x6 x7 x8 x9 x11 x12 x14 x15 (0 : Int32) σ) else (ibn (fX6_step L Nf σ 107 x8 x9 x17) (fun r1 => grd (inb x17 (L 108)) (bnd (st2 r1.2 108 x17.toNatClampNeg r1.1) (fun σ2 => bnd (x17 + (1 : Int32)) (fun t3 => fL_law_640 L Nf xs Ln self98 n x3 x4 x6 x7 x8 x9 x11 x12 x14 x15 t3 σ2)))))
set_option maxHeartbeats 4000000 in
set_option maxRecDepth 100000 in
theorem sL_law_640 (Nf : Nat) (D : va_G) (cI cG cL : ClassId) (Z : State → Prop) (b Ln : Nat) (xs : Nat → Int32) (h : Int64) (self98 : Int32 → Int32 → cS → Option ((Int32 × cS) × Nat)) (hself98 : ∀ (K : MCx) (a : Nat → Nat) (X : Cx K (Gc D cI cG cL a) RL cL_law 18 (some .boolean) 12 456) (Y : YL K (Gc D cI cG cL a) Z b Ln xs) (x2 : Int32) (x3 : Int32) (σ : cS), Sm K (Gc D cI cG cL a) (PL K) (QL Z) 18 98 [(0, .ref b), (1, .ref (la (Gc D cI cG cL a) 107)), (2, .int x2), (3, .int x3)] [] h σ (self98 x2 x3 σ)) : ∀ (n : Nat) (K : MCx) (a : Nat → Nat) (X : Cx K (Gd D cI cG cL a) RL cL_law 18 (some .boolean) 12 456) (Y : YL2 K (Gd D cI cG cL a) Z b Ln xs) (x3 : Int32) (x4 : Int32) (x6 : Int32) (x7 : Int32) (x8 : Int32) (x9 : Int32) (x11 : Int32) (x12 : Int32) (x14 : Int32) (x15 : Int32) (x17 : Int32) (σ : cS), Sm K (Gd D cI cG cL a) (PL K) (QL Z) 18 640 [(0, .ref b), (1, .ref (la (Gd D cI cG cL a) 107)), (3, .int x3), (4, .int x4), (6, .int x6), (7, .int x7), (8, .int x8), (9, .int x9), (11, .int x11), (12, .int x12), (14, .int x14), (15, .int x15), (16, .ref (la (Gd D cI cG cL a) 108)), (17, .int x17)] [] h σ (fL_law_640 (lCt ()) Nf xs Ln self98 n x3 x4 x6 x7 x8 x9 x11 x12 x14 x15 x17 σ) := by
  intro n
  induction n with
  | zero => intros; exact z_none
  | succ n ih =>
    intro K a X Y x3 x4 x6 x7 x8 x9 x11 x12 x14 x15 x17 σ
    unfold fL_law_640
    refine z_iload X dL_law_640 13 rfl ?_
    refine z_iload X dL_law_642 11 rfl ?_
    refine z_icmp_ge X 668 dL_law_644 (by decide) ?_ ?_
    · refine z_iconst (v := (0 : Int32)) X dL_law_668 (by decide) ?_
      refine z_istore X [(17, .int (0 : Int32)), (0, .ref b), (1, .ref (la (Gd D cI cG cL a) 107)), (3, .int x3), (4, .int x4), (6, .int x6), (7, .int x7), (8, .int x8), (9, .int x9), (11, .int x11), (12, .int x12), (14, .int x14), (15, .int x15), (16, .ref (la (Gd D cI cG cL a) 108))] dL_law_669 (by decide) rfl ?_
      exact z_sub [1, 2, 3, 4, 5, 6, 7, 8, 9, 10, 11, 12, 13, 0] rfl (sL_law_671 Nf D cI cG cL Z b Ln xs h self98 hself98 Nf _ _ X Y x3 x4 x6 x7 x8 x9 x11 x12 x14 x15 (0 : Int32) σ)
    · refine z_aload X dL_law_647 12 rfl ?_
      refine z_iload X dL_law_649 13 rfl ?_
      refine z_aload_n X dL_law_651 1 rfl ?_
      refine z_iload X dL_law_652 6 rfl ?_
      refine z_iload X dL_law_654 7 rfl ?_
      refine z_iload X dL_law_656 13 rfl ?_
      refine z_callVN X (g := (fun r1 : (Int32 × cS) => ((some (.int r1.1), h, r1.2) : Option Value × Int64 × cS))) (st := [.int x17, .ref (la (Gd D cI cG cL a) 108)]) (st1 := (fun r1 : (Int32 × cS) => [.int r1.1, .int x17, .ref (la (Gd D cI cG cL a) 108)])) (rmf := 7) (rml := 111) [.int x8, .int x9, .int x17] 107 cal_X6_step q_21_14 ⟨Nat.le_of_ble_eq_true rfl, Nat.le_of_ble_eq_true rfl⟩ rfl rfl (Nat.le_of_ble_eq_true rfl) rfl (isEH_law2 Y.1).1 (ce6 (isEH_law2 Y.1).1 _ _) (ctX6_step_n (kl K) _ X.2.2.2.2.2.2.2.1 Nf h σ 107 (isEH_law2 Y.1) x8 x9 x17) dL_law_658 (fun _ => rfl) (fun r1 => ?_)
      refine z_iast X (ob_law2 Y.1) dL_law_661 (fun σ2 => ?_)
      refine z_iinc X (fun t3 => [(17, .int t3), (0, .ref b), (1, .ref (la (Gd D cI cG cL a) 107)), (3, .int x3), (4, .int x4), (6, .int x6), (7, .int x7), (8, .int x8), (9, .int x9), (11, .int x11), (12, .int x12), (14, .int x14), (15, .int x15), (16, .ref (la (Gd D cI cG cL a) 108))]) dL_law_662 13 rfl (by decide) (by decide) (fun _ => rfl) (fun t3 => ?_)
      refine z_goto X 640 dL_law_665 (by decide) ?_
      exact z_sub [1, 2, 3, 4, 5, 6, 7, 8, 9, 10, 11, 12, 13, 0] rfl (ih _ _ X Y x3 x4 x6 x7 x8 x9 x11 x12 x14 x15 t3 σ2)
def fL_law_617 (L : Nat → Nat) (Nf : Nat) (xs : Nat → Int32) (Ln : Nat) (self98 : Int32 → Int32 → cS → Option ((Int32 × cS) × Nat)) (x3 : Int32) (x4 : Int32) (x6 : Int32) (x7 : Int32) (x14 : Int32) (y0 : Int32) (σ : cS) : Option ((Int32 × cS) × Nat) := fL_law_743 L Nf xs Ln self98 y0 x3 x4 x6 x7 x14 σ
set_option maxHeartbeats 4000000 in
set_option maxRecDepth 100000 in
theorem sL_law_617 {K : MCx} {a : Nat → Nat} (Nf : Nat) (D : va_G) (cI cG cL : ClassId) (Z : State → Prop) (b Ln : Nat) (xs : Nat → Int32) (X : Cx K (Gc D cI cG cL a) RL cL_law 18 (some .boolean) 12 456) (Y : YL K (Gc D cI cG cL a) Z b Ln xs) (h : Int64) (self98 : Int32 → Int32 → cS → Option ((Int32 × cS) × Nat)) (hself98 : ∀ (K : MCx) (a : Nat → Nat) (X : Cx K (Gc D cI cG cL a) RL cL_law 18 (some .boolean) 12 456) (Y : YL K (Gc D cI cG cL a) Z b Ln xs) (x2 : Int32) (x3 : Int32) (σ : cS), Sm K (Gc D cI cG cL a) (PL K) (QL Z) 18 98 [(0, .ref b), (1, .ref (la (Gc D cI cG cL a) 107)), (2, .int x2), (3, .int x3)] [] h σ (self98 x2 x3 σ)) (x3 : Int32) (x4 : Int32) (x6 : Int32) (x7 : Int32) (x14 : Int32) (y0 : Int32) (σ : cS) : Sm K (Gc D cI cG cL a) (PL K) (QL Z) 18 617 [(0, .ref b), (1, .ref (la (Gc D cI cG cL a) 107)), (3, .int x3), (4, .int x4), (6, .int x6), (7, .int x7), (14, .int x14)] [.int y0] h σ (fL_law_617 (lCt ()) Nf xs Ln self98 x3 x4 x6 x7 x14 y0 σ) := by
  unfold fL_law_617
  refine z_istore_n X [(2, .int y0), (0, .ref b), (1, .ref (la (Gc D cI cG cL a) 107)), (3, .int x3), (4, .int x4), (6, .int x6), (7, .int x7), (14, .int x14)] dL_law_617 (by decide) rfl ?_
  refine z_goto X 743 dL_law_618 (by decide) ?_
  exact z_sub [1, 2, 0, 3, 4, 5, 6, 7] rfl (sL_law_743 Nf D cI cG cL Z b Ln xs X Y h self98 hself98 y0 x3 x4 x6 x7 x14 σ)
def fL_law_582 (L : Nat → Nat) (Nf : Nat) (xs : Nat → Int32) (Ln : Nat) (self98 : Int32 → Int32 → cS → Option ((Int32 × cS) × Nat)) (x3 : Int32) (x4 : Int32) (x6 : Int32) (x7 : Int32) (x14 : Int32) (y0 : Int32) (σ : cS) : Option ((Int32 × cS) × Nat) := fL_law_743 L Nf xs Ln self98 y0 x3 x4 x6 x7 x14 σ
set_option maxHeartbeats 4000000 in
set_option maxRecDepth 100000 in
theorem sL_law_582 {K : MCx} {a : Nat → Nat} (Nf : Nat) (D : va_G) (cI cG cL : ClassId) (Z : State → Prop) (b Ln : Nat) (xs : Nat → Int32) (X : Cx K (Gc D cI cG cL a) RL cL_law 18 (some .boolean) 12 456) (Y : YL K (Gc D cI cG cL a) Z b Ln xs) (h : Int64) (self98 : Int32 → Int32 → cS → Option ((Int32 × cS) × Nat)) (hself98 : ∀ (K : MCx) (a : Nat → Nat) (X : Cx K (Gc D cI cG cL a) RL cL_law 18 (some .boolean) 12 456) (Y : YL K (Gc D cI cG cL a) Z b Ln xs) (x2 : Int32) (x3 : Int32) (σ : cS), Sm K (Gc D cI cG cL a) (PL K) (QL Z) 18 98 [(0, .ref b), (1, .ref (la (Gc D cI cG cL a) 107)), (2, .int x2), (3, .int x3)] [] h σ (self98 x2 x3 σ)) (x3 : Int32) (x4 : Int32) (x6 : Int32) (x7 : Int32) (x14 : Int32) (y0 : Int32) (σ : cS) : Sm K (Gc D cI cG cL a) (PL K) (QL Z) 18 582 [(0, .ref b), (1, .ref (la (Gc D cI cG cL a) 107)), (3, .int x3), (4, .int x4), (6, .int x6), (7, .int x7), (14, .int x14)] [.int y0] h σ (fL_law_582 (lCt ()) Nf xs Ln self98 x3 x4 x6 x7 x14 y0 σ) := by
  unfold fL_law_582
  refine z_istore_n X [(2, .int y0), (0, .ref b), (1, .ref (la (Gc D cI cG cL a) 107)), (3, .int x3), (4, .int x4), (6, .int x6), (7, .int x7), (14, .int x14)] dL_law_582 (by decide) rfl ?_
  refine z_goto X 743 dL_law_583 (by decide) ?_
  exact z_sub [1, 2, 0, 3, 4, 5, 6, 7] rfl (sL_law_743 Nf D cI cG cL Z b Ln xs X Y h self98 hself98 y0 x3 x4 x6 x7 x14 σ)
def fL_law_581 (L : Nat → Nat) (Nf : Nat) (xs : Nat → Int32) (Ln : Nat) (self98 : Int32 → Int32 → cS → Option ((Int32 × cS) × Nat)) (x3 : Int32) (x4 : Int32) (x6 : Int32) (x7 : Int32) (x14 : Int32) (σ : cS) : Option ((Int32 × cS) × Nat) := fL_law_582 L Nf xs Ln self98 x3 x4 x6 x7 x14 (0 : Int32) σ
set_option maxHeartbeats 4000000 in
set_option maxRecDepth 100000 in
theorem sL_law_581 {K : MCx} {a : Nat → Nat} (Nf : Nat) (D : va_G) (cI cG cL : ClassId) (Z : State → Prop) (b Ln : Nat) (xs : Nat → Int32) (X : Cx K (Gc D cI cG cL a) RL cL_law 18 (some .boolean) 12 456) (Y : YL K (Gc D cI cG cL a) Z b Ln xs) (h : Int64) (self98 : Int32 → Int32 → cS → Option ((Int32 × cS) × Nat)) (hself98 : ∀ (K : MCx) (a : Nat → Nat) (X : Cx K (Gc D cI cG cL a) RL cL_law 18 (some .boolean) 12 456) (Y : YL K (Gc D cI cG cL a) Z b Ln xs) (x2 : Int32) (x3 : Int32) (σ : cS), Sm K (Gc D cI cG cL a) (PL K) (QL Z) 18 98 [(0, .ref b), (1, .ref (la (Gc D cI cG cL a) 107)), (2, .int x2), (3, .int x3)] [] h σ (self98 x2 x3 σ)) (x3 : Int32) (x4 : Int32) (x6 : Int32) (x7 : Int32) (x14 : Int32) (σ : cS) : Sm K (Gc D cI cG cL a) (PL K) (QL Z) 18 581 [(0, .ref b), (1, .ref (la (Gc D cI cG cL a) 107)), (3, .int x3), (4, .int x4), (6, .int x6), (7, .int x7), (14, .int x14)] [] h σ (fL_law_581 (lCt ()) Nf xs Ln self98 x3 x4 x6 x7 x14 σ) := by
  unfold fL_law_581
  refine z_iconst (v := (0 : Int32)) X dL_law_581 (by decide) ?_
  exact z_sub [0, 1, 2, 3, 4, 5, 6] rfl (sL_law_582 Nf D cI cG cL Z b Ln xs X Y h self98 hself98 x3 x4 x6 x7 x14 (0 : Int32) σ)
def fL_law_550 (L : Nat → Nat) (Nf : Nat) (xs : Nat → Int32) (Ln : Nat) (self98 : Int32 → Int32 → cS → Option ((Int32 × cS) × Nat)) (x3 : Int32) (x4 : Int32) (x6 : Int32) (x7 : Int32) (x14 : Int32) (y0 : Int32) (σ : cS) : Option ((Int32 × cS) × Nat) := fL_law_743 L Nf xs Ln self98 y0 x3 x4 x6 x7 x14 σ
set_option maxHeartbeats 4000000 in
set_option maxRecDepth 100000 in
theorem sL_law_550 {K : MCx} {a : Nat → Nat} (Nf : Nat) (D : va_G) (cI cG cL : ClassId) (Z : State → Prop) (b Ln : Nat) (xs : Nat → Int32) (X : Cx K (Gc D cI cG cL a) RL cL_law 18 (some .boolean) 12 456) (Y : YL K (Gc D cI cG cL a) Z b Ln xs) (h : Int64) (self98 : Int32 → Int32 → cS → Option ((Int32 × cS) × Nat)) (hself98 : ∀ (K : MCx) (a : Nat → Nat) (X : Cx K (Gc D cI cG cL a) RL cL_law 18 (some .boolean) 12 456) (Y : YL K (Gc D cI cG cL a) Z b Ln xs) (x2 : Int32) (x3 : Int32) (σ : cS), Sm K (Gc D cI cG cL a) (PL K) (QL Z) 18 98 [(0, .ref b), (1, .ref (la (Gc D cI cG cL a) 107)), (2, .int x2), (3, .int x3)] [] h σ (self98 x2 x3 σ)) (x3 : Int32) (x4 : Int32) (x6 : Int32) (x7 : Int32) (x14 : Int32) (y0 : Int32) (σ : cS) : Sm K (Gc D cI cG cL a) (PL K) (QL Z) 18 550 [(0, .ref b), (1, .ref (la (Gc D cI cG cL a) 107)), (3, .int x3), (4, .int x4), (6, .int x6), (7, .int x7), (14, .int x14)] [.int y0] h σ (fL_law_550 (lCt ()) Nf xs Ln self98 x3 x4 x6 x7 x14 y0 σ) := by
  unfold fL_law_550
  refine z_istore_n X [(2, .int y0), (0, .ref b), (1, .ref (la (Gc D cI cG cL a) 107)), (3, .int x3), (4, .int x4), (6, .int x6), (7, .int x7), (14, .int x14)] dL_law_550 (by decide) rfl ?_
  refine z_goto X 743 dL_law_551 (by decide) ?_
  exact z_sub [1, 2, 0, 3, 4, 5, 6, 7] rfl (sL_law_743 Nf D cI cG cL Z b Ln xs X Y h self98 hself98 y0 x3 x4 x6 x7 x14 σ)
def fL_law_549 (L : Nat → Nat) (Nf : Nat) (xs : Nat → Int32) (Ln : Nat) (self98 : Int32 → Int32 → cS → Option ((Int32 × cS) × Nat)) (x3 : Int32) (x4 : Int32) (x6 : Int32) (x7 : Int32) (x14 : Int32) (σ : cS) : Option ((Int32 × cS) × Nat) := fL_law_550 L Nf xs Ln self98 x3 x4 x6 x7 x14 (0 : Int32) σ
set_option maxHeartbeats 4000000 in
set_option maxRecDepth 100000 in
theorem sL_law_549 {K : MCx} {a : Nat → Nat} (Nf : Nat) (D : va_G) (cI cG cL : ClassId) (Z : State → Prop) (b Ln : Nat) (xs : Nat → Int32) (X : Cx K (Gc D cI cG cL a) RL cL_law 18 (some .boolean) 12 456) (Y : YL K (Gc D cI cG cL a) Z b Ln xs) (h : Int64) (self98 : Int32 → Int32 → cS → Option ((Int32 × cS) × Nat)) (hself98 : ∀ (K : MCx) (a : Nat → Nat) (X : Cx K (Gc D cI cG cL a) RL cL_law 18 (some .boolean) 12 456) (Y : YL K (Gc D cI cG cL a) Z b Ln xs) (x2 : Int32) (x3 : Int32) (σ : cS), Sm K (Gc D cI cG cL a) (PL K) (QL Z) 18 98 [(0, .ref b), (1, .ref (la (Gc D cI cG cL a) 107)), (2, .int x2), (3, .int x3)] [] h σ (self98 x2 x3 σ)) (x3 : Int32) (x4 : Int32) (x6 : Int32) (x7 : Int32) (x14 : Int32) (σ : cS) : Sm K (Gc D cI cG cL a) (PL K) (QL Z) 18 549 [(0, .ref b), (1, .ref (la (Gc D cI cG cL a) 107)), (3, .int x3), (4, .int x4), (6, .int x6), (7, .int x7), (14, .int x14)] [] h σ (fL_law_549 (lCt ()) Nf xs Ln self98 x3 x4 x6 x7 x14 σ) := by
  unfold fL_law_549
  refine z_iconst (v := (0 : Int32)) X dL_law_549 (by decide) ?_
  exact z_sub [0, 1, 2, 3, 4, 5, 6] rfl (sL_law_550 Nf D cI cG cL Z b Ln xs X Y h self98 hself98 x3 x4 x6 x7 x14 (0 : Int32) σ)
def fL_law_545 (L : Nat → Nat) (Nf : Nat) (xs : Nat → Int32) (Ln : Nat) (self98 : Int32 → Int32 → cS → Option ((Int32 × cS) × Nat)) (x3 : Int32) (x4 : Int32) (x6 : Int32) (x7 : Int32) (x14 : Int32) (σ : cS) : Option ((Int32 × cS) × Nat) := fL_law_550 L Nf xs Ln self98 x3 x4 x6 x7 x14 (1 : Int32) σ
set_option maxHeartbeats 4000000 in
set_option maxRecDepth 100000 in
theorem sL_law_545 {K : MCx} {a : Nat → Nat} (Nf : Nat) (D : va_G) (cI cG cL : ClassId) (Z : State → Prop) (b Ln : Nat) (xs : Nat → Int32) (X : Cx K (Gc D cI cG cL a) RL cL_law 18 (some .boolean) 12 456) (Y : YL K (Gc D cI cG cL a) Z b Ln xs) (h : Int64) (self98 : Int32 → Int32 → cS → Option ((Int32 × cS) × Nat)) (hself98 : ∀ (K : MCx) (a : Nat → Nat) (X : Cx K (Gc D cI cG cL a) RL cL_law 18 (some .boolean) 12 456) (Y : YL K (Gc D cI cG cL a) Z b Ln xs) (x2 : Int32) (x3 : Int32) (σ : cS), Sm K (Gc D cI cG cL a) (PL K) (QL Z) 18 98 [(0, .ref b), (1, .ref (la (Gc D cI cG cL a) 107)), (2, .int x2), (3, .int x3)] [] h σ (self98 x2 x3 σ)) (x3 : Int32) (x4 : Int32) (x6 : Int32) (x7 : Int32) (x14 : Int32) (σ : cS) : Sm K (Gc D cI cG cL a) (PL K) (QL Z) 18 545 [(0, .ref b), (1, .ref (la (Gc D cI cG cL a) 107)), (3, .int x3), (4, .int x4), (6, .int x6), (7, .int x7), (14, .int x14)] [] h σ (fL_law_545 (lCt ()) Nf xs Ln self98 x3 x4 x6 x7 x14 σ) := by
  unfold fL_law_545
  refine z_iconst (v := (1 : Int32)) X dL_law_545 (by decide) ?_
  refine z_goto X 550 dL_law_546 (by decide) ?_
  exact z_sub [0, 1, 2, 3, 4, 5, 6] rfl (sL_law_550 Nf D cI cG cL Z b Ln xs X Y h self98 hself98 x3 x4 x6 x7 x14 (1 : Int32) σ)
def fL_law_496 (L : Nat → Nat) (Nf : Nat) (xs : Nat → Int32) (Ln : Nat) (self98 : Int32 → Int32 → cS → Option ((Int32 × cS) × Nat)) (x3 : Int32) (x4 : Int32) (x6 : Int32) (x7 : Int32) (x14 : Int32) (y0 : Int32) (σ : cS) : Option ((Int32 × cS) × Nat) := fL_law_743 L Nf xs Ln self98 y0 x3 x4 x6 x7 x14 σ
set_option maxHeartbeats 4000000 in
set_option maxRecDepth 100000 in
theorem sL_law_496 {K : MCx} {a : Nat → Nat} (Nf : Nat) (D : va_G) (cI cG cL : ClassId) (Z : State → Prop) (b Ln : Nat) (xs : Nat → Int32) (X : Cx K (Gc D cI cG cL a) RL cL_law 18 (some .boolean) 12 456) (Y : YL K (Gc D cI cG cL a) Z b Ln xs) (h : Int64) (self98 : Int32 → Int32 → cS → Option ((Int32 × cS) × Nat)) (hself98 : ∀ (K : MCx) (a : Nat → Nat) (X : Cx K (Gc D cI cG cL a) RL cL_law 18 (some .boolean) 12 456) (Y : YL K (Gc D cI cG cL a) Z b Ln xs) (x2 : Int32) (x3 : Int32) (σ : cS), Sm K (Gc D cI cG cL a) (PL K) (QL Z) 18 98 [(0, .ref b), (1, .ref (la (Gc D cI cG cL a) 107)), (2, .int x2), (3, .int x3)] [] h σ (self98 x2 x3 σ)) (x3 : Int32) (x4 : Int32) (x6 : Int32) (x7 : Int32) (x14 : Int32) (y0 : Int32) (σ : cS) : Sm K (Gc D cI cG cL a) (PL K) (QL Z) 18 496 [(0, .ref b), (1, .ref (la (Gc D cI cG cL a) 107)), (3, .int x3), (4, .int x4), (6, .int x6), (7, .int x7), (14, .int x14)] [.int y0] h σ (fL_law_496 (lCt ()) Nf xs Ln self98 x3 x4 x6 x7 x14 y0 σ) := by
  unfold fL_law_496
  refine z_istore_n X [(2, .int y0), (0, .ref b), (1, .ref (la (Gc D cI cG cL a) 107)), (3, .int x3), (4, .int x4), (6, .int x6), (7, .int x7), (14, .int x14)] dL_law_496 (by decide) rfl ?_
  refine z_goto X 743 dL_law_497 (by decide) ?_
  exact z_sub [1, 2, 0, 3, 4, 5, 6, 7] rfl (sL_law_743 Nf D cI cG cL Z b Ln xs X Y h self98 hself98 y0 x3 x4 x6 x7 x14 σ)
def fL_law_495 (L : Nat → Nat) (Nf : Nat) (xs : Nat → Int32) (Ln : Nat) (self98 : Int32 → Int32 → cS → Option ((Int32 × cS) × Nat)) (x3 : Int32) (x4 : Int32) (x6 : Int32) (x7 : Int32) (x14 : Int32) (σ : cS) : Option ((Int32 × cS) × Nat) := fL_law_496 L Nf xs Ln self98 x3 x4 x6 x7 x14 (0 : Int32) σ
set_option maxHeartbeats 4000000 in
set_option maxRecDepth 100000 in
theorem sL_law_495 {K : MCx} {a : Nat → Nat} (Nf : Nat) (D : va_G) (cI cG cL : ClassId) (Z : State → Prop) (b Ln : Nat) (xs : Nat → Int32) (X : Cx K (Gc D cI cG cL a) RL cL_law 18 (some .boolean) 12 456) (Y : YL K (Gc D cI cG cL a) Z b Ln xs) (h : Int64) (self98 : Int32 → Int32 → cS → Option ((Int32 × cS) × Nat)) (hself98 : ∀ (K : MCx) (a : Nat → Nat) (X : Cx K (Gc D cI cG cL a) RL cL_law 18 (some .boolean) 12 456) (Y : YL K (Gc D cI cG cL a) Z b Ln xs) (x2 : Int32) (x3 : Int32) (σ : cS), Sm K (Gc D cI cG cL a) (PL K) (QL Z) 18 98 [(0, .ref b), (1, .ref (la (Gc D cI cG cL a) 107)), (2, .int x2), (3, .int x3)] [] h σ (self98 x2 x3 σ)) (x3 : Int32) (x4 : Int32) (x6 : Int32) (x7 : Int32) (x14 : Int32) (σ : cS) : Sm K (Gc D cI cG cL a) (PL K) (QL Z) 18 495 [(0, .ref b), (1, .ref (la (Gc D cI cG cL a) 107)), (3, .int x3), (4, .int x4), (6, .int x6), (7, .int x7), (14, .int x14)] [] h σ (fL_law_495 (lCt ()) Nf xs Ln self98 x3 x4 x6 x7 x14 σ) := by
  unfold fL_law_495
  refine z_iconst (v := (0 : Int32)) X dL_law_495 (by decide) ?_
  exact z_sub [0, 1, 2, 3, 4, 5, 6] rfl (sL_law_496 Nf D cI cG cL Z b Ln xs X Y h self98 hself98 x3 x4 x6 x7 x14 (0 : Int32) σ)
def fL_law_438 (L : Nat → Nat) (Nf : Nat) (xs : Nat → Int32) (Ln : Nat) (self98 : Int32 → Int32 → cS → Option ((Int32 × cS) × Nat)) (x3 : Int32) (x4 : Int32) (x6 : Int32) (x7 : Int32) (x10 : Int32) (y0 : Int32) (σ : cS) : Option ((Int32 × cS) × Nat) := wbn (w1n (fL_turn L Nf σ 107 x10)) (fun r1 => if r1.1 = (-2054 : Int32) then (ibn (fX6_value L Nf r1.2 107 (1 : Int32)) (fun r3 => if r3 = 0 then (fL_law_496 L Nf xs Ln self98 x3 x4 x6 x7 r1.1 (1 : Int32) r1.2) else (fL_law_496 L Nf xs Ln self98 x3 x4 x6 x7 r1.1 (0 : Int32) r1.2))) else (if r1.1 = y0 then (fL_law_495 L Nf xs Ln self98 x3 x4 x6 x7 r1.1 r1.2) else (ibn (fX6_edge L Nf r1.2 107 x10 (2 : Int32)) (fun r2 => if r2 = r1.1 then (fL_law_496 L Nf xs Ln self98 x3 x4 x6 x7 r1.1 (1 : Int32) r1.2) else (fL_law_495 L Nf xs Ln self98 x3 x4 x6 x7 r1.1 r1.2)))))
set_option maxHeartbeats 4000000 in
set_option maxRecDepth 100000 in
theorem sL_law_438 {K : MCx} {a : Nat → Nat} (Nf : Nat) (D : va_G) (cI cG cL : ClassId) (Z : State → Prop) (b Ln : Nat) (xs : Nat → Int32) (X : Cx K (Gc D cI cG cL a) RL cL_law 18 (some .boolean) 12 456) (Y : YL K (Gc D cI cG cL a) Z b Ln xs) (h : Int64) (self98 : Int32 → Int32 → cS → Option ((Int32 × cS) × Nat)) (hself98 : ∀ (K : MCx) (a : Nat → Nat) (X : Cx K (Gc D cI cG cL a) RL cL_law 18 (some .boolean) 12 456) (Y : YL K (Gc D cI cG cL a) Z b Ln xs) (x2 : Int32) (x3 : Int32) (σ : cS), Sm K (Gc D cI cG cL a) (PL K) (QL Z) 18 98 [(0, .ref b), (1, .ref (la (Gc D cI cG cL a) 107)), (2, .int x2), (3, .int x3)] [] h σ (self98 x2 x3 σ)) (x3 : Int32) (x4 : Int32) (x6 : Int32) (x7 : Int32) (x10 : Int32) (y0 : Int32) (σ : cS) : Sm K (Gc D cI cG cL a) (PL K) (QL Z) 18 438 [(0, .ref b), (1, .ref (la (Gc D cI cG cL a) 107)), (3, .int x3), (4, .int x4), (6, .int x6), (7, .int x7), (10, .int x10)] [.int y0] h σ (fL_law_438 (lCt ()) Nf xs Ln self98 x3 x4 x6 x7 x10 y0 σ) := by
  unfold fL_law_438
  refine z_istore X [(15, .int y0), (0, .ref b), (1, .ref (la (Gc D cI cG cL a) 107)), (3, .int x3), (4, .int x4), (6, .int x6), (7, .int x7), (10, .int x10)] dL_law_438 (by decide) rfl ?_
  refine z_aload_n X dL_law_440 2 rfl ?_
  refine z_iload X dL_law_441 7 rfl ?_
  refine z_callW (P := fun K => PL K) (Q := fun _ => QL Z) (pq_L Z) X (n := 2) (fr := 8) (lo := 134) (st := []) [.ref (la (Gc D cI cG cL a) 107), .int x10] (fun hfl => hL_turn (kl K) hfl _ X.2.2.2.2.2.2.2.1 Nf h σ 107 (isEH_law Y.1) x10) q_19_18 q_19_17 q_4_22 q_19_16 (by decide +kernel) ⟨Nat.le_of_ble_eq_true rfl, Nat.le_of_ble_eq_true rfl⟩ rfl rfl (Nat.le_of_ble_eq_true rfl) dL_law_443 (fun r1 X => ?_)
  refine z_istore X [(14, .int r1.1), (15, .int y0), (0, .ref b), (1, .ref (la (Gc D cI cG cL a) 107)), (3, .int x3), (4, .int x4), (6, .int x6), (7, .int x7), (10, .int x10)] dL_law_446 (by decide) rfl ?_
  refine z_iload X dL_law_448 0 rfl ?_
  refine z_sipush (v := (-2054 : Int32)) X dL_law_450 (by decide) ?_
  refine z_icmp_ne X 472 dL_law_453 (by decide) ?_ ?_
  · refine z_aload_n X dL_law_456 3 rfl ?_
    refine z_iconst (v := (1 : Int32)) X dL_law_457 (by decide) ?_
    refine z_callVN X (g := (fun r3 : Int32 => ((some (.int r3), h, r1.2) : Option Value × Int64 × cS))) (st := []) (st1 := (fun r3 : Int32 => [.int r3])) (rmf := 6) (rml := 90) [.int (1 : Int32)] 107 cal_X6_value q_6_2 ⟨Nat.le_of_ble_eq_true rfl, Nat.le_of_ble_eq_true rfl⟩ rfl rfl (Nat.le_of_ble_eq_true rfl) rfl (isEH_law Y.1).1 (ce6 (isEH_law Y.1).1 _ _) (ctX6_value_n (kl K) _ X.2.2.2.2.2.2.2.1 Nf h r1.2 107 (isEH_law Y.1) (1 : Int32)) dL_law_458 (fun _ => rfl) (fun r3 => ?_)
    refine z_if_ne X 468 dL_law_461 (by decide) ?_ ?_
    · refine z_iconst (v := (1 : Int32)) X dL_law_464 (by decide) ?_
      refine z_goto X 496 dL_law_465 (by decide) ?_
      exact z_sub [2, 3, 4, 5, 6, 7, 0] rfl (sL_law_496 Nf D cI cG cL Z b Ln xs X Y h self98 hself98 x3 x4 x6 x7 r1.1 (1 : Int32) r1.2)
    · refine z_iconst (v := (0 : Int32)) X dL_law_468 (by decide) ?_
      refine z_goto X 496 dL_law_469 (by decide) ?_
      exact z_sub [2, 3, 4, 5, 6, 7, 0] rfl (sL_law_496 Nf D cI cG cL Z b Ln xs X Y h self98 hself98 x3 x4 x6 x7 r1.1 (0 : Int32) r1.2)
  · refine z_iload X dL_law_472 0 rfl ?_
    refine z_iload X dL_law_474 1 rfl ?_
    refine z_icmp_eq X 495 dL_law_476 (by decide) ?_ ?_
    · exact z_sub [2, 3, 4, 5, 6, 7, 0] rfl (sL_law_495 Nf D cI cG cL Z b Ln xs X Y h self98 hself98 x3 x4 x6 x7 r1.1 r1.2)
    · refine z_aload_n X dL_law_479 3 rfl ?_
      refine z_iload X dL_law_480 8 rfl ?_
      refine z_iconst (v := (2 : Int32)) X dL_law_482 (by decide) ?_
      refine z_callVN X (g := (fun r2 : Int32 => ((some (.int r2), h, r1.2) : Option Value × Int64 × cS))) (st := []) (st1 := (fun r2 : Int32 => [.int r2])) (rmf := 7) (rml := 112) [.int x10, .int (2 : Int32)] 107 cal_X6_edge q_18_2 ⟨Nat.le_of_ble_eq_true rfl, Nat.le_of_ble_eq_true rfl⟩ rfl rfl (Nat.le_of_ble_eq_true rfl) rfl (isEH_law Y.1).1 (ce6 (isEH_law Y.1).1 _ _) (ctX6_edge_n (kl K) _ X.2.2.2.2.2.2.2.1 Nf h r1.2 107 (isEH_law Y.1) x10 (2 : Int32)) dL_law_483 (fun _ => rfl) (fun r2 => ?_)
      refine z_iload X dL_law_486 0 rfl ?_
      refine z_icmp_ne X 495 dL_law_488 (by decide) ?_ ?_
      · refine z_iconst (v := (1 : Int32)) X dL_law_491 (by decide) ?_
        refine z_goto X 496 dL_law_492 (by decide) ?_
        exact z_sub [2, 3, 4, 5, 6, 7, 0] rfl (sL_law_496 Nf D cI cG cL Z b Ln xs X Y h self98 hself98 x3 x4 x6 x7 r1.1 (1 : Int32) r1.2)
      · exact z_sub [2, 3, 4, 5, 6, 7, 0] rfl (sL_law_495 Nf D cI cG cL Z b Ln xs X Y h self98 hself98 x3 x4 x6 x7 r1.1 r1.2)
def fL_law_404 (L : Nat → Nat) (Nf : Nat) (xs : Nat → Int32) (Ln : Nat) (self98 : Int32 → Int32 → cS → Option ((Int32 × cS) × Nat)) (x3 : Int32) (x4 : Int32) (x6 : Int32) (x7 : Int32) (x14 : Int32) (y0 : Int32) (σ : cS) : Option ((Int32 × cS) × Nat) := fL_law_743 L Nf xs Ln self98 y0 x3 x4 x6 x7 x14 σ
set_option maxHeartbeats 4000000 in
set_option maxRecDepth 100000 in
theorem sL_law_404 {K : MCx} {a : Nat → Nat} (Nf : Nat) (D : va_G) (cI cG cL : ClassId) (Z : State → Prop) (b Ln : Nat) (xs : Nat → Int32) (X : Cx K (Gc D cI cG cL a) RL cL_law 18 (some .boolean) 12 456) (Y : YL K (Gc D cI cG cL a) Z b Ln xs) (h : Int64) (self98 : Int32 → Int32 → cS → Option ((Int32 × cS) × Nat)) (hself98 : ∀ (K : MCx) (a : Nat → Nat) (X : Cx K (Gc D cI cG cL a) RL cL_law 18 (some .boolean) 12 456) (Y : YL K (Gc D cI cG cL a) Z b Ln xs) (x2 : Int32) (x3 : Int32) (σ : cS), Sm K (Gc D cI cG cL a) (PL K) (QL Z) 18 98 [(0, .ref b), (1, .ref (la (Gc D cI cG cL a) 107)), (2, .int x2), (3, .int x3)] [] h σ (self98 x2 x3 σ)) (x3 : Int32) (x4 : Int32) (x6 : Int32) (x7 : Int32) (x14 : Int32) (y0 : Int32) (σ : cS) : Sm K (Gc D cI cG cL a) (PL K) (QL Z) 18 404 [(0, .ref b), (1, .ref (la (Gc D cI cG cL a) 107)), (3, .int x3), (4, .int x4), (6, .int x6), (7, .int x7), (14, .int x14)] [.int y0] h σ (fL_law_404 (lCt ()) Nf xs Ln self98 x3 x4 x6 x7 x14 y0 σ) := by
  unfold fL_law_404
  refine z_istore_n X [(2, .int y0), (0, .ref b), (1, .ref (la (Gc D cI cG cL a) 107)), (3, .int x3), (4, .int x4), (6, .int x6), (7, .int x7), (14, .int x14)] dL_law_404 (by decide) rfl ?_
  refine z_goto X 743 dL_law_405 (by decide) ?_
  exact z_sub [1, 2, 0, 3, 4, 5, 6, 7] rfl (sL_law_743 Nf D cI cG cL Z b Ln xs X Y h self98 hself98 y0 x3 x4 x6 x7 x14 σ)
def fL_law_403 (L : Nat → Nat) (Nf : Nat) (xs : Nat → Int32) (Ln : Nat) (self98 : Int32 → Int32 → cS → Option ((Int32 × cS) × Nat)) (x3 : Int32) (x4 : Int32) (x6 : Int32) (x7 : Int32) (x14 : Int32) (σ : cS) : Option ((Int32 × cS) × Nat) := fL_law_404 L Nf xs Ln self98 x3 x4 x6 x7 x14 (0 : Int32) σ
set_option maxHeartbeats 4000000 in
set_option maxRecDepth 100000 in
theorem sL_law_403 {K : MCx} {a : Nat → Nat} (Nf : Nat) (D : va_G) (cI cG cL : ClassId) (Z : State → Prop) (b Ln : Nat) (xs : Nat → Int32) (X : Cx K (Gc D cI cG cL a) RL cL_law 18 (some .boolean) 12 456) (Y : YL K (Gc D cI cG cL a) Z b Ln xs) (h : Int64) (self98 : Int32 → Int32 → cS → Option ((Int32 × cS) × Nat)) (hself98 : ∀ (K : MCx) (a : Nat → Nat) (X : Cx K (Gc D cI cG cL a) RL cL_law 18 (some .boolean) 12 456) (Y : YL K (Gc D cI cG cL a) Z b Ln xs) (x2 : Int32) (x3 : Int32) (σ : cS), Sm K (Gc D cI cG cL a) (PL K) (QL Z) 18 98 [(0, .ref b), (1, .ref (la (Gc D cI cG cL a) 107)), (2, .int x2), (3, .int x3)] [] h σ (self98 x2 x3 σ)) (x3 : Int32) (x4 : Int32) (x6 : Int32) (x7 : Int32) (x14 : Int32) (σ : cS) : Sm K (Gc D cI cG cL a) (PL K) (QL Z) 18 403 [(0, .ref b), (1, .ref (la (Gc D cI cG cL a) 107)), (3, .int x3), (4, .int x4), (6, .int x6), (7, .int x7), (14, .int x14)] [] h σ (fL_law_403 (lCt ()) Nf xs Ln self98 x3 x4 x6 x7 x14 σ) := by
  unfold fL_law_403
  refine z_iconst (v := (0 : Int32)) X dL_law_403 (by decide) ?_
  exact z_sub [0, 1, 2, 3, 4, 5, 6] rfl (sL_law_404 Nf D cI cG cL Z b Ln xs X Y h self98 hself98 x3 x4 x6 x7 x14 (0 : Int32) σ)
def fL_law_399 (L : Nat → Nat) (Nf : Nat) (xs : Nat → Int32) (Ln : Nat) (self98 : Int32 → Int32 → cS → Option ((Int32 × cS) × Nat)) (x3 : Int32) (x4 : Int32) (x6 : Int32) (x7 : Int32) (x14 : Int32) (σ : cS) : Option ((Int32 × cS) × Nat) := fL_law_404 L Nf xs Ln self98 x3 x4 x6 x7 x14 (1 : Int32) σ
set_option maxHeartbeats 4000000 in
set_option maxRecDepth 100000 in
theorem sL_law_399 {K : MCx} {a : Nat → Nat} (Nf : Nat) (D : va_G) (cI cG cL : ClassId) (Z : State → Prop) (b Ln : Nat) (xs : Nat → Int32) (X : Cx K (Gc D cI cG cL a) RL cL_law 18 (some .boolean) 12 456) (Y : YL K (Gc D cI cG cL a) Z b Ln xs) (h : Int64) (self98 : Int32 → Int32 → cS → Option ((Int32 × cS) × Nat)) (hself98 : ∀ (K : MCx) (a : Nat → Nat) (X : Cx K (Gc D cI cG cL a) RL cL_law 18 (some .boolean) 12 456) (Y : YL K (Gc D cI cG cL a) Z b Ln xs) (x2 : Int32) (x3 : Int32) (σ : cS), Sm K (Gc D cI cG cL a) (PL K) (QL Z) 18 98 [(0, .ref b), (1, .ref (la (Gc D cI cG cL a) 107)), (2, .int x2), (3, .int x3)] [] h σ (self98 x2 x3 σ)) (x3 : Int32) (x4 : Int32) (x6 : Int32) (x7 : Int32) (x14 : Int32) (σ : cS) : Sm K (Gc D cI cG cL a) (PL K) (QL Z) 18 399 [(0, .ref b), (1, .ref (la (Gc D cI cG cL a) 107)), (3, .int x3), (4, .int x4), (6, .int x6), (7, .int x7), (14, .int x14)] [] h σ (fL_law_399 (lCt ()) Nf xs Ln self98 x3 x4 x6 x7 x14 σ) := by
  unfold fL_law_399
  refine z_iconst (v := (1 : Int32)) X dL_law_399 (by decide) ?_
  refine z_goto X 404 dL_law_400 (by decide) ?_
  exact z_sub [0, 1, 2, 3, 4, 5, 6] rfl (sL_law_404 Nf D cI cG cL Z b Ln xs X Y h self98 hself98 x3 x4 x6 x7 x14 (1 : Int32) σ)
def fL_law_383 (L : Nat → Nat) (Nf : Nat) (xs : Nat → Int32) (Ln : Nat) (self98 : Int32 → Int32 → cS → Option ((Int32 × cS) × Nat)) (x3 : Int32) (x4 : Int32) (x6 : Int32) (x7 : Int32) (x14 : Int32) (y0 : Int32) (y1 : Int32) (σ : cS) : Option ((Int32 × cS) × Nat) := if y0 = y1 then (ibn (fX6_value L Nf σ 107 (6 : Int32)) (fun r1 => if r1 = (x14 + (1 : Int32)) then (fL_law_399 L Nf xs Ln self98 x3 x4 x6 x7 x14 σ) else (fL_law_403 L Nf xs Ln self98 x3 x4 x6 x7 x14 σ))) else (fL_law_403 L Nf xs Ln self98 x3 x4 x6 x7 x14 σ)
set_option maxHeartbeats 4000000 in
set_option maxRecDepth 100000 in
theorem sL_law_383 {K : MCx} {a : Nat → Nat} (Nf : Nat) (D : va_G) (cI cG cL : ClassId) (Z : State → Prop) (b Ln : Nat) (xs : Nat → Int32) (X : Cx K (Gc D cI cG cL a) RL cL_law 18 (some .boolean) 12 456) (Y : YL K (Gc D cI cG cL a) Z b Ln xs) (h : Int64) (self98 : Int32 → Int32 → cS → Option ((Int32 × cS) × Nat)) (hself98 : ∀ (K : MCx) (a : Nat → Nat) (X : Cx K (Gc D cI cG cL a) RL cL_law 18 (some .boolean) 12 456) (Y : YL K (Gc D cI cG cL a) Z b Ln xs) (x2 : Int32) (x3 : Int32) (σ : cS), Sm K (Gc D cI cG cL a) (PL K) (QL Z) 18 98 [(0, .ref b), (1, .ref (la (Gc D cI cG cL a) 107)), (2, .int x2), (3, .int x3)] [] h σ (self98 x2 x3 σ)) (x3 : Int32) (x4 : Int32) (x6 : Int32) (x7 : Int32) (x14 : Int32) (y0 : Int32) (y1 : Int32) (σ : cS) : Sm K (Gc D cI cG cL a) (PL K) (QL Z) 18 383 [(0, .ref b), (1, .ref (la (Gc D cI cG cL a) 107)), (3, .int x3), (4, .int x4), (6, .int x6), (7, .int x7), (14, .int x14)] [.int y1, .int y0] h σ (fL_law_383 (lCt ()) Nf xs Ln self98 x3 x4 x6 x7 x14 y0 y1 σ) := by
  unfold fL_law_383
  refine z_icmp_ne X 403 dL_law_383 (by decide) ?_ ?_
  · refine z_aload_n X dL_law_386 1 rfl ?_
    refine z_bipush (v := (6 : Int32)) X dL_law_387 (by decide) ?_
    refine z_callVN X (g := (fun r1 : Int32 => ((some (.int r1), h, σ) : Option Value × Int64 × cS))) (st := []) (st1 := (fun r1 : Int32 => [.int r1])) (rmf := 6) (rml := 90) [.int (6 : Int32)] 107 cal_X6_value q_6_2 ⟨Nat.le_of_ble_eq_true rfl, Nat.le_of_ble_eq_true rfl⟩ rfl rfl (Nat.le_of_ble_eq_true rfl) rfl (isEH_law Y.1).1 (ce6 (isEH_law Y.1).1 _ _) (ctX6_value_n (kl K) _ X.2.2.2.2.2.2.2.1 Nf h σ 107 (isEH_law Y.1) (6 : Int32)) dL_law_389 (fun _ => rfl) (fun r1 => ?_)
    refine z_iload X dL_law_392 6 rfl ?_
    refine z_iconst (v := (1 : Int32)) X dL_law_394 (by decide) ?_
    refine z_iadd X dL_law_395 ?_
    refine z_icmp_ne X 403 dL_law_396 (by decide) ?_ ?_
    · exact z_sub [0, 1, 2, 3, 4, 5, 6] rfl (sL_law_399 Nf D cI cG cL Z b Ln xs X Y h self98 hself98 x3 x4 x6 x7 x14 σ)
    · exact z_sub [0, 1, 2, 3, 4, 5, 6] rfl (sL_law_403 Nf D cI cG cL Z b Ln xs X Y h self98 hself98 x3 x4 x6 x7 x14 σ)
  · exact z_sub [0, 1, 2, 3, 4, 5, 6] rfl (sL_law_403 Nf D cI cG cL Z b Ln xs X Y h self98 hself98 x3 x4 x6 x7 x14 σ)
def fL_law_339 (L : Nat → Nat) (Nf : Nat) (xs : Nat → Int32) (Ln : Nat) (self98 : Int32 → Int32 → cS → Option ((Int32 × cS) × Nat)) (x2 : Int32) (x3 : Int32) (x4 : Int32) (x6 : Int32) (x7 : Int32) (y0 : Int32) (σ : cS) : Option ((Int32 × cS) × Nat) := fL_law_743 L Nf xs Ln self98 x2 x3 x4 x6 x7 y0 σ
set_option maxHeartbeats 4000000 in
set_option maxRecDepth 100000 in
theorem sL_law_339 {K : MCx} {a : Nat → Nat} (Nf : Nat) (D : va_G) (cI cG cL : ClassId) (Z : State → Prop) (b Ln : Nat) (xs : Nat → Int32) (X : Cx K (Gc D cI cG cL a) RL cL_law 18 (some .boolean) 12 456) (Y : YL K (Gc D cI cG cL a) Z b Ln xs) (h : Int64) (self98 : Int32 → Int32 → cS → Option ((Int32 × cS) × Nat)) (hself98 : ∀ (K : MCx) (a : Nat → Nat) (X : Cx K (Gc D cI cG cL a) RL cL_law 18 (some .boolean) 12 456) (Y : YL K (Gc D cI cG cL a) Z b Ln xs) (x2 : Int32) (x3 : Int32) (σ : cS), Sm K (Gc D cI cG cL a) (PL K) (QL Z) 18 98 [(0, .ref b), (1, .ref (la (Gc D cI cG cL a) 107)), (2, .int x2), (3, .int x3)] [] h σ (self98 x2 x3 σ)) (x2 : Int32) (x3 : Int32) (x4 : Int32) (x6 : Int32) (x7 : Int32) (y0 : Int32) (σ : cS) : Sm K (Gc D cI cG cL a) (PL K) (QL Z) 18 339 [(0, .ref b), (1, .ref (la (Gc D cI cG cL a) 107)), (2, .int x2), (3, .int x3), (4, .int x4), (6, .int x6), (7, .int x7)] [.int y0] h σ (fL_law_339 (lCt ()) Nf xs Ln self98 x2 x3 x4 x6 x7 y0 σ) := by
  unfold fL_law_339
  refine z_istore X [(14, .int y0), (0, .ref b), (1, .ref (la (Gc D cI cG cL a) 107)), (2, .int x2), (3, .int x3), (4, .int x4), (6, .int x6), (7, .int x7)] dL_law_339 (by decide) rfl ?_
  refine z_goto X 743 dL_law_341 (by decide) ?_
  exact z_sub [1, 2, 3, 4, 5, 6, 7, 0] rfl (sL_law_743 Nf D cI cG cL Z b Ln xs X Y h self98 hself98 x2 x3 x4 x6 x7 y0 σ)
def fL_law_195 (L : Nat → Nat) (Nf : Nat) (xs : Nat → Int32) (Ln : Nat) (self98 : Int32 → Int32 → cS → Option ((Int32 × cS) × Nat)) (x2 : Int32) (x3 : Int32) (x4 : Int32) (x6 : Int32) (x7 : Int32) (x8 : Int32) (x9 : Int32) (y0 : Int32) (σ : cS) : Option ((Int32 × cS) × Nat) := ibn (fX6_node L Nf σ 107 x8 (0 : Int32)) (fun r1 => ibn (fX6_node L Nf r1.2 107 x9 (0 : Int32)) (fun r2 => ibn (fX6_value L Nf r2.2 107 (4 : Int32)) (fun r3 => Option.bind (fL_low r2.2 x4 (20 : Int32)) (fun r4 => if r4 = (0 : Int32) then (if x3 ≤ (3 : Int32) then (grd (nz (5 : Int32)) (wbn (w1n (fL_begin L Nf r2.2 107 ((2 : Int32) + (x6 - x6 / (5 : Int32) * (5 : Int32))))) (fun r5 => fL_law_339 L Nf xs Ln self98 x2 x3 x4 x6 x7 r5.1 r5.2))) else (fL_law_339 L Nf xs Ln self98 x2 x3 x4 x6 x7 (0 : Int32) r2.2)) else (if r4 = (1 : Int32) then (wbn (w1n (fL_add L Nf r2.2 107 x8 x9)) (fun r6 => if r6.1 = (-2052 : Int32) then (fL_law_399 L Nf xs Ln self98 x3 x4 x6 x7 r6.1 r6.2) else (ibn (fX6_edge L Nf r6.2 107 r6.1 (2 : Int32)) (fun r7 => if r1.1 ≤ r2.1 then (fL_law_383 L Nf xs Ln self98 x3 x4 x6 x7 r6.1 r7 x8 r6.2) else (fL_law_383 L Nf xs Ln self98 x3 x4 x6 x7 r6.1 r7 x9 r6.2))))) else (if r4 = (2 : Int32) then (wbn (w1n (fL_add L Nf r2.2 107 x8 x9)) (fun r8 => if r8.1 = (-2052 : Int32) then (fL_law_399 L Nf xs Ln self98 x3 x4 x6 x7 r8.1 r8.2) else (ibn (fX6_edge L Nf r8.2 107 r8.1 (2 : Int32)) (fun r9 => if r1.1 ≤ r2.1 then (fL_law_383 L Nf xs Ln self98 x3 x4 x6 x7 r8.1 r9 x8 r8.2) else (fL_law_383 L Nf xs Ln self98 x3 x4 x6 x7 r8.1 r9 x9 r8.2))))) else (if r4 = (3 : Int32) then (wbn (w1n (fL_add L Nf r2.2 107 x8 x9)) (fun r10 => if r10.1 = (-2052 : Int32) then (fL_law_399 L Nf xs Ln self98 x3 x4 x6 x7 r10.1 r10.2) else (ibn (fX6_edge L Nf r10.2 107 r10.1 (2 : Int32)) (fun r11 => if r1.1 ≤ r2.1 then (fL_law_383 L Nf xs Ln self98 x3 x4 x6 x7 r10.1 r11 x8 r10.2) else (fL_law_383 L Nf xs Ln self98 x3 x4 x6 x7 r10.1 r11 x9 r10.2))))) else (if r4 = (4 : Int32) then (wbn (w1n (fL_add L Nf r2.2 107 x8 x9)) (fun r12 => if r12.1 = (-2052 : Int32) then (fL_law_399 L Nf xs Ln self98 x3 x4 x6 x7 r12.1 r12.2) else (ibn (fX6_edge L Nf r12.2 107 r12.1 (2 : Int32)) (fun r13 => if r1.1 ≤ r2.1 then (fL_law_383 L Nf xs Ln self98 x3 x4 x6 x7 r12.1 r13 x8 r12.2) else (fL_law_383 L Nf xs Ln self98 x3 x4 x6 x7 r12.1 r13 x9 r12.2))))) else (if r4 = (5 : Int32) then (wbn (w1n (fL_add L Nf r2.2 107 x8 x9)) (fun r14 => if r14.1 = (-2052 : Int32) then (fL_law_399 L Nf xs Ln self98 x3 x4 x6 x7 r14.1 r14.2) else (ibn (fX6_edge L Nf r14.2 107 r14.1 (2 : Int32)) (fun r15 => if r1.1 ≤ r2.1 then (fL_law_383 L Nf xs Ln self98 x3 x4 x6 x7 r14.1 r15 x8 r14.2) else (fL_law_383 L Nf xs Ln self98 x3 x4 x6 x7 r14.1 r15 x9 r14.2))))) else (if r4 = (6 : Int32) then (wbn (w1n (fL_add L Nf r2.2 107 x8 x9)) (fun r16 => if r16.1 = (-2052 : Int32) then (fL_law_399 L Nf xs Ln self98 x3 x4 x6 x7 r16.1 r16.2) else (ibn (fX6_edge L Nf r16.2 107 r16.1 (2 : Int32)) (fun r17 => if r1.1 ≤ r2.1 then (fL_law_383 L Nf xs Ln self98 x3 x4 x6 x7 r16.1 r17 x8 r16.2) else (fL_law_383 L Nf xs Ln self98 x3 x4 x6 x7 r16.1 r17 x9 r16.2))))) else (if r4 = (7 : Int32) then (wbn (w1n (fL_add L Nf r2.2 107 x8 x9)) (fun r18 => if r18.1 = (-2052 : Int32) then (fL_law_399 L Nf xs Ln self98 x3 x4 x6 x7 r18.1 r18.2) else (ibn (fX6_edge L Nf r18.2 107 r18.1 (2 : Int32)) (fun r19 => if r1.1 ≤ r2.1 then (fL_law_383 L Nf xs Ln self98 x3 x4 x6 x7 r18.1 r19 x8 r18.2) else (fL_law_383 L Nf xs Ln self98 x3 x4 x6 x7 r18.1 r19 x9 r18.2))))) else (if r4 = (8 : Int32) then (wbn (w1n (fL_remove L Nf r2.2 107 y0)) (fun r20 => fL_law_743 L Nf xs Ln self98 x2 x3 x4 x6 x7 r20.1 r20.2)) else (if r4 = (9 : Int32) then (ibn (fX6_value L Nf r2.2 107 (1 : Int32)) (fun r21 => if r21 = 0 then (fL_law_438 L Nf xs Ln self98 x3 x4 x6 x7 y0 (0 : Int32) r2.2) else (ibn (fX6_edge L Nf r2.2 107 y0 (2 : Int32)) (fun r22 => fL_law_438 L Nf xs Ln self98 x3 x4 x6 x7 y0 r22 r2.2)))) else (if r4 = (10 : Int32) then (ibn (fX6_value L Nf r2.2 107 (1 : Int32)) (fun r23 => if r23 = 0 then (fL_law_438 L Nf xs Ln self98 x3 x4 x6 x7 y0 (0 : Int32) r2.2) else (ibn (fX6_edge L Nf r2.2 107 y0 (2 : Int32)) (fun r24 => fL_law_438 L Nf xs Ln self98 x3 x4 x6 x7 y0 r24 r2.2)))) else (if r4 = (11 : Int32) then (ibn (fX6_value L Nf r2.2 107 (1 : Int32)) (fun r25 => if r25 = 0 then (fL_law_438 L Nf xs Ln self98 x3 x4 x6 x7 y0 (0 : Int32) r2.2) else (ibn (fX6_edge L Nf r2.2 107 y0 (2 : Int32)) (fun r26 => fL_law_438 L Nf xs Ln self98 x3 x4 x6 x7 y0 r26 r2.2)))) else (if r4 = (12 : Int32) then (wbn (w1n (fL_relieve L Nf r2.2 107 x8)) (fun r27 => if r27.1 = (-2052 : Int32) then (fL_law_545 L Nf xs Ln self98 x3 x4 x6 x7 r27.1 r27.2) else (if r27.1 ≤ 0 then (fL_law_549 L Nf xs Ln self98 x3 x4 x6 x7 r27.1 r27.2) else (ibn (fX6_node L Nf r27.2 107 x8 (0 : Int32)) (fun r28 => if r28.1 = (r1.1 - (1 : Int32)) then (ibn (fX6_value L Nf r28.2 107 (4 : Int32)) (fun r29 => if r3 ≤ r29 then (fL_law_549 L Nf xs Ln self98 x3 x4 x6 x7 r27.1 r28.2) else (fL_law_545 L Nf xs Ln self98 x3 x4 x6 x7 r27.1 r28.2))) else (fL_law_549 L Nf xs Ln self98 x3 x4 x6 x7 r27.1 r28.2)))))) else (if r4 = (13 : Int32) then (wbn (w1n (fL_relieve L Nf r2.2 107 x8)) (fun r30 => if r30.1 = (-2052 : Int32) then (fL_law_545 L Nf xs Ln self98 x3 x4 x6 x7 r30.1 r30.2) else (if r30.1 ≤ 0 then (fL_law_549 L Nf xs Ln self98 x3 x4 x6 x7 r30.1 r30.2) else (ibn (fX6_node L Nf r30.2 107 x8 (0 : Int32)) (fun r31 => if r31.1 = (r1.1 - (1 : Int32)) then (ibn (fX6_value L Nf r31.2 107 (4 : Int32)) (fun r32 => if r3 ≤ r32 then (fL_law_549 L Nf xs Ln self98 x3 x4 x6 x7 r30.1 r31.2) else (fL_law_545 L Nf xs Ln self98 x3 x4 x6 x7 r30.1 r31.2))) else (fL_law_549 L Nf xs Ln self98 x3 x4 x6 x7 r30.1 r31.2)))))) else (if r4 = (14 : Int32) then (Option.bind (fX6_balance L Nf r2.2 107) (fun r33 => ibn (fX6_value L Nf r33.2 107 (2 : Int32)) (fun r34 => Option.bind (fX6_least L Nf r33.2 107) (fun r35 => if r34 = r35.1 then (if r33.1 < 0 then (fL_law_581 L Nf xs Ln self98 x3 x4 x6 x7 r33.1 r35.2) else (fL_law_582 L Nf xs Ln self98 x3 x4 x6 x7 r33.1 (1 : Int32) r35.2)) else (fL_law_581 L Nf xs Ln self98 x3 x4 x6 x7 r33.1 r35.2))))) else (if r4 = (15 : Int32) then (grd (nz (5 : Int32)) (wbn (w1n (fL_setCapacity L Nf r2.2 107 x8 (x7 - x7 / (5 : Int32) * (5 : Int32)))) (fun r36 => ibn (fX6_node L Nf r36.2 107 x8 (2 : Int32)) (fun r37 => grd (nz (5 : Int32)) (if r37.1 = (x7 - x7 / (5 : Int32) * (5 : Int32)) then (fL_law_617 L Nf xs Ln self98 x3 x4 x6 x7 r36.1 (1 : Int32) r37.2) else (fL_law_617 L Nf xs Ln self98 x3 x4 x6 x7 r36.1 (0 : Int32) r37.2)))))) else (if r4 = (16 : Int32) then (grd (nz (5 : Int32)) (wbn (w1n (fL_setCapacity L Nf r2.2 107 x8 (x7 - x7 / (5 : Int32) * (5 : Int32)))) (fun r38 => ibn (fX6_node L Nf r38.2 107 x8 (2 : Int32)) (fun r39 => grd (nz (5 : Int32)) (if r39.1 = (x7 - x7 / (5 : Int32) * (5 : Int32)) then (fL_law_617 L Nf xs Ln self98 x3 x4 x6 x7 r38.1 (1 : Int32) r39.2) else (fL_law_617 L Nf xs Ln self98 x3 x4 x6 x7 r38.1 (0 : Int32) r39.2)))))) else (if r4 = (17 : Int32) then (ibn (fX6_path L Nf r2.2 107 x8 x9) (fun r40 => wbn (some (z12 r40.2, 1)) (fun σ41 => fL_law_640 L Nf xs Ln self98 Nf x3 x4 x6 x7 x8 x9 r1.1 r2.1 (0 : Int32) r40.1 (0 : Int32) σ41))) else (wbn (w1n (fL_undo L Nf r2.2 107)) (fun r43 => fL_law_743 L Nf xs Ln self98 x2 x3 x4 x6 x7 r43.1 r43.2)))))))))))))))))))))))
set_option maxHeartbeats 4000000 in
set_option maxRecDepth 100000 in
theorem sL_law_195 {K : MCx} {a : Nat → Nat} (Nf : Nat) (D : va_G) (cI cG cL : ClassId) (Z : State → Prop) (b Ln : Nat) (xs : Nat → Int32) (X : Cx K (Gc D cI cG cL a) RL cL_law 18 (some .boolean) 12 456) (Y : YL K (Gc D cI cG cL a) Z b Ln xs) (h : Int64) (self98 : Int32 → Int32 → cS → Option ((Int32 × cS) × Nat)) (hself98 : ∀ (K : MCx) (a : Nat → Nat) (X : Cx K (Gc D cI cG cL a) RL cL_law 18 (some .boolean) 12 456) (Y : YL K (Gc D cI cG cL a) Z b Ln xs) (x2 : Int32) (x3 : Int32) (σ : cS), Sm K (Gc D cI cG cL a) (PL K) (QL Z) 18 98 [(0, .ref b), (1, .ref (la (Gc D cI cG cL a) 107)), (2, .int x2), (3, .int x3)] [] h σ (self98 x2 x3 σ)) (x2 : Int32) (x3 : Int32) (x4 : Int32) (x6 : Int32) (x7 : Int32) (x8 : Int32) (x9 : Int32) (y0 : Int32) (σ : cS) : Sm K (Gc D cI cG cL a) (PL K) (QL Z) 18 195 [(0, .ref b), (1, .ref (la (Gc D cI cG cL a) 107)), (2, .int x2), (3, .int x3), (4, .int x4), (6, .int x6), (7, .int x7), (8, .int x8), (9, .int x9)] [.int y0] h σ (fL_law_195 (lCt ()) Nf xs Ln self98 x2 x3 x4 x6 x7 x8 x9 y0 σ) := by
  unfold fL_law_195
  refine z_istore X [(10, .int y0), (0, .ref b), (1, .ref (la (Gc D cI cG cL a) 107)), (2, .int x2), (3, .int x3), (4, .int x4), (6, .int x6), (7, .int x7), (8, .int x8), (9, .int x9)] dL_law_195 (by decide) rfl ?_
  refine z_aload_n X dL_law_197 2 rfl ?_
  refine z_iload X dL_law_198 8 rfl ?_
  refine z_iconst (v := (0 : Int32)) X dL_law_200 (by decide) ?_
  refine z_callVN X (g := (fun r1 : (Int32 × cS) => ((some (.int r1.1), h, r1.2) : Option Value × Int64 × cS))) (st := []) (st1 := (fun r1 : (Int32 × cS) => [.int r1.1])) (rmf := 7) (rml := 111) [.int x8, .int (0 : Int32)] 107 cal_X6_node q_17_3 ⟨Nat.le_of_ble_eq_true rfl, Nat.le_of_ble_eq_true rfl⟩ rfl rfl (Nat.le_of_ble_eq_true rfl) rfl (isEH_law Y.1).1 (ce6 (isEH_law Y.1).1 _ _) (ctX6_node_n (kl K) _ X.2.2.2.2.2.2.2.1 Nf h σ 107 (isEH_law Y.1) x8 (0 : Int32)) dL_law_201 (fun _ => rfl) (fun r1 => ?_)
  refine z_istore X [(11, .int r1.1), (10, .int y0), (0, .ref b), (1, .ref (la (Gc D cI cG cL a) 107)), (2, .int x2), (3, .int x3), (4, .int x4), (6, .int x6), (7, .int x7), (8, .int x8), (9, .int x9)] dL_law_204 (by decide) rfl ?_
  refine z_aload_n X dL_law_206 3 rfl ?_
  refine z_iload X dL_law_207 10 rfl ?_
  refine z_iconst (v := (0 : Int32)) X dL_law_209 (by decide) ?_
  refine z_callVN X (g := (fun r2 : (Int32 × cS) => ((some (.int r2.1), h, r2.2) : Option Value × Int64 × cS))) (st := []) (st1 := (fun r2 : (Int32 × cS) => [.int r2.1])) (rmf := 7) (rml := 111) [.int x9, .int (0 : Int32)] 107 cal_X6_node q_17_3 ⟨Nat.le_of_ble_eq_true rfl, Nat.le_of_ble_eq_true rfl⟩ rfl rfl (Nat.le_of_ble_eq_true rfl) rfl (isEH_law Y.1).1 (ce6 (isEH_law Y.1).1 _ _) (ctX6_node_n (kl K) _ X.2.2.2.2.2.2.2.1 Nf h r1.2 107 (isEH_law Y.1) x9 (0 : Int32)) dL_law_210 (fun _ => rfl) (fun r2 => ?_)
  refine z_istore X [(12, .int r2.1), (11, .int r1.1), (10, .int y0), (0, .ref b), (1, .ref (la (Gc D cI cG cL a) 107)), (2, .int x2), (3, .int x3), (4, .int x4), (6, .int x6), (7, .int x7), (8, .int x8), (9, .int x9)] dL_law_213 (by decide) rfl ?_
  refine z_aload_n X dL_law_215 4 rfl ?_
  refine z_iconst (v := (4 : Int32)) X dL_law_216 (by decide) ?_
  refine z_callVN X (g := (fun r3 : Int32 => ((some (.int r3), h, r2.2) : Option Value × Int64 × cS))) (st := []) (st1 := (fun r3 : Int32 => [.int r3])) (rmf := 6) (rml := 90) [.int (4 : Int32)] 107 cal_X6_value q_6_2 ⟨Nat.le_of_ble_eq_true rfl, Nat.le_of_ble_eq_true rfl⟩ rfl rfl (Nat.le_of_ble_eq_true rfl) rfl (isEH_law Y.1).1 (ce6 (isEH_law Y.1).1 _ _) (ctX6_value_n (kl K) _ X.2.2.2.2.2.2.2.1 Nf h r2.2 107 (isEH_law Y.1) (4 : Int32)) dL_law_217 (fun _ => rfl) (fun r3 => ?_)
  refine z_istore X [(13, .int r3), (12, .int r2.1), (11, .int r1.1), (10, .int y0), (0, .ref b), (1, .ref (la (Gc D cI cG cL a) 107)), (2, .int x2), (3, .int x3), (4, .int x4), (6, .int x6), (7, .int x7), (8, .int x8), (9, .int x9)] dL_law_220 (by decide) rfl ?_
  refine z_iconst (v := (0 : Int32)) X dL_law_222 (by decide) ?_
  refine z_istore X [(14, .int (0 : Int32)), (13, .int r3), (12, .int r2.1), (11, .int r1.1), (10, .int y0), (0, .ref b), (1, .ref (la (Gc D cI cG cL a) 107)), (2, .int x2), (3, .int x3), (4, .int x4), (6, .int x6), (7, .int x7), (8, .int x8), (9, .int x9)] dL_law_223 (by decide) rfl ?_
  refine z_iload X dL_law_225 9 rfl ?_
  refine z_bipush (v := (20 : Int32)) X dL_law_227 (by decide) ?_
  refine z_callS0 X (g := (fun r4 : Int32 => ((some (.int r4), h, r2.2) : Option Value × Int64 × cS))) (st := []) (st1 := (fun r4 : Int32 => [.int r4])) (rmf := 0) (rml := 0) [.int x4, .int (20 : Int32)] cal_L_low q_23_16 ⟨Nat.le_of_ble_eq_true rfl, Nat.le_of_ble_eq_true rfl⟩ rfl rfl (Nat.le_of_ble_eq_true rfl) (ctL_low (kl K) _ X.2.2.2.2.2.2.2.1 h r2.2 x4 (20 : Int32)) dL_law_229 (fun _ => rfl) (fun r4 => ?_)
  refine z_ite (fun c0 => ?_) (fun c0 => ?_)
  · refine z_tsIn (off := 88) X 320 dL_law_232 (by rw [c0]; decide) (by rw [c0]; decide) (by rw [c0]; rfl) (by decide) ?_
    refine z_iload_n X dL_law_320 8 rfl ?_
    refine z_iconst (v := (3 : Int32)) X dL_law_321 (by decide) ?_
    refine z_icmp_le X 329 dL_law_322 (by decide) ?_ ?_
    · refine z_aload_n X dL_law_329 6 rfl ?_
      refine z_iconst (v := (2 : Int32)) X dL_law_330 (by decide) ?_
      refine z_iload X dL_law_331 10 rfl ?_
      refine z_iconst (v := (5 : Int32)) X dL_law_333 (by decide) ?_
      refine z_irem X dL_law_334 ?_
      refine z_iadd X dL_law_335 ?_
      refine z_callW (P := fun K => PL K) (Q := fun _ => QL Z) (pq_L Z) X (n := 2) (fr := 7) (lo := 112) (st := []) [.ref (la (Gc D cI cG cL a) 107), .int ((2 : Int32) + (x6 - x6 / (5 : Int32) * (5 : Int32)))] (fun hfl => hL_begin (kl K) hfl _ X.2.2.2.2.2.2.2.1 Nf h r2.2 107 (isEH_law Y.1) ((2 : Int32) + (x6 - x6 / (5 : Int32) * (5 : Int32)))) q_18_14 q_18_13 q_4_22 q_18_12 (by decide +kernel) ⟨Nat.le_of_ble_eq_true rfl, Nat.le_of_ble_eq_true rfl⟩ rfl rfl (Nat.le_of_ble_eq_true rfl) dL_law_336 (fun r5 X => ?_)
      exact z_sub [5, 6, 7, 8, 9, 10, 11] rfl (sL_law_339 Nf D cI cG cL Z b Ln xs X Y h self98 hself98 x2 x3 x4 x6 x7 r5.1 r5.2)
    · refine z_iconst (v := (0 : Int32)) X dL_law_325 (by decide) ?_
      refine z_goto X 339 dL_law_326 (by decide) ?_
      exact z_sub [5, 6, 7, 8, 9, 10, 11] rfl (sL_law_339 Nf D cI cG cL Z b Ln xs X Y h self98 hself98 x2 x3 x4 x6 x7 (0 : Int32) r2.2)
  · refine z_ite (fun c1 => ?_) (fun c1 => ?_)
    · refine z_tsIn (off := 112) X 344 dL_law_232 (by rw [c1]; decide) (by rw [c1]; decide) (by rw [c1]; rfl) (by decide) ?_
      refine z_aload_n X dL_law_344 6 rfl ?_
      refine z_iload X dL_law_345 12 rfl ?_
      refine z_iload X dL_law_347 13 rfl ?_
      refine z_callW (P := fun K => PL K) (Q := fun _ => QL Z) (pq_L Z) X (n := 3) (fr := 8) (lo := 133) (st := []) [.ref (la (Gc D cI cG cL a) 107), .int x8, .int x9] (fun hfl => hL_add (kl K) hfl _ X.2.2.2.2.2.2.2.1 Nf h r2.2 107 (isEH_law Y.1) x8 x9) q_18_23 q_18_22 q_4_22 q_18_21 (by decide +kernel) ⟨Nat.le_of_ble_eq_true rfl, Nat.le_of_ble_eq_true rfl⟩ rfl rfl (Nat.le_of_ble_eq_true rfl) dL_law_349 (fun r6 X => ?_)
      refine z_istore X [(14, .int r6.1), (13, .int r3), (12, .int r2.1), (11, .int r1.1), (10, .int y0), (0, .ref b), (1, .ref (la (Gc D cI cG cL a) 107)), (2, .int x2), (3, .int x3), (4, .int x4), (6, .int x6), (7, .int x7), (8, .int x8), (9, .int x9)] dL_law_352 (by decide) rfl ?_
      refine z_iload X dL_law_354 0 rfl ?_
      refine z_sipush (v := (-2052 : Int32)) X dL_law_356 (by decide) ?_
      refine z_icmp_eq X 399 dL_law_359 (by decide) ?_ ?_
      · exact z_sub [5, 6, 8, 9, 10, 11, 0] rfl (sL_law_399 Nf D cI cG cL Z b Ln xs X Y h self98 hself98 x3 x4 x6 x7 r6.1 r6.2)
      · refine z_aload_n X dL_law_362 6 rfl ?_
        refine z_iload X dL_law_363 0 rfl ?_
        refine z_iconst (v := (2 : Int32)) X dL_law_365 (by decide) ?_
        refine z_callVN X (g := (fun r7 : Int32 => ((some (.int r7), h, r6.2) : Option Value × Int64 × cS))) (st := []) (st1 := (fun r7 : Int32 => [.int r7])) (rmf := 7) (rml := 112) [.int r6.1, .int (2 : Int32)] 107 cal_X6_edge q_18_2 ⟨Nat.le_of_ble_eq_true rfl, Nat.le_of_ble_eq_true rfl⟩ rfl rfl (Nat.le_of_ble_eq_true rfl) rfl (isEH_law Y.1).1 (ce6 (isEH_law Y.1).1 _ _) (ctX6_edge_n (kl K) _ X.2.2.2.2.2.2.2.1 Nf h r6.2 107 (isEH_law Y.1) r6.1 (2 : Int32)) dL_law_366 (fun _ => rfl) (fun r7 => ?_)
        refine z_iload X dL_law_369 2 rfl ?_
        refine z_iload X dL_law_371 3 rfl ?_
        refine z_icmp_ge X 381 dL_law_373 (by decide) ?_ ?_
        · refine z_iload X dL_law_381 12 rfl ?_
          exact z_sub [5, 6, 8, 9, 10, 11, 0] rfl (sL_law_383 Nf D cI cG cL Z b Ln xs X Y h self98 hself98 x3 x4 x6 x7 r6.1 r7 x8 r6.2)
        · refine z_iload X dL_law_376 13 rfl ?_
          refine z_goto X 383 dL_law_378 (by decide) ?_
          exact z_sub [5, 6, 8, 9, 10, 11, 0] rfl (sL_law_383 Nf D cI cG cL Z b Ln xs X Y h self98 hself98 x3 x4 x6 x7 r6.1 r7 x9 r6.2)
    · refine z_ite (fun c2 => ?_) (fun c2 => ?_)
      · refine z_tsIn (off := 112) X 344 dL_law_232 (by rw [c2]; decide) (by rw [c2]; decide) (by rw [c2]; rfl) (by decide) ?_
        refine z_aload_n X dL_law_344 6 rfl ?_
        refine z_iload X dL_law_345 12 rfl ?_
        refine z_iload X dL_law_347 13 rfl ?_
        refine z_callW (P := fun K => PL K) (Q := fun _ => QL Z) (pq_L Z) X (n := 3) (fr := 8) (lo := 133) (st := []) [.ref (la (Gc D cI cG cL a) 107), .int x8, .int x9] (fun hfl => hL_add (kl K) hfl _ X.2.2.2.2.2.2.2.1 Nf h r2.2 107 (isEH_law Y.1) x8 x9) q_18_23 q_18_22 q_4_22 q_18_21 (by decide +kernel) ⟨Nat.le_of_ble_eq_true rfl, Nat.le_of_ble_eq_true rfl⟩ rfl rfl (Nat.le_of_ble_eq_true rfl) dL_law_349 (fun r8 X => ?_)
        refine z_istore X [(14, .int r8.1), (13, .int r3), (12, .int r2.1), (11, .int r1.1), (10, .int y0), (0, .ref b), (1, .ref (la (Gc D cI cG cL a) 107)), (2, .int x2), (3, .int x3), (4, .int x4), (6, .int x6), (7, .int x7), (8, .int x8), (9, .int x9)] dL_law_352 (by decide) rfl ?_
        refine z_iload X dL_law_354 0 rfl ?_
        refine z_sipush (v := (-2052 : Int32)) X dL_law_356 (by decide) ?_
        refine z_icmp_eq X 399 dL_law_359 (by decide) ?_ ?_
        · exact z_sub [5, 6, 8, 9, 10, 11, 0] rfl (sL_law_399 Nf D cI cG cL Z b Ln xs X Y h self98 hself98 x3 x4 x6 x7 r8.1 r8.2)
        · refine z_aload_n X dL_law_362 6 rfl ?_
          refine z_iload X dL_law_363 0 rfl ?_
          refine z_iconst (v := (2 : Int32)) X dL_law_365 (by decide) ?_
          refine z_callVN X (g := (fun r9 : Int32 => ((some (.int r9), h, r8.2) : Option Value × Int64 × cS))) (st := []) (st1 := (fun r9 : Int32 => [.int r9])) (rmf := 7) (rml := 112) [.int r8.1, .int (2 : Int32)] 107 cal_X6_edge q_18_2 ⟨Nat.le_of_ble_eq_true rfl, Nat.le_of_ble_eq_true rfl⟩ rfl rfl (Nat.le_of_ble_eq_true rfl) rfl (isEH_law Y.1).1 (ce6 (isEH_law Y.1).1 _ _) (ctX6_edge_n (kl K) _ X.2.2.2.2.2.2.2.1 Nf h r8.2 107 (isEH_law Y.1) r8.1 (2 : Int32)) dL_law_366 (fun _ => rfl) (fun r9 => ?_)
          refine z_iload X dL_law_369 2 rfl ?_
          refine z_iload X dL_law_371 3 rfl ?_
          refine z_icmp_ge X 381 dL_law_373 (by decide) ?_ ?_
          · refine z_iload X dL_law_381 12 rfl ?_
            exact z_sub [5, 6, 8, 9, 10, 11, 0] rfl (sL_law_383 Nf D cI cG cL Z b Ln xs X Y h self98 hself98 x3 x4 x6 x7 r8.1 r9 x8 r8.2)
          · refine z_iload X dL_law_376 13 rfl ?_
            refine z_goto X 383 dL_law_378 (by decide) ?_
            exact z_sub [5, 6, 8, 9, 10, 11, 0] rfl (sL_law_383 Nf D cI cG cL Z b Ln xs X Y h self98 hself98 x3 x4 x6 x7 r8.1 r9 x9 r8.2)
      · refine z_ite (fun c3 => ?_) (fun c3 => ?_)
        · refine z_tsIn (off := 112) X 344 dL_law_232 (by rw [c3]; decide) (by rw [c3]; decide) (by rw [c3]; rfl) (by decide) ?_
          refine z_aload_n X dL_law_344 6 rfl ?_
          refine z_iload X dL_law_345 12 rfl ?_
          refine z_iload X dL_law_347 13 rfl ?_
          refine z_callW (P := fun K => PL K) (Q := fun _ => QL Z) (pq_L Z) X (n := 3) (fr := 8) (lo := 133) (st := []) [.ref (la (Gc D cI cG cL a) 107), .int x8, .int x9] (fun hfl => hL_add (kl K) hfl _ X.2.2.2.2.2.2.2.1 Nf h r2.2 107 (isEH_law Y.1) x8 x9) q_18_23 q_18_22 q_4_22 q_18_21 (by decide +kernel) ⟨Nat.le_of_ble_eq_true rfl, Nat.le_of_ble_eq_true rfl⟩ rfl rfl (Nat.le_of_ble_eq_true rfl) dL_law_349 (fun r10 X => ?_)
          refine z_istore X [(14, .int r10.1), (13, .int r3), (12, .int r2.1), (11, .int r1.1), (10, .int y0), (0, .ref b), (1, .ref (la (Gc D cI cG cL a) 107)), (2, .int x2), (3, .int x3), (4, .int x4), (6, .int x6), (7, .int x7), (8, .int x8), (9, .int x9)] dL_law_352 (by decide) rfl ?_
          refine z_iload X dL_law_354 0 rfl ?_
          refine z_sipush (v := (-2052 : Int32)) X dL_law_356 (by decide) ?_
          refine z_icmp_eq X 399 dL_law_359 (by decide) ?_ ?_
          · exact z_sub [5, 6, 8, 9, 10, 11, 0] rfl (sL_law_399 Nf D cI cG cL Z b Ln xs X Y h self98 hself98 x3 x4 x6 x7 r10.1 r10.2)
          · refine z_aload_n X dL_law_362 6 rfl ?_
            refine z_iload X dL_law_363 0 rfl ?_
            refine z_iconst (v := (2 : Int32)) X dL_law_365 (by decide) ?_
            refine z_callVN X (g := (fun r11 : Int32 => ((some (.int r11), h, r10.2) : Option Value × Int64 × cS))) (st := []) (st1 := (fun r11 : Int32 => [.int r11])) (rmf := 7) (rml := 112) [.int r10.1, .int (2 : Int32)] 107 cal_X6_edge q_18_2 ⟨Nat.le_of_ble_eq_true rfl, Nat.le_of_ble_eq_true rfl⟩ rfl rfl (Nat.le_of_ble_eq_true rfl) rfl (isEH_law Y.1).1 (ce6 (isEH_law Y.1).1 _ _) (ctX6_edge_n (kl K) _ X.2.2.2.2.2.2.2.1 Nf h r10.2 107 (isEH_law Y.1) r10.1 (2 : Int32)) dL_law_366 (fun _ => rfl) (fun r11 => ?_)
            refine z_iload X dL_law_369 2 rfl ?_
            refine z_iload X dL_law_371 3 rfl ?_
            refine z_icmp_ge X 381 dL_law_373 (by decide) ?_ ?_
            · refine z_iload X dL_law_381 12 rfl ?_
              exact z_sub [5, 6, 8, 9, 10, 11, 0] rfl (sL_law_383 Nf D cI cG cL Z b Ln xs X Y h self98 hself98 x3 x4 x6 x7 r10.1 r11 x8 r10.2)
            · refine z_iload X dL_law_376 13 rfl ?_
              refine z_goto X 383 dL_law_378 (by decide) ?_
              exact z_sub [5, 6, 8, 9, 10, 11, 0] rfl (sL_law_383 Nf D cI cG cL Z b Ln xs X Y h self98 hself98 x3 x4 x6 x7 r10.1 r11 x9 r10.2)
        · refine z_ite (fun c4 => ?_) (fun c4 => ?_)
          · refine z_tsIn (off := 112) X 344 dL_law_232 (by rw [c4]; decide) (by rw [c4]; decide) (by rw [c4]; rfl) (by decide) ?_
            refine z_aload_n X dL_law_344 6 rfl ?_
            refine z_iload X dL_law_345 12 rfl ?_
            refine z_iload X dL_law_347 13 rfl ?_
            refine z_callW (P := fun K => PL K) (Q := fun _ => QL Z) (pq_L Z) X (n := 3) (fr := 8) (lo := 133) (st := []) [.ref (la (Gc D cI cG cL a) 107), .int x8, .int x9] (fun hfl => hL_add (kl K) hfl _ X.2.2.2.2.2.2.2.1 Nf h r2.2 107 (isEH_law Y.1) x8 x9) q_18_23 q_18_22 q_4_22 q_18_21 (by decide +kernel) ⟨Nat.le_of_ble_eq_true rfl, Nat.le_of_ble_eq_true rfl⟩ rfl rfl (Nat.le_of_ble_eq_true rfl) dL_law_349 (fun r12 X => ?_)
            refine z_istore X [(14, .int r12.1), (13, .int r3), (12, .int r2.1), (11, .int r1.1), (10, .int y0), (0, .ref b), (1, .ref (la (Gc D cI cG cL a) 107)), (2, .int x2), (3, .int x3), (4, .int x4), (6, .int x6), (7, .int x7), (8, .int x8), (9, .int x9)] dL_law_352 (by decide) rfl ?_
            refine z_iload X dL_law_354 0 rfl ?_
            refine z_sipush (v := (-2052 : Int32)) X dL_law_356 (by decide) ?_
            refine z_icmp_eq X 399 dL_law_359 (by decide) ?_ ?_
            · exact z_sub [5, 6, 8, 9, 10, 11, 0] rfl (sL_law_399 Nf D cI cG cL Z b Ln xs X Y h self98 hself98 x3 x4 x6 x7 r12.1 r12.2)
            · refine z_aload_n X dL_law_362 6 rfl ?_
              refine z_iload X dL_law_363 0 rfl ?_
              refine z_iconst (v := (2 : Int32)) X dL_law_365 (by decide) ?_
              refine z_callVN X (g := (fun r13 : Int32 => ((some (.int r13), h, r12.2) : Option Value × Int64 × cS))) (st := []) (st1 := (fun r13 : Int32 => [.int r13])) (rmf := 7) (rml := 112) [.int r12.1, .int (2 : Int32)] 107 cal_X6_edge q_18_2 ⟨Nat.le_of_ble_eq_true rfl, Nat.le_of_ble_eq_true rfl⟩ rfl rfl (Nat.le_of_ble_eq_true rfl) rfl (isEH_law Y.1).1 (ce6 (isEH_law Y.1).1 _ _) (ctX6_edge_n (kl K) _ X.2.2.2.2.2.2.2.1 Nf h r12.2 107 (isEH_law Y.1) r12.1 (2 : Int32)) dL_law_366 (fun _ => rfl) (fun r13 => ?_)
              refine z_iload X dL_law_369 2 rfl ?_
              refine z_iload X dL_law_371 3 rfl ?_
              refine z_icmp_ge X 381 dL_law_373 (by decide) ?_ ?_
              · refine z_iload X dL_law_381 12 rfl ?_
                exact z_sub [5, 6, 8, 9, 10, 11, 0] rfl (sL_law_383 Nf D cI cG cL Z b Ln xs X Y h self98 hself98 x3 x4 x6 x7 r12.1 r13 x8 r12.2)
              · refine z_iload X dL_law_376 13 rfl ?_
                refine z_goto X 383 dL_law_378 (by decide) ?_
                exact z_sub [5, 6, 8, 9, 10, 11, 0] rfl (sL_law_383 Nf D cI cG cL Z b Ln xs X Y h self98 hself98 x3 x4 x6 x7 r12.1 r13 x9 r12.2)
          · refine z_ite (fun c5 => ?_) (fun c5 => ?_)
            · refine z_tsIn (off := 112) X 344 dL_law_232 (by rw [c5]; decide) (by rw [c5]; decide) (by rw [c5]; rfl) (by decide) ?_
              refine z_aload_n X dL_law_344 6 rfl ?_
              refine z_iload X dL_law_345 12 rfl ?_
              refine z_iload X dL_law_347 13 rfl ?_
              refine z_callW (P := fun K => PL K) (Q := fun _ => QL Z) (pq_L Z) X (n := 3) (fr := 8) (lo := 133) (st := []) [.ref (la (Gc D cI cG cL a) 107), .int x8, .int x9] (fun hfl => hL_add (kl K) hfl _ X.2.2.2.2.2.2.2.1 Nf h r2.2 107 (isEH_law Y.1) x8 x9) q_18_23 q_18_22 q_4_22 q_18_21 (by decide +kernel) ⟨Nat.le_of_ble_eq_true rfl, Nat.le_of_ble_eq_true rfl⟩ rfl rfl (Nat.le_of_ble_eq_true rfl) dL_law_349 (fun r14 X => ?_)
              refine z_istore X [(14, .int r14.1), (13, .int r3), (12, .int r2.1), (11, .int r1.1), (10, .int y0), (0, .ref b), (1, .ref (la (Gc D cI cG cL a) 107)), (2, .int x2), (3, .int x3), (4, .int x4), (6, .int x6), (7, .int x7), (8, .int x8), (9, .int x9)] dL_law_352 (by decide) rfl ?_
              refine z_iload X dL_law_354 0 rfl ?_
              refine z_sipush (v := (-2052 : Int32)) X dL_law_356 (by decide) ?_
              refine z_icmp_eq X 399 dL_law_359 (by decide) ?_ ?_
              · exact z_sub [5, 6, 8, 9, 10, 11, 0] rfl (sL_law_399 Nf D cI cG cL Z b Ln xs X Y h self98 hself98 x3 x4 x6 x7 r14.1 r14.2)
              · refine z_aload_n X dL_law_362 6 rfl ?_
                refine z_iload X dL_law_363 0 rfl ?_
                refine z_iconst (v := (2 : Int32)) X dL_law_365 (by decide) ?_
                refine z_callVN X (g := (fun r15 : Int32 => ((some (.int r15), h, r14.2) : Option Value × Int64 × cS))) (st := []) (st1 := (fun r15 : Int32 => [.int r15])) (rmf := 7) (rml := 112) [.int r14.1, .int (2 : Int32)] 107 cal_X6_edge q_18_2 ⟨Nat.le_of_ble_eq_true rfl, Nat.le_of_ble_eq_true rfl⟩ rfl rfl (Nat.le_of_ble_eq_true rfl) rfl (isEH_law Y.1).1 (ce6 (isEH_law Y.1).1 _ _) (ctX6_edge_n (kl K) _ X.2.2.2.2.2.2.2.1 Nf h r14.2 107 (isEH_law Y.1) r14.1 (2 : Int32)) dL_law_366 (fun _ => rfl) (fun r15 => ?_)
                refine z_iload X dL_law_369 2 rfl ?_
                refine z_iload X dL_law_371 3 rfl ?_
                refine z_icmp_ge X 381 dL_law_373 (by decide) ?_ ?_
                · refine z_iload X dL_law_381 12 rfl ?_
                  exact z_sub [5, 6, 8, 9, 10, 11, 0] rfl (sL_law_383 Nf D cI cG cL Z b Ln xs X Y h self98 hself98 x3 x4 x6 x7 r14.1 r15 x8 r14.2)
                · refine z_iload X dL_law_376 13 rfl ?_
                  refine z_goto X 383 dL_law_378 (by decide) ?_
                  exact z_sub [5, 6, 8, 9, 10, 11, 0] rfl (sL_law_383 Nf D cI cG cL Z b Ln xs X Y h self98 hself98 x3 x4 x6 x7 r14.1 r15 x9 r14.2)
            · refine z_ite (fun c6 => ?_) (fun c6 => ?_)
              · refine z_tsIn (off := 112) X 344 dL_law_232 (by rw [c6]; decide) (by rw [c6]; decide) (by rw [c6]; rfl) (by decide) ?_
                refine z_aload_n X dL_law_344 6 rfl ?_
                refine z_iload X dL_law_345 12 rfl ?_
                refine z_iload X dL_law_347 13 rfl ?_
                refine z_callW (P := fun K => PL K) (Q := fun _ => QL Z) (pq_L Z) X (n := 3) (fr := 8) (lo := 133) (st := []) [.ref (la (Gc D cI cG cL a) 107), .int x8, .int x9] (fun hfl => hL_add (kl K) hfl _ X.2.2.2.2.2.2.2.1 Nf h r2.2 107 (isEH_law Y.1) x8 x9) q_18_23 q_18_22 q_4_22 q_18_21 (by decide +kernel) ⟨Nat.le_of_ble_eq_true rfl, Nat.le_of_ble_eq_true rfl⟩ rfl rfl (Nat.le_of_ble_eq_true rfl) dL_law_349 (fun r16 X => ?_)
                refine z_istore X [(14, .int r16.1), (13, .int r3), (12, .int r2.1), (11, .int r1.1), (10, .int y0), (0, .ref b), (1, .ref (la (Gc D cI cG cL a) 107)), (2, .int x2), (3, .int x3), (4, .int x4), (6, .int x6), (7, .int x7), (8, .int x8), (9, .int x9)] dL_law_352 (by decide) rfl ?_
                refine z_iload X dL_law_354 0 rfl ?_
                refine z_sipush (v := (-2052 : Int32)) X dL_law_356 (by decide) ?_
                refine z_icmp_eq X 399 dL_law_359 (by decide) ?_ ?_
                · exact z_sub [5, 6, 8, 9, 10, 11, 0] rfl (sL_law_399 Nf D cI cG cL Z b Ln xs X Y h self98 hself98 x3 x4 x6 x7 r16.1 r16.2)
                · refine z_aload_n X dL_law_362 6 rfl ?_
                  refine z_iload X dL_law_363 0 rfl ?_
                  refine z_iconst (v := (2 : Int32)) X dL_law_365 (by decide) ?_
                  refine z_callVN X (g := (fun r17 : Int32 => ((some (.int r17), h, r16.2) : Option Value × Int64 × cS))) (st := []) (st1 := (fun r17 : Int32 => [.int r17])) (rmf := 7) (rml := 112) [.int r16.1, .int (2 : Int32)] 107 cal_X6_edge q_18_2 ⟨Nat.le_of_ble_eq_true rfl, Nat.le_of_ble_eq_true rfl⟩ rfl rfl (Nat.le_of_ble_eq_true rfl) rfl (isEH_law Y.1).1 (ce6 (isEH_law Y.1).1 _ _) (ctX6_edge_n (kl K) _ X.2.2.2.2.2.2.2.1 Nf h r16.2 107 (isEH_law Y.1) r16.1 (2 : Int32)) dL_law_366 (fun _ => rfl) (fun r17 => ?_)
                  refine z_iload X dL_law_369 2 rfl ?_
                  refine z_iload X dL_law_371 3 rfl ?_
                  refine z_icmp_ge X 381 dL_law_373 (by decide) ?_ ?_
                  · refine z_iload X dL_law_381 12 rfl ?_
                    exact z_sub [5, 6, 8, 9, 10, 11, 0] rfl (sL_law_383 Nf D cI cG cL Z b Ln xs X Y h self98 hself98 x3 x4 x6 x7 r16.1 r17 x8 r16.2)
                  · refine z_iload X dL_law_376 13 rfl ?_
                    refine z_goto X 383 dL_law_378 (by decide) ?_
                    exact z_sub [5, 6, 8, 9, 10, 11, 0] rfl (sL_law_383 Nf D cI cG cL Z b Ln xs X Y h self98 hself98 x3 x4 x6 x7 r16.1 r17 x9 r16.2)
              · refine z_ite (fun c7 => ?_) (fun c7 => ?_)
                · refine z_tsIn (off := 112) X 344 dL_law_232 (by rw [c7]; decide) (by rw [c7]; decide) (by rw [c7]; rfl) (by decide) ?_
                  refine z_aload_n X dL_law_344 6 rfl ?_
                  refine z_iload X dL_law_345 12 rfl ?_
                  refine z_iload X dL_law_347 13 rfl ?_
                  refine z_callW (P := fun K => PL K) (Q := fun _ => QL Z) (pq_L Z) X (n := 3) (fr := 8) (lo := 133) (st := []) [.ref (la (Gc D cI cG cL a) 107), .int x8, .int x9] (fun hfl => hL_add (kl K) hfl _ X.2.2.2.2.2.2.2.1 Nf h r2.2 107 (isEH_law Y.1) x8 x9) q_18_23 q_18_22 q_4_22 q_18_21 (by decide +kernel) ⟨Nat.le_of_ble_eq_true rfl, Nat.le_of_ble_eq_true rfl⟩ rfl rfl (Nat.le_of_ble_eq_true rfl) dL_law_349 (fun r18 X => ?_)
                  refine z_istore X [(14, .int r18.1), (13, .int r3), (12, .int r2.1), (11, .int r1.1), (10, .int y0), (0, .ref b), (1, .ref (la (Gc D cI cG cL a) 107)), (2, .int x2), (3, .int x3), (4, .int x4), (6, .int x6), (7, .int x7), (8, .int x8), (9, .int x9)] dL_law_352 (by decide) rfl ?_
                  refine z_iload X dL_law_354 0 rfl ?_
                  refine z_sipush (v := (-2052 : Int32)) X dL_law_356 (by decide) ?_
                  refine z_icmp_eq X 399 dL_law_359 (by decide) ?_ ?_
                  · exact z_sub [5, 6, 8, 9, 10, 11, 0] rfl (sL_law_399 Nf D cI cG cL Z b Ln xs X Y h self98 hself98 x3 x4 x6 x7 r18.1 r18.2)
                  · refine z_aload_n X dL_law_362 6 rfl ?_
                    refine z_iload X dL_law_363 0 rfl ?_
                    refine z_iconst (v := (2 : Int32)) X dL_law_365 (by decide) ?_
                    refine z_callVN X (g := (fun r19 : Int32 => ((some (.int r19), h, r18.2) : Option Value × Int64 × cS))) (st := []) (st1 := (fun r19 : Int32 => [.int r19])) (rmf := 7) (rml := 112) [.int r18.1, .int (2 : Int32)] 107 cal_X6_edge q_18_2 ⟨Nat.le_of_ble_eq_true rfl, Nat.le_of_ble_eq_true rfl⟩ rfl rfl (Nat.le_of_ble_eq_true rfl) rfl (isEH_law Y.1).1 (ce6 (isEH_law Y.1).1 _ _) (ctX6_edge_n (kl K) _ X.2.2.2.2.2.2.2.1 Nf h r18.2 107 (isEH_law Y.1) r18.1 (2 : Int32)) dL_law_366 (fun _ => rfl) (fun r19 => ?_)
                    refine z_iload X dL_law_369 2 rfl ?_
                    refine z_iload X dL_law_371 3 rfl ?_
                    refine z_icmp_ge X 381 dL_law_373 (by decide) ?_ ?_
                    · refine z_iload X dL_law_381 12 rfl ?_
                      exact z_sub [5, 6, 8, 9, 10, 11, 0] rfl (sL_law_383 Nf D cI cG cL Z b Ln xs X Y h self98 hself98 x3 x4 x6 x7 r18.1 r19 x8 r18.2)
                    · refine z_iload X dL_law_376 13 rfl ?_
                      refine z_goto X 383 dL_law_378 (by decide) ?_
                      exact z_sub [5, 6, 8, 9, 10, 11, 0] rfl (sL_law_383 Nf D cI cG cL Z b Ln xs X Y h self98 hself98 x3 x4 x6 x7 r18.1 r19 x9 r18.2)
                · refine z_ite (fun c8 => ?_) (fun c8 => ?_)
                  · refine z_tsIn (off := 176) X 408 dL_law_232 (by rw [c8]; decide) (by rw [c8]; decide) (by rw [c8]; rfl) (by decide) ?_
                    refine z_aload_n X dL_law_408 6 rfl ?_
                    refine z_iload X dL_law_409 4 rfl ?_
                    refine z_callW (P := fun K => PL K) (Q := fun _ => QL Z) (pq_L Z) X (n := 2) (fr := 8) (lo := 134) (st := []) [.ref (la (Gc D cI cG cL a) 107), .int y0] (fun hfl => hL_remove (kl K) hfl _ X.2.2.2.2.2.2.2.1 Nf h r2.2 107 (isEH_law Y.1) y0) q_19_10 q_19_9 q_4_22 q_19_8 (by decide +kernel) ⟨Nat.le_of_ble_eq_true rfl, Nat.le_of_ble_eq_true rfl⟩ rfl rfl (Nat.le_of_ble_eq_true rfl) dL_law_411 (fun r20 X => ?_)
                    refine z_istore X [(14, .int r20.1), (13, .int r3), (12, .int r2.1), (11, .int r1.1), (10, .int y0), (0, .ref b), (1, .ref (la (Gc D cI cG cL a) 107)), (2, .int x2), (3, .int x3), (4, .int x4), (6, .int x6), (7, .int x7), (8, .int x8), (9, .int x9)] dL_law_414 (by decide) rfl ?_
                    refine z_goto X 743 dL_law_416 (by decide) ?_
                    exact z_sub [5, 6, 7, 8, 9, 10, 11, 0] rfl (sL_law_743 Nf D cI cG cL Z b Ln xs X Y h self98 hself98 x2 x3 x4 x6 x7 r20.1 r20.2)
                  · refine z_ite (fun c9 => ?_) (fun c9 => ?_)
                    · refine z_tsIn (off := 187) X 419 dL_law_232 (by rw [c9]; decide) (by rw [c9]; decide) (by rw [c9]; rfl) (by decide) ?_
                      refine z_aload_n X dL_law_419 6 rfl ?_
                      refine z_iconst (v := (1 : Int32)) X dL_law_420 (by decide) ?_
                      refine z_callVN X (g := (fun r21 : Int32 => ((some (.int r21), h, r2.2) : Option Value × Int64 × cS))) (st := []) (st1 := (fun r21 : Int32 => [.int r21])) (rmf := 6) (rml := 90) [.int (1 : Int32)] 107 cal_X6_value q_6_2 ⟨Nat.le_of_ble_eq_true rfl, Nat.le_of_ble_eq_true rfl⟩ rfl rfl (Nat.le_of_ble_eq_true rfl) rfl (isEH_law Y.1).1 (ce6 (isEH_law Y.1).1 _ _) (ctX6_value_n (kl K) _ X.2.2.2.2.2.2.2.1 Nf h r2.2 107 (isEH_law Y.1) (1 : Int32)) dL_law_421 (fun _ => rfl) (fun r21 => ?_)
                      refine z_if_ne X 431 dL_law_424 (by decide) ?_ ?_
                      · refine z_iconst (v := (0 : Int32)) X dL_law_427 (by decide) ?_
                        refine z_goto X 438 dL_law_428 (by decide) ?_
                        exact z_sub [5, 6, 8, 9, 10, 11, 4] rfl (sL_law_438 Nf D cI cG cL Z b Ln xs X Y h self98 hself98 x3 x4 x6 x7 y0 (0 : Int32) r2.2)
                      · refine z_aload_n X dL_law_431 6 rfl ?_
                        refine z_iload X dL_law_432 4 rfl ?_
                        refine z_iconst (v := (2 : Int32)) X dL_law_434 (by decide) ?_
                        refine z_callVN X (g := (fun r22 : Int32 => ((some (.int r22), h, r2.2) : Option Value × Int64 × cS))) (st := []) (st1 := (fun r22 : Int32 => [.int r22])) (rmf := 7) (rml := 112) [.int y0, .int (2 : Int32)] 107 cal_X6_edge q_18_2 ⟨Nat.le_of_ble_eq_true rfl, Nat.le_of_ble_eq_true rfl⟩ rfl rfl (Nat.le_of_ble_eq_true rfl) rfl (isEH_law Y.1).1 (ce6 (isEH_law Y.1).1 _ _) (ctX6_edge_n (kl K) _ X.2.2.2.2.2.2.2.1 Nf h r2.2 107 (isEH_law Y.1) y0 (2 : Int32)) dL_law_435 (fun _ => rfl) (fun r22 => ?_)
                        exact z_sub [5, 6, 8, 9, 10, 11, 4] rfl (sL_law_438 Nf D cI cG cL Z b Ln xs X Y h self98 hself98 x3 x4 x6 x7 y0 r22 r2.2)
                    · refine z_ite (fun c10 => ?_) (fun c10 => ?_)
                      · refine z_tsIn (off := 187) X 419 dL_law_232 (by rw [c10]; decide) (by rw [c10]; decide) (by rw [c10]; rfl) (by decide) ?_
                        refine z_aload_n X dL_law_419 6 rfl ?_
                        refine z_iconst (v := (1 : Int32)) X dL_law_420 (by decide) ?_
                        refine z_callVN X (g := (fun r23 : Int32 => ((some (.int r23), h, r2.2) : Option Value × Int64 × cS))) (st := []) (st1 := (fun r23 : Int32 => [.int r23])) (rmf := 6) (rml := 90) [.int (1 : Int32)] 107 cal_X6_value q_6_2 ⟨Nat.le_of_ble_eq_true rfl, Nat.le_of_ble_eq_true rfl⟩ rfl rfl (Nat.le_of_ble_eq_true rfl) rfl (isEH_law Y.1).1 (ce6 (isEH_law Y.1).1 _ _) (ctX6_value_n (kl K) _ X.2.2.2.2.2.2.2.1 Nf h r2.2 107 (isEH_law Y.1) (1 : Int32)) dL_law_421 (fun _ => rfl) (fun r23 => ?_)
                        refine z_if_ne X 431 dL_law_424 (by decide) ?_ ?_
                        · refine z_iconst (v := (0 : Int32)) X dL_law_427 (by decide) ?_
                          refine z_goto X 438 dL_law_428 (by decide) ?_
                          exact z_sub [5, 6, 8, 9, 10, 11, 4] rfl (sL_law_438 Nf D cI cG cL Z b Ln xs X Y h self98 hself98 x3 x4 x6 x7 y0 (0 : Int32) r2.2)
                        · refine z_aload_n X dL_law_431 6 rfl ?_
                          refine z_iload X dL_law_432 4 rfl ?_
                          refine z_iconst (v := (2 : Int32)) X dL_law_434 (by decide) ?_
                          refine z_callVN X (g := (fun r24 : Int32 => ((some (.int r24), h, r2.2) : Option Value × Int64 × cS))) (st := []) (st1 := (fun r24 : Int32 => [.int r24])) (rmf := 7) (rml := 112) [.int y0, .int (2 : Int32)] 107 cal_X6_edge q_18_2 ⟨Nat.le_of_ble_eq_true rfl, Nat.le_of_ble_eq_true rfl⟩ rfl rfl (Nat.le_of_ble_eq_true rfl) rfl (isEH_law Y.1).1 (ce6 (isEH_law Y.1).1 _ _) (ctX6_edge_n (kl K) _ X.2.2.2.2.2.2.2.1 Nf h r2.2 107 (isEH_law Y.1) y0 (2 : Int32)) dL_law_435 (fun _ => rfl) (fun r24 => ?_)
                          exact z_sub [5, 6, 8, 9, 10, 11, 4] rfl (sL_law_438 Nf D cI cG cL Z b Ln xs X Y h self98 hself98 x3 x4 x6 x7 y0 r24 r2.2)
                      · refine z_ite (fun c11 => ?_) (fun c11 => ?_)
                        · refine z_tsIn (off := 187) X 419 dL_law_232 (by rw [c11]; decide) (by rw [c11]; decide) (by rw [c11]; rfl) (by decide) ?_
                          refine z_aload_n X dL_law_419 6 rfl ?_
                          refine z_iconst (v := (1 : Int32)) X dL_law_420 (by decide) ?_
                          refine z_callVN X (g := (fun r25 : Int32 => ((some (.int r25), h, r2.2) : Option Value × Int64 × cS))) (st := []) (st1 := (fun r25 : Int32 => [.int r25])) (rmf := 6) (rml := 90) [.int (1 : Int32)] 107 cal_X6_value q_6_2 ⟨Nat.le_of_ble_eq_true rfl, Nat.le_of_ble_eq_true rfl⟩ rfl rfl (Nat.le_of_ble_eq_true rfl) rfl (isEH_law Y.1).1 (ce6 (isEH_law Y.1).1 _ _) (ctX6_value_n (kl K) _ X.2.2.2.2.2.2.2.1 Nf h r2.2 107 (isEH_law Y.1) (1 : Int32)) dL_law_421 (fun _ => rfl) (fun r25 => ?_)
                          refine z_if_ne X 431 dL_law_424 (by decide) ?_ ?_
                          · refine z_iconst (v := (0 : Int32)) X dL_law_427 (by decide) ?_
                            refine z_goto X 438 dL_law_428 (by decide) ?_
                            exact z_sub [5, 6, 8, 9, 10, 11, 4] rfl (sL_law_438 Nf D cI cG cL Z b Ln xs X Y h self98 hself98 x3 x4 x6 x7 y0 (0 : Int32) r2.2)
                          · refine z_aload_n X dL_law_431 6 rfl ?_
                            refine z_iload X dL_law_432 4 rfl ?_
                            refine z_iconst (v := (2 : Int32)) X dL_law_434 (by decide) ?_
                            refine z_callVN X (g := (fun r26 : Int32 => ((some (.int r26), h, r2.2) : Option Value × Int64 × cS))) (st := []) (st1 := (fun r26 : Int32 => [.int r26])) (rmf := 7) (rml := 112) [.int y0, .int (2 : Int32)] 107 cal_X6_edge q_18_2 ⟨Nat.le_of_ble_eq_true rfl, Nat.le_of_ble_eq_true rfl⟩ rfl rfl (Nat.le_of_ble_eq_true rfl) rfl (isEH_law Y.1).1 (ce6 (isEH_law Y.1).1 _ _) (ctX6_edge_n (kl K) _ X.2.2.2.2.2.2.2.1 Nf h r2.2 107 (isEH_law Y.1) y0 (2 : Int32)) dL_law_435 (fun _ => rfl) (fun r26 => ?_)
                            exact z_sub [5, 6, 8, 9, 10, 11, 4] rfl (sL_law_438 Nf D cI cG cL Z b Ln xs X Y h self98 hself98 x3 x4 x6 x7 y0 r26 r2.2)
                        · refine z_ite (fun c12 => ?_) (fun c12 => ?_)
                          · refine z_tsIn (off := 268) X 500 dL_law_232 (by rw [c12]; decide) (by rw [c12]; decide) (by rw [c12]; rfl) (by decide) ?_
                            refine z_aload_n X dL_law_500 6 rfl ?_
                            refine z_iload X dL_law_501 12 rfl ?_
                            refine z_callW (P := fun K => PL K) (Q := fun _ => QL Z) (pq_L Z) X (n := 2) (fr := 8) (lo := 133) (st := []) [.ref (la (Gc D cI cG cL a) 107), .int x8] (fun hfl => hL_relieve (kl K) hfl _ X.2.2.2.2.2.2.2.1 Nf h r2.2 107 (isEH_law Y.1) x8) q_20_1 q_20_0 q_4_22 q_19_23 (by decide +kernel) ⟨Nat.le_of_ble_eq_true rfl, Nat.le_of_ble_eq_true rfl⟩ rfl rfl (Nat.le_of_ble_eq_true rfl) dL_law_503 (fun r27 X => ?_)
                            refine z_istore X [(14, .int r27.1), (13, .int r3), (12, .int r2.1), (11, .int r1.1), (10, .int y0), (0, .ref b), (1, .ref (la (Gc D cI cG cL a) 107)), (2, .int x2), (3, .int x3), (4, .int x4), (6, .int x6), (7, .int x7), (8, .int x8), (9, .int x9)] dL_law_506 (by decide) rfl ?_
                            refine z_iload X dL_law_508 0 rfl ?_
                            refine z_sipush (v := (-2052 : Int32)) X dL_law_510 (by decide) ?_
                            refine z_icmp_eq X 545 dL_law_513 (by decide) ?_ ?_
                            · exact z_sub [5, 6, 8, 9, 10, 11, 0] rfl (sL_law_545 Nf D cI cG cL Z b Ln xs X Y h self98 hself98 x3 x4 x6 x7 r27.1 r27.2)
                            · refine z_iload X dL_law_516 0 rfl ?_
                              refine z_if_le X 549 dL_law_518 (by decide) ?_ ?_
                              · exact z_sub [5, 6, 8, 9, 10, 11, 0] rfl (sL_law_549 Nf D cI cG cL Z b Ln xs X Y h self98 hself98 x3 x4 x6 x7 r27.1 r27.2)
                              · refine z_aload_n X dL_law_521 6 rfl ?_
                                refine z_iload X dL_law_522 12 rfl ?_
                                refine z_iconst (v := (0 : Int32)) X dL_law_524 (by decide) ?_
                                refine z_callVN X (g := (fun r28 : (Int32 × cS) => ((some (.int r28.1), h, r28.2) : Option Value × Int64 × cS))) (st := []) (st1 := (fun r28 : (Int32 × cS) => [.int r28.1])) (rmf := 7) (rml := 111) [.int x8, .int (0 : Int32)] 107 cal_X6_node q_17_3 ⟨Nat.le_of_ble_eq_true rfl, Nat.le_of_ble_eq_true rfl⟩ rfl rfl (Nat.le_of_ble_eq_true rfl) rfl (isEH_law Y.1).1 (ce6 (isEH_law Y.1).1 _ _) (ctX6_node_n (kl K) _ X.2.2.2.2.2.2.2.1 Nf h r27.2 107 (isEH_law Y.1) x8 (0 : Int32)) dL_law_525 (fun _ => rfl) (fun r28 => ?_)
                                refine z_iload X dL_law_528 3 rfl ?_
                                refine z_iconst (v := (1 : Int32)) X dL_law_530 (by decide) ?_
                                refine z_isub X dL_law_531 ?_
                                refine z_icmp_ne X 549 dL_law_532 (by decide) ?_ ?_
                                · refine z_aload_n X dL_law_535 6 rfl ?_
                                  refine z_iconst (v := (4 : Int32)) X dL_law_536 (by decide) ?_
                                  refine z_callVN X (g := (fun r29 : Int32 => ((some (.int r29), h, r28.2) : Option Value × Int64 × cS))) (st := []) (st1 := (fun r29 : Int32 => [.int r29])) (rmf := 6) (rml := 90) [.int (4 : Int32)] 107 cal_X6_value q_6_2 ⟨Nat.le_of_ble_eq_true rfl, Nat.le_of_ble_eq_true rfl⟩ rfl rfl (Nat.le_of_ble_eq_true rfl) rfl (isEH_law Y.1).1 (ce6 (isEH_law Y.1).1 _ _) (ctX6_value_n (kl K) _ X.2.2.2.2.2.2.2.1 Nf h r28.2 107 (isEH_law Y.1) (4 : Int32)) dL_law_537 (fun _ => rfl) (fun r29 => ?_)
                                  refine z_iload X dL_law_540 1 rfl ?_
                                  refine z_icmp_ge X 549 dL_law_542 (by decide) ?_ ?_
                                  · exact z_sub [5, 6, 8, 9, 10, 11, 0] rfl (sL_law_549 Nf D cI cG cL Z b Ln xs X Y h self98 hself98 x3 x4 x6 x7 r27.1 r28.2)
                                  · exact z_sub [5, 6, 8, 9, 10, 11, 0] rfl (sL_law_545 Nf D cI cG cL Z b Ln xs X Y h self98 hself98 x3 x4 x6 x7 r27.1 r28.2)
                                · exact z_sub [5, 6, 8, 9, 10, 11, 0] rfl (sL_law_549 Nf D cI cG cL Z b Ln xs X Y h self98 hself98 x3 x4 x6 x7 r27.1 r28.2)
                          · refine z_ite (fun c13 => ?_) (fun c13 => ?_)
                            · refine z_tsIn (off := 268) X 500 dL_law_232 (by rw [c13]; decide) (by rw [c13]; decide) (by rw [c13]; rfl) (by decide) ?_
                              refine z_aload_n X dL_law_500 6 rfl ?_
                              refine z_iload X dL_law_501 12 rfl ?_
                              refine z_callW (P := fun K => PL K) (Q := fun _ => QL Z) (pq_L Z) X (n := 2) (fr := 8) (lo := 133) (st := []) [.ref (la (Gc D cI cG cL a) 107), .int x8] (fun hfl => hL_relieve (kl K) hfl _ X.2.2.2.2.2.2.2.1 Nf h r2.2 107 (isEH_law Y.1) x8) q_20_1 q_20_0 q_4_22 q_19_23 (by decide +kernel) ⟨Nat.le_of_ble_eq_true rfl, Nat.le_of_ble_eq_true rfl⟩ rfl rfl (Nat.le_of_ble_eq_true rfl) dL_law_503 (fun r30 X => ?_)
                              refine z_istore X [(14, .int r30.1), (13, .int r3), (12, .int r2.1), (11, .int r1.1), (10, .int y0), (0, .ref b), (1, .ref (la (Gc D cI cG cL a) 107)), (2, .int x2), (3, .int x3), (4, .int x4), (6, .int x6), (7, .int x7), (8, .int x8), (9, .int x9)] dL_law_506 (by decide) rfl ?_
                              refine z_iload X dL_law_508 0 rfl ?_
                              refine z_sipush (v := (-2052 : Int32)) X dL_law_510 (by decide) ?_
                              refine z_icmp_eq X 545 dL_law_513 (by decide) ?_ ?_
                              · exact z_sub [5, 6, 8, 9, 10, 11, 0] rfl (sL_law_545 Nf D cI cG cL Z b Ln xs X Y h self98 hself98 x3 x4 x6 x7 r30.1 r30.2)
                              · refine z_iload X dL_law_516 0 rfl ?_
                                refine z_if_le X 549 dL_law_518 (by decide) ?_ ?_
                                · exact z_sub [5, 6, 8, 9, 10, 11, 0] rfl (sL_law_549 Nf D cI cG cL Z b Ln xs X Y h self98 hself98 x3 x4 x6 x7 r30.1 r30.2)
                                · refine z_aload_n X dL_law_521 6 rfl ?_
                                  refine z_iload X dL_law_522 12 rfl ?_
                                  refine z_iconst (v := (0 : Int32)) X dL_law_524 (by decide) ?_
                                  refine z_callVN X (g := (fun r31 : (Int32 × cS) => ((some (.int r31.1), h, r31.2) : Option Value × Int64 × cS))) (st := []) (st1 := (fun r31 : (Int32 × cS) => [.int r31.1])) (rmf := 7) (rml := 111) [.int x8, .int (0 : Int32)] 107 cal_X6_node q_17_3 ⟨Nat.le_of_ble_eq_true rfl, Nat.le_of_ble_eq_true rfl⟩ rfl rfl (Nat.le_of_ble_eq_true rfl) rfl (isEH_law Y.1).1 (ce6 (isEH_law Y.1).1 _ _) (ctX6_node_n (kl K) _ X.2.2.2.2.2.2.2.1 Nf h r30.2 107 (isEH_law Y.1) x8 (0 : Int32)) dL_law_525 (fun _ => rfl) (fun r31 => ?_)
                                  refine z_iload X dL_law_528 3 rfl ?_
                                  refine z_iconst (v := (1 : Int32)) X dL_law_530 (by decide) ?_
                                  refine z_isub X dL_law_531 ?_
                                  refine z_icmp_ne X 549 dL_law_532 (by decide) ?_ ?_
                                  · refine z_aload_n X dL_law_535 6 rfl ?_
                                    refine z_iconst (v := (4 : Int32)) X dL_law_536 (by decide) ?_
                                    refine z_callVN X (g := (fun r32 : Int32 => ((some (.int r32), h, r31.2) : Option Value × Int64 × cS))) (st := []) (st1 := (fun r32 : Int32 => [.int r32])) (rmf := 6) (rml := 90) [.int (4 : Int32)] 107 cal_X6_value q_6_2 ⟨Nat.le_of_ble_eq_true rfl, Nat.le_of_ble_eq_true rfl⟩ rfl rfl (Nat.le_of_ble_eq_true rfl) rfl (isEH_law Y.1).1 (ce6 (isEH_law Y.1).1 _ _) (ctX6_value_n (kl K) _ X.2.2.2.2.2.2.2.1 Nf h r31.2 107 (isEH_law Y.1) (4 : Int32)) dL_law_537 (fun _ => rfl) (fun r32 => ?_)
                                    refine z_iload X dL_law_540 1 rfl ?_
                                    refine z_icmp_ge X 549 dL_law_542 (by decide) ?_ ?_
                                    · exact z_sub [5, 6, 8, 9, 10, 11, 0] rfl (sL_law_549 Nf D cI cG cL Z b Ln xs X Y h self98 hself98 x3 x4 x6 x7 r30.1 r31.2)
                                    · exact z_sub [5, 6, 8, 9, 10, 11, 0] rfl (sL_law_545 Nf D cI cG cL Z b Ln xs X Y h self98 hself98 x3 x4 x6 x7 r30.1 r31.2)
                                  · exact z_sub [5, 6, 8, 9, 10, 11, 0] rfl (sL_law_549 Nf D cI cG cL Z b Ln xs X Y h self98 hself98 x3 x4 x6 x7 r30.1 r31.2)
                            · refine z_ite (fun c14 => ?_) (fun c14 => ?_)
                              · refine z_tsIn (off := 322) X 554 dL_law_232 (by rw [c14]; decide) (by rw [c14]; decide) (by rw [c14]; rfl) (by decide) ?_
                                refine z_aload_n X dL_law_554 6 rfl ?_
                                refine z_callV0 X (g := (fun r33 : (Int32 × cS) => ((some (.int r33.1), h, r33.2) : Option Value × Int64 × cS))) (st := []) (st1 := (fun r33 : (Int32 × cS) => [.int r33.1])) (rmf := 5) (rml := 117) [] 107 cal_X6_balance q_23_20 ⟨Nat.le_of_ble_eq_true rfl, Nat.le_of_ble_eq_true rfl⟩ rfl rfl (Nat.le_of_ble_eq_true rfl) rfl (isEH_law Y.1).1 (ce6 (isEH_law Y.1).1 _ _) (ctX6_balance (kl K) _ X.2.2.2.2.2.2.2.1 Nf h r2.2 107 (isEH_law Y.1) ) dL_law_555 (fun _ => rfl) (fun r33 => ?_)
                                refine z_istore X [(14, .int r33.1), (13, .int r3), (12, .int r2.1), (11, .int r1.1), (10, .int y0), (0, .ref b), (1, .ref (la (Gc D cI cG cL a) 107)), (2, .int x2), (3, .int x3), (4, .int x4), (6, .int x6), (7, .int x7), (8, .int x8), (9, .int x9)] dL_law_558 (by decide) rfl ?_
                                refine z_aload_n X dL_law_560 6 rfl ?_
                                refine z_iconst (v := (2 : Int32)) X dL_law_561 (by decide) ?_
                                refine z_callVN X (g := (fun r34 : Int32 => ((some (.int r34), h, r33.2) : Option Value × Int64 × cS))) (st := []) (st1 := (fun r34 : Int32 => [.int r34])) (rmf := 6) (rml := 90) [.int (2 : Int32)] 107 cal_X6_value q_6_2 ⟨Nat.le_of_ble_eq_true rfl, Nat.le_of_ble_eq_true rfl⟩ rfl rfl (Nat.le_of_ble_eq_true rfl) rfl (isEH_law Y.1).1 (ce6 (isEH_law Y.1).1 _ _) (ctX6_value_n (kl K) _ X.2.2.2.2.2.2.2.1 Nf h r33.2 107 (isEH_law Y.1) (2 : Int32)) dL_law_562 (fun _ => rfl) (fun r34 => ?_)
                                refine z_aload_n X dL_law_565 6 rfl ?_
                                refine z_callV0 X (g := (fun r35 : (Int32 × cS) => ((some (.int r35.1), h, r35.2) : Option Value × Int64 × cS))) (st := [.int r34]) (st1 := (fun r35 : (Int32 × cS) => [.int r35.1, .int r34])) (rmf := 4) (rml := 92) [] 107 cal_X6_least q_9_9 ⟨Nat.le_of_ble_eq_true rfl, Nat.le_of_ble_eq_true rfl⟩ rfl rfl (Nat.le_of_ble_eq_true rfl) rfl (isEH_law Y.1).1 (ce6 (isEH_law Y.1).1 _ _) (ctX6_least (kl K) _ X.2.2.2.2.2.2.2.1 Nf h r33.2 107 (isEH_law Y.1) ) dL_law_566 (fun _ => rfl) (fun r35 => ?_)
                                refine z_icmp_ne X 581 dL_law_569 (by decide) ?_ ?_
                                · refine z_iload X dL_law_572 0 rfl ?_
                                  refine z_if_lt X 581 dL_law_574 (by decide) ?_ ?_
                                  · exact z_sub [5, 6, 8, 9, 10, 11, 0] rfl (sL_law_581 Nf D cI cG cL Z b Ln xs X Y h self98 hself98 x3 x4 x6 x7 r33.1 r35.2)
                                  · refine z_iconst (v := (1 : Int32)) X dL_law_577 (by decide) ?_
                                    refine z_goto X 582 dL_law_578 (by decide) ?_
                                    exact z_sub [5, 6, 8, 9, 10, 11, 0] rfl (sL_law_582 Nf D cI cG cL Z b Ln xs X Y h self98 hself98 x3 x4 x6 x7 r33.1 (1 : Int32) r35.2)
                                · exact z_sub [5, 6, 8, 9, 10, 11, 0] rfl (sL_law_581 Nf D cI cG cL Z b Ln xs X Y h self98 hself98 x3 x4 x6 x7 r33.1 r35.2)
                              · refine z_ite (fun c15 => ?_) (fun c15 => ?_)
                                · refine z_tsIn (off := 354) X 586 dL_law_232 (by rw [c15]; decide) (by rw [c15]; decide) (by rw [c15]; rfl) (by decide) ?_
                                  refine z_aload_n X dL_law_586 6 rfl ?_
                                  refine z_iload X dL_law_587 12 rfl ?_
                                  refine z_iload X dL_law_589 11 rfl ?_
                                  refine z_iconst (v := (5 : Int32)) X dL_law_591 (by decide) ?_
                                  refine z_irem X dL_law_592 ?_
                                  refine z_callW (P := fun K => PL K) (Q := fun _ => QL Z) (pq_L Z) X (n := 3) (fr := 8) (lo := 134) (st := []) [.ref (la (Gc D cI cG cL a) 107), .int x8, .int (x7 - x7 / (5 : Int32) * (5 : Int32))] (fun hfl => hL_setCapacity (kl K) hfl _ X.2.2.2.2.2.2.2.1 Nf h r2.2 107 (isEH_law Y.1) x8 (x7 - x7 / (5 : Int32) * (5 : Int32))) q_20_10 q_20_9 q_4_22 q_20_8 (by decide +kernel) ⟨Nat.le_of_ble_eq_true rfl, Nat.le_of_ble_eq_true rfl⟩ rfl rfl (Nat.le_of_ble_eq_true rfl) dL_law_593 (fun r36 X => ?_)
                                  refine z_istore X [(14, .int r36.1), (13, .int r3), (12, .int r2.1), (11, .int r1.1), (10, .int y0), (0, .ref b), (1, .ref (la (Gc D cI cG cL a) 107)), (2, .int x2), (3, .int x3), (4, .int x4), (6, .int x6), (7, .int x7), (8, .int x8), (9, .int x9)] dL_law_596 (by decide) rfl ?_
                                  refine z_aload_n X dL_law_598 6 rfl ?_
                                  refine z_iload X dL_law_599 12 rfl ?_
                                  refine z_iconst (v := (2 : Int32)) X dL_law_601 (by decide) ?_
                                  refine z_callVN X (g := (fun r37 : (Int32 × cS) => ((some (.int r37.1), h, r37.2) : Option Value × Int64 × cS))) (st := []) (st1 := (fun r37 : (Int32 × cS) => [.int r37.1])) (rmf := 7) (rml := 111) [.int x8, .int (2 : Int32)] 107 cal_X6_node q_17_3 ⟨Nat.le_of_ble_eq_true rfl, Nat.le_of_ble_eq_true rfl⟩ rfl rfl (Nat.le_of_ble_eq_true rfl) rfl (isEH_law Y.1).1 (ce6 (isEH_law Y.1).1 _ _) (ctX6_node_n (kl K) _ X.2.2.2.2.2.2.2.1 Nf h r36.2 107 (isEH_law Y.1) x8 (2 : Int32)) dL_law_602 (fun _ => rfl) (fun r37 => ?_)
                                  refine z_iload X dL_law_605 11 rfl ?_
                                  refine z_iconst (v := (5 : Int32)) X dL_law_607 (by decide) ?_
                                  refine z_irem X dL_law_608 ?_
                                  refine z_icmp_ne X 616 dL_law_609 (by decide) ?_ ?_
                                  · refine z_iconst (v := (1 : Int32)) X dL_law_612 (by decide) ?_
                                    refine z_goto X 617 dL_law_613 (by decide) ?_
                                    exact z_sub [5, 6, 8, 9, 10, 11, 0] rfl (sL_law_617 Nf D cI cG cL Z b Ln xs X Y h self98 hself98 x3 x4 x6 x7 r36.1 (1 : Int32) r37.2)
                                  · refine z_iconst (v := (0 : Int32)) X dL_law_616 (by decide) ?_
                                    exact z_sub [5, 6, 8, 9, 10, 11, 0] rfl (sL_law_617 Nf D cI cG cL Z b Ln xs X Y h self98 hself98 x3 x4 x6 x7 r36.1 (0 : Int32) r37.2)
                                · refine z_ite (fun c16 => ?_) (fun c16 => ?_)
                                  · refine z_tsIn (off := 354) X 586 dL_law_232 (by rw [c16]; decide) (by rw [c16]; decide) (by rw [c16]; rfl) (by decide) ?_
                                    refine z_aload_n X dL_law_586 6 rfl ?_
                                    refine z_iload X dL_law_587 12 rfl ?_
                                    refine z_iload X dL_law_589 11 rfl ?_
                                    refine z_iconst (v := (5 : Int32)) X dL_law_591 (by decide) ?_
                                    refine z_irem X dL_law_592 ?_
                                    refine z_callW (P := fun K => PL K) (Q := fun _ => QL Z) (pq_L Z) X (n := 3) (fr := 8) (lo := 134) (st := []) [.ref (la (Gc D cI cG cL a) 107), .int x8, .int (x7 - x7 / (5 : Int32) * (5 : Int32))] (fun hfl => hL_setCapacity (kl K) hfl _ X.2.2.2.2.2.2.2.1 Nf h r2.2 107 (isEH_law Y.1) x8 (x7 - x7 / (5 : Int32) * (5 : Int32))) q_20_10 q_20_9 q_4_22 q_20_8 (by decide +kernel) ⟨Nat.le_of_ble_eq_true rfl, Nat.le_of_ble_eq_true rfl⟩ rfl rfl (Nat.le_of_ble_eq_true rfl) dL_law_593 (fun r38 X => ?_)
                                    refine z_istore X [(14, .int r38.1), (13, .int r3), (12, .int r2.1), (11, .int r1.1), (10, .int y0), (0, .ref b), (1, .ref (la (Gc D cI cG cL a) 107)), (2, .int x2), (3, .int x3), (4, .int x4), (6, .int x6), (7, .int x7), (8, .int x8), (9, .int x9)] dL_law_596 (by decide) rfl ?_
                                    refine z_aload_n X dL_law_598 6 rfl ?_
                                    refine z_iload X dL_law_599 12 rfl ?_
                                    refine z_iconst (v := (2 : Int32)) X dL_law_601 (by decide) ?_
                                    refine z_callVN X (g := (fun r39 : (Int32 × cS) => ((some (.int r39.1), h, r39.2) : Option Value × Int64 × cS))) (st := []) (st1 := (fun r39 : (Int32 × cS) => [.int r39.1])) (rmf := 7) (rml := 111) [.int x8, .int (2 : Int32)] 107 cal_X6_node q_17_3 ⟨Nat.le_of_ble_eq_true rfl, Nat.le_of_ble_eq_true rfl⟩ rfl rfl (Nat.le_of_ble_eq_true rfl) rfl (isEH_law Y.1).1 (ce6 (isEH_law Y.1).1 _ _) (ctX6_node_n (kl K) _ X.2.2.2.2.2.2.2.1 Nf h r38.2 107 (isEH_law Y.1) x8 (2 : Int32)) dL_law_602 (fun _ => rfl) (fun r39 => ?_)
                                    refine z_iload X dL_law_605 11 rfl ?_
                                    refine z_iconst (v := (5 : Int32)) X dL_law_607 (by decide) ?_
                                    refine z_irem X dL_law_608 ?_
                                    refine z_icmp_ne X 616 dL_law_609 (by decide) ?_ ?_
                                    · refine z_iconst (v := (1 : Int32)) X dL_law_612 (by decide) ?_
                                      refine z_goto X 617 dL_law_613 (by decide) ?_
                                      exact z_sub [5, 6, 8, 9, 10, 11, 0] rfl (sL_law_617 Nf D cI cG cL Z b Ln xs X Y h self98 hself98 x3 x4 x6 x7 r38.1 (1 : Int32) r39.2)
                                    · refine z_iconst (v := (0 : Int32)) X dL_law_616 (by decide) ?_
                                      exact z_sub [5, 6, 8, 9, 10, 11, 0] rfl (sL_law_617 Nf D cI cG cL Z b Ln xs X Y h self98 hself98 x3 x4 x6 x7 r38.1 (0 : Int32) r39.2)
                                  · refine z_ite (fun c17 => ?_) (fun c17 => ?_)
                                    · refine z_tsIn (off := 389) X 621 dL_law_232 (by rw [c17]; decide) (by rw [c17]; decide) (by rw [c17]; rfl) (by decide) ?_
                                      refine z_aload_n X dL_law_621 6 rfl ?_
                                      refine z_iload X dL_law_622 12 rfl ?_
                                      refine z_iload X dL_law_624 13 rfl ?_
                                      refine z_callVN X (g := (fun r40 : (Int32 × cS) => ((some (.int r40.1), h, r40.2) : Option Value × Int64 × cS))) (st := []) (st1 := (fun r40 : (Int32 × cS) => [.int r40.1])) (rmf := 7) (rml := 111) [.int x8, .int x9] 107 cal_X6_path q_21_6 ⟨Nat.le_of_ble_eq_true rfl, Nat.le_of_ble_eq_true rfl⟩ rfl rfl (Nat.le_of_ble_eq_true rfl) rfl (isEH_law Y.1).1 (ce6 (isEH_law Y.1).1 _ _) (ctX6_path_n (kl K) _ X.2.2.2.2.2.2.2.1 Nf h r2.2 107 (isEH_law Y.1) x8 x9) dL_law_626 (fun _ => rfl) (fun r40 => ?_)
                                      refine z_istore X [(15, .int r40.1), (14, .int (0 : Int32)), (13, .int r3), (12, .int r2.1), (11, .int r1.1), (10, .int y0), (0, .ref b), (1, .ref (la (Gc D cI cG cL a) 107)), (2, .int x2), (3, .int x3), (4, .int x4), (6, .int x6), (7, .int x7), (8, .int x8), (9, .int x9)] dL_law_629 (by decide) rfl ?_
                                      refine z_bipush (v := (12 : Int32)) X dL_law_631 (by decide) ?_
                                      refine z_new12 (P := fun K => PL K) (Q := fun _ => QL Z) (pq_L Z) X Y q_1_3 dL_law_633 (fun a42 σ41 X Y => ?_)
                                      refine z_astore X [(16, .ref a42), (15, .int r40.1), (14, .int (0 : Int32)), (13, .int r3), (12, .int r2.1), (11, .int r1.1), (10, .int y0), (0, .ref b), (1, .ref (la (Gc D cI cG cL a) 107)), (2, .int x2), (3, .int x3), (4, .int x4), (6, .int x6), (7, .int x7), (8, .int x8), (9, .int x9)] dL_law_635 (by decide) rfl ?_
                                      refine z_iconst (v := (0 : Int32)) X dL_law_637 (by decide) ?_
                                      refine z_istore X [(17, .int (0 : Int32)), (16, .ref a42), (15, .int r40.1), (14, .int (0 : Int32)), (13, .int r3), (12, .int r2.1), (11, .int r1.1), (10, .int y0), (0, .ref b), (1, .ref (la (Gc D cI cG cL a) 107)), (2, .int x2), (3, .int x3), (4, .int x4), (6, .int x6), (7, .int x7), (8, .int x8), (9, .int x9)] dL_law_638 (by decide) rfl ?_
                                      exact z_sub [8, 9, 11, 12, 13, 14, 15, 16, 6, 5, 3, 2, 1, 0] rfl (sL_law_640 Nf D cI cG cL Z b Ln xs h self98 hself98 Nf _ _ X Y x3 x4 x6 x7 x8 x9 r1.1 r2.1 (0 : Int32) r40.1 (0 : Int32) σ41)
                                    · refine z_tsOut X 737 dL_law_232 (by decide) (ts_out_0_17 c0 c1 c2 c3 c4 c5 c6 c7 c8 c9 c10 c11 c12 c13 c14 c15 c16 c17) ?_
                                      refine z_aload_n X dL_law_737 6 rfl ?_
                                      refine z_callW (P := fun K => PL K) (Q := fun _ => QL Z) (pq_L Z) X (n := 1) (fr := 7) (lo := 110) (st := []) [.ref (la (Gc D cI cG cL a) 107)] (fun hfl => hL_undo (kl K) hfl _ X.2.2.2.2.2.2.2.1 Nf h r2.2 107 (isEH_law Y.1) ) q_4_23 q_4_21 q_4_22 q_4_20 (by decide +kernel) ⟨Nat.le_of_ble_eq_true rfl, Nat.le_of_ble_eq_true rfl⟩ rfl rfl (Nat.le_of_ble_eq_true rfl) dL_law_738 (fun r43 X => ?_)
                                      refine z_istore X [(14, .int r43.1), (13, .int r3), (12, .int r2.1), (11, .int r1.1), (10, .int y0), (0, .ref b), (1, .ref (la (Gc D cI cG cL a) 107)), (2, .int x2), (3, .int x3), (4, .int x4), (6, .int x6), (7, .int x7), (8, .int x8), (9, .int x9)] dL_law_741 (by decide) rfl ?_
                                      exact z_sub [5, 6, 7, 8, 9, 10, 11, 0] rfl (sL_law_743 Nf D cI cG cL Z b Ln xs X Y h self98 hself98 x2 x3 x4 x6 x7 r43.1 r43.2)
def fL_law_98 (L : Nat → Nat) (Nf : Nat) (xs : Nat → Int32) (Ln : Nat) : Nat → Int32 → Int32 → cS → Option ((Int32 × cS) × Nat)
  | 0, _, _, _ => none
  | n + 1, x2, x3, σ => if (26 : Int32) ≤ x3 then (fL_law_901 L Nf xs Ln x2 σ) else (if x2 = 0 then (fL_law_901 L Nf xs Ln x2 σ) else (Option.bind (fL_cell xs Ln x3) (fun r1 => ibn (fX6_value L Nf σ 107 (0 : Int32)) (fun r2 => Option.bind (fL_low σ (r1 >>> ((5 : Int32) &&& 31)) (8192 : Int32)) (fun r3 => Option.bind (fL_low σ (r1 >>> ((11 : Int32) &&& 31)) (8192 : Int32)) (fun r4 => grd (nz r2) (bnd ((r3 - r3 / r2 * r2)) (fun t5 => grd (nz (r2 - (1 : Int32))) (grd (nz r2) (bnd ((((t5 + (1 : Int32)) + (r4 - r4 / (r2 - (1 : Int32)) * (r2 - (1 : Int32)))) - ((t5 + (1 : Int32)) + (r4 - r4 / (r2 - (1 : Int32)) * (r2 - (1 : Int32)))) / r2 * r2)) (fun t6 => ibn (fX6_value L Nf σ 107 (1 : Int32)) (fun r7 => if r7 = 0 then (fL_law_195 L Nf xs Ln (fL_law_98 L Nf xs Ln n) x2 x3 r1 r3 r4 t5 t6 (0 : Int32) σ) else (ibn (fX6_value L Nf σ 107 (1 : Int32)) (fun r8 => grd (nz r8) (ibn (fX6_edgeAt L σ 107 (r4 - r4 / r8 * r8)) (fun r9 => fL_law_195 L Nf xs Ln (fL_law_98 L Nf xs Ln n) x2 x3 r1 r3 r4 t5 t6 r9 σ))))))))))))))))
set_option maxHeartbeats 4000000 in
set_option maxRecDepth 100000 in
theorem sL_law_98 (Nf : Nat) (D : va_G) (cI cG cL : ClassId) (Z : State → Prop) (b Ln : Nat) (xs : Nat → Int32) (h : Int64) : ∀ (n : Nat) (K : MCx) (a : Nat → Nat) (X : Cx K (Gc D cI cG cL a) RL cL_law 18 (some .boolean) 12 456) (Y : YL K (Gc D cI cG cL a) Z b Ln xs) (x2 : Int32) (x3 : Int32) (σ : cS), Sm K (Gc D cI cG cL a) (PL K) (QL Z) 18 98 [(0, .ref b), (1, .ref (la (Gc D cI cG cL a) 107)), (2, .int x2), (3, .int x3)] [] h σ (fL_law_98 (lCt ()) Nf xs Ln n x2 x3 σ) := by
  intro n
  induction n with
  | zero => intros; exact z_none
  | succ n ih =>
    intro K a X Y x2 x3 σ
    unfold fL_law_98
    refine z_iload_n X dL_law_98 3 rfl ?_
    refine z_bipush (v := (26 : Int32)) X dL_law_99 (by decide) ?_
    refine z_icmp_ge X 901 dL_law_101 (by decide) ?_ ?_
    · exact z_sub [1, 2] rfl (sL_law_901 Nf D cI cG cL Z b Ln xs X Y h x2 σ)
    · refine z_iload_n X dL_law_104 2 rfl ?_
      refine z_if_eq X 901 dL_law_105 (by decide) ?_ ?_
      · exact z_sub [1, 2] rfl (sL_law_901 Nf D cI cG cL Z b Ln xs X Y h x2 σ)
      · refine z_aload_n X dL_law_108 0 rfl ?_
        refine z_iload_n X dL_law_109 3 rfl ?_
        refine z_callCell X Y.2 q_23_12 cal_L_cell ⟨Nat.le_of_ble_eq_true rfl, Nat.le_of_ble_eq_true rfl⟩ (Nat.le_of_ble_eq_true rfl) dL_law_110 (fun r1 => ?_)
        refine z_istore X [(4, .int r1), (0, .ref b), (1, .ref (la (Gc D cI cG cL a) 107)), (2, .int x2), (3, .int x3)] dL_law_113 (by decide) rfl ?_
        refine z_aload_n X dL_law_115 2 rfl ?_
        refine z_iconst (v := (0 : Int32)) X dL_law_116 (by decide) ?_
        refine z_callVN X (g := (fun r2 : Int32 => ((some (.int r2), h, σ) : Option Value × Int64 × cS))) (st := []) (st1 := (fun r2 : Int32 => [.int r2])) (rmf := 6) (rml := 90) [.int (0 : Int32)] 107 cal_X6_value q_6_2 ⟨Nat.le_of_ble_eq_true rfl, Nat.le_of_ble_eq_true rfl⟩ rfl rfl (Nat.le_of_ble_eq_true rfl) rfl (isEH_law Y.1).1 (ce6 (isEH_law Y.1).1 _ _) (ctX6_value_n (kl K) _ X.2.2.2.2.2.2.2.1 Nf h σ 107 (isEH_law Y.1) (0 : Int32)) dL_law_117 (fun _ => rfl) (fun r2 => ?_)
        refine z_istore X [(5, .int r2), (4, .int r1), (0, .ref b), (1, .ref (la (Gc D cI cG cL a) 107)), (2, .int x2), (3, .int x3)] dL_law_120 (by decide) rfl ?_
        refine z_iload X dL_law_122 1 rfl ?_
        refine z_iconst (v := (5 : Int32)) X dL_law_124 (by decide) ?_
        refine z_ishr X dL_law_125 ?_
        refine z_sipush (v := (8192 : Int32)) X dL_law_126 (by decide) ?_
        refine z_callS0 X (g := (fun r3 : Int32 => ((some (.int r3), h, σ) : Option Value × Int64 × cS))) (st := []) (st1 := (fun r3 : Int32 => [.int r3])) (rmf := 0) (rml := 0) [.int (r1 >>> ((5 : Int32) &&& 31)), .int (8192 : Int32)] cal_L_low q_23_16 ⟨Nat.le_of_ble_eq_true rfl, Nat.le_of_ble_eq_true rfl⟩ rfl rfl (Nat.le_of_ble_eq_true rfl) (ctL_low (kl K) _ X.2.2.2.2.2.2.2.1 h σ (r1 >>> ((5 : Int32) &&& 31)) (8192 : Int32)) dL_law_129 (fun _ => rfl) (fun r3 => ?_)
        refine z_istore X [(6, .int r3), (5, .int r2), (4, .int r1), (0, .ref b), (1, .ref (la (Gc D cI cG cL a) 107)), (2, .int x2), (3, .int x3)] dL_law_132 (by decide) rfl ?_
        refine z_iload X dL_law_134 2 rfl ?_
        refine z_bipush (v := (11 : Int32)) X dL_law_136 (by decide) ?_
        refine z_ishr X dL_law_138 ?_
        refine z_sipush (v := (8192 : Int32)) X dL_law_139 (by decide) ?_
        refine z_callS0 X (g := (fun r4 : Int32 => ((some (.int r4), h, σ) : Option Value × Int64 × cS))) (st := []) (st1 := (fun r4 : Int32 => [.int r4])) (rmf := 0) (rml := 0) [.int (r1 >>> ((11 : Int32) &&& 31)), .int (8192 : Int32)] cal_L_low q_23_16 ⟨Nat.le_of_ble_eq_true rfl, Nat.le_of_ble_eq_true rfl⟩ rfl rfl (Nat.le_of_ble_eq_true rfl) (ctL_low (kl K) _ X.2.2.2.2.2.2.2.1 h σ (r1 >>> ((11 : Int32) &&& 31)) (8192 : Int32)) dL_law_142 (fun _ => rfl) (fun r4 => ?_)
        refine z_istore X [(7, .int r4), (6, .int r3), (5, .int r2), (4, .int r1), (0, .ref b), (1, .ref (la (Gc D cI cG cL a) 107)), (2, .int x2), (3, .int x3)] dL_law_145 (by decide) rfl ?_
        refine z_iload X dL_law_147 1 rfl ?_
        refine z_iload X dL_law_149 2 rfl ?_
        refine z_irem X dL_law_151 ?_
        refine z_nm (fun t5 => ?_)
        refine z_istore X [(8, .int t5), (7, .int r4), (6, .int r3), (5, .int r2), (4, .int r1), (0, .ref b), (1, .ref (la (Gc D cI cG cL a) 107)), (2, .int x2), (3, .int x3)] dL_law_152 (by decide) rfl ?_
        refine z_iload X dL_law_154 0 rfl ?_
        refine z_iconst (v := (1 : Int32)) X dL_law_156 (by decide) ?_
        refine z_iadd X dL_law_157 ?_
        refine z_iload X dL_law_158 1 rfl ?_
        refine z_iload X dL_law_160 3 rfl ?_
        refine z_iconst (v := (1 : Int32)) X dL_law_162 (by decide) ?_
        refine z_isub X dL_law_163 ?_
        refine z_irem X dL_law_164 ?_
        refine z_iadd X dL_law_165 ?_
        refine z_iload X dL_law_166 3 rfl ?_
        refine z_irem X dL_law_168 ?_
        refine z_nm (fun t6 => ?_)
        refine z_istore X [(9, .int t6), (8, .int t5), (7, .int r4), (6, .int r3), (5, .int r2), (4, .int r1), (0, .ref b), (1, .ref (la (Gc D cI cG cL a) 107)), (2, .int x2), (3, .int x3)] dL_law_169 (by decide) rfl ?_
        refine z_aload_n X dL_law_171 7 rfl ?_
        refine z_iconst (v := (1 : Int32)) X dL_law_172 (by decide) ?_
        refine z_callVN X (g := (fun r7 : Int32 => ((some (.int r7), h, σ) : Option Value × Int64 × cS))) (st := []) (st1 := (fun r7 : Int32 => [.int r7])) (rmf := 6) (rml := 90) [.int (1 : Int32)] 107 cal_X6_value q_6_2 ⟨Nat.le_of_ble_eq_true rfl, Nat.le_of_ble_eq_true rfl⟩ rfl rfl (Nat.le_of_ble_eq_true rfl) rfl (isEH_law Y.1).1 (ce6 (isEH_law Y.1).1 _ _) (ctX6_value_n (kl K) _ X.2.2.2.2.2.2.2.1 Nf h σ 107 (isEH_law Y.1) (1 : Int32)) dL_law_173 (fun _ => rfl) (fun r7 => ?_)
        refine z_if_ne X 183 dL_law_176 (by decide) ?_ ?_
        · refine z_iconst (v := (0 : Int32)) X dL_law_179 (by decide) ?_
          refine z_goto X 195 dL_law_180 (by decide) ?_
          exact z_sub [6, 7, 8, 9, 5, 3, 2, 1, 0] rfl (sL_law_195 Nf D cI cG cL Z b Ln xs X Y h _ ih x2 x3 r1 r3 r4 t5 t6 (0 : Int32) σ)
        · refine z_aload_n X dL_law_183 7 rfl ?_
          refine z_iload X dL_law_184 2 rfl ?_
          refine z_aload_n X dL_law_186 7 rfl ?_
          refine z_iconst (v := (1 : Int32)) X dL_law_187 (by decide) ?_
          refine z_callVN X (g := (fun r8 : Int32 => ((some (.int r8), h, σ) : Option Value × Int64 × cS))) (st := [.int r4, .ref (la (Gc D cI cG cL a) 107)]) (st1 := (fun r8 : Int32 => [.int r8, .int r4, .ref (la (Gc D cI cG cL a) 107)])) (rmf := 6) (rml := 90) [.int (1 : Int32)] 107 cal_X6_value q_6_2 ⟨Nat.le_of_ble_eq_true rfl, Nat.le_of_ble_eq_true rfl⟩ rfl rfl (Nat.le_of_ble_eq_true rfl) rfl (isEH_law Y.1).1 (ce6 (isEH_law Y.1).1 _ _) (ctX6_value_n (kl K) _ X.2.2.2.2.2.2.2.1 Nf h σ 107 (isEH_law Y.1) (1 : Int32)) dL_law_188 (fun _ => rfl) (fun r8 => ?_)
          refine z_irem X dL_law_191 ?_
          refine z_callVN X (g := (fun r9 : Int32 => ((some (.int r9), h, σ) : Option Value × Int64 × cS))) (st := []) (st1 := (fun r9 : Int32 => [.int r9])) (rmf := 6) (rml := 90) [.int (r4 - r4 / r8 * r8)] 107 cal_X6_edgeAt q_17_22 ⟨Nat.le_of_ble_eq_true rfl, Nat.le_of_ble_eq_true rfl⟩ rfl rfl (Nat.le_of_ble_eq_true rfl) rfl (isEH_law Y.1).1 (ce6 (isEH_law Y.1).1 _ _) (ctX6_edgeAt_n (kl K) _ X.2.2.2.2.2.2.2.1 h σ 107 (isEH_law Y.1) (r4 - r4 / r8 * r8)) dL_law_192 (fun _ => rfl) (fun r9 => ?_)
          exact z_sub [6, 7, 8, 9, 5, 3, 2, 1, 0] rfl (sL_law_195 Nf D cI cG cL Z b Ln xs X Y h _ ih x2 x3 r1 r3 r4 t5 t6 r9 σ)
def fL_law_95 (L : Nat → Nat) (Nf : Nat) (xs : Nat → Int32) (Ln : Nat) (y0 : Int32) (σ : cS) : Option ((Int32 × cS) × Nat) := fL_law_98 L Nf xs Ln Nf y0 (0 : Int32) σ
set_option maxHeartbeats 4000000 in
set_option maxRecDepth 100000 in
theorem sL_law_95 {K : MCx} {a : Nat → Nat} (Nf : Nat) (D : va_G) (cI cG cL : ClassId) (Z : State → Prop) (b Ln : Nat) (xs : Nat → Int32) (X : Cx K (Gc D cI cG cL a) RL cL_law 18 (some .boolean) 12 456) (Y : YL K (Gc D cI cG cL a) Z b Ln xs) (h : Int64) (y0 : Int32) (σ : cS) : Sm K (Gc D cI cG cL a) (PL K) (QL Z) 18 95 [(0, .ref b), (1, .ref (la (Gc D cI cG cL a) 107))] [.int y0] h σ (fL_law_95 (lCt ()) Nf xs Ln y0 σ) := by
  unfold fL_law_95
  refine z_istore_n X [(2, .int y0), (0, .ref b), (1, .ref (la (Gc D cI cG cL a) 107))] dL_law_95 (by decide) rfl ?_
  refine z_iconst (v := (0 : Int32)) X dL_law_96 (by decide) ?_
  refine z_istore_n X [(3, .int (0 : Int32)), (2, .int y0), (0, .ref b), (1, .ref (la (Gc D cI cG cL a) 107))] dL_law_97 (by decide) rfl ?_
  exact z_sub [2, 3, 1, 0] rfl (sL_law_98 Nf D cI cG cL Z b Ln xs h Nf _ _ X Y y0 (0 : Int32) σ)
def fL_law_94 (L : Nat → Nat) (Nf : Nat) (xs : Nat → Int32) (Ln : Nat) (σ : cS) : Option ((Int32 × cS) × Nat) := fL_law_95 L Nf xs Ln (0 : Int32) σ
set_option maxHeartbeats 4000000 in
set_option maxRecDepth 100000 in
theorem sL_law_94 {K : MCx} {a : Nat → Nat} (Nf : Nat) (D : va_G) (cI cG cL : ClassId) (Z : State → Prop) (b Ln : Nat) (xs : Nat → Int32) (X : Cx K (Gc D cI cG cL a) RL cL_law 18 (some .boolean) 12 456) (Y : YL K (Gc D cI cG cL a) Z b Ln xs) (h : Int64) (σ : cS) : Sm K (Gc D cI cG cL a) (PL K) (QL Z) 18 94 [(0, .ref b), (1, .ref (la (Gc D cI cG cL a) 107))] [] h σ (fL_law_94 (lCt ()) Nf xs Ln σ) := by
  unfold fL_law_94
  refine z_iconst (v := (0 : Int32)) X dL_law_94 (by decide) ?_
  exact z_sub [0, 1] rfl (sL_law_95 Nf D cI cG cL Z b Ln xs X Y h (0 : Int32) σ)
def fL_law_8 (L : Nat → Nat) (Nf : Nat) (xs : Nat → Int32) (Ln : Nat) (σ : cS) : Option ((Int32 × cS) × Nat) := wbn (w1n (fL_undo L Nf σ 107)) (fun r1 => if r1.1 = (-2052 : Int32) then (ibn (fX6_value L Nf r1.2 107 (0 : Int32)) (fun r2 => if r2 = (6 : Int32) then (ibn (fX6_value L Nf r1.2 107 (1 : Int32)) (fun r3 => if r3 = 0 then (Option.bind (fX6_densest L Nf r1.2 107) (fun r4 => if r4.1 = (63 : Int32) then (Option.bind (fX6_least L Nf r4.2 107) (fun r5 => if r5.1 = 0 then (Option.bind (fX6_density L Nf r5.2 107) (fun r6 => if (Op.cmpValue (FP.dcmp r6.1 FP.dconst0) .l) = 0 then (Option.bind (fX6_critical L Nf r6.2 107) (fun r7 => if r7.1 = (-1 : Int32) then (Option.bind (fX6_carryOut L Nf r7.2 107) (fun r8 => if r8.1 = 0 then (wbn (w1n (fL_undo L Nf r8.2 107)) (fun r9 => if r9.1 = 0 then (wbn (fL_refused L Nf r9.2 107) (fun r10 => if r10.1 = 0 then (fL_law_94 L Nf xs Ln r10.2) else (fL_law_95 L Nf xs Ln (1 : Int32) r10.2))) else (fL_law_94 L Nf xs Ln r9.2))) else (fL_law_94 L Nf xs Ln r8.2))) else (fL_law_94 L Nf xs Ln r7.2))) else (fL_law_94 L Nf xs Ln r6.2))) else (fL_law_94 L Nf xs Ln r5.2))) else (fL_law_94 L Nf xs Ln r4.2))) else (fL_law_94 L Nf xs Ln r1.2))) else (fL_law_94 L Nf xs Ln r1.2))) else (fL_law_94 L Nf xs Ln r1.2))
set_option maxHeartbeats 4000000 in
set_option maxRecDepth 100000 in
theorem sL_law_8 {K : MCx} {a : Nat → Nat} (Nf : Nat) (D : va_G) (cI cG cL : ClassId) (Z : State → Prop) (b Ln : Nat) (xs : Nat → Int32) (X : Cx K (Gc D cI cG cL a) RL cL_law 18 (some .boolean) 12 456) (Y : YL K (Gc D cI cG cL a) Z b Ln xs) (h : Int64) (σ : cS) : Sm K (Gc D cI cG cL a) (PL K) (QL Z) 18 8 [(0, .ref b), (1, .ref (la (Gc D cI cG cL a) 107))] [] h σ (fL_law_8 (lCt ()) Nf xs Ln σ) := by
  unfold fL_law_8
  refine z_aload_n X dL_law_8 1 rfl ?_
  refine z_callW (P := fun K => PL K) (Q := fun _ => QL Z) (pq_L Z) X (n := 1) (fr := 7) (lo := 110) (st := []) [.ref (la (Gc D cI cG cL a) 107)] (fun hfl => hL_undo (kl K) hfl _ X.2.2.2.2.2.2.2.1 Nf h σ 107 (isEH_law Y.1) ) q_4_23 q_4_21 q_4_22 q_4_20 (by decide +kernel) ⟨Nat.le_of_ble_eq_true rfl, Nat.le_of_ble_eq_true rfl⟩ rfl rfl (Nat.le_of_ble_eq_true rfl) dL_law_9 (fun r1 X => ?_)
  refine z_sipush (v := (-2052 : Int32)) X dL_law_12 (by decide) ?_
  refine z_icmp_ne X 94 dL_law_15 (by decide) ?_ ?_
  · refine z_aload_n X dL_law_18 1 rfl ?_
    refine z_iconst (v := (0 : Int32)) X dL_law_19 (by decide) ?_
    refine z_callVN X (g := (fun r2 : Int32 => ((some (.int r2), h, r1.2) : Option Value × Int64 × cS))) (st := []) (st1 := (fun r2 : Int32 => [.int r2])) (rmf := 6) (rml := 90) [.int (0 : Int32)] 107 cal_X6_value q_6_2 ⟨Nat.le_of_ble_eq_true rfl, Nat.le_of_ble_eq_true rfl⟩ rfl rfl (Nat.le_of_ble_eq_true rfl) rfl (isEH_law Y.1).1 (ce6 (isEH_law Y.1).1 _ _) (ctX6_value_n (kl K) _ X.2.2.2.2.2.2.2.1 Nf h r1.2 107 (isEH_law Y.1) (0 : Int32)) dL_law_20 (fun _ => rfl) (fun r2 => ?_)
    refine z_bipush (v := (6 : Int32)) X dL_law_23 (by decide) ?_
    refine z_icmp_ne X 94 dL_law_25 (by decide) ?_ ?_
    · refine z_aload_n X dL_law_28 1 rfl ?_
      refine z_iconst (v := (1 : Int32)) X dL_law_29 (by decide) ?_
      refine z_callVN X (g := (fun r3 : Int32 => ((some (.int r3), h, r1.2) : Option Value × Int64 × cS))) (st := []) (st1 := (fun r3 : Int32 => [.int r3])) (rmf := 6) (rml := 90) [.int (1 : Int32)] 107 cal_X6_value q_6_2 ⟨Nat.le_of_ble_eq_true rfl, Nat.le_of_ble_eq_true rfl⟩ rfl rfl (Nat.le_of_ble_eq_true rfl) rfl (isEH_law Y.1).1 (ce6 (isEH_law Y.1).1 _ _) (ctX6_value_n (kl K) _ X.2.2.2.2.2.2.2.1 Nf h r1.2 107 (isEH_law Y.1) (1 : Int32)) dL_law_30 (fun _ => rfl) (fun r3 => ?_)
      refine z_if_ne X 94 dL_law_33 (by decide) ?_ ?_
      · refine z_aload_n X dL_law_36 1 rfl ?_
        refine z_callV0 X (g := (fun r4 : (Int32 × cS) => ((some (.int r4.1), h, r4.2) : Option Value × Int64 × cS))) (st := []) (st1 := (fun r4 : (Int32 × cS) => [.int r4.1])) (rmf := 4) (rml := 92) [] 107 cal_X6_densest q_7_11 ⟨Nat.le_of_ble_eq_true rfl, Nat.le_of_ble_eq_true rfl⟩ rfl rfl (Nat.le_of_ble_eq_true rfl) rfl (isEH_law Y.1).1 (ce6 (isEH_law Y.1).1 _ _) (ctX6_densest (kl K) _ X.2.2.2.2.2.2.2.1 Nf h r1.2 107 (isEH_law Y.1) ) dL_law_37 (fun _ => rfl) (fun r4 => ?_)
        refine z_bipush (v := (63 : Int32)) X dL_law_40 (by decide) ?_
        refine z_icmp_ne X 94 dL_law_42 (by decide) ?_ ?_
        · refine z_aload_n X dL_law_45 1 rfl ?_
          refine z_callV0 X (g := (fun r5 : (Int32 × cS) => ((some (.int r5.1), h, r5.2) : Option Value × Int64 × cS))) (st := []) (st1 := (fun r5 : (Int32 × cS) => [.int r5.1])) (rmf := 4) (rml := 92) [] 107 cal_X6_least q_9_9 ⟨Nat.le_of_ble_eq_true rfl, Nat.le_of_ble_eq_true rfl⟩ rfl rfl (Nat.le_of_ble_eq_true rfl) rfl (isEH_law Y.1).1 (ce6 (isEH_law Y.1).1 _ _) (ctX6_least (kl K) _ X.2.2.2.2.2.2.2.1 Nf h r4.2 107 (isEH_law Y.1) ) dL_law_46 (fun _ => rfl) (fun r5 => ?_)
          refine z_if_ne X 94 dL_law_49 (by decide) ?_ ?_
          · refine z_aload_n X dL_law_52 1 rfl ?_
            refine z_callV0 X (g := (fun r6 : (UInt64 × cS) => ((some (.double r6.1), h, r6.2) : Option Value × Int64 × cS))) (st := []) (st1 := (fun r6 : (UInt64 × cS) => [.double r6.1])) (rmf := 4) (rml := 92) [] 107 cal_X6_density q_9_13 ⟨Nat.le_of_ble_eq_true rfl, Nat.le_of_ble_eq_true rfl⟩ rfl rfl (Nat.le_of_ble_eq_true rfl) rfl (isEH_law Y.1).1 (ce6 (isEH_law Y.1).1 _ _) (ctX6_density (kl K) _ X.2.2.2.2.2.2.2.1 Nf h r5.2 107 (isEH_law Y.1) ) dL_law_53 (fun _ => rfl) (fun r6 => ?_)
            refine z_dconst0 X dL_law_56 ?_
            refine z_dcmp X dL_law_57 ?_
            refine z_if_ne X 94 dL_law_58 (by decide) ?_ ?_
            · refine z_aload_n X dL_law_61 1 rfl ?_
              refine z_callV0 X (g := (fun r7 : (Int32 × cS) => ((some (.int r7.1), h, r7.2) : Option Value × Int64 × cS))) (st := []) (st1 := (fun r7 : (Int32 × cS) => [.int r7.1])) (rmf := 4) (rml := 92) [] 107 cal_X6_critical q_10_2 ⟨Nat.le_of_ble_eq_true rfl, Nat.le_of_ble_eq_true rfl⟩ rfl rfl (Nat.le_of_ble_eq_true rfl) rfl (isEH_law Y.1).1 (ce6 (isEH_law Y.1).1 _ _) (ctX6_critical (kl K) _ X.2.2.2.2.2.2.2.1 Nf h r6.2 107 (isEH_law Y.1) ) dL_law_62 (fun _ => rfl) (fun r7 => ?_)
              refine z_iconst (v := (-1 : Int32)) X dL_law_65 (by decide) ?_
              refine z_icmp_ne X 94 dL_law_66 (by decide) ?_ ?_
              · refine z_aload_n X dL_law_69 1 rfl ?_
                refine z_callV0 X (g := (fun r8 : (Int32 × cS) => ((some (.int r8.1), h, r8.2) : Option Value × Int64 × cS))) (st := []) (st1 := (fun r8 : (Int32 × cS) => [.int r8.1])) (rmf := 6) (rml := 137) [] 107 cal_X6_carryOut q_10_15 ⟨Nat.le_of_ble_eq_true rfl, Nat.le_of_ble_eq_true rfl⟩ rfl rfl (Nat.le_of_ble_eq_true rfl) rfl (isEH_law Y.1).1 (ce6 (isEH_law Y.1).1 _ _) (ctX6_carryOut (kl K) _ X.2.2.2.2.2.2.2.1 Nf h r7.2 107 (isEH_law Y.1) ) dL_law_70 (fun _ => rfl) (fun r8 => ?_)
                refine z_if_ne X 94 dL_law_73 (by decide) ?_ ?_
                · refine z_aload_n X dL_law_76 1 rfl ?_
                  refine z_callW (P := fun K => PL K) (Q := fun _ => QL Z) (pq_L Z) X (n := 1) (fr := 7) (lo := 110) (st := []) [.ref (la (Gc D cI cG cL a) 107)] (fun hfl => hL_undo (kl K) hfl _ X.2.2.2.2.2.2.2.1 Nf h r8.2 107 (isEH_law Y.1) ) q_4_23 q_4_21 q_4_22 q_4_20 (by decide +kernel) ⟨Nat.le_of_ble_eq_true rfl, Nat.le_of_ble_eq_true rfl⟩ rfl rfl (Nat.le_of_ble_eq_true rfl) dL_law_77 (fun r9 X => ?_)
                  refine z_if_ne X 94 dL_law_80 (by decide) ?_ ?_
                  · refine z_aload_n X dL_law_83 1 rfl ?_
                    refine z_callA (P := fun K => PL K) (Q := fun _ => QL Z) (pq_L Z) X (g := (fun r10 : (Int32 × cS) => ((some (.int r10.1), h, r10.2) : Option Value × Int64 × cS))) (fr := 9) (lo := 160) (st := []) (st1 := (fun r10 : (Int32 × cS) => [.int r10.1])) [.ref (la (Gc D cI cG cL a) 107)] (fun hfl => ctL_refused (kl K) hfl _ X.2.2.2.2.2.2.2.1 Nf h r9.2 107 (isEH_law Y.1) ) cal_L_refused q_16_19 ⟨Nat.le_of_ble_eq_true rfl, Nat.le_of_ble_eq_true rfl⟩ rfl rfl (Nat.le_of_ble_eq_true rfl) dL_law_84 (fun _ => rfl) (fun r10 nr10 X => ?_)
                    refine z_if_eq X 94 dL_law_87 (by decide) ?_ ?_
                    · exact z_sub [0, 1] rfl (sL_law_94 Nf D cI cG cL Z b Ln xs X Y h r10.2)
                    · refine z_iconst (v := (1 : Int32)) X dL_law_90 (by decide) ?_
                      refine z_goto X 95 dL_law_91 (by decide) ?_
                      exact z_sub [0, 1] rfl (sL_law_95 Nf D cI cG cL Z b Ln xs X Y h (1 : Int32) r10.2)
                  · exact z_sub [0, 1] rfl (sL_law_94 Nf D cI cG cL Z b Ln xs X Y h r9.2)
                · exact z_sub [0, 1] rfl (sL_law_94 Nf D cI cG cL Z b Ln xs X Y h r8.2)
              · exact z_sub [0, 1] rfl (sL_law_94 Nf D cI cG cL Z b Ln xs X Y h r7.2)
            · exact z_sub [0, 1] rfl (sL_law_94 Nf D cI cG cL Z b Ln xs X Y h r6.2)
          · exact z_sub [0, 1] rfl (sL_law_94 Nf D cI cG cL Z b Ln xs X Y h r5.2)
        · exact z_sub [0, 1] rfl (sL_law_94 Nf D cI cG cL Z b Ln xs X Y h r4.2)
      · exact z_sub [0, 1] rfl (sL_law_94 Nf D cI cG cL Z b Ln xs X Y h r1.2)
    · exact z_sub [0, 1] rfl (sL_law_94 Nf D cI cG cL Z b Ln xs X Y h r1.2)
  · exact z_sub [0, 1] rfl (sL_law_94 Nf D cI cG cL Z b Ln xs X Y h r1.2)
