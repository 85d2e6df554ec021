theorem q_4_20 : Cond.methodLink RL 140 yL_undo ∈ wsL_law := seg_4 _ (List.mem_of_getElem? (i := 20) rfl)
theorem q_4_21 : Cond.static yL_undo ∈ wsL_law := seg_4 _ (List.mem_of_getElem? (i := 21) rfl)
theorem q_4_23 : Cond.codeWith yL_undo cL_undo 3 (some .int) [(0, 5, 8, 23)] ∈ wsL_law := seg_4 _ (List.mem_of_getElem? (i := 23) rfl)
theorem q_10_2 : Cond.methodLink RL 146 yX6_critical ∈ wsL_law := seg_10 _ (List.mem_of_getElem? (i := 2) rfl)
theorem q_10_3 : Cond.instanceMethod yX6_critical ∈ wsL_law := seg_10 _ (List.mem_of_getElem? (i := 3) rfl)
theorem q_10_4 : Cond.selects RX6 yX6_critical yX6_critical ∈ wsL_law := seg_10 _ (List.mem_of_getElem? (i := 4) rfl)
theorem q_10_5 : Cond.code yX6_critical cX6_critical 2 (some .int) ∈ wsL_law := seg_10 _ (List.mem_of_getElem? (i := 5) rfl)
theorem q_23_20 : Cond.methodLink RL 143 yX6_balance ∈ wsL_law := seg_23 _ (List.mem_of_getElem? (i := 20) rfl)
theorem q_23_21 : Cond.instanceMethod yX6_balance ∈ wsL_law := seg_23 _ (List.mem_of_getElem? (i := 21) rfl)
theorem q_23_22 : Cond.selects RX6 yX6_balance yX6_balance ∈ wsL_law := seg_23 _ (List.mem_of_getElem? (i := 22) rfl)
theorem q_23_23 : Cond.code yX6_balance cX6_balance 1 (some .int) ∈ wsL_law := seg_23 _ (List.mem_of_getElem? (i := 23) rfl)
theorem q_25_1 : Cond.methodLink RL 137 yX6_turnsToBalance ∈ wsL_law := seg_25 _ (List.mem_of_getElem? (i := 1) rfl)
theorem q_25_2 : Cond.instanceMethod yX6_turnsToBalance ∈ wsL_law := seg_25 _ (List.mem_of_getElem? (i := 2) rfl)
theorem q_25_3 : Cond.selects RX6 yX6_turnsToBalance yX6_turnsToBalance ∈ wsL_law := seg_25 _ (List.mem_of_getElem? (i := 3) rfl)
theorem q_25_4 : Cond.code yX6_turnsToBalance cX6_turnsToBalance 1 (some .int) ∈ wsL_law := seg_25 _ (List.mem_of_getElem? (i := 4) rfl)
theorem cal_X6_balance : Cal yX6_balance RX6 cX6_balance 1 (some .int) 0 := ⟨q_23_23, q_23_21, q_23_22, q_1_2, by decide +kernel⟩
theorem cal_X6_critical : Cal yX6_critical RX6 cX6_critical 2 (some .int) 0 := ⟨q_10_5, q_10_3, q_10_4, q_1_2, by decide +kernel⟩
theorem cal_X6_turnsToBalance : Cal yX6_turnsToBalance RX6 cX6_turnsToBalance 1 (some .int) 0 := ⟨q_25_4, q_25_2, q_25_3, q_1_2, by decide +kernel⟩
def fL_isPath_249 (L : Nat → Nat) (Nf : Nat) (k0 : Nat) (y0 : Int32) (σ : cS) : Option ((Int32 × cS) × Nat) := grd (isb y0) (some ((y0, σ), 0))
set_option maxHeartbeats 4000000 in
set_option maxRecDepth 100000 in
theorem sL_isPath_249 {K : MCx} {G : Lay} (X : Cx K G RL cL_isPath 9 (some .boolean) 9 160) (Nf : Nat) (k0 : Nat) (hk0 : isEH G k0) (h : Int64) (y0 : Int32) (σ : cS) : Sm K G (PN K) (QN K G (fun r : (Int32 × cS) => ((some (.int r.1), h, r.2) : Option Value × Int64 × cS))) 9 249 [] [.int y0] h σ (fL_isPath_249 (ll G) Nf k0 y0 σ) := by
  unfold fL_isPath_249
  exact z_nzret X rfl dL_isPath_249
def fL_isPath_248 (L : Nat → Nat) (Nf : Nat) (k0 : Nat) (σ : cS) : Option ((Int32 × cS) × Nat) := fL_isPath_249 L Nf k0 (0 : Int32) σ
set_option maxHeartbeats 4000000 in
set_option maxRecDepth 100000 in
theorem sL_isPath_248 {K : MCx} {G : Lay} (X : Cx K G RL cL_isPath 9 (some .boolean) 9 160) (Nf : Nat) (k0 : Nat) (hk0 : isEH G k0) (h : Int64) (σ : cS) : Sm K G (PN K) (QN K G (fun r : (Int32 × cS) => ((some (.int r.1), h, r.2) : Option Value × Int64 × cS))) 9 248 [] [] h σ (fL_isPath_248 (ll G) Nf k0 σ) := by
  unfold fL_isPath_248
  refine z_iconst (v := (0 : Int32)) X dL_isPath_248 (by decide) ?_
  exact z_sub [] rfl (sL_isPath_249 X Nf k0 hk0 h (0 : Int32) σ)
def fL_isPath_207 (L : Nat → Nat) (Nf : Nat) (k0 : Nat) (x1 : Int32) (x2 : Int32) (x3 : Int32) (x5 : Int32) (x6 : Int32) (σ : cS) : Option ((Int32 × cS) × Nat) := if x6 = 0 then (fL_isPath_248 L Nf k0 σ) else (if x5 = x2 then (wbn (w1n (fL_step L Nf σ k0 x1 x2 x3)) (fun r1 => if r1.1 = (-2053 : Int32) then (wbn (w1n (fL_step L Nf r1.2 k0 x1 x2 (-1 : Int32))) (fun r2 => if r2.1 = (-2053 : Int32) then (fL_isPath_249 L Nf k0 (1 : Int32) r2.2) else (fL_isPath_248 L Nf k0 r2.2))) else (fL_isPath_248 L Nf k0 r1.2))) else (fL_isPath_248 L Nf k0 σ))
set_option maxHeartbeats 4000000 in
set_option maxRecDepth 100000 in
theorem sL_isPath_207 {K : MCx} {G : Lay} (X : Cx K G RL cL_isPath 9 (some .boolean) 9 160) (Nf : Nat) (k0 : Nat) (hk0 : isEH G k0) (h : Int64) (x1 : Int32) (x2 : Int32) (x3 : Int32) (x5 : Int32) (x6 : Int32) (σ : cS) : Sm K G (PN K) (QN K G (fun r : (Int32 × cS) => ((some (.int r.1), h, r.2) : Option Value × Int64 × cS))) 9 207 [(0, .ref (la G k0)), (1, .int x1), (2, .int x2), (3, .int x3), (5, .int x5), (6, .int x6)] [] h σ (fL_isPath_207 (ll G) Nf k0 x1 x2 x3 x5 x6 σ) := by
  unfold fL_isPath_207
  refine z_iload X dL_isPath_207 5 rfl ?_
  refine z_if_eq X 248 dL_isPath_209 (by decide) ?_ ?_
  · exact z_sub [] rfl (sL_isPath_248 X Nf k0 hk0 h σ)
  · refine z_iload X dL_isPath_212 4 rfl ?_
    refine z_iload_n X dL_isPath_214 2 rfl ?_
    refine z_icmp_ne X 248 dL_isPath_215 (by decide) ?_ ?_
    · refine z_aload_n X dL_isPath_218 0 rfl ?_
      refine z_iload_n X dL_isPath_219 1 rfl ?_
      refine z_iload_n X dL_isPath_220 2 rfl ?_
      refine z_iload_n X dL_isPath_221 3 rfl ?_
      refine z_callW (P := fun K => PN K) (Q := fun K => QN K G (fun r : (Int32 × cS) => ((some (.int r.1), h, r.2) : Option Value × Int64 × cS))) (pq_N G (fun r : (Int32 × cS) => ((some (.int r.1), h, r.2) : Option Value × Int64 × cS))) X (n := 4) (fr := 8) (lo := 135) (st := []) [.ref (la G k0), .int x1, .int x2, .int x3] (fun hfl => hL_step (kl K) hfl G X.2.2.2.2.2.2.2.1 Nf h σ k0 hk0 x1 x2 x3) q_21_13 q_21_12 q_4_22 q_21_11 (by decide +kernel) ⟨Nat.le_of_ble_eq_true rfl, Nat.le_of_ble_eq_true rfl⟩ rfl rfl (Nat.le_of_ble_eq_true rfl) dL_isPath_222 (fun r1 X => ?_)
      refine z_sipush (v := (-2053 : Int32)) X dL_isPath_225 (by decide) ?_
      refine z_icmp_ne X 248 dL_isPath_228 (by decide) ?_ ?_
      · refine z_aload_n X dL_isPath_231 0 rfl ?_
        refine z_iload_n X dL_isPath_232 1 rfl ?_
        refine z_iload_n X dL_isPath_233 2 rfl ?_
        refine z_iconst (v := (-1 : Int32)) X dL_isPath_234 (by decide) ?_
        refine z_callW (P := fun K => PN K) (Q := fun K => QN K G (fun r : (Int32 × cS) => ((some (.int r.1), h, r.2) : Option Value × Int64 × cS))) (pq_N G (fun r : (Int32 × cS) => ((some (.int r.1), h, r.2) : Option Value × Int64 × cS))) X (n := 4) (fr := 8) (lo := 135) (st := []) [.ref (la G k0), .int x1, .int x2, .int (-1 : Int32)] (fun hfl => hL_step (kl K) hfl G X.2.2.2.2.2.2.2.1 Nf h r1.2 k0 hk0 x1 x2 (-1 : Int32)) q_21_13 q_21_12 q_4_22 q_21_11 (by decide +kernel) ⟨Nat.le_of_ble_eq_true rfl, Nat.le_of_ble_eq_true rfl⟩ rfl rfl (Nat.le_of_ble_eq_true rfl) dL_isPath_235 (fun r2 X => ?_)
        refine z_sipush (v := (-2053 : Int32)) X dL_isPath_238 (by decide) ?_
        refine z_icmp_ne X 248 dL_isPath_241 (by decide) ?_ ?_
        · refine z_iconst (v := (1 : Int32)) X dL_isPath_244 (by decide) ?_
          refine z_goto X 249 dL_isPath_245 (by decide) ?_
          exact z_sub [] rfl (sL_isPath_249 X Nf k0 hk0 h (1 : Int32) r2.2)
        · exact z_sub [] rfl (sL_isPath_248 X Nf k0 hk0 h r2.2)
      · exact z_sub [] rfl (sL_isPath_248 X Nf k0 hk0 h r1.2)
    · exact z_sub [] rfl (sL_isPath_248 X Nf k0 hk0 h σ)
def fL_isPath_199 (L : Nat → Nat) (Nf : Nat) (k0 : Nat) (self93 : Int32 → Int32 → Int32 → Int32 → Int32 → Int32 → Int32 → cS → Option ((Int32 × cS) × Nat)) (x1 : Int32) (x2 : Int32) (x3 : Int32) (x4 : Int32) (x5 : Int32) (x7 : Int32) (y0 : Int32) (σ : cS) : Option ((Int32 × cS) × Nat) := bnd (x7 + (1 : Int32)) (fun t1 => self93 x1 x2 x3 x4 x5 y0 t1 σ)
set_option maxHeartbeats 4000000 in
set_option maxRecDepth 100000 in
theorem sL_isPath_199 {K : MCx} {G : Lay} (X : Cx K G RL cL_isPath 9 (some .boolean) 9 160) (Nf : Nat) (k0 : Nat) (hk0 : isEH G k0) (h : Int64) (self93 : Int32 → Int32 → Int32 → Int32 → Int32 → Int32 → Int32 → cS → Option ((Int32 × cS) × Nat)) (hself93 : ∀ (K : MCx) (X : Cx K G RL cL_isPath 9 (some .boolean) 9 160) (x1 : Int32) (x2 : Int32) (x3 : Int32) (x4 : Int32) (x5 : Int32) (x6 : Int32) (x7 : Int32) (σ : cS), Sm K G (PN K) (QN K G (fun r : (Int32 × cS) => ((some (.int r.1), h, r.2) : Option Value × Int64 × cS))) 9 93 [(0, .ref (la G k0)), (1, .int x1), (2, .int x2), (3, .int x3), (4, .int x4), (5, .int x5), (6, .int x6), (7, .int x7)] [] h σ (self93 x1 x2 x3 x4 x5 x6 x7 σ)) (x1 : Int32) (x2 : Int32) (x3 : Int32) (x4 : Int32) (x5 : Int32) (x7 : Int32) (y0 : Int32) (σ : cS) : Sm K G (PN K) (QN K G (fun r : (Int32 × cS) => ((some (.int r.1), h, r.2) : Option Value × Int64 × cS))) 9 199 [(0, .ref (la G k0)), (1, .int x1), (2, .int x2), (3, .int x3), (4, .int x4), (5, .int x5), (7, .int x7)] [.int y0] h σ (fL_isPath_199 (ll G) Nf k0 self93 x1 x2 x3 x4 x5 x7 y0 σ) := by
  unfold fL_isPath_199
  refine z_istore X [(6, .int y0), (0, .ref (la G k0)), (1, .int x1), (2, .int x2), (3, .int x3), (4, .int x4), (5, .int x5), (7, .int x7)] dL_isPath_199 (by decide) rfl ?_
  refine z_iinc X (fun t1 => [(7, .int t1), (6, .int y0), (0, .ref (la G k0)), (1, .int x1), (2, .int x2), (3, .int x3), (4, .int x4), (5, .int x5)]) dL_isPath_201 7 rfl (by decide) (by decide) (fun _ => rfl) (fun t1 => ?_)
  refine z_goto X 93 dL_isPath_204 (by decide) ?_
  exact z_sub [2, 3, 4, 5, 6, 7, 1, 0] rfl (hself93 _ X x1 x2 x3 x4 x5 y0 t1 σ)
def fL_isPath_198 (L : Nat → Nat) (Nf : Nat) (k0 : Nat) (self93 : Int32 → Int32 → Int32 → Int32 → Int32 → Int32 → Int32 → cS → Option ((Int32 × cS) × Nat)) (x1 : Int32) (x2 : Int32) (x3 : Int32) (x4 : Int32) (x5 : Int32) (x7 : Int32) (σ : cS) : Option ((Int32 × cS) × Nat) := fL_isPath_199 L Nf k0 self93 x1 x2 x3 x4 x5 x7 (0 : Int32) σ
set_option maxHeartbeats 4000000 in
set_option maxRecDepth 100000 in
theorem sL_isPath_198 {K : MCx} {G : Lay} (X : Cx K G RL cL_isPath 9 (some .boolean) 9 160) (Nf : Nat) (k0 : Nat) (hk0 : isEH G k0) (h : Int64) (self93 : Int32 → Int32 → Int32 → Int32 → Int32 → Int32 → Int32 → cS → Option ((Int32 × cS) × Nat)) (hself93 : ∀ (K : MCx) (X : Cx K G RL cL_isPath 9 (some .boolean) 9 160) (x1 : Int32) (x2 : Int32) (x3 : Int32) (x4 : Int32) (x5 : Int32) (x6 : Int32) (x7 : Int32) (σ : cS), Sm K G (PN K) (QN K G (fun r : (Int32 × cS) => ((some (.int r.1), h, r.2) : Option Value × Int64 × cS))) 9 93 [(0, .ref (la G k0)), (1, .int x1), (2, .int x2), (3, .int x3), (4, .int x4), (5, .int x5), (6, .int x6), (7, .int x7)] [] h σ (self93 x1 x2 x3 x4 x5 x6 x7 σ)) (x1 : Int32) (x2 : Int32) (x3 : Int32) (x4 : Int32) (x5 : Int32) (x7 : Int32) (σ : cS) : Sm K G (PN K) (QN K G (fun r : (Int32 × cS) => ((some (.int r.1), h, r.2) : Option Value × Int64 × cS))) 9 198 [(0, .ref (la G k0)), (1, .int x1), (2, .int x2), (3, .int x3), (4, .int x4), (5, .int x5), (7, .int x7)] [] h σ (fL_isPath_198 (ll G) Nf k0 self93 x1 x2 x3 x4 x5 x7 σ) := by
  unfold fL_isPath_198
  refine z_iconst (v := (0 : Int32)) X dL_isPath_198 (by decide) ?_
  exact z_sub [0, 1, 2, 3, 4, 5, 6] rfl (sL_isPath_199 X Nf k0 hk0 h self93 hself93 x1 x2 x3 x4 x5 x7 (0 : Int32) σ)
def fL_isPath_162 (L : Nat → Nat) (Nf : Nat) (k0 : Nat) (self93 : Int32 → Int32 → Int32 → Int32 → Int32 → Int32 → Int32 → cS → Option ((Int32 × cS) × Nat)) (x1 : Int32) (x2 : Int32) (x3 : Int32) (x4 : Int32) (x6 : Int32) (x7 : Int32) (y0 : Int32) (σ : cS) : Option ((Int32 × cS) × Nat) := if x6 = 0 then (fL_isPath_198 L Nf k0 self93 x1 x2 x3 x4 y0 x7 σ) else (if ((x4 >>> (y0 &&& 31)) &&& (1 : Int32)) = (1 : Int32) then (ibn (fX6_path L Nf σ k0 x1 y0) (fun r1 => if r1.1 = (x7 + (1 : Int32)) then (fL_isPath_199 L Nf k0 self93 x1 x2 x3 x4 y0 x7 (1 : Int32) r1.2) else (fL_isPath_198 L Nf k0 self93 x1 x2 x3 x4 y0 x7 r1.2))) else (fL_isPath_198 L Nf k0 self93 x1 x2 x3 x4 y0 x7 σ))
set_option maxHeartbeats 4000000 in
set_option maxRecDepth 100000 in
theorem sL_isPath_162 {K : MCx} {G : Lay} (X : Cx K G RL cL_isPath 9 (some .boolean) 9 160) (Nf : Nat) (k0 : Nat) (hk0 : isEH G k0) (h : Int64) (self93 : Int32 → Int32 → Int32 → Int32 → Int32 → Int32 → Int32 → cS → Option ((Int32 × cS) × Nat)) (hself93 : ∀ (K : MCx) (X : Cx K G RL cL_isPath 9 (some .boolean) 9 160) (x1 : Int32) (x2 : Int32) (x3 : Int32) (x4 : Int32) (x5 : Int32) (x6 : Int32) (x7 : Int32) (σ : cS), Sm K G (PN K) (QN K G (fun r : (Int32 × cS) => ((some (.int r.1), h, r.2) : Option Value × Int64 × cS))) 9 93 [(0, .ref (la G k0)), (1, .int x1), (2, .int x2), (3, .int x3), (4, .int x4), (5, .int x5), (6, .int x6), (7, .int x7)] [] h σ (self93 x1 x2 x3 x4 x5 x6 x7 σ)) (x1 : Int32) (x2 : Int32) (x3 : Int32) (x4 : Int32) (x6 : Int32) (x7 : Int32) (y0 : Int32) (σ : cS) : Sm K G (PN K) (QN K G (fun r : (Int32 × cS) => ((some (.int r.1), h, r.2) : Option Value × Int64 × cS))) 9 162 [(0, .ref (la G k0)), (1, .int x1), (2, .int x2), (3, .int x3), (4, .int x4), (6, .int x6), (7, .int x7)] [.int y0] h σ (fL_isPath_162 (ll G) Nf k0 self93 x1 x2 x3 x4 x6 x7 y0 σ) := by
  unfold fL_isPath_162
  refine z_istore X [(5, .int y0), (0, .ref (la G k0)), (1, .int x1), (2, .int x2), (3, .int x3), (4, .int x4), (6, .int x6), (7, .int x7)] dL_isPath_162 (by decide) rfl ?_
  refine z_iload X dL_isPath_164 6 rfl ?_
  refine z_if_eq X 198 dL_isPath_166 (by decide) ?_ ?_
  · exact z_sub [1, 2, 3, 4, 5, 0, 7] rfl (sL_isPath_198 X Nf k0 hk0 h self93 hself93 x1 x2 x3 x4 y0 x7 σ)
  · refine z_iload X dL_isPath_169 5 rfl ?_
    refine z_iload X dL_isPath_171 0 rfl ?_
    refine z_ishr X dL_isPath_173 ?_
    refine z_iconst (v := (1 : Int32)) X dL_isPath_174 (by decide) ?_
    refine z_iand X dL_isPath_175 ?_
    refine z_iconst (v := (1 : Int32)) X dL_isPath_176 (by decide) ?_
    refine z_icmp_ne X 198 dL_isPath_177 (by decide) ?_ ?_
    · refine z_aload_n X dL_isPath_180 1 rfl ?_
      refine z_iload_n X dL_isPath_181 2 rfl ?_
      refine z_iload X dL_isPath_182 0 rfl ?_
      refine z_callVN X (g := (fun r1 : (Int32 × cS) => ((some (.int r1.1), h, r1.2) : Option Value × Int64 × cS))) (st := []) (st1 := (fun r1 : (Int32 × cS) => [.int r1.1])) (rmf := 7) (rml := 111) [.int x1, .int y0] k0 cal_X6_path q_21_6 ⟨Nat.le_of_ble_eq_true rfl, Nat.le_of_ble_eq_true rfl⟩ rfl rfl (Nat.le_of_ble_eq_true rfl) rfl hk0.1 (ce6 hk0.1 _ _) (ctX6_path_n (kl K) G X.2.2.2.2.2.2.2.1 Nf h σ k0 hk0 x1 y0) dL_isPath_184 (fun _ => rfl) (fun r1 => ?_)
      refine z_iload X dL_isPath_187 7 rfl ?_
      refine z_iconst (v := (1 : Int32)) X dL_isPath_189 (by decide) ?_
      refine z_iadd X dL_isPath_190 ?_
      refine z_icmp_ne X 198 dL_isPath_191 (by decide) ?_ ?_
      · refine z_iconst (v := (1 : Int32)) X dL_isPath_194 (by decide) ?_
        refine z_goto X 199 dL_isPath_195 (by decide) ?_
        exact z_sub [1, 2, 3, 4, 5, 0, 7] rfl (sL_isPath_199 X Nf k0 hk0 h self93 hself93 x1 x2 x3 x4 y0 x7 (1 : Int32) r1.2)
      · exact z_sub [1, 2, 3, 4, 5, 0, 7] rfl (sL_isPath_198 X Nf k0 hk0 h self93 hself93 x1 x2 x3 x4 y0 x7 r1.2)
    · exact z_sub [1, 2, 3, 4, 5, 0, 7] rfl (sL_isPath_198 X Nf k0 hk0 h self93 hself93 x1 x2 x3 x4 y0 x7 σ)
def fL_isPath_131 (L : Nat → Nat) (Nf : Nat) (k0 : Nat) (self93 : Int32 → Int32 → Int32 → Int32 → Int32 → Int32 → Int32 → cS → Option ((Int32 × cS) × Nat)) (x1 : Int32) (x2 : Int32) (x3 : Int32) (x4 : Int32) (x5 : Int32) (x7 : Int32) (x8 : Int32) (y0 : Int32) (σ : cS) : Option ((Int32 × cS) × Nat) := ibn (fX6_edge L Nf σ k0 x8 (0 : Int32)) (fun r1 => if r1 = x5 then (ibn (fX6_edge L Nf σ k0 x8 (1 : Int32)) (fun r3 => fL_isPath_162 L Nf k0 self93 x1 x2 x3 x4 y0 x7 r3 σ)) else (ibn (fX6_edge L Nf σ k0 x8 (0 : Int32)) (fun r2 => fL_isPath_162 L Nf k0 self93 x1 x2 x3 x4 y0 x7 r2 σ)))
set_option maxHeartbeats 4000000 in
set_option maxRecDepth 100000 in
theorem sL_isPath_131 {K : MCx} {G : Lay} (X : Cx K G RL cL_isPath 9 (some .boolean) 9 160) (Nf : Nat) (k0 : Nat) (hk0 : isEH G k0) (h : Int64) (self93 : Int32 → Int32 → Int32 → Int32 → Int32 → Int32 → Int32 → cS → Option ((Int32 × cS) × Nat)) (hself93 : ∀ (K : MCx) (X : Cx K G RL cL_isPath 9 (some .boolean) 9 160) (x1 : Int32) (x2 : Int32) (x3 : Int32) (x4 : Int32) (x5 : Int32) (x6 : Int32) (x7 : Int32) (σ : cS), Sm K G (PN K) (QN K G (fun r : (Int32 × cS) => ((some (.int r.1), h, r.2) : Option Value × Int64 × cS))) 9 93 [(0, .ref (la G k0)), (1, .int x1), (2, .int x2), (3, .int x3), (4, .int x4), (5, .int x5), (6, .int x6), (7, .int x7)] [] h σ (self93 x1 x2 x3 x4 x5 x6 x7 σ)) (x1 : Int32) (x2 : Int32) (x3 : Int32) (x4 : Int32) (x5 : Int32) (x7 : Int32) (x8 : Int32) (y0 : Int32) (σ : cS) : Sm K G (PN K) (QN K G (fun r : (Int32 × cS) => ((some (.int r.1), h, r.2) : Option Value × Int64 × cS))) 9 131 [(0, .ref (la G k0)), (1, .int x1), (2, .int x2), (3, .int x3), (4, .int x4), (5, .int x5), (7, .int x7), (8, .int x8)] [.int y0] h σ (fL_isPath_131 (ll G) Nf k0 self93 x1 x2 x3 x4 x5 x7 x8 y0 σ) := by
  unfold fL_isPath_131
  refine z_istore X [(6, .int y0), (0, .ref (la G k0)), (1, .int x1), (2, .int x2), (3, .int x3), (4, .int x4), (5, .int x5), (7, .int x7), (8, .int x8)] dL_isPath_131 (by decide) rfl ?_
  refine z_aload_n X dL_isPath_133 1 rfl ?_
  refine z_iload X dL_isPath_134 8 rfl ?_
  refine z_iconst (v := (0 : Int32)) X dL_isPath_136 (by decide) ?_
  refine z_callVN X (g := (fun r1 : Int32 => ((some (.int r1), h, σ) : Option Value × Int64 × cS))) (st := []) (st1 := (fun r1 : Int32 => [.int r1])) (rmf := 7) (rml := 112) [.int x8, .int (0 : Int32)] k0 cal_X6_edge q_18_2 ⟨Nat.le_of_ble_eq_true rfl, Nat.le_of_ble_eq_true rfl⟩ rfl rfl (Nat.le_of_ble_eq_true rfl) rfl hk0.1 (ce6 hk0.1 _ _) (ctX6_edge_n (kl K) G X.2.2.2.2.2.2.2.1 Nf h σ k0 hk0 x8 (0 : Int32)) dL_isPath_137 (fun _ => rfl) (fun r1 => ?_)
  refine z_iload X dL_isPath_140 6 rfl ?_
  refine z_icmp_ne X 155 dL_isPath_142 (by decide) ?_ ?_
  · refine z_aload_n X dL_isPath_145 1 rfl ?_
    refine z_iload X dL_isPath_146 8 rfl ?_
    refine z_iconst (v := (1 : Int32)) X dL_isPath_148 (by decide) ?_
    refine z_callVN X (g := (fun r3 : Int32 => ((some (.int r3), h, σ) : Option Value × Int64 × cS))) (st := []) (st1 := (fun r3 : Int32 => [.int r3])) (rmf := 7) (rml := 112) [.int x8, .int (1 : Int32)] k0 cal_X6_edge q_18_2 ⟨Nat.le_of_ble_eq_true rfl, Nat.le_of_ble_eq_true rfl⟩ rfl rfl (Nat.le_of_ble_eq_true rfl) rfl hk0.1 (ce6 hk0.1 _ _) (ctX6_edge_n (kl K) G X.2.2.2.2.2.2.2.1 Nf h σ k0 hk0 x8 (1 : Int32)) dL_isPath_149 (fun _ => rfl) (fun r3 => ?_)
    refine z_goto X 162 dL_isPath_152 (by decide) ?_
    exact z_sub [1, 2, 3, 4, 5, 0, 7] rfl (sL_isPath_162 X Nf k0 hk0 h self93 hself93 x1 x2 x3 x4 y0 x7 r3 σ)
  · refine z_aload_n X dL_isPath_155 1 rfl ?_
    refine z_iload X dL_isPath_156 8 rfl ?_
    refine z_iconst (v := (0 : Int32)) X dL_isPath_158 (by decide) ?_
    refine z_callVN X (g := (fun r2 : Int32 => ((some (.int r2), h, σ) : Option Value × Int64 × cS))) (st := []) (st1 := (fun r2 : Int32 => [.int r2])) (rmf := 7) (rml := 112) [.int x8, .int (0 : Int32)] k0 cal_X6_edge q_18_2 ⟨Nat.le_of_ble_eq_true rfl, Nat.le_of_ble_eq_true rfl⟩ rfl rfl (Nat.le_of_ble_eq_true rfl) rfl hk0.1 (ce6 hk0.1 _ _) (ctX6_edge_n (kl K) G X.2.2.2.2.2.2.2.1 Nf h σ k0 hk0 x8 (0 : Int32)) dL_isPath_159 (fun _ => rfl) (fun r2 => ?_)
    exact z_sub [1, 2, 3, 4, 5, 0, 7] rfl (sL_isPath_162 X Nf k0 hk0 h self93 hself93 x1 x2 x3 x4 y0 x7 r2 σ)
def fL_isPath_93 (L : Nat → Nat) (Nf : Nat) (k0 : Nat) : Nat → Int32 → Int32 → Int32 → Int32 → Int32 → Int32 → Int32 → cS → Option ((Int32 × cS) × Nat)
  | 0, _, _, _, _, _, _, _, _ => none
  | n + 1, x1, x2, x3, x4, x5, x6, x7, σ => if x3 ≤ x7 then (fL_isPath_207 L Nf k0 x1 x2 x3 x5 x6 σ) else (if x6 = 0 then (fL_isPath_207 L Nf k0 x1 x2 x3 x5 x6 σ) else (ibn (fX6_step L Nf σ k0 x1 x2 x7) (fun r1 => ibn (fX6_edge L Nf r1.2 k0 r1.1 (2 : Int32)) (fun r2 => if r2 = x5 then (fL_isPath_131 L Nf k0 (fL_isPath_93 L Nf k0 n) x1 x2 x3 x4 x5 x7 r1.1 (1 : Int32) r1.2) else (fL_isPath_131 L Nf k0 (fL_isPath_93 L Nf k0 n) x1 x2 x3 x4 x5 x7 r1.1 (0 : Int32) r1.2)))))
set_option maxHeartbeats 4000000 in
set_option maxRecDepth 100000 in
theorem sL_isPath_93 {G : Lay} (Nf : Nat) (k0 : Nat) (hk0 : isEH G k0) (h : Int64) : ∀ (n : Nat) (K : MCx) (X : Cx K G RL cL_isPath 9 (some .boolean) 9 160) (x1 : Int32) (x2 : Int32) (x3 : Int32) (x4 : Int32) (x5 : Int32) (x6 : Int32) (x7 : Int32) (σ : cS), Sm K G (PN K) (QN K G (fun r : (Int32 × cS) => ((some (.int r.1), h, r.2) : Option Value × Int64 × cS))) 9 93 [(0, .ref (la G k0)), (1, .int x1), (2, .int x2), (3, .int x3), (4, .int x4), (5, .int x5), (6, .int x6), (7, .int x7)] [] h σ (fL_isPath_93 (ll G) Nf k0 n x1 x2 x3 x4 x5 x6 x7 σ) := by
  intro n
  induction n with
  | zero => intros; exact z_none
  | succ n ih =>
    intro K X x1 x2 x3 x4 x5 x6 x7 σ
    unfold fL_isPath_93
    refine z_iload X dL_isPath_93 7 rfl ?_
    refine z_iload_n X dL_isPath_95 3 rfl ?_
    refine z_icmp_ge X 207 dL_isPath_96 (by decide) ?_ ?_
    · exact z_sub [0, 1, 2, 3, 5, 6] rfl (sL_isPath_207 X Nf k0 hk0 h x1 x2 x3 x5 x6 σ)
    · refine z_iload X dL_isPath_99 6 rfl ?_
      refine z_if_eq X 207 dL_isPath_101 (by decide) ?_ ?_
      · exact z_sub [0, 1, 2, 3, 5, 6] rfl (sL_isPath_207 X Nf k0 hk0 h x1 x2 x3 x5 x6 σ)
      · refine z_aload_n X dL_isPath_104 0 rfl ?_
        refine z_iload_n X dL_isPath_105 1 rfl ?_
        refine z_iload_n X dL_isPath_106 2 rfl ?_
        refine z_iload X dL_isPath_107 7 rfl ?_
        refine z_callVN X (g := (fun r1 : (Int32 × cS) => ((some (.int r1.1), h, r1.2) : Option Value × Int64 × cS))) (st := []) (st1 := (fun r1 : (Int32 × cS) => [.int r1.1])) (rmf := 7) (rml := 111) [.int x1, .int x2, .int x7] k0 cal_X6_step q_21_14 ⟨Nat.le_of_ble_eq_true rfl, Nat.le_of_ble_eq_true rfl⟩ rfl rfl (Nat.le_of_ble_eq_true rfl) rfl hk0.1 (ce6 hk0.1 _ _) (ctX6_step_n (kl K) G X.2.2.2.2.2.2.2.1 Nf h σ k0 hk0 x1 x2 x7) dL_isPath_109 (fun _ => rfl) (fun r1 => ?_)
        refine z_istore X [(8, .int r1.1), (0, .ref (la G k0)), (1, .int x1), (2, .int x2), (3, .int x3), (4, .int x4), (5, .int x5), (6, .int x6), (7, .int x7)] dL_isPath_112 (by decide) rfl ?_
        refine z_aload_n X dL_isPath_114 1 rfl ?_
        refine z_iload X dL_isPath_115 0 rfl ?_
        refine z_iconst (v := (2 : Int32)) X dL_isPath_117 (by decide) ?_
        refine z_callVN X (g := (fun r2 : Int32 => ((some (.int r2), h, r1.2) : Option Value × Int64 × cS))) (st := []) (st1 := (fun r2 : Int32 => [.int r2])) (rmf := 7) (rml := 112) [.int r1.1, .int (2 : Int32)] k0 cal_X6_edge q_18_2 ⟨Nat.le_of_ble_eq_true rfl, Nat.le_of_ble_eq_true rfl⟩ rfl rfl (Nat.le_of_ble_eq_true rfl) rfl hk0.1 (ce6 hk0.1 _ _) (ctX6_edge_n (kl K) G X.2.2.2.2.2.2.2.1 Nf h r1.2 k0 hk0 r1.1 (2 : Int32)) dL_isPath_118 (fun _ => rfl) (fun r2 => ?_)
        refine z_iload X dL_isPath_121 6 rfl ?_
        refine z_icmp_ne X 130 dL_isPath_123 (by decide) ?_ ?_
        · refine z_iconst (v := (1 : Int32)) X dL_isPath_126 (by decide) ?_
          refine z_goto X 131 dL_isPath_127 (by decide) ?_
          exact z_sub [1, 2, 3, 4, 5, 6, 8, 0] rfl (sL_isPath_131 X Nf k0 hk0 h (fL_isPath_93 (ll G) Nf k0 n) ih x1 x2 x3 x4 x5 x7 r1.1 (1 : Int32) r1.2)
        · refine z_iconst (v := (0 : Int32)) X dL_isPath_130 (by decide) ?_
          exact z_sub [1, 2, 3, 4, 5, 6, 8, 0] rfl (sL_isPath_131 X Nf k0 hk0 h (fL_isPath_93 (ll G) Nf k0 n) ih x1 x2 x3 x4 x5 x7 r1.1 (0 : Int32) r1.2)
def fL_isPath_88 (L : Nat → Nat) (Nf : Nat) (k0 : Nat) (x1 : Int32) (x2 : Int32) (x3 : Int32) (x4 : Int32) (x5 : Int32) (y0 : Int32) (σ : cS) : Option ((Int32 × cS) × Nat) := fL_isPath_93 L Nf k0 Nf x1 x2 x3 x4 x5 y0 (0 : Int32) σ
set_option maxHeartbeats 4000000 in
set_option maxRecDepth 100000 in
theorem sL_isPath_88 {K : MCx} {G : Lay} (X : Cx K G RL cL_isPath 9 (some .boolean) 9 160) (Nf : Nat) (k0 : Nat) (hk0 : isEH G k0) (h : Int64) (x1 : Int32) (x2 : Int32) (x3 : Int32) (x4 : Int32) (x5 : Int32) (y0 : Int32) (σ : cS) : Sm K G (PN K) (QN K G (fun r : (Int32 × cS) => ((some (.int r.1), h, r.2) : Option Value × Int64 × cS))) 9 88 [(0, .ref (la G k0)), (1, .int x1), (2, .int x2), (3, .int x3), (4, .int x4), (5, .int x5)] [.int y0] h σ (fL_isPath_88 (ll G) Nf k0 x1 x2 x3 x4 x5 y0 σ) := by
  unfold fL_isPath_88
  refine z_istore X [(6, .int y0), (0, .ref (la G k0)), (1, .int x1), (2, .int x2), (3, .int x3), (4, .int x4), (5, .int x5)] dL_isPath_88 (by decide) rfl ?_
  refine z_iconst (v := (0 : Int32)) X dL_isPath_90 (by decide) ?_
  refine z_istore X [(7, .int (0 : Int32)), (6, .int y0), (0, .ref (la G k0)), (1, .int x1), (2, .int x2), (3, .int x3), (4, .int x4), (5, .int x5)] dL_isPath_91 (by decide) rfl ?_
  exact z_sub [2, 3, 4, 5, 6, 7, 1, 0] rfl (sL_isPath_93 Nf k0 hk0 h Nf _ X x1 x2 x3 x4 x5 y0 (0 : Int32) σ)
def fL_isPath_87 (L : Nat → Nat) (Nf : Nat) (k0 : Nat) (x1 : Int32) (x2 : Int32) (x3 : Int32) (x4 : Int32) (x5 : Int32) (σ : cS) : Option ((Int32 × cS) × Nat) := fL_isPath_88 L Nf k0 x1 x2 x3 x4 x5 (0 : Int32) σ
set_option maxHeartbeats 4000000 in
set_option maxRecDepth 100000 in
theorem sL_isPath_87 {K : MCx} {G : Lay} (X : Cx K G RL cL_isPath 9 (some .boolean) 9 160) (Nf : Nat) (k0 : Nat) (hk0 : isEH G k0) (h : Int64) (x1 : Int32) (x2 : Int32) (x3 : Int32) (x4 : Int32) (x5 : Int32) (σ : cS) : Sm K G (PN K) (QN K G (fun r : (Int32 × cS) => ((some (.int r.1), h, r.2) : Option Value × Int64 × cS))) 9 87 [(0, .ref (la G k0)), (1, .int x1), (2, .int x2), (3, .int x3), (4, .int x4), (5, .int x5)] [] h σ (fL_isPath_87 (ll G) Nf k0 x1 x2 x3 x4 x5 σ) := by
  unfold fL_isPath_87
  refine z_iconst (v := (0 : Int32)) X dL_isPath_87 (by decide) ?_
  exact z_sub [0, 1, 2, 3, 4, 5] rfl (sL_isPath_88 X Nf k0 hk0 h x1 x2 x3 x4 x5 (0 : Int32) σ)
def fL_isPath_80 (L : Nat → Nat) (Nf : Nat) (k0 : Nat) (x1 : Int32) (x2 : Int32) (x3 : Int32) (x4 : Int32) (x5 : Int32) (y0 : Int32) (y1 : Int32) (σ : cS) : Option ((Int32 × cS) × Nat) := if y0 = y1 then (fL_isPath_88 L Nf k0 x1 x2 x3 x4 x5 (1 : Int32) σ) else (fL_isPath_87 L Nf k0 x1 x2 x3 x4 x5 σ)
set_option maxHeartbeats 4000000 in
set_option maxRecDepth 100000 in
theorem sL_isPath_80 {K : MCx} {G : Lay} (X : Cx K G RL cL_isPath 9 (some .boolean) 9 160) (Nf : Nat) (k0 : Nat) (hk0 : isEH G k0) (h : Int64) (x1 : Int32) (x2 : Int32) (x3 : Int32) (x4 : Int32) (x5 : Int32) (y0 : Int32) (y1 : Int32) (σ : cS) : Sm K G (PN K) (QN K G (fun r : (Int32 × cS) => ((some (.int r.1), h, r.2) : Option Value × Int64 × cS))) 9 80 [(0, .ref (la G k0)), (1, .int x1), (2, .int x2), (3, .int x3), (4, .int x4), (5, .int x5)] [.int y1, .int y0] h σ (fL_isPath_80 (ll G) Nf k0 x1 x2 x3 x4 x5 y0 y1 σ) := by
  unfold fL_isPath_80
  refine z_icmp_ne X 87 dL_isPath_80 (by decide) ?_ ?_
  · refine z_iconst (v := (1 : Int32)) X dL_isPath_83 (by decide) ?_
    refine z_goto X 88 dL_isPath_84 (by decide) ?_
    exact z_sub [0, 1, 2, 3, 4, 5] rfl (sL_isPath_88 X Nf k0 hk0 h x1 x2 x3 x4 x5 (1 : Int32) σ)
  · exact z_sub [0, 1, 2, 3, 4, 5] rfl (sL_isPath_87 X Nf k0 hk0 h x1 x2 x3 x4 x5 σ)
def fL_isPath_70 (L : Nat → Nat) (Nf : Nat) (k0 : Nat) (x1 : Int32) (x2 : Int32) (x3 : Int32) (x4 : Int32) (x5 : Int32) (y0 : Int32) (σ : cS) : Option ((Int32 × cS) × Nat) := if x1 = x2 then (fL_isPath_80 L Nf k0 x1 x2 x3 x4 x5 y0 (1 : Int32) σ) else (fL_isPath_80 L Nf k0 x1 x2 x3 x4 x5 y0 (0 : Int32) σ)
set_option maxHeartbeats 4000000 in
set_option maxRecDepth 100000 in
theorem sL_isPath_70 {K : MCx} {G : Lay} (X : Cx K G RL cL_isPath 9 (some .boolean) 9 160) (Nf : Nat) (k0 : Nat) (hk0 : isEH G k0) (h : Int64) (x1 : Int32) (x2 : Int32) (x3 : Int32) (x4 : Int32) (x5 : Int32) (y0 : Int32) (σ : cS) : Sm K G (PN K) (QN K G (fun r : (Int32 × cS) => ((some (.int r.1), h, r.2) : Option Value × Int64 × cS))) 9 70 [(0, .ref (la G k0)), (1, .int x1), (2, .int x2), (3, .int x3), (4, .int x4), (5, .int x5)] [.int y0] h σ (fL_isPath_70 (ll G) Nf k0 x1 x2 x3 x4 x5 y0 σ) := by
  unfold fL_isPath_70
  refine z_iload_n X dL_isPath_70 1 rfl ?_
  refine z_iload_n X dL_isPath_71 2 rfl ?_
  refine z_icmp_ne X 79 dL_isPath_72 (by decide) ?_ ?_
  · refine z_iconst (v := (1 : Int32)) X dL_isPath_75 (by decide) ?_
    refine z_goto X 80 dL_isPath_76 (by decide) ?_
    exact z_sub [0, 1, 2, 3, 4, 5] rfl (sL_isPath_80 X Nf k0 hk0 h x1 x2 x3 x4 x5 y0 (1 : Int32) σ)
  · refine z_iconst (v := (0 : Int32)) X dL_isPath_79 (by decide) ?_
    exact z_sub [0, 1, 2, 3, 4, 5] rfl (sL_isPath_80 X Nf k0 hk0 h x1 x2 x3 x4 x5 y0 (0 : Int32) σ)
def fL_isPath_47 (L : Nat → Nat) (Nf : Nat) (k0 : Nat) (y0 : Int32) (σ : cS) : Option ((Int32 × cS) × Nat) := grd (isb y0) (some ((y0, σ), 0))
set_option maxHeartbeats 4000000 in
set_option maxRecDepth 100000 in
theorem sL_isPath_47 {K : MCx} {G : Lay} (X : Cx K G RL cL_isPath 9 (some .boolean) 9 160) (Nf : Nat) (k0 : Nat) (hk0 : isEH G k0) (h : Int64) (y0 : Int32) (σ : cS) : Sm K G (PN K) (QN K G (fun r : (Int32 × cS) => ((some (.int r.1), h, r.2) : Option Value × Int64 × cS))) 9 47 [] [.int y0] h σ (fL_isPath_47 (ll G) Nf k0 y0 σ) := by
  unfold fL_isPath_47
  exact z_nzret X rfl dL_isPath_47
def fL_isPath_46 (L : Nat → Nat) (Nf : Nat) (k0 : Nat) (σ : cS) : Option ((Int32 × cS) × Nat) := fL_isPath_47 L Nf k0 (0 : Int32) σ
set_option maxHeartbeats 4000000 in
set_option maxRecDepth 100000 in
theorem sL_isPath_46 {K : MCx} {G : Lay} (X : Cx K G RL cL_isPath 9 (some .boolean) 9 160) (Nf : Nat) (k0 : Nat) (hk0 : isEH G k0) (h : Int64) (σ : cS) : Sm K G (PN K) (QN K G (fun r : (Int32 × cS) => ((some (.int r.1), h, r.2) : Option Value × Int64 × cS))) 9 46 [] [] h σ (fL_isPath_46 (ll G) Nf k0 σ) := by
  unfold fL_isPath_46
  refine z_iconst (v := (0 : Int32)) X dL_isPath_46 (by decide) ?_
  exact z_sub [] rfl (sL_isPath_47 X Nf k0 hk0 h (0 : Int32) σ)
def fL_isPath_0 (L : Nat → Nat) (Nf : Nat) (k0 : Nat) (x1 : Int32) (x2 : Int32) (σ : cS) : Option ((Int32 × cS) × Nat) := ibn (fX6_path L Nf σ k0 x1 x2) (fun r1 => ibn (fX6_node L Nf r1.2 k0 x1 (4 : Int32)) (fun r2 => if r1.1 = (-1 : Int32) then (if ((r2.1 >>> (x2 &&& 31)) &&& (1 : Int32)) = 0 then (wbn (w1n (fL_step L Nf r2.2 k0 x1 x2 (0 : Int32))) (fun r3 => if r3.1 = (-2053 : Int32) then (fL_isPath_47 L Nf k0 (1 : Int32) r3.2) else (fL_isPath_46 L Nf k0 r3.2))) else (fL_isPath_46 L Nf k0 r2.2)) else (if ((r2.1 >>> (x2 &&& 31)) &&& (1 : Int32)) = (1 : Int32) then (if r1.1 = 0 then (fL_isPath_70 L Nf k0 x1 x2 r1.1 r2.1 x1 (1 : Int32) r2.2) else (fL_isPath_70 L Nf k0 x1 x2 r1.1 r2.1 x1 (0 : Int32) r2.2)) else (fL_isPath_87 L Nf k0 x1 x2 r1.1 r2.1 x1 r2.2))))
set_option maxHeartbeats 4000000 in
set_option maxRecDepth 100000 in
theorem sL_isPath_0 {K : MCx} {G : Lay} (X : Cx K G RL cL_isPath 9 (some .boolean) 9 160) (Nf : Nat) (k0 : Nat) (hk0 : isEH G k0) (h : Int64) (x1 : Int32) (x2 : Int32) (σ : cS) : Sm K G (PN K) (QN K G (fun r : (Int32 × cS) => ((some (.int r.1), h, r.2) : Option Value × Int64 × cS))) 9 0 [(0, .ref (la G k0)), (1, .int x1), (2, .int x2)] [] h σ (fL_isPath_0 (ll G) Nf k0 x1 x2 σ) := by
  unfold fL_isPath_0
  refine z_aload_n X dL_isPath_0 0 rfl ?_
  refine z_iload_n X dL_isPath_1 1 rfl ?_
  refine z_iload_n X dL_isPath_2 2 rfl ?_
  refine z_callVN X (g := (fun r1 : (Int32 × cS) => ((some (.int r1.1), h, r1.2) : Option Value × Int64 × cS))) (st := []) (st1 := (fun r1 : (Int32 × cS) => [.int r1.1])) (rmf := 7) (rml := 111) [.int x1, .int x2] k0 cal_X6_path q_21_6 ⟨Nat.le_of_ble_eq_true rfl, Nat.le_of_ble_eq_true rfl⟩ rfl rfl (Nat.le_of_ble_eq_true rfl) rfl hk0.1 (ce6 hk0.1 _ _) (ctX6_path_n (kl K) G X.2.2.2.2.2.2.2.1 Nf h σ k0 hk0 x1 x2) dL_isPath_3 (fun _ => rfl) (fun r1 => ?_)
  refine z_istore_n X [(3, .int r1.1), (0, .ref (la G k0)), (1, .int x1), (2, .int x2)] dL_isPath_6 (by decide) rfl ?_
  refine z_aload_n X dL_isPath_7 1 rfl ?_
  refine z_iload_n X dL_isPath_8 2 rfl ?_
  refine z_iconst (v := (4 : Int32)) X dL_isPath_9 (by decide) ?_
  refine z_callVN X (g := (fun r2 : (Int32 × cS) => ((some (.int r2.1), h, r2.2) : Option Value × Int64 × cS))) (st := []) (st1 := (fun r2 : (Int32 × cS) => [.int r2.1])) (rmf := 7) (rml := 111) [.int x1, .int (4 : Int32)] k0 cal_X6_node q_17_3 ⟨Nat.le_of_ble_eq_true rfl, Nat.le_of_ble_eq_true rfl⟩ rfl rfl (Nat.le_of_ble_eq_true rfl) rfl hk0.1 (ce6 hk0.1 _ _) (ctX6_node_n (kl K) G X.2.2.2.2.2.2.2.1 Nf h r1.2 k0 hk0 x1 (4 : Int32)) dL_isPath_10 (fun _ => rfl) (fun r2 => ?_)
  refine z_istore X [(4, .int r2.1), (3, .int r1.1), (0, .ref (la G k0)), (1, .int x1), (2, .int x2)] dL_isPath_13 (by decide) rfl ?_
  refine z_iload_n X dL_isPath_15 1 rfl ?_
  refine z_iconst (v := (-1 : Int32)) X dL_isPath_16 (by decide) ?_
  refine z_icmp_ne X 48 dL_isPath_17 (by decide) ?_ ?_
  · refine z_iload X dL_isPath_20 0 rfl ?_
    refine z_iload_n X dL_isPath_22 4 rfl ?_
    refine z_ishr X dL_isPath_23 ?_
    refine z_iconst (v := (1 : Int32)) X dL_isPath_24 (by decide) ?_
    refine z_iand X dL_isPath_25 ?_
    refine z_if_ne X 46 dL_isPath_26 (by decide) ?_ ?_
    · refine z_aload_n X dL_isPath_29 2 rfl ?_
      refine z_iload_n X dL_isPath_30 3 rfl ?_
      refine z_iload_n X dL_isPath_31 4 rfl ?_
      refine z_iconst (v := (0 : Int32)) X dL_isPath_32 (by decide) ?_
      refine z_callW (P := fun K => PN K) (Q := fun K => QN K G (fun r : (Int32 × cS) => ((some (.int r.1), h, r.2) : Option Value × Int64 × cS))) (pq_N G (fun r : (Int32 × cS) => ((some (.int r.1), h, r.2) : Option Value × Int64 × cS))) X (n := 4) (fr := 8) (lo := 135) (st := []) [.ref (la G k0), .int x1, .int x2, .int (0 : Int32)] (fun hfl => hL_step (kl K) hfl G X.2.2.2.2.2.2.2.1 Nf h r2.2 k0 hk0 x1 x2 (0 : Int32)) q_21_13 q_21_12 q_4_22 q_21_11 (by decide +kernel) ⟨Nat.le_of_ble_eq_true rfl, Nat.le_of_ble_eq_true rfl⟩ rfl rfl (Nat.le_of_ble_eq_true rfl) dL_isPath_33 (fun r3 X => ?_)
      refine z_sipush (v := (-2053 : Int32)) X dL_isPath_36 (by decide) ?_
      refine z_icmp_ne X 46 dL_isPath_39 (by decide) ?_ ?_
      · refine z_iconst (v := (1 : Int32)) X dL_isPath_42 (by decide) ?_
        refine z_goto X 47 dL_isPath_43 (by decide) ?_
        exact z_sub [] rfl (sL_isPath_47 X Nf k0 hk0 h (1 : Int32) r3.2)
      · exact z_sub [] rfl (sL_isPath_46 X Nf k0 hk0 h r3.2)
    · exact z_sub [] rfl (sL_isPath_46 X Nf k0 hk0 h r2.2)
  · refine z_iload_n X dL_isPath_48 3 rfl ?_
    refine z_istore X [(5, .int x1), (4, .int r2.1), (3, .int r1.1), (0, .ref (la G k0)), (1, .int x1), (2, .int x2)] dL_isPath_49 (by decide) rfl ?_
    refine z_iload X dL_isPath_51 1 rfl ?_
    refine z_iload_n X dL_isPath_53 5 rfl ?_
    refine z_ishr X dL_isPath_54 ?_
    refine z_iconst (v := (1 : Int32)) X dL_isPath_55 (by decide) ?_
    refine z_iand X dL_isPath_56 ?_
    refine z_iconst (v := (1 : Int32)) X dL_isPath_57 (by decide) ?_
    refine z_icmp_ne X 87 dL_isPath_58 (by decide) ?_ ?_
    · refine z_iload_n X dL_isPath_61 2 rfl ?_
      refine z_if_ne X 69 dL_isPath_62 (by decide) ?_ ?_
      · refine z_iconst (v := (1 : Int32)) X dL_isPath_65 (by decide) ?_
        refine z_goto X 70 dL_isPath_66 (by decide) ?_
        exact z_sub [3, 4, 5, 2, 1, 0] rfl (sL_isPath_70 X Nf k0 hk0 h x1 x2 r1.1 r2.1 x1 (1 : Int32) r2.2)
      · refine z_iconst (v := (0 : Int32)) X dL_isPath_69 (by decide) ?_
        exact z_sub [3, 4, 5, 2, 1, 0] rfl (sL_isPath_70 X Nf k0 hk0 h x1 x2 r1.1 r2.1 x1 (0 : Int32) r2.2)
    · exact z_sub [3, 4, 5, 2, 1, 0] rfl (sL_isPath_87 X Nf k0 hk0 h x1 x2 r1.1 r2.1 x1 r2.2)
def fL_isPath (L : Nat → Nat) (Nf : Nat) (σ : cS) (k0 : Nat) (x1 : Int32) (x2 : Int32) : Option ((Int32 × cS) × Nat) := fL_isPath_0 L Nf k0 x1 x2 σ
set_option maxHeartbeats 4000000 in
set_option maxRecDepth 100000 in
theorem ctL_isPath (l : Launch) (hfl : l.stackTraces = false) (G : Lay) (hi : Inj G) (Nf : Nat) (h : Int64) (σ : cS) (k0 : Nat) (hk0 : isEH G k0) (x1 : Int32) (x2 : Int32) : ∀ r, fL_isPath (ll G) Nf σ k0 x1 x2 = some r → CN l yL_isPath cL_isPath 9 (some .boolean) 9 160 r.2 G [.ref (la G k0), .int x1, .int x2] h σ ((fun r : (Int32 × cS) => ((some (.int r.1), h, r.2) : Option Value × Int64 × cS)) r.1) := by
  refine cn_of (g := (fun r : (Int32 × cS) => ((some (.int r.1), h, r.2) : Option Value × Int64 × cS))) (by decide) hi hfl (Nat.le_of_ble_eq_true rfl) (fun K hKl X => ?_)
  unfold fL_isPath
  exact z_sub [0, 1, 2] rfl (sL_isPath_0 X Nf k0 hk0 h x1 x2 σ)
def fL_isAhead_342 (L : Nat → Nat) (Nf : Nat) (k0 : Nat) (y0 : Int32) (σ : cS) : Option ((Int32 × cS) × Nat) := grd (isb y0) (some ((y0, σ), 0))
set_option maxHeartbeats 4000000 in
set_option maxRecDepth 100000 in
theorem sL_isAhead_342 {K : MCx} {G : Lay} (X : Cx K G RL cL_isAhead 14 (some .boolean) 9 160) (Nf : Nat) (k0 : Nat) (hk0 : isEH G k0) (h : Int64) (y0 : Int32) (σ : cS) : Sm K G (PN K) (QN K G (fun r : (Int32 × cS) => ((some (.int r.1), h, r.2) : Option Value × Int64 × cS))) 14 342 [] [.int y0] h σ (fL_isAhead_342 (ll G) Nf k0 y0 σ) := by
  unfold fL_isAhead_342
  exact z_nzret X rfl dL_isAhead_342
def fL_isAhead_341 (L : Nat → Nat) (Nf : Nat) (k0 : Nat) (σ : cS) : Option ((Int32 × cS) × Nat) := fL_isAhead_342 L Nf k0 (0 : Int32) σ
set_option maxHeartbeats 4000000 in
set_option maxRecDepth 100000 in
theorem sL_isAhead_341 {K : MCx} {G : Lay} (X : Cx K G RL cL_isAhead 14 (some .boolean) 9 160) (Nf : Nat) (k0 : Nat) (hk0 : isEH G k0) (h : Int64) (σ : cS) : Sm K G (PN K) (QN K G (fun r : (Int32 × cS) => ((some (.int r.1), h, r.2) : Option Value × Int64 × cS))) 14 341 [] [] h σ (fL_isAhead_341 (ll G) Nf k0 σ) := by
  unfold fL_isAhead_341
  refine z_iconst (v := (0 : Int32)) X dL_isAhead_341 (by decide) ?_
  exact z_sub [] rfl (sL_isAhead_342 X Nf k0 hk0 h (0 : Int32) σ)
def fL_isAhead_328 (L : Nat → Nat) (Nf : Nat) (k0 : Nat) (x3 : Int64) (σ : cS) : Option ((Int32 × cS) × Nat) := Option.bind (fL_print L Nf σ k0) (fun r1 => if (lg_cmp r1.1 x3) = 0 then (fL_isAhead_342 L Nf k0 (1 : Int32) r1.2) else (fL_isAhead_341 L Nf k0 r1.2))
set_option maxHeartbeats 4000000 in
set_option maxRecDepth 100000 in
theorem sL_isAhead_328 {K : MCx} {G : Lay} (X : Cx K G RL cL_isAhead 14 (some .boolean) 9 160) (Nf : Nat) (k0 : Nat) (hk0 : isEH G k0) (h : Int64) (x3 : Int64) (σ : cS) : Sm K G (PN K) (QN K G (fun r : (Int32 × cS) => ((some (.int r.1), h, r.2) : Option Value × Int64 × cS))) 14 328 [(0, .ref (la G k0)), (3, .long x3)] [] h σ (fL_isAhead_328 (ll G) Nf k0 x3 σ) := by
  unfold fL_isAhead_328
  refine z_aload_n X dL_isAhead_328 0 rfl ?_
  refine z_callS0 X (g := (fun r1 : (Int64 × cS) => ((some (.long r1.1), h, r1.2) : Option Value × Int64 × cS))) (st := []) (st1 := (fun r1 : (Int64 × cS) => [.long r1.1])) (rmf := 8) (rml := 135) [.ref (la G k0)] cal_L_print q_16_22 ⟨Nat.le_of_ble_eq_true rfl, Nat.le_of_ble_eq_true rfl⟩ rfl rfl (Nat.le_of_ble_eq_true rfl) (ctL_print (kl K) G X.2.2.2.2.2.2.2.1 Nf h σ k0 hk0 ) dL_isAhead_329 (fun _ => rfl) (fun r1 => ?_)
  refine z_lload_n X dL_isAhead_332 1 rfl ?_
  refine z_lcmp X dL_isAhead_333 ?_
  refine z_if_ne X 341 dL_isAhead_334 (by decide) ?_ ?_
  · refine z_iconst (v := (1 : Int32)) X dL_isAhead_337 (by decide) ?_
    refine z_goto X 342 dL_isAhead_338 (by decide) ?_
    exact z_sub [] rfl (sL_isAhead_342 X Nf k0 hk0 h (1 : Int32) r1.2)
  · exact z_sub [] rfl (sL_isAhead_341 X Nf k0 hk0 h r1.2)
def fL_isAhead_309 (L : Nat → Nat) (Nf : Nat) (k0 : Nat) (x3 : Int64) (x9 : Int32) (x11 : Int32) (σ : cS) : Option ((Int32 × cS) × Nat) := if x9 = 0 then (fL_isAhead_341 L Nf k0 σ) else (ibn (fX6_value L Nf σ k0 (1 : Int32)) (fun r1 => if 0 < r1 then (fL_isAhead_328 L Nf k0 x3 σ) else (if x11 = (-1 : Int32) then (fL_isAhead_328 L Nf k0 x3 σ) else (fL_isAhead_341 L Nf k0 σ))))
set_option maxHeartbeats 4000000 in
set_option maxRecDepth 100000 in
theorem sL_isAhead_309 {K : MCx} {G : Lay} (X : Cx K G RL cL_isAhead 14 (some .boolean) 9 160) (Nf : Nat) (k0 : Nat) (hk0 : isEH G k0) (h : Int64) (x3 : Int64) (x9 : Int32) (x11 : Int32) (σ : cS) : Sm K G (PN K) (QN K G (fun r : (Int32 × cS) => ((some (.int r.1), h, r.2) : Option Value × Int64 × cS))) 14 309 [(0, .ref (la G k0)), (3, .long x3), (9, .int x9), (11, .int x11)] [] h σ (fL_isAhead_309 (ll G) Nf k0 x3 x9 x11 σ) := by
  unfold fL_isAhead_309
  refine z_iload X dL_isAhead_309 2 rfl ?_
  refine z_if_eq X 341 dL_isAhead_311 (by decide) ?_ ?_
  · exact z_sub [] rfl (sL_isAhead_341 X Nf k0 hk0 h σ)
  · refine z_aload_n X dL_isAhead_314 0 rfl ?_
    refine z_iconst (v := (1 : Int32)) X dL_isAhead_315 (by decide) ?_
    refine z_callVN X (g := (fun r1 : Int32 => ((some (.int r1), h, σ) : Option Value × Int64 × cS))) (st := []) (st1 := (fun r1 : Int32 => [.int r1])) (rmf := 6) (rml := 90) [.int (1 : Int32)] k0 cal_X6_value q_6_2 ⟨Nat.le_of_ble_eq_true rfl, Nat.le_of_ble_eq_true rfl⟩ rfl rfl (Nat.le_of_ble_eq_true rfl) rfl hk0.1 (ce6 hk0.1 _ _) (ctX6_value_n (kl K) G X.2.2.2.2.2.2.2.1 Nf h σ k0 hk0 (1 : Int32)) dL_isAhead_316 (fun _ => rfl) (fun r1 => ?_)
    refine z_if_gt X 328 dL_isAhead_319 (by decide) ?_ ?_
    · exact z_sub [0, 1] rfl (sL_isAhead_328 X Nf k0 hk0 h x3 σ)
    · refine z_iload X dL_isAhead_322 3 rfl ?_
      refine z_iconst (v := (-1 : Int32)) X dL_isAhead_324 (by decide) ?_
      refine z_icmp_ne X 341 dL_isAhead_325 (by decide) ?_ ?_
      · exact z_sub [0, 1] rfl (sL_isAhead_328 X Nf k0 hk0 h x3 σ)
      · exact z_sub [] rfl (sL_isAhead_341 X Nf k0 hk0 h σ)
def fL_isAhead_307 (L : Nat → Nat) (Nf : Nat) (k0 : Nat) (x3 : Int64) (x11 : Int32) (y0 : Int32) (σ : cS) : Option ((Int32 × cS) × Nat) := fL_isAhead_309 L Nf k0 x3 y0 x11 σ
set_option maxHeartbeats 4000000 in
set_option maxRecDepth 100000 in
theorem sL_isAhead_307 {K : MCx} {G : Lay} (X : Cx K G RL cL_isAhead 14 (some .boolean) 9 160) (Nf : Nat) (k0 : Nat) (hk0 : isEH G k0) (h : Int64) (x3 : Int64) (x11 : Int32) (y0 : Int32) (σ : cS) : Sm K G (PN K) (QN K G (fun r : (Int32 × cS) => ((some (.int r.1), h, r.2) : Option Value × Int64 × cS))) 14 307 [(0, .ref (la G k0)), (3, .long x3), (11, .int x11)] [.int y0] h σ (fL_isAhead_307 (ll G) Nf k0 x3 x11 y0 σ) := by
  unfold fL_isAhead_307
  refine z_istore X [(9, .int y0), (0, .ref (la G k0)), (3, .long x3), (11, .int x11)] dL_isAhead_307 (by decide) rfl ?_
  exact z_sub [1, 2, 0, 3] rfl (sL_isAhead_309 X Nf k0 hk0 h x3 y0 x11 σ)
def fL_isAhead_306 (L : Nat → Nat) (Nf : Nat) (k0 : Nat) (x3 : Int64) (x11 : Int32) (σ : cS) : Option ((Int32 × cS) × Nat) := fL_isAhead_307 L Nf k0 x3 x11 (0 : Int32) σ
set_option maxHeartbeats 4000000 in
set_option maxRecDepth 100000 in
theorem sL_isAhead_306 {K : MCx} {G : Lay} (X : Cx K G RL cL_isAhead 14 (some .boolean) 9 160) (Nf : Nat) (k0 : Nat) (hk0 : isEH G k0) (h : Int64) (x3 : Int64) (x11 : Int32) (σ : cS) : Sm K G (PN K) (QN K G (fun r : (Int32 × cS) => ((some (.int r.1), h, r.2) : Option Value × Int64 × cS))) 14 306 [(0, .ref (la G k0)), (3, .long x3), (11, .int x11)] [] h σ (fL_isAhead_306 (ll G) Nf k0 x3 x11 σ) := by
  unfold fL_isAhead_306
  refine z_iconst (v := (0 : Int32)) X dL_isAhead_306 (by decide) ?_
  exact z_sub [0, 1, 2] rfl (sL_isAhead_307 X Nf k0 hk0 h x3 x11 (0 : Int32) σ)
def fL_isAhead_277 (L : Nat → Nat) (Nf : Nat) (k0 : Nat) (x3 : Int64) (x11 : Int32) (x12 : Int32) (x13 : Int32) (σ : cS) : Option ((Int32 × cS) × Nat) := wbn (w1n (fL_remove L Nf σ k0 x12)) (fun r1 => if r1.1 < 0 then (fL_isAhead_306 L Nf k0 x3 x11 r1.2) else (Option.bind (fX6_least L Nf r1.2 k0) (fun r2 => if r2.1 = x13 then (wbn (w1n (fL_undo L Nf r2.2 k0)) (fun r3 => if r3.1 < 0 then (fL_isAhead_306 L Nf k0 x3 x11 r3.2) else (fL_isAhead_307 L Nf k0 x3 x11 (1 : Int32) r3.2))) else (fL_isAhead_306 L Nf k0 x3 x11 r2.2))))
set_option maxHeartbeats 4000000 in
set_option maxRecDepth 100000 in
theorem sL_isAhead_277 {K : MCx} {G : Lay} (X : Cx K G RL cL_isAhead 14 (some .boolean) 9 160) (Nf : Nat) (k0 : Nat) (hk0 : isEH G k0) (h : Int64) (x3 : Int64) (x11 : Int32) (x12 : Int32) (x13 : Int32) (σ : cS) : Sm K G (PN K) (QN K G (fun r : (Int32 × cS) => ((some (.int r.1), h, r.2) : Option Value × Int64 × cS))) 14 277 [(0, .ref (la G k0)), (3, .long x3), (11, .int x11), (12, .int x12), (13, .int x13)] [] h σ (fL_isAhead_277 (ll G) Nf k0 x3 x11 x12 x13 σ) := by
  unfold fL_isAhead_277
  refine z_aload_n X dL_isAhead_277 0 rfl ?_
  refine z_iload X dL_isAhead_278 3 rfl ?_
  refine z_callW (P := fun K => PN K) (Q := fun K => QN K G (fun r : (Int32 × cS) => ((some (.int r.1), h, r.2) : Option Value × Int64 × cS))) (pq_N G (fun r : (Int32 × cS) => ((some (.int r.1), h, r.2) : Option Value × Int64 × cS))) X (n := 2) (fr := 8) (lo := 134) (st := []) [.ref (la G k0), .int x12] (fun hfl => hL_remove (kl K) hfl G X.2.2.2.2.2.2.2.1 Nf h σ k0 hk0 x12) q_19_10 q_19_9 q_4_22 q_19_8 (by decide +kernel) ⟨Nat.le_of_ble_eq_true rfl, Nat.le_of_ble_eq_true rfl⟩ rfl rfl (Nat.le_of_ble_eq_true rfl) dL_isAhead_280 (fun r1 X => ?_)
  refine z_if_lt X 306 dL_isAhead_283 (by decide) ?_ ?_
  · exact z_sub [0, 1, 2] rfl (sL_isAhead_306 X Nf k0 hk0 h x3 x11 r1.2)
  · refine z_aload_n X dL_isAhead_286 0 rfl ?_
    refine z_callV0 X (g := (fun r2 : (Int32 × cS) => ((some (.int r2.1), h, r2.2) : Option Value × Int64 × cS))) (st := []) (st1 := (fun r2 : (Int32 × cS) => [.int r2.1])) (rmf := 4) (rml := 92) [] k0 cal_X6_least q_9_9 ⟨Nat.le_of_ble_eq_true rfl, Nat.le_of_ble_eq_true rfl⟩ rfl rfl (Nat.le_of_ble_eq_true rfl) rfl hk0.1 (ce6 hk0.1 _ _) (ctX6_least (kl K) G X.2.2.2.2.2.2.2.1 Nf h r1.2 k0 hk0 ) dL_isAhead_287 (fun _ => rfl) (fun r2 => ?_)
    refine z_iload X dL_isAhead_290 4 rfl ?_
    refine z_icmp_ne X 306 dL_isAhead_292 (by decide) ?_ ?_
    · refine z_aload_n X dL_isAhead_295 0 rfl ?_
      refine z_callW (P := fun K => PN K) (Q := fun K => QN K G (fun r : (Int32 × cS) => ((some (.int r.1), h, r.2) : Option Value × Int64 × cS))) (pq_N G (fun r : (Int32 × cS) => ((some (.int r.1), h, r.2) : Option Value × Int64 × cS))) X (n := 1) (fr := 7) (lo := 110) (st := []) [.ref (la G k0)] (fun hfl => hL_undo (kl K) hfl G X.2.2.2.2.2.2.2.1 Nf h r2.2 k0 hk0 ) q_4_23 q_4_21 q_4_22 q_4_20 (by decide +kernel) ⟨Nat.le_of_ble_eq_true rfl, Nat.le_of_ble_eq_true rfl⟩ rfl rfl (Nat.le_of_ble_eq_true rfl) dL_isAhead_296 (fun r3 X => ?_)
      refine z_if_lt X 306 dL_isAhead_299 (by decide) ?_ ?_
      · exact z_sub [0, 1, 2] rfl (sL_isAhead_306 X Nf k0 hk0 h x3 x11 r3.2)
      · refine z_iconst (v := (1 : Int32)) X dL_isAhead_302 (by decide) ?_
        refine z_goto X 307 dL_isAhead_303 (by decide) ?_
        exact z_sub [0, 1, 2] rfl (sL_isAhead_307 X Nf k0 hk0 h x3 x11 (1 : Int32) r3.2)
    · exact z_sub [0, 1, 2] rfl (sL_isAhead_306 X Nf k0 hk0 h x3 x11 r2.2)
def fL_isAhead_255 (L : Nat → Nat) (Nf : Nat) (k0 : Nat) (x3 : Int64) (x5 : Int32) (x11 : Int32) (x12 : Int32) (x13 : Int32) (y0 : Int32) (y1 : Int32) (σ : cS) : Option ((Int32 × cS) × Nat) := if y0 = y1 then (if x11 = (-1 : Int32) then (fL_isAhead_277 L Nf k0 x3 x11 x12 x13 σ) else (ibn (fX6_leastWithout L Nf σ k0 x11) (fun r1 => if r1.1 = (x5 - (1 : Int32)) then (fL_isAhead_277 L Nf k0 x3 x11 x12 x13 r1.2) else (fL_isAhead_306 L Nf k0 x3 x11 r1.2)))) else (fL_isAhead_306 L Nf k0 x3 x11 σ)
set_option maxHeartbeats 4000000 in
set_option maxRecDepth 100000 in
theorem sL_isAhead_255 {K : MCx} {G : Lay} (X : Cx K G RL cL_isAhead 14 (some .boolean) 9 160) (Nf : Nat) (k0 : Nat) (hk0 : isEH G k0) (h : Int64) (x3 : Int64) (x5 : Int32) (x11 : Int32) (x12 : Int32) (x13 : Int32) (y0 : Int32) (y1 : Int32) (σ : cS) : Sm K G (PN K) (QN K G (fun r : (Int32 × cS) => ((some (.int r.1), h, r.2) : Option Value × Int64 × cS))) 14 255 [(0, .ref (la G k0)), (3, .long x3), (5, .int x5), (11, .int x11), (12, .int x12), (13, .int x13)] [.int y1, .int y0] h σ (fL_isAhead_255 (ll G) Nf k0 x3 x5 x11 x12 x13 y0 y1 σ) := by
  unfold fL_isAhead_255
  refine z_icmp_ne X 306 dL_isAhead_255 (by decide) ?_ ?_
  · refine z_iload X dL_isAhead_258 3 rfl ?_
    refine z_iconst (v := (-1 : Int32)) X dL_isAhead_260 (by decide) ?_
    refine z_icmp_eq X 277 dL_isAhead_261 (by decide) ?_ ?_
    · exact z_sub [0, 1, 3, 4, 5] rfl (sL_isAhead_277 X Nf k0 hk0 h x3 x11 x12 x13 σ)
    · refine z_aload_n X dL_isAhead_264 0 rfl ?_
      refine z_iload X dL_isAhead_265 3 rfl ?_
      refine z_callVN X (g := (fun r1 : (Int32 × cS) => ((some (.int r1.1), h, r1.2) : Option Value × Int64 × cS))) (st := []) (st1 := (fun r1 : (Int32 × cS) => [.int r1.1])) (rmf := 7) (rml := 112) [.int x11] k0 cal_X6_leastWithout q_22_19 ⟨Nat.le_of_ble_eq_true rfl, Nat.le_of_ble_eq_true rfl⟩ rfl rfl (Nat.le_of_ble_eq_true rfl) rfl hk0.1 (ce6 hk0.1 _ _) (ctX6_leastWithout_n (kl K) G X.2.2.2.2.2.2.2.1 Nf h σ k0 hk0 x11) dL_isAhead_267 (fun _ => rfl) (fun r1 => ?_)
      refine z_iload X dL_isAhead_270 2 rfl ?_
      refine z_iconst (v := (1 : Int32)) X dL_isAhead_272 (by decide) ?_
      refine z_isub X dL_isAhead_273 ?_
      refine z_icmp_ne X 306 dL_isAhead_274 (by decide) ?_ ?_
      · exact z_sub [0, 1, 3, 4, 5] rfl (sL_isAhead_277 X Nf k0 hk0 h x3 x11 x12 x13 r1.2)
      · exact z_sub [0, 1, 3] rfl (sL_isAhead_306 X Nf k0 hk0 h x3 x11 r1.2)
  · exact z_sub [0, 1, 3] rfl (sL_isAhead_306 X Nf k0 hk0 h x3 x11 σ)
def fL_isAhead_243 (L : Nat → Nat) (Nf : Nat) (k0 : Nat) (x3 : Int64) (x5 : Int32) (x11 : Int32) (x12 : Int32) (x13 : Int32) (y0 : Int32) (σ : cS) : Option ((Int32 × cS) × Nat) := if x5 ≤ x13 then (fL_isAhead_255 L Nf k0 x3 x5 x11 x12 x13 y0 (0 : Int32) σ) else (fL_isAhead_255 L Nf k0 x3 x5 x11 x12 x13 y0 (1 : Int32) σ)
set_option maxHeartbeats 4000000 in
set_option maxRecDepth 100000 in
theorem sL_isAhead_243 {K : MCx} {G : Lay} (X : Cx K G RL cL_isAhead 14 (some .boolean) 9 160) (Nf : Nat) (k0 : Nat) (hk0 : isEH G k0) (h : Int64) (x3 : Int64) (x5 : Int32) (x11 : Int32) (x12 : Int32) (x13 : Int32) (y0 : Int32) (σ : cS) : Sm K G (PN K) (QN K G (fun r : (Int32 × cS) => ((some (.int r.1), h, r.2) : Option Value × Int64 × cS))) 14 243 [(0, .ref (la G k0)), (3, .long x3), (5, .int x5), (11, .int x11), (12, .int x12), (13, .int x13)] [.int y0] h σ (fL_isAhead_243 (ll G) Nf k0 x3 x5 x11 x12 x13 y0 σ) := by
  unfold fL_isAhead_243
  refine z_iload X dL_isAhead_243 5 rfl ?_
  refine z_iload X dL_isAhead_245 2 rfl ?_
  refine z_icmp_ge X 254 dL_isAhead_247 (by decide) ?_ ?_
  · refine z_iconst (v := (0 : Int32)) X dL_isAhead_254 (by decide) ?_
    exact z_sub [0, 1, 2, 3, 4, 5] rfl (sL_isAhead_255 X Nf k0 hk0 h x3 x5 x11 x12 x13 y0 (0 : Int32) σ)
  · refine z_iconst (v := (1 : Int32)) X dL_isAhead_250 (by decide) ?_
    refine z_goto X 255 dL_isAhead_251 (by decide) ?_
    exact z_sub [0, 1, 2, 3, 4, 5] rfl (sL_isAhead_255 X Nf k0 hk0 h x3 x5 x11 x12 x13 y0 (1 : Int32) σ)
def fL_isAhead_231 (L : Nat → Nat) (Nf : Nat) (k0 : Nat) (x3 : Int64) (x5 : Int32) (x11 : Int32) (x12 : Int32) (x13 : Int32) (σ : cS) : Option ((Int32 × cS) × Nat) := if x11 = x12 then (fL_isAhead_243 L Nf k0 x3 x5 x11 x12 x13 (1 : Int32) σ) else (fL_isAhead_243 L Nf k0 x3 x5 x11 x12 x13 (0 : Int32) σ)
set_option maxHeartbeats 4000000 in
set_option maxRecDepth 100000 in
theorem sL_isAhead_231 {K : MCx} {G : Lay} (X : Cx K G RL cL_isAhead 14 (some .boolean) 9 160) (Nf : Nat) (k0 : Nat) (hk0 : isEH G k0) (h : Int64) (x3 : Int64) (x5 : Int32) (x11 : Int32) (x12 : Int32) (x13 : Int32) (σ : cS) : Sm K G (PN K) (QN K G (fun r : (Int32 × cS) => ((some (.int r.1), h, r.2) : Option Value × Int64 × cS))) 14 231 [(0, .ref (la G k0)), (3, .long x3), (5, .int x5), (11, .int x11), (12, .int x12), (13, .int x13)] [] h σ (fL_isAhead_231 (ll G) Nf k0 x3 x5 x11 x12 x13 σ) := by
  unfold fL_isAhead_231
  refine z_iload X dL_isAhead_231 3 rfl ?_
  refine z_iload X dL_isAhead_233 4 rfl ?_
  refine z_icmp_ne X 242 dL_isAhead_235 (by decide) ?_ ?_
  · refine z_iconst (v := (1 : Int32)) X dL_isAhead_238 (by decide) ?_
    refine z_goto X 243 dL_isAhead_239 (by decide) ?_
    exact z_sub [0, 1, 2, 3, 4, 5] rfl (sL_isAhead_243 X Nf k0 hk0 h x3 x5 x11 x12 x13 (1 : Int32) σ)
  · refine z_iconst (v := (0 : Int32)) X dL_isAhead_242 (by decide) ?_
    exact z_sub [0, 1, 2, 3, 4, 5] rfl (sL_isAhead_243 X Nf k0 hk0 h x3 x5 x11 x12 x13 (0 : Int32) σ)
def fL_isAhead_179 (L : Nat → Nat) (Nf : Nat) (k0 : Nat) (x3 : Int64) (x5 : Int32) (y0 : Int32) (σ : cS) : Option ((Int32 × cS) × Nat) := Option.bind (fX6_critical L Nf σ k0) (fun r1 => if y0 = 0 then (fL_isAhead_309 L Nf k0 x3 y0 r1.1 r1.2) else (ibn (fX6_value L Nf r1.2 k0 (1 : Int32)) (fun r2 => if r2 ≤ 0 then (fL_isAhead_309 L Nf k0 x3 y0 r1.1 r1.2) else (ibn (fX6_edgeAt L r1.2 k0 (0 : Int32)) (fun r3 => ibn (fX6_leastWithout L Nf r1.2 k0 r3) (fun r4 => if r4.1 = x5 then (fL_isAhead_231 L Nf k0 x3 x5 r1.1 r3 r4.1 r4.2) else (if r4.1 = (x5 - (1 : Int32)) then (fL_isAhead_231 L Nf k0 x3 x5 r1.1 r3 r4.1 r4.2) else (fL_isAhead_306 L Nf k0 x3 r1.1 r4.2))))))))
set_option maxHeartbeats 4000000 in
set_option maxRecDepth 100000 in
theorem sL_isAhead_179 {K : MCx} {G : Lay} (X : Cx K G RL cL_isAhead 14 (some .boolean) 9 160) (Nf : Nat) (k0 : Nat) (hk0 : isEH G k0) (h : Int64) (x3 : Int64) (x5 : Int32) (y0 : Int32) (σ : cS) : Sm K G (PN K) (QN K G (fun r : (Int32 × cS) => ((some (.int r.1), h, r.2) : Option Value × Int64 × cS))) 14 179 [(0, .ref (la G k0)), (3, .long x3), (5, .int x5)] [.int y0] h σ (fL_isAhead_179 (ll G) Nf k0 x3 x5 y0 σ) := by
  unfold fL_isAhead_179
  refine z_istore X [(9, .int y0), (0, .ref (la G k0)), (3, .long x3), (5, .int x5)] dL_isAhead_179 (by decide) rfl ?_
  refine z_aload_n X dL_isAhead_181 1 rfl ?_
  refine z_callV0 X (g := (fun r1 : (Int32 × cS) => ((some (.int r1.1), h, r1.2) : Option Value × Int64 × cS))) (st := []) (st1 := (fun r1 : (Int32 × cS) => [.int r1.1])) (rmf := 4) (rml := 92) [] k0 cal_X6_critical q_10_2 ⟨Nat.le_of_ble_eq_true rfl, Nat.le_of_ble_eq_true rfl⟩ rfl rfl (Nat.le_of_ble_eq_true rfl) rfl hk0.1 (ce6 hk0.1 _ _) (ctX6_critical (kl K) G X.2.2.2.2.2.2.2.1 Nf h σ k0 hk0 ) dL_isAhead_182 (fun _ => rfl) (fun r1 => ?_)
  refine z_istore X [(11, .int r1.1), (9, .int y0), (0, .ref (la G k0)), (3, .long x3), (5, .int x5)] dL_isAhead_185 (by decide) rfl ?_
  refine z_iload X dL_isAhead_187 1 rfl ?_
  refine z_if_eq X 309 dL_isAhead_189 (by decide) ?_ ?_
  · exact z_sub [2, 3, 1, 0] rfl (sL_isAhead_309 X Nf k0 hk0 h x3 y0 r1.1 r1.2)
  · refine z_aload_n X dL_isAhead_192 2 rfl ?_
    refine z_iconst (v := (1 : Int32)) X dL_isAhead_193 (by decide) ?_
    refine z_callVN X (g := (fun r2 : Int32 => ((some (.int r2), h, r1.2) : Option Value × Int64 × cS))) (st := []) (st1 := (fun r2 : Int32 => [.int r2])) (rmf := 6) (rml := 90) [.int (1 : Int32)] k0 cal_X6_value q_6_2 ⟨Nat.le_of_ble_eq_true rfl, Nat.le_of_ble_eq_true rfl⟩ rfl rfl (Nat.le_of_ble_eq_true rfl) rfl hk0.1 (ce6 hk0.1 _ _) (ctX6_value_n (kl K) G X.2.2.2.2.2.2.2.1 Nf h r1.2 k0 hk0 (1 : Int32)) dL_isAhead_194 (fun _ => rfl) (fun r2 => ?_)
    refine z_if_le X 309 dL_isAhead_197 (by decide) ?_ ?_
    · exact z_sub [2, 3, 1, 0] rfl (sL_isAhead_309 X Nf k0 hk0 h x3 y0 r1.1 r1.2)
    · refine z_aload_n X dL_isAhead_200 2 rfl ?_
      refine z_iconst (v := (0 : Int32)) X dL_isAhead_201 (by decide) ?_
      refine z_callVN X (g := (fun r3 : Int32 => ((some (.int r3), h, r1.2) : Option Value × Int64 × cS))) (st := []) (st1 := (fun r3 : Int32 => [.int r3])) (rmf := 6) (rml := 90) [.int (0 : Int32)] k0 cal_X6_edgeAt q_17_22 ⟨Nat.le_of_ble_eq_true rfl, Nat.le_of_ble_eq_true rfl⟩ rfl rfl (Nat.le_of_ble_eq_true rfl) rfl hk0.1 (ce6 hk0.1 _ _) (ctX6_edgeAt_n (kl K) G X.2.2.2.2.2.2.2.1 h r1.2 k0 hk0 (0 : Int32)) dL_isAhead_202 (fun _ => rfl) (fun r3 => ?_)
      refine z_istore X [(12, .int r3), (11, .int r1.1), (9, .int y0), (0, .ref (la G k0)), (3, .long x3), (5, .int x5)] dL_isAhead_205 (by decide) rfl ?_
      refine z_aload_n X dL_isAhead_207 3 rfl ?_
      refine z_iload X dL_isAhead_208 0 rfl ?_
      refine z_callVN X (g := (fun r4 : (Int32 × cS) => ((some (.int r4.1), h, r4.2) : Option Value × Int64 × cS))) (st := []) (st1 := (fun r4 : (Int32 × cS) => [.int r4.1])) (rmf := 7) (rml := 112) [.int r3] k0 cal_X6_leastWithout q_22_19 ⟨Nat.le_of_ble_eq_true rfl, Nat.le_of_ble_eq_true rfl⟩ rfl rfl (Nat.le_of_ble_eq_true rfl) rfl hk0.1 (ce6 hk0.1 _ _) (ctX6_leastWithout_n (kl K) G X.2.2.2.2.2.2.2.1 Nf h r1.2 k0 hk0 r3) dL_isAhead_210 (fun _ => rfl) (fun r4 => ?_)
      refine z_istore X [(13, .int r4.1), (12, .int r3), (11, .int r1.1), (9, .int y0), (0, .ref (la G k0)), (3, .long x3), (5, .int x5)] dL_isAhead_213 (by decide) rfl ?_
      refine z_iload X dL_isAhead_215 0 rfl ?_
      refine z_iload X dL_isAhead_217 6 rfl ?_
      refine z_icmp_eq X 231 dL_isAhead_219 (by decide) ?_ ?_
      · exact z_sub [4, 5, 6, 2, 1, 0] rfl (sL_isAhead_231 X Nf k0 hk0 h x3 x5 r1.1 r3 r4.1 r4.2)
      · refine z_iload X dL_isAhead_222 0 rfl ?_
        refine z_iload X dL_isAhead_224 6 rfl ?_
        refine z_iconst (v := (1 : Int32)) X dL_isAhead_226 (by decide) ?_
        refine z_isub X dL_isAhead_227 ?_
        refine z_icmp_ne X 306 dL_isAhead_228 (by decide) ?_ ?_
        · exact z_sub [4, 5, 6, 2, 1, 0] rfl (sL_isAhead_231 X Nf k0 hk0 h x3 x5 r1.1 r3 r4.1 r4.2)
        · exact z_sub [4, 5, 2] rfl (sL_isAhead_306 X Nf k0 hk0 h x3 r1.1 r4.2)
def fL_isAhead_178 (L : Nat → Nat) (Nf : Nat) (k0 : Nat) (x3 : Int64) (x5 : Int32) (σ : cS) : Option ((Int32 × cS) × Nat) := fL_isAhead_179 L Nf k0 x3 x5 (0 : Int32) σ
set_option maxHeartbeats 4000000 in
set_option maxRecDepth 100000 in
theorem sL_isAhead_178 {K : MCx} {G : Lay} (X : Cx K G RL cL_isAhead 14 (some .boolean) 9 160) (Nf : Nat) (k0 : Nat) (hk0 : isEH G k0) (h : Int64) (x3 : Int64) (x5 : Int32) (σ : cS) : Sm K G (PN K) (QN K G (fun r : (Int32 × cS) => ((some (.int r.1), h, r.2) : Option Value × Int64 × cS))) 14 178 [(0, .ref (la G k0)), (3, .long x3), (5, .int x5)] [] h σ (fL_isAhead_178 (ll G) Nf k0 x3 x5 σ) := by
  unfold fL_isAhead_178
  refine z_iconst (v := (0 : Int32)) X dL_isAhead_178 (by decide) ?_
  exact z_sub [0, 1, 2] rfl (sL_isAhead_179 X Nf k0 hk0 h x3 x5 (0 : Int32) σ)
def fL_isAhead_103 (L : Nat → Nat) (Nf : Nat) (k0 : Nat) (x3 : Int64) (x5 : Int32) (x7 : Int32) (x8 : Int32) (σ : cS) : Option ((Int32 × cS) × Nat) := Option.bind (fL_print L Nf σ k0) (fun r1 => if (lg_cmp r1.1 x3) = 0 then (Option.bind (fX6_balance L Nf r1.2 k0) (fun r2 => if r2.1 < 0 then (fL_isAhead_178 L Nf k0 x3 x5 r2.2) else (ibn (fX6_value L Nf r2.2 k0 (2 : Int32)) (fun r3 => if r3 = x5 then (ibn (fX6_value L Nf r2.2 k0 (5 : Int32)) (fun r4 => if r4 = (x8 + x7) then (Option.bind (fX6_turnsToBalance L Nf r2.2 k0) (fun r5 => if r5.1 = 0 then (Option.bind (fX6_least L Nf r5.2 k0) (fun r6 => if r6.1 = x5 then (wbn (w1n (fL_undo L Nf r6.2 k0)) (fun r7 => if r7.1 < 0 then (fL_isAhead_178 L Nf k0 x3 x5 r7.2) else (Option.bind (fL_print L Nf r7.2 k0) (fun r8 => if (lg_cmp r8.1 x3) = 0 then (fL_isAhead_179 L Nf k0 x3 x5 (1 : Int32) r8.2) else (fL_isAhead_178 L Nf k0 x3 x5 r8.2))))) else (fL_isAhead_178 L Nf k0 x3 x5 r6.2))) else (fL_isAhead_178 L Nf k0 x3 x5 r5.2))) else (fL_isAhead_178 L Nf k0 x3 x5 r2.2))) else (fL_isAhead_178 L Nf k0 x3 x5 r2.2))))) else (fL_isAhead_178 L Nf k0 x3 x5 r1.2))
set_option maxHeartbeats 4000000 in
set_option maxRecDepth 100000 in
theorem sL_isAhead_103 {K : MCx} {G : Lay} (X : Cx K G RL cL_isAhead 14 (some .boolean) 9 160) (Nf : Nat) (k0 : Nat) (hk0 : isEH G k0) (h : Int64) (x3 : Int64) (x5 : Int32) (x7 : Int32) (x8 : Int32) (σ : cS) : Sm K G (PN K) (QN K G (fun r : (Int32 × cS) => ((some (.int r.1), h, r.2) : Option Value × Int64 × cS))) 14 103 [(0, .ref (la G k0)), (3, .long x3), (5, .int x5), (7, .int x7), (8, .int x8)] [] h σ (fL_isAhead_103 (ll G) Nf k0 x3 x5 x7 x8 σ) := by
  unfold fL_isAhead_103
  refine z_aload_n X dL_isAhead_103 0 rfl ?_
  refine z_callS0 X (g := (fun r1 : (Int64 × cS) => ((some (.long r1.1), h, r1.2) : Option Value × Int64 × cS))) (st := []) (st1 := (fun r1 : (Int64 × cS) => [.long r1.1])) (rmf := 8) (rml := 135) [.ref (la G k0)] cal_L_print q_16_22 ⟨Nat.le_of_ble_eq_true rfl, Nat.le_of_ble_eq_true rfl⟩ rfl rfl (Nat.le_of_ble_eq_true rfl) (ctL_print (kl K) G X.2.2.2.2.2.2.2.1 Nf h σ k0 hk0 ) dL_isAhead_104 (fun _ => rfl) (fun r1 => ?_)
  refine z_lload_n X dL_isAhead_107 1 rfl ?_
  refine z_lcmp X dL_isAhead_108 ?_
  refine z_if_ne X 178 dL_isAhead_109 (by decide) ?_ ?_
  · refine z_aload_n X dL_isAhead_112 0 rfl ?_
    refine z_callV0 X (g := (fun r2 : (Int32 × cS) => ((some (.int r2.1), h, r2.2) : Option Value × Int64 × cS))) (st := []) (st1 := (fun r2 : (Int32 × cS) => [.int r2.1])) (rmf := 5) (rml := 117) [] k0 cal_X6_balance q_23_20 ⟨Nat.le_of_ble_eq_true rfl, Nat.le_of_ble_eq_true rfl⟩ rfl rfl (Nat.le_of_ble_eq_true rfl) rfl hk0.1 (ce6 hk0.1 _ _) (ctX6_balance (kl K) G X.2.2.2.2.2.2.2.1 Nf h r1.2 k0 hk0 ) dL_isAhead_113 (fun _ => rfl) (fun r2 => ?_)
    refine z_if_lt X 178 dL_isAhead_116 (by decide) ?_ ?_
    · exact z_sub [0, 1, 2] rfl (sL_isAhead_178 X Nf k0 hk0 h x3 x5 r2.2)
    · refine z_aload_n X dL_isAhead_119 0 rfl ?_
      refine z_iconst (v := (2 : Int32)) X dL_isAhead_120 (by decide) ?_
      refine z_callVN X (g := (fun r3 : Int32 => ((some (.int r3), h, r2.2) : Option Value × Int64 × cS))) (st := []) (st1 := (fun r3 : Int32 => [.int r3])) (rmf := 6) (rml := 90) [.int (2 : Int32)] k0 cal_X6_value q_6_2 ⟨Nat.le_of_ble_eq_true rfl, Nat.le_of_ble_eq_true rfl⟩ rfl rfl (Nat.le_of_ble_eq_true rfl) rfl hk0.1 (ce6 hk0.1 _ _) (ctX6_value_n (kl K) G X.2.2.2.2.2.2.2.1 Nf h r2.2 k0 hk0 (2 : Int32)) dL_isAhead_121 (fun _ => rfl) (fun r3 => ?_)
      refine z_iload X dL_isAhead_124 2 rfl ?_
      refine z_icmp_ne X 178 dL_isAhead_126 (by decide) ?_ ?_
      · refine z_aload_n X dL_isAhead_129 0 rfl ?_
        refine z_iconst (v := (5 : Int32)) X dL_isAhead_130 (by decide) ?_
        refine z_callVN X (g := (fun r4 : Int32 => ((some (.int r4), h, r2.2) : Option Value × Int64 × cS))) (st := []) (st1 := (fun r4 : Int32 => [.int r4])) (rmf := 6) (rml := 90) [.int (5 : Int32)] k0 cal_X6_value q_6_2 ⟨Nat.le_of_ble_eq_true rfl, Nat.le_of_ble_eq_true rfl⟩ rfl rfl (Nat.le_of_ble_eq_true rfl) rfl hk0.1 (ce6 hk0.1 _ _) (ctX6_value_n (kl K) G X.2.2.2.2.2.2.2.1 Nf h r2.2 k0 hk0 (5 : Int32)) dL_isAhead_131 (fun _ => rfl) (fun r4 => ?_)
        refine z_iload X dL_isAhead_134 4 rfl ?_
        refine z_iload X dL_isAhead_136 3 rfl ?_
        refine z_iadd X dL_isAhead_138 ?_
        refine z_icmp_ne X 178 dL_isAhead_139 (by decide) ?_ ?_
        · refine z_aload_n X dL_isAhead_142 0 rfl ?_
          refine z_callV0 X (g := (fun r5 : (Int32 × cS) => ((some (.int r5.1), h, r5.2) : Option Value × Int64 × cS))) (st := []) (st1 := (fun r5 : (Int32 × cS) => [.int r5.1])) (rmf := 5) (rml := 117) [] k0 cal_X6_turnsToBalance q_25_1 ⟨Nat.le_of_ble_eq_true rfl, Nat.le_of_ble_eq_true rfl⟩ rfl rfl (Nat.le_of_ble_eq_true rfl) rfl hk0.1 (ce6 hk0.1 _ _) (ctX6_turnsToBalance (kl K) G X.2.2.2.2.2.2.2.1 Nf h r2.2 k0 hk0 ) dL_isAhead_143 (fun _ => rfl) (fun r5 => ?_)
          refine z_if_ne X 178 dL_isAhead_146 (by decide) ?_ ?_
          · refine z_aload_n X dL_isAhead_149 0 rfl ?_
            refine z_callV0 X (g := (fun r6 : (Int32 × cS) => ((some (.int r6.1), h, r6.2) : Option Value × Int64 × cS))) (st := []) (st1 := (fun r6 : (Int32 × cS) => [.int r6.1])) (rmf := 4) (rml := 92) [] k0 cal_X6_least q_9_9 ⟨Nat.le_of_ble_eq_true rfl, Nat.le_of_ble_eq_true rfl⟩ rfl rfl (Nat.le_of_ble_eq_true rfl) rfl hk0.1 (ce6 hk0.1 _ _) (ctX6_least (kl K) G X.2.2.2.2.2.2.2.1 Nf h r5.2 k0 hk0 ) dL_isAhead_150 (fun _ => rfl) (fun r6 => ?_)
            refine z_iload X dL_isAhead_153 2 rfl ?_
            refine z_icmp_ne X 178 dL_isAhead_155 (by decide) ?_ ?_
            · refine z_aload_n X dL_isAhead_158 0 rfl ?_
              refine z_callW (P := fun K => PN K) (Q := fun K => QN K G (fun r : (Int32 × cS) => ((some (.int r.1), h, r.2) : Option Value × Int64 × cS))) (pq_N G (fun r : (Int32 × cS) => ((some (.int r.1), h, r.2) : Option Value × Int64 × cS))) X (n := 1) (fr := 7) (lo := 110) (st := []) [.ref (la G k0)] (fun hfl => hL_undo (kl K) hfl G X.2.2.2.2.2.2.2.1 Nf h r6.2 k0 hk0 ) q_4_23 q_4_21 q_4_22 q_4_20 (by decide +kernel) ⟨Nat.le_of_ble_eq_true rfl, Nat.le_of_ble_eq_true rfl⟩ rfl rfl (Nat.le_of_ble_eq_true rfl) dL_isAhead_159 (fun r7 X => ?_)
              refine z_if_lt X 178 dL_isAhead_162 (by decide) ?_ ?_
              · exact z_sub [0, 1, 2] rfl (sL_isAhead_178 X Nf k0 hk0 h x3 x5 r7.2)
              · refine z_aload_n X dL_isAhead_165 0 rfl ?_
                refine z_callS0 X (g := (fun r8 : (Int64 × cS) => ((some (.long r8.1), h, r8.2) : Option Value × Int64 × cS))) (st := []) (st1 := (fun r8 : (Int64 × cS) => [.long r8.1])) (rmf := 8) (rml := 135) [.ref (la G k0)] cal_L_print q_16_22 ⟨Nat.le_of_ble_eq_true rfl, Nat.le_of_ble_eq_true rfl⟩ rfl rfl (Nat.le_of_ble_eq_true rfl) (ctL_print (kl K) G X.2.2.2.2.2.2.2.1 Nf h r7.2 k0 hk0 ) dL_isAhead_166 (fun _ => rfl) (fun r8 => ?_)
                refine z_lload_n X dL_isAhead_169 1 rfl ?_
                refine z_lcmp X dL_isAhead_170 ?_
                refine z_if_ne X 178 dL_isAhead_171 (by decide) ?_ ?_
                · refine z_iconst (v := (1 : Int32)) X dL_isAhead_174 (by decide) ?_
                  refine z_goto X 179 dL_isAhead_175 (by decide) ?_
                  exact z_sub [0, 1, 2] rfl (sL_isAhead_179 X Nf k0 hk0 h x3 x5 (1 : Int32) r8.2)
                · exact z_sub [0, 1, 2] rfl (sL_isAhead_178 X Nf k0 hk0 h x3 x5 r8.2)
            · exact z_sub [0, 1, 2] rfl (sL_isAhead_178 X Nf k0 hk0 h x3 x5 r6.2)
          · exact z_sub [0, 1, 2] rfl (sL_isAhead_178 X Nf k0 hk0 h x3 x5 r5.2)
        · exact z_sub [0, 1, 2] rfl (sL_isAhead_178 X Nf k0 hk0 h x3 x5 r2.2)
      · exact z_sub [0, 1, 2] rfl (sL_isAhead_178 X Nf k0 hk0 h x3 x5 r2.2)
  · exact z_sub [0, 1, 2] rfl (sL_isAhead_178 X Nf k0 hk0 h x3 x5 r1.2)
def fL_isAhead_53 (L : Nat → Nat) (Nf : Nat) (k0 : Nat) (x1 : Int32) (x2 : Int32) (x3 : Int64) (x5 : Int32) (x6 : Int32) (x7 : Int32) (x8 : Int32) (y0 : Int32) (σ : cS) : Option ((Int32 × cS) × Nat) := wbn (w1n (fL_add L Nf σ k0 x1 x2)) (fun r1 => if y0 = 0 then (fL_isAhead_178 L Nf k0 x3 x5 r1.2) else (if r1.1 = (-2052 : Int32) then (fL_isAhead_103 L Nf k0 x3 x5 x7 x8 r1.2) else (Option.bind (fX6_least L Nf r1.2 k0) (fun r2 => if r2.1 = x6 then (ibn (fX6_leastWithout L Nf r2.2 k0 r1.1) (fun r3 => if r3.1 = x5 then (wbn (w1n (fL_undo L Nf r3.2 k0)) (fun r4 => if r4.1 < 0 then (fL_isAhead_178 L Nf k0 x3 x5 r4.2) else (fL_isAhead_103 L Nf k0 x3 x5 x7 x8 r4.2))) else (fL_isAhead_178 L Nf k0 x3 x5 r3.2))) else (fL_isAhead_178 L Nf k0 x3 x5 r2.2)))))
set_option maxHeartbeats 4000000 in
set_option maxRecDepth 100000 in
theorem sL_isAhead_53 {K : MCx} {G : Lay} (X : Cx K G RL cL_isAhead 14 (some .boolean) 9 160) (Nf : Nat) (k0 : Nat) (hk0 : isEH G k0) (h : Int64) (x1 : Int32) (x2 : Int32) (x3 : Int64) (x5 : Int32) (x6 : Int32) (x7 : Int32) (x8 : Int32) (y0 : Int32) (σ : cS) : Sm K G (PN K) (QN K G (fun r : (Int32 × cS) => ((some (.int r.1), h, r.2) : Option Value × Int64 × cS))) 14 53 [(0, .ref (la G k0)), (1, .int x1), (2, .int x2), (3, .long x3), (5, .int x5), (6, .int x6), (7, .int x7), (8, .int x8)] [.int y0] h σ (fL_isAhead_53 (ll G) Nf k0 x1 x2 x3 x5 x6 x7 x8 y0 σ) := by
  unfold fL_isAhead_53
  refine z_istore X [(9, .int y0), (0, .ref (la G k0)), (1, .int x1), (2, .int x2), (3, .long x3), (5, .int x5), (6, .int x6), (7, .int x7), (8, .int x8)] dL_isAhead_53 (by decide) rfl ?_
  refine z_aload_n X dL_isAhead_55 1 rfl ?_
  refine z_iload_n X dL_isAhead_56 2 rfl ?_
  refine z_iload_n X dL_isAhead_57 3 rfl ?_
  refine z_callW (P := fun K => PN K) (Q := fun K => QN K G (fun r : (Int32 × cS) => ((some (.int r.1), h, r.2) : Option Value × Int64 × cS))) (pq_N G (fun r : (Int32 × cS) => ((some (.int r.1), h, r.2) : Option Value × Int64 × cS))) X (n := 3) (fr := 8) (lo := 133) (st := []) [.ref (la G k0), .int x1, .int x2] (fun hfl => hL_add (kl K) hfl G X.2.2.2.2.2.2.2.1 Nf h σ k0 hk0 x1 x2) q_18_23 q_18_22 q_4_22 q_18_21 (by decide +kernel) ⟨Nat.le_of_ble_eq_true rfl, Nat.le_of_ble_eq_true rfl⟩ rfl rfl (Nat.le_of_ble_eq_true rfl) dL_isAhead_58 (fun r1 X => ?_)
  refine z_istore X [(10, .int r1.1), (9, .int y0), (0, .ref (la G k0)), (1, .int x1), (2, .int x2), (3, .long x3), (5, .int x5), (6, .int x6), (7, .int x7), (8, .int x8)] dL_isAhead_61 (by decide) rfl ?_
  refine z_iload X dL_isAhead_63 1 rfl ?_
  refine z_if_eq X 178 dL_isAhead_65 (by decide) ?_ ?_
  · exact z_sub [2, 5, 6] rfl (sL_isAhead_178 X Nf k0 hk0 h x3 x5 r1.2)
  · refine z_iload X dL_isAhead_68 0 rfl ?_
    refine z_sipush (v := (-2052 : Int32)) X dL_isAhead_70 (by decide) ?_
    refine z_icmp_eq X 103 dL_isAhead_73 (by decide) ?_ ?_
    · exact z_sub [2, 5, 6, 8, 9] rfl (sL_isAhead_103 X Nf k0 hk0 h x3 x5 x7 x8 r1.2)
    · refine z_aload_n X dL_isAhead_76 2 rfl ?_
      refine z_callV0 X (g := (fun r2 : (Int32 × cS) => ((some (.int r2.1), h, r2.2) : Option Value × Int64 × cS))) (st := []) (st1 := (fun r2 : (Int32 × cS) => [.int r2.1])) (rmf := 4) (rml := 92) [] k0 cal_X6_least q_9_9 ⟨Nat.le_of_ble_eq_true rfl, Nat.le_of_ble_eq_true rfl⟩ rfl rfl (Nat.le_of_ble_eq_true rfl) rfl hk0.1 (ce6 hk0.1 _ _) (ctX6_least (kl K) G X.2.2.2.2.2.2.2.1 Nf h r1.2 k0 hk0 ) dL_isAhead_77 (fun _ => rfl) (fun r2 => ?_)
      refine z_iload X dL_isAhead_80 7 rfl ?_
      refine z_icmp_ne X 178 dL_isAhead_82 (by decide) ?_ ?_
      · refine z_aload_n X dL_isAhead_85 2 rfl ?_
        refine z_iload X dL_isAhead_86 0 rfl ?_
        refine z_callVN X (g := (fun r3 : (Int32 × cS) => ((some (.int r3.1), h, r3.2) : Option Value × Int64 × cS))) (st := []) (st1 := (fun r3 : (Int32 × cS) => [.int r3.1])) (rmf := 7) (rml := 112) [.int r1.1] k0 cal_X6_leastWithout q_22_19 ⟨Nat.le_of_ble_eq_true rfl, Nat.le_of_ble_eq_true rfl⟩ rfl rfl (Nat.le_of_ble_eq_true rfl) rfl hk0.1 (ce6 hk0.1 _ _) (ctX6_leastWithout_n (kl K) G X.2.2.2.2.2.2.2.1 Nf h r2.2 k0 hk0 r1.1) dL_isAhead_88 (fun _ => rfl) (fun r3 => ?_)
        refine z_iload X dL_isAhead_91 6 rfl ?_
        refine z_icmp_ne X 178 dL_isAhead_93 (by decide) ?_ ?_
        · refine z_aload_n X dL_isAhead_96 2 rfl ?_
          refine z_callW (P := fun K => PN K) (Q := fun K => QN K G (fun r : (Int32 × cS) => ((some (.int r.1), h, r.2) : Option Value × Int64 × cS))) (pq_N G (fun r : (Int32 × cS) => ((some (.int r.1), h, r.2) : Option Value × Int64 × cS))) X (n := 1) (fr := 7) (lo := 110) (st := []) [.ref (la G k0)] (fun hfl => hL_undo (kl K) hfl G X.2.2.2.2.2.2.2.1 Nf h r3.2 k0 hk0 ) q_4_23 q_4_21 q_4_22 q_4_20 (by decide +kernel) ⟨Nat.le_of_ble_eq_true rfl, Nat.le_of_ble_eq_true rfl⟩ rfl rfl (Nat.le_of_ble_eq_true rfl) dL_isAhead_97 (fun r4 X => ?_)
          refine z_if_lt X 178 dL_isAhead_100 (by decide) ?_ ?_
          · exact z_sub [2, 5, 6] rfl (sL_isAhead_178 X Nf k0 hk0 h x3 x5 r4.2)
          · exact z_sub [2, 5, 6, 8, 9] rfl (sL_isAhead_103 X Nf k0 hk0 h x3 x5 x7 x8 r4.2)
        · exact z_sub [2, 5, 6] rfl (sL_isAhead_178 X Nf k0 hk0 h x3 x5 r3.2)
      · exact z_sub [2, 5, 6] rfl (sL_isAhead_178 X Nf k0 hk0 h x3 x5 r2.2)
def fL_isAhead_52 (L : Nat → Nat) (Nf : Nat) (k0 : Nat) (x1 : Int32) (x2 : Int32) (x3 : Int64) (x5 : Int32) (x6 : Int32) (x7 : Int32) (x8 : Int32) (σ : cS) : Option ((Int32 × cS) × Nat) := fL_isAhead_53 L Nf k0 x1 x2 x3 x5 x6 x7 x8 (0 : Int32) σ
set_option maxHeartbeats 4000000 in
set_option maxRecDepth 100000 in
theorem sL_isAhead_52 {K : MCx} {G : Lay} (X : Cx K G RL cL_isAhead 14 (some .boolean) 9 160) (Nf : Nat) (k0 : Nat) (hk0 : isEH G k0) (h : Int64) (x1 : Int32) (x2 : Int32) (x3 : Int64) (x5 : Int32) (x6 : Int32) (x7 : Int32) (x8 : Int32) (σ : cS) : Sm K G (PN K) (QN K G (fun r : (Int32 × cS) => ((some (.int r.1), h, r.2) : Option Value × Int64 × cS))) 14 52 [(0, .ref (la G k0)), (1, .int x1), (2, .int x2), (3, .long x3), (5, .int x5), (6, .int x6), (7, .int x7), (8, .int x8)] [] h σ (fL_isAhead_52 (ll G) Nf k0 x1 x2 x3 x5 x6 x7 x8 σ) := by
  unfold fL_isAhead_52
  refine z_iconst (v := (0 : Int32)) X dL_isAhead_52 (by decide) ?_
  exact z_sub [0, 1, 2, 3, 4, 5, 6, 7] rfl (sL_isAhead_53 X Nf k0 hk0 h x1 x2 x3 x5 x6 x7 x8 (0 : Int32) σ)
def fL_isAhead_0 (L : Nat → Nat) (Nf : Nat) (k0 : Nat) (x1 : Int32) (x2 : Int32) (σ : cS) : Option ((Int32 × cS) × Nat) := Option.bind (fL_print L Nf σ k0) (fun r1 => Option.bind (fX6_least L Nf r1.2 k0) (fun r2 => ibn (fX6_leastWith L Nf r2.2 k0 x1 x2) (fun r3 => Option.bind (fX6_turnsToBalance L Nf r3.2 k0) (fun r4 => ibn (fX6_value L Nf r4.2 k0 (5 : Int32)) (fun r5 => if r3.1 < r2.1 then (fL_isAhead_52 L Nf k0 x1 x2 r1.1 r2.1 r3.1 r4.1 r5 r4.2) else (if (r2.1 + (1 : Int32)) < r3.1 then (fL_isAhead_52 L Nf k0 x1 x2 r1.1 r2.1 r3.1 r4.1 r5 r4.2) else (fL_isAhead_53 L Nf k0 x1 x2 r1.1 r2.1 r3.1 r4.1 r5 (1 : Int32) r4.2)))))))
set_option maxHeartbeats 4000000 in
set_option maxRecDepth 100000 in
theorem sL_isAhead_0 {K : MCx} {G : Lay} (X : Cx K G RL cL_isAhead 14 (some .boolean) 9 160) (Nf : Nat) (k0 : Nat) (hk0 : isEH G k0) (h : Int64) (x1 : Int32) (x2 : Int32) (σ : cS) : Sm K G (PN K) (QN K G (fun r : (Int32 × cS) => ((some (.int r.1), h, r.2) : Option Value × Int64 × cS))) 14 0 [(0, .ref (la G k0)), (1, .int x1), (2, .int x2)] [] h σ (fL_isAhead_0 (ll G) Nf k0 x1 x2 σ) := by
  unfold fL_isAhead_0
  refine z_aload_n X dL_isAhead_0 0 rfl ?_
  refine z_callS0 X (g := (fun r1 : (Int64 × cS) => ((some (.long r1.1), h, r1.2) : Option Value × Int64 × cS))) (st := []) (st1 := (fun r1 : (Int64 × cS) => [.long r1.1])) (rmf := 8) (rml := 135) [.ref (la G k0)] cal_L_print q_16_22 ⟨Nat.le_of_ble_eq_true rfl, Nat.le_of_ble_eq_true rfl⟩ rfl rfl (Nat.le_of_ble_eq_true rfl) (ctL_print (kl K) G X.2.2.2.2.2.2.2.1 Nf h σ k0 hk0 ) dL_isAhead_1 (fun _ => rfl) (fun r1 => ?_)
  refine z_lstore_n X [(3, .long r1.1), (0, .ref (la G k0)), (1, .int x1), (2, .int x2)] dL_isAhead_4 (by decide) rfl ?_
  refine z_aload_n X dL_isAhead_5 1 rfl ?_
  refine z_callV0 X (g := (fun r2 : (Int32 × cS) => ((some (.int r2.1), h, r2.2) : Option Value × Int64 × cS))) (st := []) (st1 := (fun r2 : (Int32 × cS) => [.int r2.1])) (rmf := 4) (rml := 92) [] k0 cal_X6_least q_9_9 ⟨Nat.le_of_ble_eq_true rfl, Nat.le_of_ble_eq_true rfl⟩ rfl rfl (Nat.le_of_ble_eq_true rfl) rfl hk0.1 (ce6 hk0.1 _ _) (ctX6_least (kl K) G X.2.2.2.2.2.2.2.1 Nf h r1.2 k0 hk0 ) dL_isAhead_6 (fun _ => rfl) (fun r2 => ?_)
  refine z_istore X [(5, .int r2.1), (3, .long r1.1), (0, .ref (la G k0)), (1, .int x1), (2, .int x2)] dL_isAhead_9 (by decide) rfl ?_
  refine z_aload_n X dL_isAhead_11 2 rfl ?_
  refine z_iload_n X dL_isAhead_12 3 rfl ?_
  refine z_iload_n X dL_isAhead_13 4 rfl ?_
  refine z_callVN X (g := (fun r3 : (Int32 × cS) => ((some (.int r3.1), h, r3.2) : Option Value × Int64 × cS))) (st := []) (st1 := (fun r3 : (Int32 × cS) => [.int r3.1])) (rmf := 7) (rml := 111) [.int x1, .int x2] k0 cal_X6_leastWith q_22_8 ⟨Nat.le_of_ble_eq_true rfl, Nat.le_of_ble_eq_true rfl⟩ rfl rfl (Nat.le_of_ble_eq_true rfl) rfl hk0.1 (ce6 hk0.1 _ _) (ctX6_leastWith_n (kl K) G X.2.2.2.2.2.2.2.1 Nf h r2.2 k0 hk0 x1 x2) dL_isAhead_14 (fun _ => rfl) (fun r3 => ?_)
  refine z_istore X [(6, .int r3.1), (5, .int r2.1), (3, .long r1.1), (0, .ref (la G k0)), (1, .int x1), (2, .int x2)] dL_isAhead_17 (by decide) rfl ?_
  refine z_aload_n X dL_isAhead_19 3 rfl ?_
  refine z_callV0 X (g := (fun r4 : (Int32 × cS) => ((some (.int r4.1), h, r4.2) : Option Value × Int64 × cS))) (st := []) (st1 := (fun r4 : (Int32 × cS) => [.int r4.1])) (rmf := 5) (rml := 117) [] k0 cal_X6_turnsToBalance q_25_1 ⟨Nat.le_of_ble_eq_true rfl, Nat.le_of_ble_eq_true rfl⟩ rfl rfl (Nat.le_of_ble_eq_true rfl) rfl hk0.1 (ce6 hk0.1 _ _) (ctX6_turnsToBalance (kl K) G X.2.2.2.2.2.2.2.1 Nf h r3.2 k0 hk0 ) dL_isAhead_20 (fun _ => rfl) (fun r4 => ?_)
  refine z_istore X [(7, .int r4.1), (6, .int r3.1), (5, .int r2.1), (3, .long r1.1), (0, .ref (la G k0)), (1, .int x1), (2, .int x2)] dL_isAhead_23 (by decide) rfl ?_
  refine z_aload_n X dL_isAhead_25 4 rfl ?_
  refine z_iconst (v := (5 : Int32)) X dL_isAhead_26 (by decide) ?_
  refine z_callVN X (g := (fun r5 : Int32 => ((some (.int r5), h, r4.2) : Option Value × Int64 × cS))) (st := []) (st1 := (fun r5 : Int32 => [.int r5])) (rmf := 6) (rml := 90) [.int (5 : Int32)] k0 cal_X6_value q_6_2 ⟨Nat.le_of_ble_eq_true rfl, Nat.le_of_ble_eq_true rfl⟩ rfl rfl (Nat.le_of_ble_eq_true rfl) rfl hk0.1 (ce6 hk0.1 _ _) (ctX6_value_n (kl K) G X.2.2.2.2.2.2.2.1 Nf h r4.2 k0 hk0 (5 : Int32)) dL_isAhead_27 (fun _ => rfl) (fun r5 => ?_)
  refine z_istore X [(8, .int r5), (7, .int r4.1), (6, .int r3.1), (5, .int r2.1), (3, .long r1.1), (0, .ref (la G k0)), (1, .int x1), (2, .int x2)] dL_isAhead_30 (by decide) rfl ?_
  refine z_iload X dL_isAhead_32 2 rfl ?_
  refine z_iload X dL_isAhead_34 3 rfl ?_
  refine z_icmp_lt X 52 dL_isAhead_36 (by decide) ?_ ?_
  · exact z_sub [5, 6, 7, 4, 3, 2, 1, 0] rfl (sL_isAhead_52 X Nf k0 hk0 h x1 x2 r1.1 r2.1 r3.1 r4.1 r5 r4.2)
  · refine z_iload X dL_isAhead_39 2 rfl ?_
    refine z_iload X dL_isAhead_41 3 rfl ?_
    refine z_iconst (v := (1 : Int32)) X dL_isAhead_43 (by decide) ?_
    refine z_iadd X dL_isAhead_44 ?_
    refine z_icmp_gt X 52 dL_isAhead_45 (by decide) ?_ ?_
    · exact z_sub [5, 6, 7, 4, 3, 2, 1, 0] rfl (sL_isAhead_52 X Nf k0 hk0 h x1 x2 r1.1 r2.1 r3.1 r4.1 r5 r4.2)
    · refine z_iconst (v := (1 : Int32)) X dL_isAhead_48 (by decide) ?_
      refine z_goto X 53 dL_isAhead_49 (by decide) ?_
      exact z_sub [5, 6, 7, 4, 3, 2, 1, 0] rfl (sL_isAhead_53 X Nf k0 hk0 h x1 x2 r1.1 r2.1 r3.1 r4.1 r5 (1 : Int32) r4.2)
def fL_isAhead (L : Nat → Nat) (Nf : Nat) (σ : cS) (k0 : Nat) (x1 : Int32) (x2 : Int32) : Option ((Int32 × cS) × Nat) := fL_isAhead_0 L Nf k0 x1 x2 σ
set_option maxHeartbeats 4000000 in
set_option maxRecDepth 100000 in
theorem ctL_isAhead (l : Launch) (hfl : l.stackTraces = false) (G : Lay) (hi : Inj G) (Nf : Nat) (h : Int64) (σ : cS) (k0 : Nat) (hk0 : isEH G k0) (x1 : Int32) (x2 : Int32) : ∀ r, fL_isAhead (ll G) Nf σ k0 x1 x2 = some r → CN l yL_isAhead cL_isAhead 14 (some .boolean) 9 160 r.2 G [.ref (la G k0), .int x1, .int x2] h σ ((fun r : (Int32 × cS) => ((some (.int r.1), h, r.2) : Option Value × Int64 × cS)) r.1) := by
  refine cn_of (g := (fun r : (Int32 × cS) => ((some (.int r.1), h, r.2) : Option Value × Int64 × cS))) (by decide) hi hfl (Nat.le_of_ble_eq_true rfl) (fun K hKl X => ?_)
  unfold fL_isAhead
  exact z_sub [0, 1, 2] rfl (sL_isAhead_0 X Nf k0 hk0 h x1 x2 σ)
