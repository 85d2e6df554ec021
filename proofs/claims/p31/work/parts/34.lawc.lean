theorem q_4_22 : Cond.initialized RL ∈ wsL_law := seg_4 _ (List.mem_of_getElem? (i := 22) rfl)
theorem q_16_22 : Cond.methodLink RL 78 yL_print ∈ wsL_law := seg_16 _ (List.mem_of_getElem? (i := 22) rfl)
theorem q_16_23 : Cond.static yL_print ∈ wsL_law := seg_16 _ (List.mem_of_getElem? (i := 23) rfl)
theorem q_17_0 : Cond.code yL_print cL_print 6 (some .long) ∈ wsL_law := seg_17 _ (List.mem_of_getElem? (i := 0) rfl)
theorem q_18_12 : Cond.methodLink RL 84 yL_begin ∈ wsL_law := seg_18 _ (List.mem_of_getElem? (i := 12) rfl)
theorem q_18_13 : Cond.static yL_begin ∈ wsL_law := seg_18 _ (List.mem_of_getElem? (i := 13) rfl)
theorem q_18_14 : Cond.codeWith yL_begin cL_begin 4 (some .int) [(0, 6, 9, 15)] ∈ wsL_law := seg_18 _ (List.mem_of_getElem? (i := 14) rfl)
theorem q_18_21 : Cond.methodLink RL 87 yL_add ∈ wsL_law := seg_18 _ (List.mem_of_getElem? (i := 21) rfl)
theorem q_18_22 : Cond.static yL_add ∈ wsL_law := seg_18 _ (List.mem_of_getElem? (i := 22) rfl)
theorem q_18_23 : Cond.codeWith yL_add cL_add 5 (some .int) [(0, 7, 10, 21), (0, 7, 16, 15), (0, 7, 22, 23)] ∈ wsL_law := seg_18 _ (List.mem_of_getElem? (i := 23) rfl)
theorem q_19_8 : Cond.methodLink RL 90 yL_remove ∈ wsL_law := seg_19 _ (List.mem_of_getElem? (i := 8) rfl)
theorem q_19_9 : Cond.static yL_remove ∈ wsL_law := seg_19 _ (List.mem_of_getElem? (i := 9) rfl)
theorem q_19_10 : Cond.codeWith yL_remove cL_remove 4 (some .int) [(0, 6, 9, 28)] ∈ wsL_law := seg_19 _ (List.mem_of_getElem? (i := 10) rfl)
theorem q_19_16 : Cond.methodLink RL 92 yL_turn ∈ wsL_law := seg_19 _ (List.mem_of_getElem? (i := 16) rfl)
theorem q_19_17 : Cond.static yL_turn ∈ wsL_law := seg_19 _ (List.mem_of_getElem? (i := 17) rfl)
theorem q_19_18 : Cond.codeWith yL_turn cL_turn 4 (some .int) [(0, 6, 9, 28)] ∈ wsL_law := seg_19 _ (List.mem_of_getElem? (i := 18) rfl)
theorem q_19_23 : Cond.methodLink RL 94 yL_relieve ∈ wsL_law := seg_19 _ (List.mem_of_getElem? (i := 23) rfl)
theorem q_20_0 : Cond.static yL_relieve ∈ wsL_law := seg_20 _ (List.mem_of_getElem? (i := 0) rfl)
theorem q_20_1 : Cond.codeWith yL_relieve cL_relieve 4 (some .int) [(0, 6, 9, 21), (0, 6, 14, 23)] ∈ wsL_law := seg_20 _ (List.mem_of_getElem? (i := 1) rfl)
theorem q_20_8 : Cond.methodLink RL 96 yL_setCapacity ∈ wsL_law := seg_20 _ (List.mem_of_getElem? (i := 8) rfl)
theorem q_20_9 : Cond.static yL_setCapacity ∈ wsL_law := seg_20 _ (List.mem_of_getElem? (i := 9) rfl)
theorem q_20_10 : Cond.codeWith yL_setCapacity cL_setCapacity 5 (some .int) [(0, 7, 10, 21), (0, 7, 16, 15)] ∈ wsL_law := seg_20 _ (List.mem_of_getElem? (i := 10) rfl)
theorem q_20_15 : Cond.methodLink RL 98 yL_node ∈ wsL_law := seg_20 _ (List.mem_of_getElem? (i := 15) rfl)
theorem q_20_16 : Cond.static yL_node ∈ wsL_law := seg_20 _ (List.mem_of_getElem? (i := 16) rfl)
theorem q_20_17 : Cond.codeWith yL_node cL_node 5 (some .int) [(0, 7, 10, 21), (0, 7, 16, 15)] ∈ wsL_law := seg_20 _ (List.mem_of_getElem? (i := 17) rfl)
theorem q_20_18 : Cond.methodLink RL 100 yL_edge ∈ wsL_law := seg_20 _ (List.mem_of_getElem? (i := 18) rfl)
theorem q_20_19 : Cond.static yL_edge ∈ wsL_law := seg_20 _ (List.mem_of_getElem? (i := 19) rfl)
theorem q_20_20 : Cond.codeWith yL_edge cL_edge 5 (some .int) [(0, 7, 10, 28), (0, 7, 16, 15)] ∈ wsL_law := seg_20 _ (List.mem_of_getElem? (i := 20) rfl)
theorem q_20_21 : Cond.methodLink RL 102 yL_edgeAt ∈ wsL_law := seg_20 _ (List.mem_of_getElem? (i := 21) rfl)
theorem q_20_22 : Cond.static yL_edgeAt ∈ wsL_law := seg_20 _ (List.mem_of_getElem? (i := 22) rfl)
theorem q_20_23 : Cond.codeWith yL_edgeAt cL_edgeAt 4 (some .int) [(0, 6, 9, 21)] ∈ wsL_law := seg_20 _ (List.mem_of_getElem? (i := 23) rfl)
theorem q_21_0 : Cond.methodLink RL 104 yL_value ∈ wsL_law := seg_21 _ (List.mem_of_getElem? (i := 0) rfl)
theorem q_21_1 : Cond.static yL_value ∈ wsL_law := seg_21 _ (List.mem_of_getElem? (i := 1) rfl)
theorem q_21_2 : Cond.codeWith yL_value cL_value 4 (some .int) [(0, 6, 9, 15)] ∈ wsL_law := seg_21 _ (List.mem_of_getElem? (i := 2) rfl)
theorem q_21_3 : Cond.methodLink RL 106 yL_path ∈ wsL_law := seg_21 _ (List.mem_of_getElem? (i := 3) rfl)
theorem q_21_4 : Cond.static yL_path ∈ wsL_law := seg_21 _ (List.mem_of_getElem? (i := 4) rfl)
theorem q_21_5 : Cond.codeWith yL_path cL_path 5 (some .int) [(0, 7, 10, 21)] ∈ wsL_law := seg_21 _ (List.mem_of_getElem? (i := 5) rfl)
theorem q_21_11 : Cond.methodLink RL 108 yL_step ∈ wsL_law := seg_21 _ (List.mem_of_getElem? (i := 11) rfl)
theorem q_21_12 : Cond.static yL_step ∈ wsL_law := seg_21 _ (List.mem_of_getElem? (i := 12) rfl)
theorem q_21_13 : Cond.codeWith yL_step cL_step 6 (some .int) [(0, 9, 12, 21)] ∈ wsL_law := seg_21 _ (List.mem_of_getElem? (i := 13) rfl)
theorem q_21_22 : Cond.methodLink RL 111 yL_inner ∈ wsL_law := seg_21 _ (List.mem_of_getElem? (i := 22) rfl)
theorem q_21_23 : Cond.static yL_inner ∈ wsL_law := seg_21 _ (List.mem_of_getElem? (i := 23) rfl)
theorem q_22_0 : Cond.codeWith yL_inner cL_inner 4 (some .int) [(0, 6, 9, 15)] ∈ wsL_law := seg_22 _ (List.mem_of_getElem? (i := 0) rfl)
theorem q_22_5 : Cond.methodLink RL 113 yL_leastWith ∈ wsL_law := seg_22 _ (List.mem_of_getElem? (i := 5) rfl)
theorem q_22_6 : Cond.static yL_leastWith ∈ wsL_law := seg_22 _ (List.mem_of_getElem? (i := 6) rfl)
theorem q_22_7 : Cond.codeWith yL_leastWith cL_leastWith 5 (some .int) [(0, 7, 10, 21), (0, 7, 16, 15)] ∈ wsL_law := seg_22 _ (List.mem_of_getElem? (i := 7) rfl)
theorem q_22_16 : Cond.methodLink RL 115 yL_leastWithout ∈ wsL_law := seg_22 _ (List.mem_of_getElem? (i := 16) rfl)
theorem q_22_17 : Cond.static yL_leastWithout ∈ wsL_law := seg_22 _ (List.mem_of_getElem? (i := 17) rfl)
theorem q_22_18 : Cond.codeWith yL_leastWithout cL_leastWithout 4 (some .int) [(0, 6, 9, 28)] ∈ wsL_law := seg_22 _ (List.mem_of_getElem? (i := 18) rfl)
theorem q_23_0 : Cond.methodLink RL 117 yL_append ∈ wsL_law := seg_23 _ (List.mem_of_getElem? (i := 0) rfl)
theorem q_23_1 : Cond.static yL_append ∈ wsL_law := seg_23 _ (List.mem_of_getElem? (i := 1) rfl)
theorem q_23_2 : Cond.codeWith yL_append cL_append 4 (some .int) [(0, 6, 9, 15), (0, 6, 14, 23)] ∈ wsL_law := seg_23 _ (List.mem_of_getElem? (i := 2) rfl)
theorem cal_L_print : CalS yL_print cL_print 6 (some .long) 1 := ⟨q_17_0, q_16_23, q_4_22, by decide +kernel⟩
def fL_refused_431 (L : Nat → Nat) (Nf : Nat) (k0 : Nat) (y0 : Int32) (σ : cS) : Option ((Int32 × cS) × Nat) := grd (isb y0) (some ((y0, σ), 0))
set_option maxHeartbeats 4000000 in
set_option maxRecDepth 100000 in
theorem sL_refused_431 {K : MCx} {G : Lay} (X : Cx K G RL cL_refused 6 (some .boolean) 9 160) (Nf : Nat) (k0 : Nat) (hk0 : isEH G k0) (h : Int64) (y0 : Int32) (σ : cS) : Sm K G (PN K) (QN K G (fun r : (Int32 × cS) => ((some (.int r.1), h, r.2) : Option Value × Int64 × cS))) 6 431 [] [.int y0] h σ (fL_refused_431 (ll G) Nf k0 y0 σ) := by
  unfold fL_refused_431
  exact z_nzret X rfl dL_refused_431
def fL_refused_430 (L : Nat → Nat) (Nf : Nat) (k0 : Nat) (σ : cS) : Option ((Int32 × cS) × Nat) := fL_refused_431 L Nf k0 (0 : Int32) σ
set_option maxHeartbeats 4000000 in
set_option maxRecDepth 100000 in
theorem sL_refused_430 {K : MCx} {G : Lay} (X : Cx K G RL cL_refused 6 (some .boolean) 9 160) (Nf : Nat) (k0 : Nat) (hk0 : isEH G k0) (h : Int64) (σ : cS) : Sm K G (PN K) (QN K G (fun r : (Int32 × cS) => ((some (.int r.1), h, r.2) : Option Value × Int64 × cS))) 6 430 [] [] h σ (fL_refused_430 (ll G) Nf k0 σ) := by
  unfold fL_refused_430
  refine z_iconst (v := (0 : Int32)) X dL_refused_430 (by decide) ?_
  exact z_sub [] rfl (sL_refused_431 X Nf k0 hk0 h (0 : Int32) σ)
def fL_refused_417 (L : Nat → Nat) (Nf : Nat) (k0 : Nat) (x1 : Int64) (σ : cS) : Option ((Int32 × cS) × Nat) := Option.bind (fL_print L Nf σ k0) (fun r1 => if (lg_cmp r1.1 x1) = 0 then (fL_refused_431 L Nf k0 (1 : Int32) r1.2) else (fL_refused_430 L Nf k0 r1.2))
set_option maxHeartbeats 4000000 in
set_option maxRecDepth 100000 in
theorem sL_refused_417 {K : MCx} {G : Lay} (X : Cx K G RL cL_refused 6 (some .boolean) 9 160) (Nf : Nat) (k0 : Nat) (hk0 : isEH G k0) (h : Int64) (x1 : Int64) (σ : cS) : Sm K G (PN K) (QN K G (fun r : (Int32 × cS) => ((some (.int r.1), h, r.2) : Option Value × Int64 × cS))) 6 417 [(0, .ref (la G k0)), (1, .long x1)] [] h σ (fL_refused_417 (ll G) Nf k0 x1 σ) := by
  unfold fL_refused_417
  refine z_aload_n X dL_refused_417 0 rfl ?_
  refine z_callS0 X (g := (fun r1 : (Int64 × cS) => ((some (.long r1.1), h, r1.2) : Option Value × Int64 × cS))) (st := []) (st1 := (fun r1 : (Int64 × cS) => [.long r1.1])) (rmf := 8) (rml := 135) [.ref (la G k0)] cal_L_print q_16_22 ⟨Nat.le_of_ble_eq_true rfl, Nat.le_of_ble_eq_true rfl⟩ rfl rfl (Nat.le_of_ble_eq_true rfl) (ctL_print (kl K) G X.2.2.2.2.2.2.2.1 Nf h σ k0 hk0 ) dL_refused_418 (fun _ => rfl) (fun r1 => ?_)
  refine z_lload_n X dL_refused_421 1 rfl ?_
  refine z_lcmp X dL_refused_422 ?_
  refine z_if_ne X 430 dL_refused_423 (by decide) ?_ ?_
  · refine z_iconst (v := (1 : Int32)) X dL_refused_426 (by decide) ?_
    refine z_goto X 431 dL_refused_427 (by decide) ?_
    exact z_sub [] rfl (sL_refused_431 X Nf k0 hk0 h (1 : Int32) r1.2)
  · exact z_sub [] rfl (sL_refused_430 X Nf k0 hk0 h r1.2)
def fL_refused_390 (L : Nat → Nat) (Nf : Nat) (k0 : Nat) (x1 : Int64) (x5 : Int32) (σ : cS) : Option ((Int32 × cS) × Nat) := if x5 = 0 then (fL_refused_430 L Nf k0 σ) else (ibn (fX6_value L Nf σ k0 (1 : Int32)) (fun r1 => if r1 < (40 : Int32) then (fL_refused_417 L Nf k0 x1 σ) else (wbn (w1n (fL_add L Nf σ k0 (0 : Int32) (1 : Int32))) (fun r2 => if r2.1 = (-2052 : Int32) then (fL_refused_417 L Nf k0 x1 r2.2) else (fL_refused_430 L Nf k0 r2.2)))))
set_option maxHeartbeats 4000000 in
set_option maxRecDepth 100000 in
theorem sL_refused_390 {K : MCx} {G : Lay} (X : Cx K G RL cL_refused 6 (some .boolean) 9 160) (Nf : Nat) (k0 : Nat) (hk0 : isEH G k0) (h : Int64) (x1 : Int64) (x5 : Int32) (σ : cS) : Sm K G (PN K) (QN K G (fun r : (Int32 × cS) => ((some (.int r.1), h, r.2) : Option Value × Int64 × cS))) 6 390 [(0, .ref (la G k0)), (1, .long x1), (5, .int x5)] [] h σ (fL_refused_390 (ll G) Nf k0 x1 x5 σ) := by
  unfold fL_refused_390
  refine z_iload X dL_refused_390 2 rfl ?_
  refine z_if_eq X 430 dL_refused_392 (by decide) ?_ ?_
  · exact z_sub [] rfl (sL_refused_430 X Nf k0 hk0 h σ)
  · refine z_aload_n X dL_refused_395 0 rfl ?_
    refine z_iconst (v := (1 : Int32)) X dL_refused_396 (by decide) ?_
    refine z_callVN X (g := (fun r1 : Int32 => ((some (.int r1), h, σ) : Option Value × Int64 × cS))) (st := []) (st1 := (fun r1 : Int32 => [.int r1])) (rmf := 6) (rml := 90) [.int (1 : Int32)] k0 cal_X6_value q_6_2 ⟨Nat.le_of_ble_eq_true rfl, Nat.le_of_ble_eq_true rfl⟩ rfl rfl (Nat.le_of_ble_eq_true rfl) rfl hk0.1 (ce6 hk0.1 _ _) (ctX6_value_n (kl K) G X.2.2.2.2.2.2.2.1 Nf h σ k0 hk0 (1 : Int32)) dL_refused_397 (fun _ => rfl) (fun r1 => ?_)
    refine z_bipush (v := (40 : Int32)) X dL_refused_400 (by decide) ?_
    refine z_icmp_lt X 417 dL_refused_402 (by decide) ?_ ?_
    · exact z_sub [0, 1] rfl (sL_refused_417 X Nf k0 hk0 h x1 σ)
    · refine z_aload_n X dL_refused_405 0 rfl ?_
      refine z_iconst (v := (0 : Int32)) X dL_refused_406 (by decide) ?_
      refine z_iconst (v := (1 : Int32)) X dL_refused_407 (by decide) ?_
      refine z_callW (P := fun K => PN K) (Q := fun K => QN K G (fun r : (Int32 × cS) => ((some (.int r.1), h, r.2) : Option Value × Int64 × cS))) (pq_N G (fun r : (Int32 × cS) => ((some (.int r.1), h, r.2) : Option Value × Int64 × cS))) X (n := 3) (fr := 8) (lo := 133) (st := []) [.ref (la G k0), .int (0 : Int32), .int (1 : Int32)] (fun hfl => hL_add (kl K) hfl G X.2.2.2.2.2.2.2.1 Nf h σ k0 hk0 (0 : Int32) (1 : Int32)) q_18_23 q_18_22 q_4_22 q_18_21 (by decide +kernel) ⟨Nat.le_of_ble_eq_true rfl, Nat.le_of_ble_eq_true rfl⟩ rfl rfl (Nat.le_of_ble_eq_true rfl) dL_refused_408 (fun r2 X => ?_)
      refine z_sipush (v := (-2052 : Int32)) X dL_refused_411 (by decide) ?_
      refine z_icmp_ne X 430 dL_refused_414 (by decide) ?_ ?_
      · exact z_sub [0, 1] rfl (sL_refused_417 X Nf k0 hk0 h x1 r2.2)
      · exact z_sub [] rfl (sL_refused_430 X Nf k0 hk0 h r2.2)
def fL_refused_388 (L : Nat → Nat) (Nf : Nat) (k0 : Nat) (x1 : Int64) (y0 : Int32) (σ : cS) : Option ((Int32 × cS) × Nat) := fL_refused_390 L Nf k0 x1 y0 σ
set_option maxHeartbeats 4000000 in
set_option maxRecDepth 100000 in
theorem sL_refused_388 {K : MCx} {G : Lay} (X : Cx K G RL cL_refused 6 (some .boolean) 9 160) (Nf : Nat) (k0 : Nat) (hk0 : isEH G k0) (h : Int64) (x1 : Int64) (y0 : Int32) (σ : cS) : Sm K G (PN K) (QN K G (fun r : (Int32 × cS) => ((some (.int r.1), h, r.2) : Option Value × Int64 × cS))) 6 388 [(0, .ref (la G k0)), (1, .long x1)] [.int y0] h σ (fL_refused_388 (ll G) Nf k0 x1 y0 σ) := by
  unfold fL_refused_388
  refine z_istore X [(5, .int y0), (0, .ref (la G k0)), (1, .long x1)] dL_refused_388 (by decide) rfl ?_
  exact z_sub [1, 2, 0] rfl (sL_refused_390 X Nf k0 hk0 h x1 y0 σ)
def fL_refused_387 (L : Nat → Nat) (Nf : Nat) (k0 : Nat) (x1 : Int64) (σ : cS) : Option ((Int32 × cS) × Nat) := fL_refused_388 L Nf k0 x1 (0 : Int32) σ
set_option maxHeartbeats 4000000 in
set_option maxRecDepth 100000 in
theorem sL_refused_387 {K : MCx} {G : Lay} (X : Cx K G RL cL_refused 6 (some .boolean) 9 160) (Nf : Nat) (k0 : Nat) (hk0 : isEH G k0) (h : Int64) (x1 : Int64) (σ : cS) : Sm K G (PN K) (QN K G (fun r : (Int32 × cS) => ((some (.int r.1), h, r.2) : Option Value × Int64 × cS))) 6 387 [(0, .ref (la G k0)), (1, .long x1)] [] h σ (fL_refused_387 (ll G) Nf k0 x1 σ) := by
  unfold fL_refused_387
  refine z_iconst (v := (0 : Int32)) X dL_refused_387 (by decide) ?_
  exact z_sub [0, 1] rfl (sL_refused_388 X Nf k0 hk0 h x1 (0 : Int32) σ)
def fL_refused_352 (L : Nat → Nat) (Nf : Nat) (k0 : Nat) (x1 : Int64) (y0 : Int32) (σ : cS) : Option ((Int32 × cS) × Nat) := ibn (fX6_value L Nf σ k0 (1 : Int32)) (fun r1 => if r1 ≤ 0 then (fL_refused_390 L Nf k0 x1 y0 σ) else (if y0 = 0 then (fL_refused_387 L Nf k0 x1 σ) else (ibn (fX6_edgeAt L σ k0 (0 : Int32)) (fun r2 => wbn (w1n (fL_edge L Nf σ k0 r2 (4 : Int32))) (fun r3 => if r3.1 = (-2051 : Int32) then (fL_refused_388 L Nf k0 x1 (1 : Int32) r3.2) else (fL_refused_387 L Nf k0 x1 r3.2))))))
set_option maxHeartbeats 4000000 in
set_option maxRecDepth 100000 in
theorem sL_refused_352 {K : MCx} {G : Lay} (X : Cx K G RL cL_refused 6 (some .boolean) 9 160) (Nf : Nat) (k0 : Nat) (hk0 : isEH G k0) (h : Int64) (x1 : Int64) (y0 : Int32) (σ : cS) : Sm K G (PN K) (QN K G (fun r : (Int32 × cS) => ((some (.int r.1), h, r.2) : Option Value × Int64 × cS))) 6 352 [(0, .ref (la G k0)), (1, .long x1)] [.int y0] h σ (fL_refused_352 (ll G) Nf k0 x1 y0 σ) := by
  unfold fL_refused_352
  refine z_istore X [(5, .int y0), (0, .ref (la G k0)), (1, .long x1)] dL_refused_352 (by decide) rfl ?_
  refine z_aload_n X dL_refused_354 1 rfl ?_
  refine z_iconst (v := (1 : Int32)) X dL_refused_355 (by decide) ?_
  refine z_callVN X (g := (fun r1 : Int32 => ((some (.int r1), h, σ) : Option Value × Int64 × cS))) (st := []) (st1 := (fun r1 : Int32 => [.int r1])) (rmf := 6) (rml := 90) [.int (1 : Int32)] k0 cal_X6_value q_6_2 ⟨Nat.le_of_ble_eq_true rfl, Nat.le_of_ble_eq_true rfl⟩ rfl rfl (Nat.le_of_ble_eq_true rfl) rfl hk0.1 (ce6 hk0.1 _ _) (ctX6_value_n (kl K) G X.2.2.2.2.2.2.2.1 Nf h σ k0 hk0 (1 : Int32)) dL_refused_356 (fun _ => rfl) (fun r1 => ?_)
  refine z_if_le X 390 dL_refused_359 (by decide) ?_ ?_
  · exact z_sub [1, 2, 0] rfl (sL_refused_390 X Nf k0 hk0 h x1 y0 σ)
  · refine z_iload X dL_refused_362 0 rfl ?_
    refine z_if_eq X 387 dL_refused_364 (by decide) ?_ ?_
    · exact z_sub [1, 2] rfl (sL_refused_387 X Nf k0 hk0 h x1 σ)
    · refine z_aload_n X dL_refused_367 1 rfl ?_
      refine z_aload_n X dL_refused_368 1 rfl ?_
      refine z_iconst (v := (0 : Int32)) X dL_refused_369 (by decide) ?_
      refine z_callVN X (g := (fun r2 : Int32 => ((some (.int r2), h, σ) : Option Value × Int64 × cS))) (st := [.ref (la G k0)]) (st1 := (fun r2 : Int32 => [.int r2, .ref (la G k0)])) (rmf := 6) (rml := 90) [.int (0 : Int32)] k0 cal_X6_edgeAt q_17_22 ⟨Nat.le_of_ble_eq_true rfl, Nat.le_of_ble_eq_true rfl⟩ rfl rfl (Nat.le_of_ble_eq_true rfl) rfl hk0.1 (ce6 hk0.1 _ _) (ctX6_edgeAt_n (kl K) G X.2.2.2.2.2.2.2.1 h σ k0 hk0 (0 : Int32)) dL_refused_370 (fun _ => rfl) (fun r2 => ?_)
      refine z_iconst (v := (4 : Int32)) X dL_refused_373 (by decide) ?_
      refine z_callW (P := fun K => PN K) (Q := fun K => QN K G (fun r : (Int32 × cS) => ((some (.int r.1), h, r.2) : Option Value × Int64 × cS))) (pq_N G (fun r : (Int32 × cS) => ((some (.int r.1), h, r.2) : Option Value × Int64 × cS))) X (n := 3) (fr := 8) (lo := 135) (st := []) [.ref (la G k0), .int r2, .int (4 : Int32)] (fun hfl => hL_edge (kl K) hfl G X.2.2.2.2.2.2.2.1 Nf h σ k0 hk0 r2 (4 : Int32)) q_20_20 q_20_19 q_4_22 q_20_18 (by decide +kernel) ⟨Nat.le_of_ble_eq_true rfl, Nat.le_of_ble_eq_true rfl⟩ rfl rfl (Nat.le_of_ble_eq_true rfl) dL_refused_374 (fun r3 X => ?_)
      refine z_sipush (v := (-2051 : Int32)) X dL_refused_377 (by decide) ?_
      refine z_icmp_ne X 387 dL_refused_380 (by decide) ?_ ?_
      · refine z_iconst (v := (1 : Int32)) X dL_refused_383 (by decide) ?_
        refine z_goto X 388 dL_refused_384 (by decide) ?_
        exact z_sub [1, 2] rfl (sL_refused_388 X Nf k0 hk0 h x1 (1 : Int32) r3.2)
      · exact z_sub [1, 2] rfl (sL_refused_387 X Nf k0 hk0 h x1 r3.2)
def fL_refused_351 (L : Nat → Nat) (Nf : Nat) (k0 : Nat) (x1 : Int64) (σ : cS) : Option ((Int32 × cS) × Nat) := fL_refused_352 L Nf k0 x1 (0 : Int32) σ
set_option maxHeartbeats 4000000 in
set_option maxRecDepth 100000 in
theorem sL_refused_351 {K : MCx} {G : Lay} (X : Cx K G RL cL_refused 6 (some .boolean) 9 160) (Nf : Nat) (k0 : Nat) (hk0 : isEH G k0) (h : Int64) (x1 : Int64) (σ : cS) : Sm K G (PN K) (QN K G (fun r : (Int32 × cS) => ((some (.int r.1), h, r.2) : Option Value × Int64 × cS))) 6 351 [(0, .ref (la G k0)), (1, .long x1)] [] h σ (fL_refused_351 (ll G) Nf k0 x1 σ) := by
  unfold fL_refused_351
  refine z_iconst (v := (0 : Int32)) X dL_refused_351 (by decide) ?_
  exact z_sub [0, 1] rfl (sL_refused_352 X Nf k0 hk0 h x1 (0 : Int32) σ)
def fL_refused_0 (L : Nat → Nat) (Nf : Nat) (k0 : Nat) (σ : cS) : Option ((Int32 × cS) × Nat) := Option.bind (fL_print L Nf σ k0) (fun r1 => ibn (fX6_value L Nf r1.2 k0 (0 : Int32)) (fun r2 => ibn (fX6_value L Nf r1.2 k0 (6 : Int32)) (fun r3 => wbn (w1n (fL_begin L Nf r1.2 k0 (1 : Int32))) (fun r4 => if r4.1 = (-2051 : Int32) then (wbn (w1n (fL_begin L Nf r4.2 k0 (13 : Int32))) (fun r5 => if r5.1 = (-2051 : Int32) then (wbn (w1n (fL_add L Nf r5.2 k0 r2 r2)) (fun r6 => if r6.1 = (-2053 : Int32) then (wbn (w1n (fL_add L Nf r6.2 k0 (-1 : Int32) (0 : Int32))) (fun r7 => if r7.1 = (-2053 : Int32) then (wbn (w1n (fL_add L Nf r7.2 k0 (0 : Int32) (0 : Int32))) (fun r8 => if r8.1 = (-2051 : Int32) then (wbn (w1n (fL_remove L Nf r8.2 k0 r3)) (fun r9 => if r9.1 = (-2054 : Int32) then (wbn (w1n (fL_remove L Nf r9.2 k0 (-1 : Int32))) (fun r10 => if r10.1 = (-2054 : Int32) then (wbn (w1n (fL_turn L Nf r10.2 k0 r3)) (fun r11 => if r11.1 = (-2054 : Int32) then (wbn (w1n (fL_relieve L Nf r11.2 k0 r2)) (fun r12 => if r12.1 = (-2053 : Int32) then (wbn (w1n (fL_setCapacity L Nf r12.2 k0 r2 (99 : Int32))) (fun r13 => if r13.1 = (-2053 : Int32) then (wbn (w1n (fL_setCapacity L Nf r13.2 k0 (0 : Int32) (41 : Int32))) (fun r14 => if r14.1 = (-2051 : Int32) then (wbn (w1n (fL_setCapacity L Nf r14.2 k0 (0 : Int32) (-1 : Int32))) (fun r15 => if r15.1 = (-2051 : Int32) then (wbn (w1n (fL_node L Nf r15.2 k0 r2 (9 : Int32))) (fun r16 => if r16.1 = (-2053 : Int32) then (wbn (w1n (fL_node L Nf r16.2 k0 (0 : Int32) (5 : Int32))) (fun r17 => if r17.1 = (-2051 : Int32) then (wbn (w1n (fL_edge L Nf r17.2 k0 r3 (4 : Int32))) (fun r18 => if r18.1 = (-2054 : Int32) then (ibn (fX6_value L Nf r18.2 k0 (1 : Int32)) (fun r19 => wbn (w1n (fL_edgeAt L Nf r18.2 k0 r19)) (fun r20 => if r20.1 = (-2053 : Int32) then (wbn (w1n (fL_edgeAt L Nf r20.2 k0 (-1 : Int32))) (fun r21 => if r21.1 = (-2053 : Int32) then (wbn (w1n (fL_value L Nf r21.2 k0 (8 : Int32))) (fun r22 => if r22.1 = (-2051 : Int32) then (wbn (w1n (fL_path L Nf r22.2 k0 (0 : Int32) r2)) (fun r23 => if r23.1 = (-2053 : Int32) then (wbn (w1n (fL_step L Nf r23.2 k0 (0 : Int32) (0 : Int32) (0 : Int32))) (fun r24 => if r24.1 = (-2053 : Int32) then (wbn (w1n (fL_inner L Nf r24.2 k0 (0 : Int32))) (fun r25 => if r25.1 = (-2051 : Int32) then (wbn (w1n (fL_inner L Nf r25.2 k0 ((1 : Int32) <<< (r2 &&& 31)))) (fun r26 => if r26.1 = (-2051 : Int32) then (wbn (w1n (fL_leastWith L Nf r26.2 k0 (0 : Int32) r2)) (fun r27 => if r27.1 = (-2053 : Int32) then (wbn (w1n (fL_leastWith L Nf r27.2 k0 (1 : Int32) (1 : Int32))) (fun r28 => if r28.1 = (-2051 : Int32) then (wbn (w1n (fL_leastWithout L Nf r28.2 k0 r3)) (fun r29 => if r29.1 = (-2054 : Int32) then (wbn (w1n (fL_append L Nf r29.2 k0 (128 : Int32))) (fun r30 => if r30.1 = (-2051 : Int32) then (wbn (w1n (fL_append L Nf r30.2 k0 (-1 : Int32))) (fun r31 => if r31.1 = (-2051 : Int32) then (fL_refused_352 L Nf k0 r1.1 (1 : Int32) r31.2) else (fL_refused_351 L Nf k0 r1.1 r31.2))) else (fL_refused_351 L Nf k0 r1.1 r30.2))) else (fL_refused_351 L Nf k0 r1.1 r29.2))) else (fL_refused_351 L Nf k0 r1.1 r28.2))) else (fL_refused_351 L Nf k0 r1.1 r27.2))) else (fL_refused_351 L Nf k0 r1.1 r26.2))) else (fL_refused_351 L Nf k0 r1.1 r25.2))) else (fL_refused_351 L Nf k0 r1.1 r24.2))) else (fL_refused_351 L Nf k0 r1.1 r23.2))) else (fL_refused_351 L Nf k0 r1.1 r22.2))) else (fL_refused_351 L Nf k0 r1.1 r21.2))) else (fL_refused_351 L Nf k0 r1.1 r20.2)))) else (fL_refused_351 L Nf k0 r1.1 r18.2))) else (fL_refused_351 L Nf k0 r1.1 r17.2))) else (fL_refused_351 L Nf k0 r1.1 r16.2))) else (fL_refused_351 L Nf k0 r1.1 r15.2))) else (fL_refused_351 L Nf k0 r1.1 r14.2))) else (fL_refused_351 L Nf k0 r1.1 r13.2))) else (fL_refused_351 L Nf k0 r1.1 r12.2))) else (fL_refused_351 L Nf k0 r1.1 r11.2))) else (fL_refused_351 L Nf k0 r1.1 r10.2))) else (fL_refused_351 L Nf k0 r1.1 r9.2))) else (fL_refused_351 L Nf k0 r1.1 r8.2))) else (fL_refused_351 L Nf k0 r1.1 r7.2))) else (fL_refused_351 L Nf k0 r1.1 r6.2))) else (fL_refused_351 L Nf k0 r1.1 r5.2))) else (fL_refused_351 L Nf k0 r1.1 r4.2)))))
set_option maxHeartbeats 4000000 in
set_option maxRecDepth 100000 in
theorem sL_refused_0 {K : MCx} {G : Lay} (X : Cx K G RL cL_refused 6 (some .boolean) 9 160) (Nf : Nat) (k0 : Nat) (hk0 : isEH G k0) (h : Int64) (σ : cS) : Sm K G (PN K) (QN K G (fun r : (Int32 × cS) => ((some (.int r.1), h, r.2) : Option Value × Int64 × cS))) 6 0 [(0, .ref (la G k0))] [] h σ (fL_refused_0 (ll G) Nf k0 σ) := by
  unfold fL_refused_0
  refine z_aload_n X dL_refused_0 0 rfl ?_
  refine z_callS0 X (g := (fun r1 : (Int64 × cS) => ((some (.long r1.1), h, r1.2) : Option Value × Int64 × cS))) (st := []) (st1 := (fun r1 : (Int64 × cS) => [.long r1.1])) (rmf := 8) (rml := 135) [.ref (la G k0)] cal_L_print q_16_22 ⟨Nat.le_of_ble_eq_true rfl, Nat.le_of_ble_eq_true rfl⟩ rfl rfl (Nat.le_of_ble_eq_true rfl) (ctL_print (kl K) G X.2.2.2.2.2.2.2.1 Nf h σ k0 hk0 ) dL_refused_1 (fun _ => rfl) (fun r1 => ?_)
  refine z_lstore_n X [(1, .long r1.1), (0, .ref (la G k0))] dL_refused_4 (by decide) rfl ?_
  refine z_aload_n X dL_refused_5 1 rfl ?_
  refine z_iconst (v := (0 : Int32)) X dL_refused_6 (by decide) ?_
  refine z_callVN X (g := (fun r2 : Int32 => ((some (.int r2), h, r1.2) : Option Value × Int64 × cS))) (st := []) (st1 := (fun r2 : Int32 => [.int r2])) (rmf := 6) (rml := 90) [.int (0 : Int32)] k0 cal_X6_value q_6_2 ⟨Nat.le_of_ble_eq_true rfl, Nat.le_of_ble_eq_true rfl⟩ rfl rfl (Nat.le_of_ble_eq_true rfl) rfl hk0.1 (ce6 hk0.1 _ _) (ctX6_value_n (kl K) G X.2.2.2.2.2.2.2.1 Nf h r1.2 k0 hk0 (0 : Int32)) dL_refused_7 (fun _ => rfl) (fun r2 => ?_)
  refine z_istore_n X [(3, .int r2), (1, .long r1.1), (0, .ref (la G k0))] dL_refused_10 (by decide) rfl ?_
  refine z_aload_n X dL_refused_11 2 rfl ?_
  refine z_bipush (v := (6 : Int32)) X dL_refused_12 (by decide) ?_
  refine z_callVN X (g := (fun r3 : Int32 => ((some (.int r3), h, r1.2) : Option Value × Int64 × cS))) (st := []) (st1 := (fun r3 : Int32 => [.int r3])) (rmf := 6) (rml := 90) [.int (6 : Int32)] k0 cal_X6_value q_6_2 ⟨Nat.le_of_ble_eq_true rfl, Nat.le_of_ble_eq_true rfl⟩ rfl rfl (Nat.le_of_ble_eq_true rfl) rfl hk0.1 (ce6 hk0.1 _ _) (ctX6_value_n (kl K) G X.2.2.2.2.2.2.2.1 Nf h r1.2 k0 hk0 (6 : Int32)) dL_refused_14 (fun _ => rfl) (fun r3 => ?_)
  refine z_istore X [(4, .int r3), (3, .int r2), (1, .long r1.1), (0, .ref (la G k0))] dL_refused_17 (by decide) rfl ?_
  refine z_aload_n X dL_refused_19 3 rfl ?_
  refine z_iconst (v := (1 : Int32)) X dL_refused_20 (by decide) ?_
  refine z_callW (P := fun K => PN K) (Q := fun K => QN K G (fun r : (Int32 × cS) => ((some (.int r.1), h, r.2) : Option Value × Int64 × cS))) (pq_N G (fun r : (Int32 × cS) => ((some (.int r.1), h, r.2) : Option Value × Int64 × cS))) X (n := 2) (fr := 7) (lo := 112) (st := []) [.ref (la G k0), .int (1 : Int32)] (fun hfl => hL_begin (kl K) hfl G X.2.2.2.2.2.2.2.1 Nf h r1.2 k0 hk0 (1 : Int32)) q_18_14 q_18_13 q_4_22 q_18_12 (by decide +kernel) ⟨Nat.le_of_ble_eq_true rfl, Nat.le_of_ble_eq_true rfl⟩ rfl rfl (Nat.le_of_ble_eq_true rfl) dL_refused_21 (fun r4 X => ?_)
  refine z_sipush (v := (-2051 : Int32)) X dL_refused_24 (by decide) ?_
  refine z_icmp_ne X 351 dL_refused_27 (by decide) ?_ ?_
  · refine z_aload_n X dL_refused_30 3 rfl ?_
    refine z_bipush (v := (13 : Int32)) X dL_refused_31 (by decide) ?_
    refine z_callW (P := fun K => PN K) (Q := fun K => QN K G (fun r : (Int32 × cS) => ((some (.int r.1), h, r.2) : Option Value × Int64 × cS))) (pq_N G (fun r : (Int32 × cS) => ((some (.int r.1), h, r.2) : Option Value × Int64 × cS))) X (n := 2) (fr := 7) (lo := 112) (st := []) [.ref (la G k0), .int (13 : Int32)] (fun hfl => hL_begin (kl K) hfl G X.2.2.2.2.2.2.2.1 Nf h r4.2 k0 hk0 (13 : Int32)) q_18_14 q_18_13 q_4_22 q_18_12 (by decide +kernel) ⟨Nat.le_of_ble_eq_true rfl, Nat.le_of_ble_eq_true rfl⟩ rfl rfl (Nat.le_of_ble_eq_true rfl) dL_refused_33 (fun r5 X => ?_)
    refine z_sipush (v := (-2051 : Int32)) X dL_refused_36 (by decide) ?_
    refine z_icmp_ne X 351 dL_refused_39 (by decide) ?_ ?_
    · refine z_aload_n X dL_refused_42 3 rfl ?_
      refine z_iload_n X dL_refused_43 1 rfl ?_
      refine z_iload_n X dL_refused_44 1 rfl ?_
      refine z_callW (P := fun K => PN K) (Q := fun K => QN K G (fun r : (Int32 × cS) => ((some (.int r.1), h, r.2) : Option Value × Int64 × cS))) (pq_N G (fun r : (Int32 × cS) => ((some (.int r.1), h, r.2) : Option Value × Int64 × cS))) X (n := 3) (fr := 8) (lo := 133) (st := []) [.ref (la G k0), .int r2, .int r2] (fun hfl => hL_add (kl K) hfl G X.2.2.2.2.2.2.2.1 Nf h r5.2 k0 hk0 r2 r2) q_18_23 q_18_22 q_4_22 q_18_21 (by decide +kernel) ⟨Nat.le_of_ble_eq_true rfl, Nat.le_of_ble_eq_true rfl⟩ rfl rfl (Nat.le_of_ble_eq_true rfl) dL_refused_45 (fun r6 X => ?_)
      refine z_sipush (v := (-2053 : Int32)) X dL_refused_48 (by decide) ?_
      refine z_icmp_ne X 351 dL_refused_51 (by decide) ?_ ?_
      · refine z_aload_n X dL_refused_54 3 rfl ?_
        refine z_iconst (v := (-1 : Int32)) X dL_refused_55 (by decide) ?_
        refine z_iconst (v := (0 : Int32)) X dL_refused_56 (by decide) ?_
        refine z_callW (P := fun K => PN K) (Q := fun K => QN K G (fun r : (Int32 × cS) => ((some (.int r.1), h, r.2) : Option Value × Int64 × cS))) (pq_N G (fun r : (Int32 × cS) => ((some (.int r.1), h, r.2) : Option Value × Int64 × cS))) X (n := 3) (fr := 8) (lo := 133) (st := []) [.ref (la G k0), .int (-1 : Int32), .int (0 : Int32)] (fun hfl => hL_add (kl K) hfl G X.2.2.2.2.2.2.2.1 Nf h r6.2 k0 hk0 (-1 : Int32) (0 : Int32)) q_18_23 q_18_22 q_4_22 q_18_21 (by decide +kernel) ⟨Nat.le_of_ble_eq_true rfl, Nat.le_of_ble_eq_true rfl⟩ rfl rfl (Nat.le_of_ble_eq_true rfl) dL_refused_57 (fun r7 X => ?_)
        refine z_sipush (v := (-2053 : Int32)) X dL_refused_60 (by decide) ?_
        refine z_icmp_ne X 351 dL_refused_63 (by decide) ?_ ?_
        · refine z_aload_n X dL_refused_66 3 rfl ?_
          refine z_iconst (v := (0 : Int32)) X dL_refused_67 (by decide) ?_
          refine z_iconst (v := (0 : Int32)) X dL_refused_68 (by decide) ?_
          refine z_callW (P := fun K => PN K) (Q := fun K => QN K G (fun r : (Int32 × cS) => ((some (.int r.1), h, r.2) : Option Value × Int64 × cS))) (pq_N G (fun r : (Int32 × cS) => ((some (.int r.1), h, r.2) : Option Value × Int64 × cS))) X (n := 3) (fr := 8) (lo := 133) (st := []) [.ref (la G k0), .int (0 : Int32), .int (0 : Int32)] (fun hfl => hL_add (kl K) hfl G X.2.2.2.2.2.2.2.1 Nf h r7.2 k0 hk0 (0 : Int32) (0 : Int32)) q_18_23 q_18_22 q_4_22 q_18_21 (by decide +kernel) ⟨Nat.le_of_ble_eq_true rfl, Nat.le_of_ble_eq_true rfl⟩ rfl rfl (Nat.le_of_ble_eq_true rfl) dL_refused_69 (fun r8 X => ?_)
          refine z_sipush (v := (-2051 : Int32)) X dL_refused_72 (by decide) ?_
          refine z_icmp_ne X 351 dL_refused_75 (by decide) ?_ ?_
          · refine z_aload_n X dL_refused_78 3 rfl ?_
            refine z_iload X dL_refused_79 0 rfl ?_
            refine z_callW (P := fun K => PN K) (Q := fun K => QN K G (fun r : (Int32 × cS) => ((some (.int r.1), h, r.2) : Option Value × Int64 × cS))) (pq_N G (fun r : (Int32 × cS) => ((some (.int r.1), h, r.2) : Option Value × Int64 × cS))) X (n := 2) (fr := 8) (lo := 134) (st := []) [.ref (la G k0), .int r3] (fun hfl => hL_remove (kl K) hfl G X.2.2.2.2.2.2.2.1 Nf h r8.2 k0 hk0 r3) q_19_10 q_19_9 q_4_22 q_19_8 (by decide +kernel) ⟨Nat.le_of_ble_eq_true rfl, Nat.le_of_ble_eq_true rfl⟩ rfl rfl (Nat.le_of_ble_eq_true rfl) dL_refused_81 (fun r9 X => ?_)
            refine z_sipush (v := (-2054 : Int32)) X dL_refused_84 (by decide) ?_
            refine z_icmp_ne X 351 dL_refused_87 (by decide) ?_ ?_
            · refine z_aload_n X dL_refused_90 3 rfl ?_
              refine z_iconst (v := (-1 : Int32)) X dL_refused_91 (by decide) ?_
              refine z_callW (P := fun K => PN K) (Q := fun K => QN K G (fun r : (Int32 × cS) => ((some (.int r.1), h, r.2) : Option Value × Int64 × cS))) (pq_N G (fun r : (Int32 × cS) => ((some (.int r.1), h, r.2) : Option Value × Int64 × cS))) X (n := 2) (fr := 8) (lo := 134) (st := []) [.ref (la G k0), .int (-1 : Int32)] (fun hfl => hL_remove (kl K) hfl G X.2.2.2.2.2.2.2.1 Nf h r9.2 k0 hk0 (-1 : Int32)) q_19_10 q_19_9 q_4_22 q_19_8 (by decide +kernel) ⟨Nat.le_of_ble_eq_true rfl, Nat.le_of_ble_eq_true rfl⟩ rfl rfl (Nat.le_of_ble_eq_true rfl) dL_refused_92 (fun r10 X => ?_)
              refine z_sipush (v := (-2054 : Int32)) X dL_refused_95 (by decide) ?_
              refine z_icmp_ne X 351 dL_refused_98 (by decide) ?_ ?_
              · refine z_aload_n X dL_refused_101 3 rfl ?_
                refine z_iload X dL_refused_102 0 rfl ?_
                refine z_callW (P := fun K => PN K) (Q := fun K => QN K G (fun r : (Int32 × cS) => ((some (.int r.1), h, r.2) : Option Value × Int64 × cS))) (pq_N G (fun r : (Int32 × cS) => ((some (.int r.1), h, r.2) : Option Value × Int64 × cS))) X (n := 2) (fr := 8) (lo := 134) (st := []) [.ref (la G k0), .int r3] (fun hfl => hL_turn (kl K) hfl G X.2.2.2.2.2.2.2.1 Nf h r10.2 k0 hk0 r3) q_19_18 q_19_17 q_4_22 q_19_16 (by decide +kernel) ⟨Nat.le_of_ble_eq_true rfl, Nat.le_of_ble_eq_true rfl⟩ rfl rfl (Nat.le_of_ble_eq_true rfl) dL_refused_104 (fun r11 X => ?_)
                refine z_sipush (v := (-2054 : Int32)) X dL_refused_107 (by decide) ?_
                refine z_icmp_ne X 351 dL_refused_110 (by decide) ?_ ?_
                · refine z_aload_n X dL_refused_113 3 rfl ?_
                  refine z_iload_n X dL_refused_114 1 rfl ?_
                  refine z_callW (P := fun K => PN K) (Q := fun K => QN K G (fun r : (Int32 × cS) => ((some (.int r.1), h, r.2) : Option Value × Int64 × cS))) (pq_N G (fun r : (Int32 × cS) => ((some (.int r.1), h, r.2) : Option Value × Int64 × cS))) X (n := 2) (fr := 8) (lo := 133) (st := []) [.ref (la G k0), .int r2] (fun hfl => hL_relieve (kl K) hfl G X.2.2.2.2.2.2.2.1 Nf h r11.2 k0 hk0 r2) q_20_1 q_20_0 q_4_22 q_19_23 (by decide +kernel) ⟨Nat.le_of_ble_eq_true rfl, Nat.le_of_ble_eq_true rfl⟩ rfl rfl (Nat.le_of_ble_eq_true rfl) dL_refused_115 (fun r12 X => ?_)
                  refine z_sipush (v := (-2053 : Int32)) X dL_refused_118 (by decide) ?_
                  refine z_icmp_ne X 351 dL_refused_121 (by decide) ?_ ?_
                  · refine z_aload_n X dL_refused_124 3 rfl ?_
                    refine z_iload_n X dL_refused_125 1 rfl ?_
                    refine z_bipush (v := (99 : Int32)) X dL_refused_126 (by decide) ?_
                    refine z_callW (P := fun K => PN K) (Q := fun K => QN K G (fun r : (Int32 × cS) => ((some (.int r.1), h, r.2) : Option Value × Int64 × cS))) (pq_N G (fun r : (Int32 × cS) => ((some (.int r.1), h, r.2) : Option Value × Int64 × cS))) X (n := 3) (fr := 8) (lo := 134) (st := []) [.ref (la G k0), .int r2, .int (99 : Int32)] (fun hfl => hL_setCapacity (kl K) hfl G X.2.2.2.2.2.2.2.1 Nf h r12.2 k0 hk0 r2 (99 : Int32)) q_20_10 q_20_9 q_4_22 q_20_8 (by decide +kernel) ⟨Nat.le_of_ble_eq_true rfl, Nat.le_of_ble_eq_true rfl⟩ rfl rfl (Nat.le_of_ble_eq_true rfl) dL_refused_128 (fun r13 X => ?_)
                    refine z_sipush (v := (-2053 : Int32)) X dL_refused_131 (by decide) ?_
                    refine z_icmp_ne X 351 dL_refused_134 (by decide) ?_ ?_
                    · refine z_aload_n X dL_refused_137 3 rfl ?_
                      refine z_iconst (v := (0 : Int32)) X dL_refused_138 (by decide) ?_
                      refine z_bipush (v := (41 : Int32)) X dL_refused_139 (by decide) ?_
                      refine z_callW (P := fun K => PN K) (Q := fun K => QN K G (fun r : (Int32 × cS) => ((some (.int r.1), h, r.2) : Option Value × Int64 × cS))) (pq_N G (fun r : (Int32 × cS) => ((some (.int r.1), h, r.2) : Option Value × Int64 × cS))) X (n := 3) (fr := 8) (lo := 134) (st := []) [.ref (la G k0), .int (0 : Int32), .int (41 : Int32)] (fun hfl => hL_setCapacity (kl K) hfl G X.2.2.2.2.2.2.2.1 Nf h r13.2 k0 hk0 (0 : Int32) (41 : Int32)) q_20_10 q_20_9 q_4_22 q_20_8 (by decide +kernel) ⟨Nat.le_of_ble_eq_true rfl, Nat.le_of_ble_eq_true rfl⟩ rfl rfl (Nat.le_of_ble_eq_true rfl) dL_refused_141 (fun r14 X => ?_)
                      refine z_sipush (v := (-2051 : Int32)) X dL_refused_144 (by decide) ?_
                      refine z_icmp_ne X 351 dL_refused_147 (by decide) ?_ ?_
                      · refine z_aload_n X dL_refused_150 3 rfl ?_
                        refine z_iconst (v := (0 : Int32)) X dL_refused_151 (by decide) ?_
                        refine z_iconst (v := (-1 : Int32)) X dL_refused_152 (by decide) ?_
                        refine z_callW (P := fun K => PN K) (Q := fun K => QN K G (fun r : (Int32 × cS) => ((some (.int r.1), h, r.2) : Option Value × Int64 × cS))) (pq_N G (fun r : (Int32 × cS) => ((some (.int r.1), h, r.2) : Option Value × Int64 × cS))) X (n := 3) (fr := 8) (lo := 134) (st := []) [.ref (la G k0), .int (0 : Int32), .int (-1 : Int32)] (fun hfl => hL_setCapacity (kl K) hfl G X.2.2.2.2.2.2.2.1 Nf h r14.2 k0 hk0 (0 : Int32) (-1 : Int32)) q_20_10 q_20_9 q_4_22 q_20_8 (by decide +kernel) ⟨Nat.le_of_ble_eq_true rfl, Nat.le_of_ble_eq_true rfl⟩ rfl rfl (Nat.le_of_ble_eq_true rfl) dL_refused_153 (fun r15 X => ?_)
                        refine z_sipush (v := (-2051 : Int32)) X dL_refused_156 (by decide) ?_
                        refine z_icmp_ne X 351 dL_refused_159 (by decide) ?_ ?_
                        · refine z_aload_n X dL_refused_162 3 rfl ?_
                          refine z_iload_n X dL_refused_163 1 rfl ?_
                          refine z_bipush (v := (9 : Int32)) X dL_refused_164 (by decide) ?_
                          refine z_callW (P := fun K => PN K) (Q := fun K => QN K G (fun r : (Int32 × cS) => ((some (.int r.1), h, r.2) : Option Value × Int64 × cS))) (pq_N G (fun r : (Int32 × cS) => ((some (.int r.1), h, r.2) : Option Value × Int64 × cS))) X (n := 3) (fr := 8) (lo := 133) (st := []) [.ref (la G k0), .int r2, .int (9 : Int32)] (fun hfl => hL_node (kl K) hfl G X.2.2.2.2.2.2.2.1 Nf h r15.2 k0 hk0 r2 (9 : Int32)) q_20_17 q_20_16 q_4_22 q_20_15 (by decide +kernel) ⟨Nat.le_of_ble_eq_true rfl, Nat.le_of_ble_eq_true rfl⟩ rfl rfl (Nat.le_of_ble_eq_true rfl) dL_refused_166 (fun r16 X => ?_)
                          refine z_sipush (v := (-2053 : Int32)) X dL_refused_169 (by decide) ?_
                          refine z_icmp_ne X 351 dL_refused_172 (by decide) ?_ ?_
                          · refine z_aload_n X dL_refused_175 3 rfl ?_
                            refine z_iconst (v := (0 : Int32)) X dL_refused_176 (by decide) ?_
                            refine z_iconst (v := (5 : Int32)) X dL_refused_177 (by decide) ?_
                            refine z_callW (P := fun K => PN K) (Q := fun K => QN K G (fun r : (Int32 × cS) => ((some (.int r.1), h, r.2) : Option Value × Int64 × cS))) (pq_N G (fun r : (Int32 × cS) => ((some (.int r.1), h, r.2) : Option Value × Int64 × cS))) X (n := 3) (fr := 8) (lo := 133) (st := []) [.ref (la G k0), .int (0 : Int32), .int (5 : Int32)] (fun hfl => hL_node (kl K) hfl G X.2.2.2.2.2.2.2.1 Nf h r16.2 k0 hk0 (0 : Int32) (5 : Int32)) q_20_17 q_20_16 q_4_22 q_20_15 (by decide +kernel) ⟨Nat.le_of_ble_eq_true rfl, Nat.le_of_ble_eq_true rfl⟩ rfl rfl (Nat.le_of_ble_eq_true rfl) dL_refused_178 (fun r17 X => ?_)
                            refine z_sipush (v := (-2051 : Int32)) X dL_refused_181 (by decide) ?_
                            refine z_icmp_ne X 351 dL_refused_184 (by decide) ?_ ?_
                            · refine z_aload_n X dL_refused_187 3 rfl ?_
                              refine z_iload X dL_refused_188 0 rfl ?_
                              refine z_iconst (v := (4 : Int32)) X dL_refused_190 (by decide) ?_
                              refine z_callW (P := fun K => PN K) (Q := fun K => QN K G (fun r : (Int32 × cS) => ((some (.int r.1), h, r.2) : Option Value × Int64 × cS))) (pq_N G (fun r : (Int32 × cS) => ((some (.int r.1), h, r.2) : Option Value × Int64 × cS))) X (n := 3) (fr := 8) (lo := 135) (st := []) [.ref (la G k0), .int r3, .int (4 : Int32)] (fun hfl => hL_edge (kl K) hfl G X.2.2.2.2.2.2.2.1 Nf h r17.2 k0 hk0 r3 (4 : Int32)) q_20_20 q_20_19 q_4_22 q_20_18 (by decide +kernel) ⟨Nat.le_of_ble_eq_true rfl, Nat.le_of_ble_eq_true rfl⟩ rfl rfl (Nat.le_of_ble_eq_true rfl) dL_refused_191 (fun r18 X => ?_)
                              refine z_sipush (v := (-2054 : Int32)) X dL_refused_194 (by decide) ?_
                              refine z_icmp_ne X 351 dL_refused_197 (by decide) ?_ ?_
                              · refine z_aload_n X dL_refused_200 3 rfl ?_
                                refine z_aload_n X dL_refused_201 3 rfl ?_
                                refine z_iconst (v := (1 : Int32)) X dL_refused_202 (by decide) ?_
                                refine z_callVN X (g := (fun r19 : Int32 => ((some (.int r19), h, r18.2) : Option Value × Int64 × cS))) (st := [.ref (la G k0)]) (st1 := (fun r19 : Int32 => [.int r19, .ref (la G k0)])) (rmf := 6) (rml := 90) [.int (1 : Int32)] k0 cal_X6_value q_6_2 ⟨Nat.le_of_ble_eq_true rfl, Nat.le_of_ble_eq_true rfl⟩ rfl rfl (Nat.le_of_ble_eq_true rfl) rfl hk0.1 (ce6 hk0.1 _ _) (ctX6_value_n (kl K) G X.2.2.2.2.2.2.2.1 Nf h r18.2 k0 hk0 (1 : Int32)) dL_refused_203 (fun _ => rfl) (fun r19 => ?_)
                                refine z_callW (P := fun K => PN K) (Q := fun K => QN K G (fun r : (Int32 × cS) => ((some (.int r.1), h, r.2) : Option Value × Int64 × cS))) (pq_N G (fun r : (Int32 × cS) => ((some (.int r.1), h, r.2) : Option Value × Int64 × cS))) X (n := 2) (fr := 7) (lo := 111) (st := []) [.ref (la G k0), .int r19] (fun hfl => hL_edgeAt (kl K) hfl G X.2.2.2.2.2.2.2.1 Nf h r18.2 k0 hk0 r19) q_20_23 q_20_22 q_4_22 q_20_21 (by decide +kernel) ⟨Nat.le_of_ble_eq_true rfl, Nat.le_of_ble_eq_true rfl⟩ rfl rfl (Nat.le_of_ble_eq_true rfl) dL_refused_206 (fun r20 X => ?_)
                                refine z_sipush (v := (-2053 : Int32)) X dL_refused_209 (by decide) ?_
                                refine z_icmp_ne X 351 dL_refused_212 (by decide) ?_ ?_
                                · refine z_aload_n X dL_refused_215 3 rfl ?_
                                  refine z_iconst (v := (-1 : Int32)) X dL_refused_216 (by decide) ?_
                                  refine z_callW (P := fun K => PN K) (Q := fun K => QN K G (fun r : (Int32 × cS) => ((some (.int r.1), h, r.2) : Option Value × Int64 × cS))) (pq_N G (fun r : (Int32 × cS) => ((some (.int r.1), h, r.2) : Option Value × Int64 × cS))) X (n := 2) (fr := 7) (lo := 111) (st := []) [.ref (la G k0), .int (-1 : Int32)] (fun hfl => hL_edgeAt (kl K) hfl G X.2.2.2.2.2.2.2.1 Nf h r20.2 k0 hk0 (-1 : Int32)) q_20_23 q_20_22 q_4_22 q_20_21 (by decide +kernel) ⟨Nat.le_of_ble_eq_true rfl, Nat.le_of_ble_eq_true rfl⟩ rfl rfl (Nat.le_of_ble_eq_true rfl) dL_refused_217 (fun r21 X => ?_)
                                  refine z_sipush (v := (-2053 : Int32)) X dL_refused_220 (by decide) ?_
                                  refine z_icmp_ne X 351 dL_refused_223 (by decide) ?_ ?_
                                  · refine z_aload_n X dL_refused_226 3 rfl ?_
                                    refine z_bipush (v := (8 : Int32)) X dL_refused_227 (by decide) ?_
                                    refine z_callW (P := fun K => PN K) (Q := fun K => QN K G (fun r : (Int32 × cS) => ((some (.int r.1), h, r.2) : Option Value × Int64 × cS))) (pq_N G (fun r : (Int32 × cS) => ((some (.int r.1), h, r.2) : Option Value × Int64 × cS))) X (n := 2) (fr := 7) (lo := 111) (st := []) [.ref (la G k0), .int (8 : Int32)] (fun hfl => hL_value (kl K) hfl G X.2.2.2.2.2.2.2.1 Nf h r21.2 k0 hk0 (8 : Int32)) q_21_2 q_21_1 q_4_22 q_21_0 (by decide +kernel) ⟨Nat.le_of_ble_eq_true rfl, Nat.le_of_ble_eq_true rfl⟩ rfl rfl (Nat.le_of_ble_eq_true rfl) dL_refused_229 (fun r22 X => ?_)
                                    refine z_sipush (v := (-2051 : Int32)) X dL_refused_232 (by decide) ?_
                                    refine z_icmp_ne X 351 dL_refused_235 (by decide) ?_ ?_
                                    · refine z_aload_n X dL_refused_238 3 rfl ?_
                                      refine z_iconst (v := (0 : Int32)) X dL_refused_239 (by decide) ?_
                                      refine z_iload_n X dL_refused_240 1 rfl ?_
                                      refine z_callW (P := fun K => PN K) (Q := fun K => QN K G (fun r : (Int32 × cS) => ((some (.int r.1), h, r.2) : Option Value × Int64 × cS))) (pq_N G (fun r : (Int32 × cS) => ((some (.int r.1), h, r.2) : Option Value × Int64 × cS))) X (n := 3) (fr := 8) (lo := 133) (st := []) [.ref (la G k0), .int (0 : Int32), .int r2] (fun hfl => hL_path (kl K) hfl G X.2.2.2.2.2.2.2.1 Nf h r22.2 k0 hk0 (0 : Int32) r2) q_21_5 q_21_4 q_4_22 q_21_3 (by decide +kernel) ⟨Nat.le_of_ble_eq_true rfl, Nat.le_of_ble_eq_true rfl⟩ rfl rfl (Nat.le_of_ble_eq_true rfl) dL_refused_241 (fun r23 X => ?_)
                                      refine z_sipush (v := (-2053 : Int32)) X dL_refused_244 (by decide) ?_
                                      refine z_icmp_ne X 351 dL_refused_247 (by decide) ?_ ?_
                                      · refine z_aload_n X dL_refused_250 3 rfl ?_
                                        refine z_iconst (v := (0 : Int32)) X dL_refused_251 (by decide) ?_
                                        refine z_iconst (v := (0 : Int32)) X dL_refused_252 (by decide) ?_
                                        refine z_iconst (v := (0 : Int32)) X dL_refused_253 (by decide) ?_
                                        refine z_callW (P := fun K => PN K) (Q := fun K => QN K G (fun r : (Int32 × cS) => ((some (.int r.1), h, r.2) : Option Value × Int64 × cS))) (pq_N G (fun r : (Int32 × cS) => ((some (.int r.1), h, r.2) : Option Value × Int64 × cS))) X (n := 4) (fr := 8) (lo := 135) (st := []) [.ref (la G k0), .int (0 : Int32), .int (0 : Int32), .int (0 : Int32)] (fun hfl => hL_step (kl K) hfl G X.2.2.2.2.2.2.2.1 Nf h r23.2 k0 hk0 (0 : Int32) (0 : Int32) (0 : Int32)) q_21_13 q_21_12 q_4_22 q_21_11 (by decide +kernel) ⟨Nat.le_of_ble_eq_true rfl, Nat.le_of_ble_eq_true rfl⟩ rfl rfl (Nat.le_of_ble_eq_true rfl) dL_refused_254 (fun r24 X => ?_)
                                        refine z_sipush (v := (-2053 : Int32)) X dL_refused_257 (by decide) ?_
                                        refine z_icmp_ne X 351 dL_refused_260 (by decide) ?_ ?_
                                        · refine z_aload_n X dL_refused_263 3 rfl ?_
                                          refine z_iconst (v := (0 : Int32)) X dL_refused_264 (by decide) ?_
                                          refine z_callW (P := fun K => PN K) (Q := fun K => QN K G (fun r : (Int32 × cS) => ((some (.int r.1), h, r.2) : Option Value × Int64 × cS))) (pq_N G (fun r : (Int32 × cS) => ((some (.int r.1), h, r.2) : Option Value × Int64 × cS))) X (n := 2) (fr := 7) (lo := 111) (st := []) [.ref (la G k0), .int (0 : Int32)] (fun hfl => hL_inner (kl K) hfl G X.2.2.2.2.2.2.2.1 Nf h r24.2 k0 hk0 (0 : Int32)) q_22_0 q_21_23 q_4_22 q_21_22 (by decide +kernel) ⟨Nat.le_of_ble_eq_true rfl, Nat.le_of_ble_eq_true rfl⟩ rfl rfl (Nat.le_of_ble_eq_true rfl) dL_refused_265 (fun r25 X => ?_)
                                          refine z_sipush (v := (-2051 : Int32)) X dL_refused_268 (by decide) ?_
                                          refine z_icmp_ne X 351 dL_refused_271 (by decide) ?_ ?_
                                          · refine z_aload_n X dL_refused_274 3 rfl ?_
                                            refine z_iconst (v := (1 : Int32)) X dL_refused_275 (by decide) ?_
                                            refine z_iload_n X dL_refused_276 1 rfl ?_
                                            refine z_ishl X dL_refused_277 ?_
                                            refine z_callW (P := fun K => PN K) (Q := fun K => QN K G (fun r : (Int32 × cS) => ((some (.int r.1), h, r.2) : Option Value × Int64 × cS))) (pq_N G (fun r : (Int32 × cS) => ((some (.int r.1), h, r.2) : Option Value × Int64 × cS))) X (n := 2) (fr := 7) (lo := 111) (st := []) [.ref (la G k0), .int ((1 : Int32) <<< (r2 &&& 31))] (fun hfl => hL_inner (kl K) hfl G X.2.2.2.2.2.2.2.1 Nf h r25.2 k0 hk0 ((1 : Int32) <<< (r2 &&& 31))) q_22_0 q_21_23 q_4_22 q_21_22 (by decide +kernel) ⟨Nat.le_of_ble_eq_true rfl, Nat.le_of_ble_eq_true rfl⟩ rfl rfl (Nat.le_of_ble_eq_true rfl) dL_refused_278 (fun r26 X => ?_)
                                            refine z_sipush (v := (-2051 : Int32)) X dL_refused_281 (by decide) ?_
                                            refine z_icmp_ne X 351 dL_refused_284 (by decide) ?_ ?_
                                            · refine z_aload_n X dL_refused_287 3 rfl ?_
                                              refine z_iconst (v := (0 : Int32)) X dL_refused_288 (by decide) ?_
                                              refine z_iload_n X dL_refused_289 1 rfl ?_
                                              refine z_callW (P := fun K => PN K) (Q := fun K => QN K G (fun r : (Int32 × cS) => ((some (.int r.1), h, r.2) : Option Value × Int64 × cS))) (pq_N G (fun r : (Int32 × cS) => ((some (.int r.1), h, r.2) : Option Value × Int64 × cS))) X (n := 3) (fr := 8) (lo := 133) (st := []) [.ref (la G k0), .int (0 : Int32), .int r2] (fun hfl => hL_leastWith (kl K) hfl G X.2.2.2.2.2.2.2.1 Nf h r26.2 k0 hk0 (0 : Int32) r2) q_22_7 q_22_6 q_4_22 q_22_5 (by decide +kernel) ⟨Nat.le_of_ble_eq_true rfl, Nat.le_of_ble_eq_true rfl⟩ rfl rfl (Nat.le_of_ble_eq_true rfl) dL_refused_290 (fun r27 X => ?_)
                                              refine z_sipush (v := (-2053 : Int32)) X dL_refused_293 (by decide) ?_
                                              refine z_icmp_ne X 351 dL_refused_296 (by decide) ?_ ?_
                                              · refine z_aload_n X dL_refused_299 3 rfl ?_
                                                refine z_iconst (v := (1 : Int32)) X dL_refused_300 (by decide) ?_
                                                refine z_iconst (v := (1 : Int32)) X dL_refused_301 (by decide) ?_
                                                refine z_callW (P := fun K => PN K) (Q := fun K => QN K G (fun r : (Int32 × cS) => ((some (.int r.1), h, r.2) : Option Value × Int64 × cS))) (pq_N G (fun r : (Int32 × cS) => ((some (.int r.1), h, r.2) : Option Value × Int64 × cS))) X (n := 3) (fr := 8) (lo := 133) (st := []) [.ref (la G k0), .int (1 : Int32), .int (1 : Int32)] (fun hfl => hL_leastWith (kl K) hfl G X.2.2.2.2.2.2.2.1 Nf h r27.2 k0 hk0 (1 : Int32) (1 : Int32)) q_22_7 q_22_6 q_4_22 q_22_5 (by decide +kernel) ⟨Nat.le_of_ble_eq_true rfl, Nat.le_of_ble_eq_true rfl⟩ rfl rfl (Nat.le_of_ble_eq_true rfl) dL_refused_302 (fun r28 X => ?_)
                                                refine z_sipush (v := (-2051 : Int32)) X dL_refused_305 (by decide) ?_
                                                refine z_icmp_ne X 351 dL_refused_308 (by decide) ?_ ?_
                                                · refine z_aload_n X dL_refused_311 3 rfl ?_
                                                  refine z_iload X dL_refused_312 0 rfl ?_
                                                  refine z_callW (P := fun K => PN K) (Q := fun K => QN K G (fun r : (Int32 × cS) => ((some (.int r.1), h, r.2) : Option Value × Int64 × cS))) (pq_N G (fun r : (Int32 × cS) => ((some (.int r.1), h, r.2) : Option Value × Int64 × cS))) X (n := 2) (fr := 8) (lo := 134) (st := []) [.ref (la G k0), .int r3] (fun hfl => hL_leastWithout (kl K) hfl G X.2.2.2.2.2.2.2.1 Nf h r28.2 k0 hk0 r3) q_22_18 q_22_17 q_4_22 q_22_16 (by decide +kernel) ⟨Nat.le_of_ble_eq_true rfl, Nat.le_of_ble_eq_true rfl⟩ rfl rfl (Nat.le_of_ble_eq_true rfl) dL_refused_314 (fun r29 X => ?_)
                                                  refine z_sipush (v := (-2054 : Int32)) X dL_refused_317 (by decide) ?_
                                                  refine z_icmp_ne X 351 dL_refused_320 (by decide) ?_ ?_
                                                  · refine z_aload_n X dL_refused_323 3 rfl ?_
                                                    refine z_sipush (v := (128 : Int32)) X dL_refused_324 (by decide) ?_
                                                    refine z_callW (P := fun K => PN K) (Q := fun K => QN K G (fun r : (Int32 × cS) => ((some (.int r.1), h, r.2) : Option Value × Int64 × cS))) (pq_N G (fun r : (Int32 × cS) => ((some (.int r.1), h, r.2) : Option Value × Int64 × cS))) X (n := 2) (fr := 7) (lo := 111) (st := []) [.ref (la G k0), .int (128 : Int32)] (fun hfl => hL_append (kl K) hfl G X.2.2.2.2.2.2.2.1 Nf h r29.2 k0 hk0 (128 : Int32)) q_23_2 q_23_1 q_4_22 q_23_0 (by decide +kernel) ⟨Nat.le_of_ble_eq_true rfl, Nat.le_of_ble_eq_true rfl⟩ rfl rfl (Nat.le_of_ble_eq_true rfl) dL_refused_327 (fun r30 X => ?_)
                                                    refine z_sipush (v := (-2051 : Int32)) X dL_refused_330 (by decide) ?_
                                                    refine z_icmp_ne X 351 dL_refused_333 (by decide) ?_ ?_
                                                    · refine z_aload_n X dL_refused_336 3 rfl ?_
                                                      refine z_iconst (v := (-1 : Int32)) X dL_refused_337 (by decide) ?_
                                                      refine z_callW (P := fun K => PN K) (Q := fun K => QN K G (fun r : (Int32 × cS) => ((some (.int r.1), h, r.2) : Option Value × Int64 × cS))) (pq_N G (fun r : (Int32 × cS) => ((some (.int r.1), h, r.2) : Option Value × Int64 × cS))) X (n := 2) (fr := 7) (lo := 111) (st := []) [.ref (la G k0), .int (-1 : Int32)] (fun hfl => hL_append (kl K) hfl G X.2.2.2.2.2.2.2.1 Nf h r30.2 k0 hk0 (-1 : Int32)) q_23_2 q_23_1 q_4_22 q_23_0 (by decide +kernel) ⟨Nat.le_of_ble_eq_true rfl, Nat.le_of_ble_eq_true rfl⟩ rfl rfl (Nat.le_of_ble_eq_true rfl) dL_refused_338 (fun r31 X => ?_)
                                                      refine z_sipush (v := (-2051 : Int32)) X dL_refused_341 (by decide) ?_
                                                      refine z_icmp_ne X 351 dL_refused_344 (by decide) ?_ ?_
                                                      · refine z_iconst (v := (1 : Int32)) X dL_refused_347 (by decide) ?_
                                                        refine z_goto X 352 dL_refused_348 (by decide) ?_
                                                        exact z_sub [3, 2] rfl (sL_refused_352 X Nf k0 hk0 h r1.1 (1 : Int32) r31.2)
                                                      · exact z_sub [3, 2] rfl (sL_refused_351 X Nf k0 hk0 h r1.1 r31.2)
                                                    · exact z_sub [3, 2] rfl (sL_refused_351 X Nf k0 hk0 h r1.1 r30.2)
                                                  · exact z_sub [3, 2] rfl (sL_refused_351 X Nf k0 hk0 h r1.1 r29.2)
                                                · exact z_sub [3, 2] rfl (sL_refused_351 X Nf k0 hk0 h r1.1 r28.2)
                                              · exact z_sub [3, 2] rfl (sL_refused_351 X Nf k0 hk0 h r1.1 r27.2)
                                            · exact z_sub [3, 2] rfl (sL_refused_351 X Nf k0 hk0 h r1.1 r26.2)
                                          · exact z_sub [3, 2] rfl (sL_refused_351 X Nf k0 hk0 h r1.1 r25.2)
                                        · exact z_sub [3, 2] rfl (sL_refused_351 X Nf k0 hk0 h r1.1 r24.2)
                                      · exact z_sub [3, 2] rfl (sL_refused_351 X Nf k0 hk0 h r1.1 r23.2)
                                    · exact z_sub [3, 2] rfl (sL_refused_351 X Nf k0 hk0 h r1.1 r22.2)
                                  · exact z_sub [3, 2] rfl (sL_refused_351 X Nf k0 hk0 h r1.1 r21.2)
                                · exact z_sub [3, 2] rfl (sL_refused_351 X Nf k0 hk0 h r1.1 r20.2)
                              · exact z_sub [3, 2] rfl (sL_refused_351 X Nf k0 hk0 h r1.1 r18.2)
                            · exact z_sub [3, 2] rfl (sL_refused_351 X Nf k0 hk0 h r1.1 r17.2)
                          · exact z_sub [3, 2] rfl (sL_refused_351 X Nf k0 hk0 h r1.1 r16.2)
                        · exact z_sub [3, 2] rfl (sL_refused_351 X Nf k0 hk0 h r1.1 r15.2)
                      · exact z_sub [3, 2] rfl (sL_refused_351 X Nf k0 hk0 h r1.1 r14.2)
                    · exact z_sub [3, 2] rfl (sL_refused_351 X Nf k0 hk0 h r1.1 r13.2)
                  · exact z_sub [3, 2] rfl (sL_refused_351 X Nf k0 hk0 h r1.1 r12.2)
                · exact z_sub [3, 2] rfl (sL_refused_351 X Nf k0 hk0 h r1.1 r11.2)
              · exact z_sub [3, 2] rfl (sL_refused_351 X Nf k0 hk0 h r1.1 r10.2)
            · exact z_sub [3, 2] rfl (sL_refused_351 X Nf k0 hk0 h r1.1 r9.2)
          · exact z_sub [3, 2] rfl (sL_refused_351 X Nf k0 hk0 h r1.1 r8.2)
        · exact z_sub [3, 2] rfl (sL_refused_351 X Nf k0 hk0 h r1.1 r7.2)
      · exact z_sub [3, 2] rfl (sL_refused_351 X Nf k0 hk0 h r1.1 r6.2)
    · exact z_sub [3, 2] rfl (sL_refused_351 X Nf k0 hk0 h r1.1 r5.2)
  · exact z_sub [3, 2] rfl (sL_refused_351 X Nf k0 hk0 h r1.1 r4.2)
def fL_refused (L : Nat → Nat) (Nf : Nat) (σ : cS) (k0 : Nat) : Option ((Int32 × cS) × Nat) := fL_refused_0 L Nf k0 σ
set_option maxHeartbeats 4000000 in
set_option maxRecDepth 100000 in
theorem ctL_refused (l : Launch) (hfl : l.stackTraces = false) (G : Lay) (hi : Inj G) (Nf : Nat) (h : Int64) (σ : cS) (k0 : Nat) (hk0 : isEH G k0) : ∀ r, fL_refused (ll G) Nf σ k0 = some r → CN l yL_refused cL_refused 6 (some .boolean) 9 160 r.2 G [.ref (la G k0)] h σ ((fun r : (Int32 × cS) => ((some (.int r.1), h, r.2) : Option Value × Int64 × cS)) r.1) := by
  refine cn_of (g := (fun r : (Int32 × cS) => ((some (.int r.1), h, r.2) : Option Value × Int64 × cS))) (by decide) hi hfl (Nat.le_of_ble_eq_true rfl) (fun K hKl X => ?_)
  unfold fL_refused
  exact z_sub [0] rfl (sL_refused_0 X Nf k0 hk0 h σ)
