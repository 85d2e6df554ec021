theorem q_7_11 : Cond.methodLink RL 119 yX6_densest ∈ wsL_law := seg_7 _ (List.mem_of_getElem? (i := 11) rfl)
theorem q_7_12 : Cond.instanceMethod yX6_densest ∈ wsL_law := seg_7 _ (List.mem_of_getElem? (i := 12) rfl)
theorem q_7_13 : Cond.selects RX6 yX6_densest yX6_densest ∈ wsL_law := seg_7 _ (List.mem_of_getElem? (i := 13) rfl)
theorem q_7_14 : Cond.code yX6_densest cX6_densest 1 (some .int) ∈ wsL_law := seg_7 _ (List.mem_of_getElem? (i := 14) rfl)
theorem q_9_9 : Cond.methodLink RL 125 yX6_least ∈ wsL_law := seg_9 _ (List.mem_of_getElem? (i := 9) rfl)
theorem q_9_10 : Cond.instanceMethod yX6_least ∈ wsL_law := seg_9 _ (List.mem_of_getElem? (i := 10) rfl)
theorem q_9_11 : Cond.selects RX6 yX6_least yX6_least ∈ wsL_law := seg_9 _ (List.mem_of_getElem? (i := 11) rfl)
theorem q_9_12 : Cond.code yX6_least cX6_least 1 (some .int) ∈ wsL_law := seg_9 _ (List.mem_of_getElem? (i := 12) rfl)
theorem q_9_13 : Cond.methodLink RL 128 yX6_density ∈ wsL_law := seg_9 _ (List.mem_of_getElem? (i := 13) rfl)
theorem q_9_14 : Cond.instanceMethod yX6_density ∈ wsL_law := seg_9 _ (List.mem_of_getElem? (i := 14) rfl)
theorem q_9_15 : Cond.selects RX6 yX6_density yX6_density ∈ wsL_law := seg_9 _ (List.mem_of_getElem? (i := 15) rfl)
theorem q_9_16 : Cond.code yX6_density cX6_density 2 (some .double) ∈ wsL_law := seg_9 _ (List.mem_of_getElem? (i := 16) rfl)
theorem q_24_9 : Cond.constantDouble RL 132 (4602678819172646912) ∈ wsL_law := seg_24 _ (List.mem_of_getElem? (i := 9) rfl)
theorem q_24_10 : Cond.methodLink RL 122 yX6_tooDense ∈ wsL_law := seg_24 _ (List.mem_of_getElem? (i := 10) rfl)
theorem q_24_11 : Cond.instanceMethod yX6_tooDense ∈ wsL_law := seg_24 _ (List.mem_of_getElem? (i := 11) rfl)
theorem q_24_12 : Cond.selects RX6 yX6_tooDense yX6_tooDense ∈ wsL_law := seg_24 _ (List.mem_of_getElem? (i := 12) rfl)
theorem q_24_13 : Cond.code yX6_tooDense cX6_tooDense 1 (some .int) ∈ wsL_law := seg_24 _ (List.mem_of_getElem? (i := 13) rfl)
theorem q_24_18 : Cond.methodLink RL 134 yX6_leastCapacity ∈ wsL_law := seg_24 _ (List.mem_of_getElem? (i := 18) rfl)
theorem q_24_19 : Cond.instanceMethod yX6_leastCapacity ∈ wsL_law := seg_24 _ (List.mem_of_getElem? (i := 19) rfl)
theorem q_24_20 : Cond.selects RX6 yX6_leastCapacity yX6_leastCapacity ∈ wsL_law := seg_24 _ (List.mem_of_getElem? (i := 20) rfl)
theorem q_24_21 : Cond.code yX6_leastCapacity cX6_leastCapacity 1 (some .int) ∈ wsL_law := seg_24 _ (List.mem_of_getElem? (i := 21) rfl)
theorem cal_X6_densest : Cal yX6_densest RX6 cX6_densest 1 (some .int) 0 := ⟨q_7_14, q_7_12, q_7_13, q_1_2, by decide +kernel⟩
theorem cal_X6_density : Cal yX6_density RX6 cX6_density 2 (some .double) 0 := ⟨q_9_16, q_9_14, q_9_15, q_1_2, by decide +kernel⟩
theorem cal_X6_least : Cal yX6_least RX6 cX6_least 1 (some .int) 0 := ⟨q_9_12, q_9_10, q_9_11, q_1_2, by decide +kernel⟩
theorem cal_X6_leastCapacity : Cal yX6_leastCapacity RX6 cX6_leastCapacity 1 (some .int) 0 := ⟨q_24_21, q_24_19, q_24_20, q_1_2, by decide +kernel⟩
theorem cal_X6_tooDense : Cal yX6_tooDense RX6 cX6_tooDense 1 (some .int) 0 := ⟨q_24_13, q_24_11, q_24_12, q_1_2, by decide +kernel⟩
def fL_areHeld_555 (L : Nat → Nat) (Nf : Nat) (k0 : Nat) (y0 : Int32) (σ : cS) : Option (Int32 × cS) := grd (isb y0) (some (y0, σ))
set_option maxHeartbeats 4000000 in
set_option maxRecDepth 100000 in
theorem sL_areHeld_555 {K : MCx} {G : Lay} (X : Cx K G RL cL_areHeld 16 (some .boolean) 8 135) (Nf : Nat) (k0 : Nat) (hk0 : isEH G k0) (h : Int64) (y0 : Int32) (σ : cS) : Sm K G TT (QM K G (fun r : (Int32 × cS) => ((some (.int r.1), h, r.2) : Option Value × Int64 × cS))) 16 555 [] [.int y0] h σ (fL_areHeld_555 (ll G) Nf k0 y0 σ) := by
  unfold fL_areHeld_555
  exact z_zret X rfl dL_areHeld_555
def fL_areHeld_554 (L : Nat → Nat) (Nf : Nat) (k0 : Nat) (σ : cS) : Option (Int32 × cS) := fL_areHeld_555 L Nf k0 (0 : Int32) σ
set_option maxHeartbeats 4000000 in
set_option maxRecDepth 100000 in
theorem sL_areHeld_554 {K : MCx} {G : Lay} (X : Cx K G RL cL_areHeld 16 (some .boolean) 8 135) (Nf : Nat) (k0 : Nat) (hk0 : isEH G k0) (h : Int64) (σ : cS) : Sm K G TT (QM K G (fun r : (Int32 × cS) => ((some (.int r.1), h, r.2) : Option Value × Int64 × cS))) 16 554 [] [] h σ (fL_areHeld_554 (ll G) Nf k0 σ) := by
  unfold fL_areHeld_554
  refine z_iconst (v := (0 : Int32)) X dL_areHeld_554 (by decide) ?_
  exact z_sub [] rfl (sL_areHeld_555 X Nf k0 hk0 h (0 : Int32) σ)
def fL_areHeld_478 (L : Nat → Nat) (Nf : Nat) (k0 : Nat) (x2 : Int32) (x3 : Int32) (x4 : Int32) (x5 : Int32) (x6 : Int32) (x7 : Int32) (x8 : Int32) (x9 : Int32) (σ : cS) : Option (Int32 × cS) := if x8 = 0 then (fL_areHeld_554 L Nf k0 σ) else (ibn (fX6_value L Nf σ k0 (1 : Int32)) (fun r1 => if x2 = r1 then (if x3 = ((2 : Int32) * x2) then (ibn (fX6_value L Nf σ k0 (2 : Int32)) (fun r2 => if x5 = r2 then (ibn (fX6_value L Nf σ k0 (3 : Int32)) (fun r3 => if x6 = r3 then (ibn (fX6_value L Nf σ k0 (4 : Int32)) (fun r4 => if x4 = r4 then (ibn (fX6_value L Nf σ k0 (7 : Int32)) (fun r5 => if x7 = r5 then (ibn (fX6_value L Nf σ k0 (5 : Int32)) (fun r6 => if r6 < x9 then (fL_areHeld_554 L Nf k0 σ) else (fL_areHeld_555 L Nf k0 (1 : Int32) σ))) else (fL_areHeld_554 L Nf k0 σ))) else (fL_areHeld_554 L Nf k0 σ))) else (fL_areHeld_554 L Nf k0 σ))) else (fL_areHeld_554 L Nf k0 σ))) else (fL_areHeld_554 L Nf k0 σ)) else (fL_areHeld_554 L Nf k0 σ)))
set_option maxHeartbeats 4000000 in
set_option maxRecDepth 100000 in
theorem sL_areHeld_478 {K : MCx} {G : Lay} (X : Cx K G RL cL_areHeld 16 (some .boolean) 8 135) (Nf : Nat) (k0 : Nat) (hk0 : isEH G k0) (h : Int64) (x2 : Int32) (x3 : Int32) (x4 : Int32) (x5 : Int32) (x6 : Int32) (x7 : Int32) (x8 : Int32) (x9 : Int32) (σ : cS) : Sm K G TT (QM K G (fun r : (Int32 × cS) => ((some (.int r.1), h, r.2) : Option Value × Int64 × cS))) 16 478 [(0, .ref (la G k0)), (2, .int x2), (3, .int x3), (4, .int x4), (5, .int x5), (6, .int x6), (7, .int x7), (8, .int x8), (9, .int x9)] [] h σ (fL_areHeld_478 (ll G) Nf k0 x2 x3 x4 x5 x6 x7 x8 x9 σ) := by
  unfold fL_areHeld_478
  refine z_iload X dL_areHeld_478 7 rfl ?_
  refine z_if_eq X 554 dL_areHeld_480 (by decide) ?_ ?_
  · exact z_sub [] rfl (sL_areHeld_554 X Nf k0 hk0 h σ)
  · refine z_iload_n X dL_areHeld_483 1 rfl ?_
    refine z_aload_n X dL_areHeld_484 0 rfl ?_
    refine z_iconst (v := (1 : Int32)) X dL_areHeld_485 (by decide) ?_
    refine z_callVN X (g := (fun r1 : Int32 => ((some (.int r1), h, σ) : Option Value × Int64 × cS))) (st := [.int x2]) (st1 := (fun r1 : Int32 => [.int r1, .int x2])) (rmf := 6) (rml := 90) [.int (1 : Int32)] k0 cal_X6_value q_6_2 ⟨Nat.le_of_ble_eq_true rfl, Nat.le_of_ble_eq_true rfl⟩ rfl rfl (Nat.le_of_ble_eq_true rfl) rfl hk0.1 (ce6 hk0.1 _ _) (ctX6_value_n (kl K) G X.2.2.2.2.2.2.2.1 Nf h σ k0 hk0 (1 : Int32)) dL_areHeld_486 (fun _ => rfl) (fun r1 => ?_)
    refine z_icmp_ne X 554 dL_areHeld_489 (by decide) ?_ ?_
    · refine z_iload_n X dL_areHeld_492 2 rfl ?_
      refine z_iconst (v := (2 : Int32)) X dL_areHeld_493 (by decide) ?_
      refine z_iload_n X dL_areHeld_494 1 rfl ?_
      refine z_imul X dL_areHeld_495 ?_
      refine z_icmp_ne X 554 dL_areHeld_496 (by decide) ?_ ?_
      · refine z_iload X dL_areHeld_499 4 rfl ?_
        refine z_aload_n X dL_areHeld_501 0 rfl ?_
        refine z_iconst (v := (2 : Int32)) X dL_areHeld_502 (by decide) ?_
        refine z_callVN X (g := (fun r2 : Int32 => ((some (.int r2), h, σ) : Option Value × Int64 × cS))) (st := [.int x5]) (st1 := (fun r2 : Int32 => [.int r2, .int x5])) (rmf := 6) (rml := 90) [.int (2 : Int32)] k0 cal_X6_value q_6_2 ⟨Nat.le_of_ble_eq_true rfl, Nat.le_of_ble_eq_true rfl⟩ rfl rfl (Nat.le_of_ble_eq_true rfl) rfl hk0.1 (ce6 hk0.1 _ _) (ctX6_value_n (kl K) G X.2.2.2.2.2.2.2.1 Nf h σ k0 hk0 (2 : Int32)) dL_areHeld_503 (fun _ => rfl) (fun r2 => ?_)
        refine z_icmp_ne X 554 dL_areHeld_506 (by decide) ?_ ?_
        · refine z_iload X dL_areHeld_509 5 rfl ?_
          refine z_aload_n X dL_areHeld_511 0 rfl ?_
          refine z_iconst (v := (3 : Int32)) X dL_areHeld_512 (by decide) ?_
          refine z_callVN X (g := (fun r3 : Int32 => ((some (.int r3), h, σ) : Option Value × Int64 × cS))) (st := [.int x6]) (st1 := (fun r3 : Int32 => [.int r3, .int x6])) (rmf := 6) (rml := 90) [.int (3 : Int32)] k0 cal_X6_value q_6_2 ⟨Nat.le_of_ble_eq_true rfl, Nat.le_of_ble_eq_true rfl⟩ rfl rfl (Nat.le_of_ble_eq_true rfl) rfl hk0.1 (ce6 hk0.1 _ _) (ctX6_value_n (kl K) G X.2.2.2.2.2.2.2.1 Nf h σ k0 hk0 (3 : Int32)) dL_areHeld_513 (fun _ => rfl) (fun r3 => ?_)
          refine z_icmp_ne X 554 dL_areHeld_516 (by decide) ?_ ?_
          · refine z_iload X dL_areHeld_519 3 rfl ?_
            refine z_aload_n X dL_areHeld_521 0 rfl ?_
            refine z_iconst (v := (4 : Int32)) X dL_areHeld_522 (by decide) ?_
            refine z_callVN X (g := (fun r4 : Int32 => ((some (.int r4), h, σ) : Option Value × Int64 × cS))) (st := [.int x4]) (st1 := (fun r4 : Int32 => [.int r4, .int x4])) (rmf := 6) (rml := 90) [.int (4 : Int32)] k0 cal_X6_value q_6_2 ⟨Nat.le_of_ble_eq_true rfl, Nat.le_of_ble_eq_true rfl⟩ rfl rfl (Nat.le_of_ble_eq_true rfl) rfl hk0.1 (ce6 hk0.1 _ _) (ctX6_value_n (kl K) G X.2.2.2.2.2.2.2.1 Nf h σ k0 hk0 (4 : Int32)) dL_areHeld_523 (fun _ => rfl) (fun r4 => ?_)
            refine z_icmp_ne X 554 dL_areHeld_526 (by decide) ?_ ?_
            · refine z_iload X dL_areHeld_529 6 rfl ?_
              refine z_aload_n X dL_areHeld_531 0 rfl ?_
              refine z_bipush (v := (7 : Int32)) X dL_areHeld_532 (by decide) ?_
              refine z_callVN X (g := (fun r5 : Int32 => ((some (.int r5), h, σ) : Option Value × Int64 × cS))) (st := [.int x7]) (st1 := (fun r5 : Int32 => [.int r5, .int x7])) (rmf := 6) (rml := 90) [.int (7 : Int32)] k0 cal_X6_value q_6_2 ⟨Nat.le_of_ble_eq_true rfl, Nat.le_of_ble_eq_true rfl⟩ rfl rfl (Nat.le_of_ble_eq_true rfl) rfl hk0.1 (ce6 hk0.1 _ _) (ctX6_value_n (kl K) G X.2.2.2.2.2.2.2.1 Nf h σ k0 hk0 (7 : Int32)) dL_areHeld_534 (fun _ => rfl) (fun r5 => ?_)
              refine z_icmp_ne X 554 dL_areHeld_537 (by decide) ?_ ?_
              · refine z_iload X dL_areHeld_540 8 rfl ?_
                refine z_aload_n X dL_areHeld_542 0 rfl ?_
                refine z_iconst (v := (5 : Int32)) X dL_areHeld_543 (by decide) ?_
                refine z_callVN X (g := (fun r6 : Int32 => ((some (.int r6), h, σ) : Option Value × Int64 × cS))) (st := [.int x9]) (st1 := (fun r6 : Int32 => [.int r6, .int x9])) (rmf := 6) (rml := 90) [.int (5 : Int32)] k0 cal_X6_value q_6_2 ⟨Nat.le_of_ble_eq_true rfl, Nat.le_of_ble_eq_true rfl⟩ rfl rfl (Nat.le_of_ble_eq_true rfl) rfl hk0.1 (ce6 hk0.1 _ _) (ctX6_value_n (kl K) G X.2.2.2.2.2.2.2.1 Nf h σ k0 hk0 (5 : Int32)) dL_areHeld_544 (fun _ => rfl) (fun r6 => ?_)
                refine z_icmp_gt X 554 dL_areHeld_547 (by decide) ?_ ?_
                · exact z_sub [] rfl (sL_areHeld_554 X Nf k0 hk0 h σ)
                · refine z_iconst (v := (1 : Int32)) X dL_areHeld_550 (by decide) ?_
                  refine z_goto X 555 dL_areHeld_551 (by decide) ?_
                  exact z_sub [] rfl (sL_areHeld_555 X Nf k0 hk0 h (1 : Int32) σ)
              · exact z_sub [] rfl (sL_areHeld_554 X Nf k0 hk0 h σ)
            · exact z_sub [] rfl (sL_areHeld_554 X Nf k0 hk0 h σ)
          · exact z_sub [] rfl (sL_areHeld_554 X Nf k0 hk0 h σ)
        · exact z_sub [] rfl (sL_areHeld_554 X Nf k0 hk0 h σ)
      · exact z_sub [] rfl (sL_areHeld_554 X Nf k0 hk0 h σ)
    · exact z_sub [] rfl (sL_areHeld_554 X Nf k0 hk0 h σ)
def fL_areHeld_470 (L : Nat → Nat) (Nf : Nat) (k0 : Nat) (self350 : Int32 → Int32 → Int32 → Int32 → Int32 → Int32 → Int32 → Int32 → Int32 → cS → Option (Int32 × cS)) (x2 : Int32) (x3 : Int32) (x4 : Int32) (x5 : Int32) (x6 : Int32) (x7 : Int32) (x9 : Int32) (x10 : Int32) (y0 : Int32) (σ : cS) : Option (Int32 × cS) := bnd (x10 + (1 : Int32)) (fun t1 => self350 x2 x3 x4 x5 x6 x7 y0 x9 t1 σ)
set_option maxHeartbeats 4000000 in
set_option maxRecDepth 100000 in
theorem sL_areHeld_470 {K : MCx} {G : Lay} (X : Cx K G RL cL_areHeld 16 (some .boolean) 8 135) (Nf : Nat) (k0 : Nat) (hk0 : isEH G k0) (h : Int64) (self350 : Int32 → Int32 → Int32 → Int32 → Int32 → Int32 → Int32 → Int32 → Int32 → cS → Option (Int32 × cS)) (hself350 : ∀ (x2 : Int32) (x3 : Int32) (x4 : Int32) (x5 : Int32) (x6 : Int32) (x7 : Int32) (x8 : Int32) (x9 : Int32) (x10 : Int32) (σ : cS), Sm K G TT (QM K G (fun r : (Int32 × cS) => ((some (.int r.1), h, r.2) : Option Value × Int64 × cS))) 16 350 [(0, .ref (la G k0)), (2, .int x2), (3, .int x3), (4, .int x4), (5, .int x5), (6, .int x6), (7, .int x7), (8, .int x8), (9, .int x9), (10, .int x10)] [] h σ (self350 x2 x3 x4 x5 x6 x7 x8 x9 x10 σ)) (x2 : Int32) (x3 : Int32) (x4 : Int32) (x5 : Int32) (x6 : Int32) (x7 : Int32) (x9 : Int32) (x10 : Int32) (y0 : Int32) (σ : cS) : Sm K G TT (QM K G (fun r : (Int32 × cS) => ((some (.int r.1), h, r.2) : Option Value × Int64 × cS))) 16 470 [(0, .ref (la G k0)), (2, .int x2), (3, .int x3), (4, .int x4), (5, .int x5), (6, .int x6), (7, .int x7), (9, .int x9), (10, .int x10)] [.int y0] h σ (fL_areHeld_470 (ll G) Nf k0 self350 x2 x3 x4 x5 x6 x7 x9 x10 y0 σ) := by
  unfold fL_areHeld_470
  refine z_istore X [(8, .int y0), (0, .ref (la G k0)), (2, .int x2), (3, .int x3), (4, .int x4), (5, .int x5), (6, .int x6), (7, .int x7), (9, .int x9), (10, .int x10)] dL_areHeld_470 (by decide) rfl ?_
  refine z_iinc X (fun t1 => [(10, .int t1), (8, .int y0), (0, .ref (la G k0)), (2, .int x2), (3, .int x3), (4, .int x4), (5, .int x5), (6, .int x6), (7, .int x7), (9, .int x9)]) dL_areHeld_472 9 rfl (by decide) (by decide) (fun _ => rfl) (fun t1 => ?_)
  refine z_goto X 350 dL_areHeld_475 (by decide) ?_
  exact z_sub [2, 3, 4, 5, 6, 7, 8, 1, 9, 0] rfl (hself350 x2 x3 x4 x5 x6 x7 y0 x9 t1 σ)
def fL_areHeld_469 (L : Nat → Nat) (Nf : Nat) (k0 : Nat) (self350 : Int32 → Int32 → Int32 → Int32 → Int32 → Int32 → Int32 → Int32 → Int32 → cS → Option (Int32 × cS)) (x2 : Int32) (x3 : Int32) (x4 : Int32) (x5 : Int32) (x6 : Int32) (x7 : Int32) (x9 : Int32) (x10 : Int32) (σ : cS) : Option (Int32 × cS) := fL_areHeld_470 L Nf k0 self350 x2 x3 x4 x5 x6 x7 x9 x10 (0 : Int32) σ
set_option maxHeartbeats 4000000 in
set_option maxRecDepth 100000 in
theorem sL_areHeld_469 {K : MCx} {G : Lay} (X : Cx K G RL cL_areHeld 16 (some .boolean) 8 135) (Nf : Nat) (k0 : Nat) (hk0 : isEH G k0) (h : Int64) (self350 : Int32 → Int32 → Int32 → Int32 → Int32 → Int32 → Int32 → Int32 → Int32 → cS → Option (Int32 × cS)) (hself350 : ∀ (x2 : Int32) (x3 : Int32) (x4 : Int32) (x5 : Int32) (x6 : Int32) (x7 : Int32) (x8 : Int32) (x9 : Int32) (x10 : Int32) (σ : cS), Sm K G TT (QM K G (fun r : (Int32 × cS) => ((some (.int r.1), h, r.2) : Option Value × Int64 × cS))) 16 350 [(0, .ref (la G k0)), (2, .int x2), (3, .int x3), (4, .int x4), (5, .int x5), (6, .int x6), (7, .int x7), (8, .int x8), (9, .int x9), (10, .int x10)] [] h σ (self350 x2 x3 x4 x5 x6 x7 x8 x9 x10 σ)) (x2 : Int32) (x3 : Int32) (x4 : Int32) (x5 : Int32) (x6 : Int32) (x7 : Int32) (x9 : Int32) (x10 : Int32) (σ : cS) : Sm K G TT (QM K G (fun r : (Int32 × cS) => ((some (.int r.1), h, r.2) : Option Value × Int64 × cS))) 16 469 [(0, .ref (la G k0)), (2, .int x2), (3, .int x3), (4, .int x4), (5, .int x5), (6, .int x6), (7, .int x7), (9, .int x9), (10, .int x10)] [] h σ (fL_areHeld_469 (ll G) Nf k0 self350 x2 x3 x4 x5 x6 x7 x9 x10 σ) := by
  unfold fL_areHeld_469
  refine z_iconst (v := (0 : Int32)) X dL_areHeld_469 (by decide) ?_
  exact z_sub [0, 1, 2, 3, 4, 5, 6, 7, 8] rfl (sL_areHeld_470 X Nf k0 hk0 h self350 hself350 x2 x3 x4 x5 x6 x7 x9 x10 (0 : Int32) σ)
def fL_areHeld_465 (L : Nat → Nat) (Nf : Nat) (k0 : Nat) (self350 : Int32 → Int32 → Int32 → Int32 → Int32 → Int32 → Int32 → Int32 → Int32 → cS → Option (Int32 × cS)) (x2 : Int32) (x3 : Int32) (x4 : Int32) (x5 : Int32) (x6 : Int32) (x7 : Int32) (x9 : Int32) (x10 : Int32) (σ : cS) : Option (Int32 × cS) := fL_areHeld_470 L Nf k0 self350 x2 x3 x4 x5 x6 x7 x9 x10 (1 : Int32) σ
set_option maxHeartbeats 4000000 in
set_option maxRecDepth 100000 in
theorem sL_areHeld_465 {K : MCx} {G : Lay} (X : Cx K G RL cL_areHeld 16 (some .boolean) 8 135) (Nf : Nat) (k0 : Nat) (hk0 : isEH G k0) (h : Int64) (self350 : Int32 → Int32 → Int32 → Int32 → Int32 → Int32 → Int32 → Int32 → Int32 → cS → Option (Int32 × cS)) (hself350 : ∀ (x2 : Int32) (x3 : Int32) (x4 : Int32) (x5 : Int32) (x6 : Int32) (x7 : Int32) (x8 : Int32) (x9 : Int32) (x10 : Int32) (σ : cS), Sm K G TT (QM K G (fun r : (Int32 × cS) => ((some (.int r.1), h, r.2) : Option Value × Int64 × cS))) 16 350 [(0, .ref (la G k0)), (2, .int x2), (3, .int x3), (4, .int x4), (5, .int x5), (6, .int x6), (7, .int x7), (8, .int x8), (9, .int x9), (10, .int x10)] [] h σ (self350 x2 x3 x4 x5 x6 x7 x8 x9 x10 σ)) (x2 : Int32) (x3 : Int32) (x4 : Int32) (x5 : Int32) (x6 : Int32) (x7 : Int32) (x9 : Int32) (x10 : Int32) (σ : cS) : Sm K G TT (QM K G (fun r : (Int32 × cS) => ((some (.int r.1), h, r.2) : Option Value × Int64 × cS))) 16 465 [(0, .ref (la G k0)), (2, .int x2), (3, .int x3), (4, .int x4), (5, .int x5), (6, .int x6), (7, .int x7), (9, .int x9), (10, .int x10)] [] h σ (fL_areHeld_465 (ll G) Nf k0 self350 x2 x3 x4 x5 x6 x7 x9 x10 σ) := by
  unfold fL_areHeld_465
  refine z_iconst (v := (1 : Int32)) X dL_areHeld_465 (by decide) ?_
  refine z_goto X 470 dL_areHeld_466 (by decide) ?_
  exact z_sub [0, 1, 2, 3, 4, 5, 6, 7, 8] rfl (sL_areHeld_470 X Nf k0 hk0 h self350 hself350 x2 x3 x4 x5 x6 x7 x9 x10 (1 : Int32) σ)
def fL_areHeld_436 (L : Nat → Nat) (Nf : Nat) (k0 : Nat) (self350 : Int32 → Int32 → Int32 → Int32 → Int32 → Int32 → Int32 → Int32 → Int32 → cS → Option (Int32 × cS)) (x2 : Int32) (x3 : Int32) (x4 : Int32) (x5 : Int32) (x6 : Int32) (x7 : Int32) (x9 : Int32) (x10 : Int32) (x11 : Int32) (σ : cS) : Option (Int32 × cS) := ibn (fX6_value L Nf σ k0 (6 : Int32)) (fun r1 => if r1 ≤ x11 then (fL_areHeld_469 L Nf k0 self350 x2 x3 x4 x5 x6 x7 x9 x10 σ) else (if x10 = 0 then (fL_areHeld_465 L Nf k0 self350 x2 x3 x4 x5 x6 x7 x9 x10 σ) else (ibn (fX6_edgeAt L σ k0 (x10 - (1 : Int32))) (fun r2 => if x11 ≤ r2 then (fL_areHeld_469 L Nf k0 self350 x2 x3 x4 x5 x6 x7 x9 x10 σ) else (fL_areHeld_465 L Nf k0 self350 x2 x3 x4 x5 x6 x7 x9 x10 σ)))))
set_option maxHeartbeats 4000000 in
set_option maxRecDepth 100000 in
theorem sL_areHeld_436 {K : MCx} {G : Lay} (X : Cx K G RL cL_areHeld 16 (some .boolean) 8 135) (Nf : Nat) (k0 : Nat) (hk0 : isEH G k0) (h : Int64) (self350 : Int32 → Int32 → Int32 → Int32 → Int32 → Int32 → Int32 → Int32 → Int32 → cS → Option (Int32 × cS)) (hself350 : ∀ (x2 : Int32) (x3 : Int32) (x4 : Int32) (x5 : Int32) (x6 : Int32) (x7 : Int32) (x8 : Int32) (x9 : Int32) (x10 : Int32) (σ : cS), Sm K G TT (QM K G (fun r : (Int32 × cS) => ((some (.int r.1), h, r.2) : Option Value × Int64 × cS))) 16 350 [(0, .ref (la G k0)), (2, .int x2), (3, .int x3), (4, .int x4), (5, .int x5), (6, .int x6), (7, .int x7), (8, .int x8), (9, .int x9), (10, .int x10)] [] h σ (self350 x2 x3 x4 x5 x6 x7 x8 x9 x10 σ)) (x2 : Int32) (x3 : Int32) (x4 : Int32) (x5 : Int32) (x6 : Int32) (x7 : Int32) (x9 : Int32) (x10 : Int32) (x11 : Int32) (σ : cS) : Sm K G TT (QM K G (fun r : (Int32 × cS) => ((some (.int r.1), h, r.2) : Option Value × Int64 × cS))) 16 436 [(0, .ref (la G k0)), (2, .int x2), (3, .int x3), (4, .int x4), (5, .int x5), (6, .int x6), (7, .int x7), (9, .int x9), (10, .int x10), (11, .int x11)] [] h σ (fL_areHeld_436 (ll G) Nf k0 self350 x2 x3 x4 x5 x6 x7 x9 x10 x11 σ) := by
  unfold fL_areHeld_436
  refine z_iload X dL_areHeld_436 9 rfl ?_
  refine z_aload_n X dL_areHeld_438 0 rfl ?_
  refine z_bipush (v := (6 : Int32)) X dL_areHeld_439 (by decide) ?_
  refine z_callVN X (g := (fun r1 : Int32 => ((some (.int r1), h, σ) : Option Value × Int64 × cS))) (st := [.int x11]) (st1 := (fun r1 : Int32 => [.int r1, .int x11])) (rmf := 6) (rml := 90) [.int (6 : Int32)] k0 cal_X6_value q_6_2 ⟨Nat.le_of_ble_eq_true rfl, Nat.le_of_ble_eq_true rfl⟩ rfl rfl (Nat.le_of_ble_eq_true rfl) rfl hk0.1 (ce6 hk0.1 _ _) (ctX6_value_n (kl K) G X.2.2.2.2.2.2.2.1 Nf h σ k0 hk0 (6 : Int32)) dL_areHeld_441 (fun _ => rfl) (fun r1 => ?_)
  refine z_icmp_ge X 469 dL_areHeld_444 (by decide) ?_ ?_
  · exact z_sub [0, 1, 2, 3, 4, 5, 6, 7, 8] rfl (sL_areHeld_469 X Nf k0 hk0 h self350 hself350 x2 x3 x4 x5 x6 x7 x9 x10 σ)
  · refine z_iload X dL_areHeld_447 8 rfl ?_
    refine z_if_eq X 465 dL_areHeld_449 (by decide) ?_ ?_
    · exact z_sub [0, 1, 2, 3, 4, 5, 6, 7, 8] rfl (sL_areHeld_465 X Nf k0 hk0 h self350 hself350 x2 x3 x4 x5 x6 x7 x9 x10 σ)
    · refine z_iload X dL_areHeld_452 9 rfl ?_
      refine z_aload_n X dL_areHeld_454 0 rfl ?_
      refine z_iload X dL_areHeld_455 8 rfl ?_
      refine z_iconst (v := (1 : Int32)) X dL_areHeld_457 (by decide) ?_
      refine z_isub X dL_areHeld_458 ?_
      refine z_callVN X (g := (fun r2 : Int32 => ((some (.int r2), h, σ) : Option Value × Int64 × cS))) (st := [.int x11]) (st1 := (fun r2 : Int32 => [.int r2, .int x11])) (rmf := 6) (rml := 90) [.int (x10 - (1 : Int32))] k0 cal_X6_edgeAt q_17_22 ⟨Nat.le_of_ble_eq_true rfl, Nat.le_of_ble_eq_true rfl⟩ rfl rfl (Nat.le_of_ble_eq_true rfl) rfl hk0.1 (ce6 hk0.1 _ _) (ctX6_edgeAt_n (kl K) G X.2.2.2.2.2.2.2.1 h σ k0 hk0 (x10 - (1 : Int32))) dL_areHeld_459 (fun _ => rfl) (fun r2 => ?_)
      refine z_icmp_le X 469 dL_areHeld_462 (by decide) ?_ ?_
      · exact z_sub [0, 1, 2, 3, 4, 5, 6, 7, 8] rfl (sL_areHeld_469 X Nf k0 hk0 h self350 hself350 x2 x3 x4 x5 x6 x7 x9 x10 σ)
      · exact z_sub [0, 1, 2, 3, 4, 5, 6, 7, 8] rfl (sL_areHeld_465 X Nf k0 hk0 h self350 hself350 x2 x3 x4 x5 x6 x7 x9 x10 σ)
def fL_areHeld_350 (L : Nat → Nat) (Nf : Nat) (k0 : Nat) : Nat → Int32 → Int32 → Int32 → Int32 → Int32 → Int32 → Int32 → Int32 → Int32 → cS → Option (Int32 × cS)
  | 0, _, _, _, _, _, _, _, _, _, _ => none
  | n + 1, x2, x3, x4, x5, x6, x7, x8, x9, x10, σ => ibn (fX6_value L Nf σ k0 (1 : Int32)) (fun r1 => if r1 ≤ x10 then (fL_areHeld_478 L Nf k0 x2 x3 x4 x5 x6 x7 x8 x9 σ) else (if x8 = 0 then (fL_areHeld_478 L Nf k0 x2 x3 x4 x5 x6 x7 x8 x9 σ) else (ibn (fX6_edgeAt L σ k0 x10) (fun r2 => ibn (fX6_edge L Nf σ k0 r2 (3 : Int32)) (fun r3 => bnd ((x9 + r3)) (fun t4 => ibn (fX6_edge L Nf σ k0 r2 (0 : Int32)) (fun r5 => ibn (fX6_edge L Nf σ k0 r2 (1 : Int32)) (fun r6 => if r5 = r6 then (fL_areHeld_469 L Nf k0 (fL_areHeld_350 L Nf k0 n) x2 x3 x4 x5 x6 x7 t4 x10 σ) else (ibn (fX6_edge L Nf σ k0 r2 (2 : Int32)) (fun r7 => ibn (fX6_edge L Nf σ k0 r2 (0 : Int32)) (fun r8 => if r7 = r8 then (fL_areHeld_436 L Nf k0 (fL_areHeld_350 L Nf k0 n) x2 x3 x4 x5 x6 x7 t4 x10 r2 σ) else (ibn (fX6_edge L Nf σ k0 r2 (2 : Int32)) (fun r9 => ibn (fX6_edge L Nf σ k0 r2 (1 : Int32)) (fun r10 => if r9 = r10 then (fL_areHeld_436 L Nf k0 (fL_areHeld_350 L Nf k0 n) x2 x3 x4 x5 x6 x7 t4 x10 r2 σ) else (fL_areHeld_469 L Nf k0 (fL_areHeld_350 L Nf k0 n) x2 x3 x4 x5 x6 x7 t4 x10 σ)))))))))))))))
set_option maxHeartbeats 4000000 in
set_option maxRecDepth 100000 in
theorem sL_areHeld_350 {K : MCx} {G : Lay} (X : Cx K G RL cL_areHeld 16 (some .boolean) 8 135) (Nf : Nat) (k0 : Nat) (hk0 : isEH G k0) (h : Int64) : ∀ (n : Nat) (x2 : Int32) (x3 : Int32) (x4 : Int32) (x5 : Int32) (x6 : Int32) (x7 : Int32) (x8 : Int32) (x9 : Int32) (x10 : Int32) (σ : cS), Sm K G TT (QM K G (fun r : (Int32 × cS) => ((some (.int r.1), h, r.2) : Option Value × Int64 × cS))) 16 350 [(0, .ref (la G k0)), (2, .int x2), (3, .int x3), (4, .int x4), (5, .int x5), (6, .int x6), (7, .int x7), (8, .int x8), (9, .int x9), (10, .int x10)] [] h σ (fL_areHeld_350 (ll G) Nf k0 n x2 x3 x4 x5 x6 x7 x8 x9 x10 σ) := by
  intro n
  induction n with
  | zero => intros; exact z_none
  | succ n ih =>
    intro x2 x3 x4 x5 x6 x7 x8 x9 x10 σ
    unfold fL_areHeld_350
    refine z_iload X dL_areHeld_350 9 rfl ?_
    refine z_aload_n X dL_areHeld_352 0 rfl ?_
    refine z_iconst (v := (1 : Int32)) X dL_areHeld_353 (by decide) ?_
    refine z_callVN X (g := (fun r1 : Int32 => ((some (.int r1), h, σ) : Option Value × Int64 × cS))) (st := [.int x10]) (st1 := (fun r1 : Int32 => [.int r1, .int x10])) (rmf := 6) (rml := 90) [.int (1 : Int32)] k0 cal_X6_value q_6_2 ⟨Nat.le_of_ble_eq_true rfl, Nat.le_of_ble_eq_true rfl⟩ rfl rfl (Nat.le_of_ble_eq_true rfl) rfl hk0.1 (ce6 hk0.1 _ _) (ctX6_value_n (kl K) G X.2.2.2.2.2.2.2.1 Nf h σ k0 hk0 (1 : Int32)) dL_areHeld_354 (fun _ => rfl) (fun r1 => ?_)
    refine z_icmp_ge X 478 dL_areHeld_357 (by decide) ?_ ?_
    · exact z_sub [0, 1, 2, 3, 4, 5, 6, 7, 8] rfl (sL_areHeld_478 X Nf k0 hk0 h x2 x3 x4 x5 x6 x7 x8 x9 σ)
    · refine z_iload X dL_areHeld_360 7 rfl ?_
      refine z_if_eq X 478 dL_areHeld_362 (by decide) ?_ ?_
      · exact z_sub [0, 1, 2, 3, 4, 5, 6, 7, 8] rfl (sL_areHeld_478 X Nf k0 hk0 h x2 x3 x4 x5 x6 x7 x8 x9 σ)
      · refine z_aload_n X dL_areHeld_365 0 rfl ?_
        refine z_iload X dL_areHeld_366 9 rfl ?_
        refine z_callVN X (g := (fun r2 : Int32 => ((some (.int r2), h, σ) : Option Value × Int64 × cS))) (st := []) (st1 := (fun r2 : Int32 => [.int r2])) (rmf := 6) (rml := 90) [.int x10] k0 cal_X6_edgeAt q_17_22 ⟨Nat.le_of_ble_eq_true rfl, Nat.le_of_ble_eq_true rfl⟩ rfl rfl (Nat.le_of_ble_eq_true rfl) rfl hk0.1 (ce6 hk0.1 _ _) (ctX6_edgeAt_n (kl K) G X.2.2.2.2.2.2.2.1 h σ k0 hk0 x10) dL_areHeld_368 (fun _ => rfl) (fun r2 => ?_)
        refine z_istore X [(11, .int r2), (0, .ref (la G k0)), (2, .int x2), (3, .int x3), (4, .int x4), (5, .int x5), (6, .int x6), (7, .int x7), (8, .int x8), (9, .int x9), (10, .int x10)] dL_areHeld_371 (by decide) rfl ?_
        refine z_iload X dL_areHeld_373 9 rfl ?_
        refine z_aload_n X dL_areHeld_375 1 rfl ?_
        refine z_iload X dL_areHeld_376 0 rfl ?_
        refine z_iconst (v := (3 : Int32)) X dL_areHeld_378 (by decide) ?_
        refine z_callVN X (g := (fun r3 : Int32 => ((some (.int r3), h, σ) : Option Value × Int64 × cS))) (st := [.int x9]) (st1 := (fun r3 : Int32 => [.int r3, .int x9])) (rmf := 7) (rml := 112) [.int r2, .int (3 : Int32)] k0 cal_X6_edge q_18_2 ⟨Nat.le_of_ble_eq_true rfl, Nat.le_of_ble_eq_true rfl⟩ rfl rfl (Nat.le_of_ble_eq_true rfl) rfl hk0.1 (ce6 hk0.1 _ _) (ctX6_edge_n (kl K) G X.2.2.2.2.2.2.2.1 Nf h σ k0 hk0 r2 (3 : Int32)) dL_areHeld_379 (fun _ => rfl) (fun r3 => ?_)
        refine z_iadd X dL_areHeld_382 ?_
        refine z_nm (fun t4 => ?_)
        refine z_istore X [(9, .int t4), (11, .int r2), (0, .ref (la G k0)), (2, .int x2), (3, .int x3), (4, .int x4), (5, .int x5), (6, .int x6), (7, .int x7), (8, .int x8), (10, .int x10)] dL_areHeld_383 (by decide) rfl ?_
        refine z_aload_n X dL_areHeld_385 2 rfl ?_
        refine z_iload X dL_areHeld_386 1 rfl ?_
        refine z_iconst (v := (0 : Int32)) X dL_areHeld_388 (by decide) ?_
        refine z_callVN X (g := (fun r5 : Int32 => ((some (.int r5), h, σ) : Option Value × Int64 × cS))) (st := []) (st1 := (fun r5 : Int32 => [.int r5])) (rmf := 7) (rml := 112) [.int r2, .int (0 : Int32)] k0 cal_X6_edge q_18_2 ⟨Nat.le_of_ble_eq_true rfl, Nat.le_of_ble_eq_true rfl⟩ rfl rfl (Nat.le_of_ble_eq_true rfl) rfl hk0.1 (ce6 hk0.1 _ _) (ctX6_edge_n (kl K) G X.2.2.2.2.2.2.2.1 Nf h σ k0 hk0 r2 (0 : Int32)) dL_areHeld_389 (fun _ => rfl) (fun r5 => ?_)
        refine z_aload_n X dL_areHeld_392 2 rfl ?_
        refine z_iload X dL_areHeld_393 1 rfl ?_
        refine z_iconst (v := (1 : Int32)) X dL_areHeld_395 (by decide) ?_
        refine z_callVN X (g := (fun r6 : Int32 => ((some (.int r6), h, σ) : Option Value × Int64 × cS))) (st := [.int r5]) (st1 := (fun r6 : Int32 => [.int r6, .int r5])) (rmf := 7) (rml := 112) [.int r2, .int (1 : Int32)] k0 cal_X6_edge q_18_2 ⟨Nat.le_of_ble_eq_true rfl, Nat.le_of_ble_eq_true rfl⟩ rfl rfl (Nat.le_of_ble_eq_true rfl) rfl hk0.1 (ce6 hk0.1 _ _) (ctX6_edge_n (kl K) G X.2.2.2.2.2.2.2.1 Nf h σ k0 hk0 r2 (1 : Int32)) dL_areHeld_396 (fun _ => rfl) (fun r6 => ?_)
        refine z_icmp_eq X 469 dL_areHeld_399 (by decide) ?_ ?_
        · exact z_sub [2, 3, 4, 5, 6, 7, 8, 0, 10] rfl (sL_areHeld_469 X Nf k0 hk0 h (fL_areHeld_350 (ll G) Nf k0 n) ih x2 x3 x4 x5 x6 x7 t4 x10 σ)
        · refine z_aload_n X dL_areHeld_402 2 rfl ?_
          refine z_iload X dL_areHeld_403 1 rfl ?_
          refine z_iconst (v := (2 : Int32)) X dL_areHeld_405 (by decide) ?_
          refine z_callVN X (g := (fun r7 : Int32 => ((some (.int r7), h, σ) : Option Value × Int64 × cS))) (st := []) (st1 := (fun r7 : Int32 => [.int r7])) (rmf := 7) (rml := 112) [.int r2, .int (2 : Int32)] k0 cal_X6_edge q_18_2 ⟨Nat.le_of_ble_eq_true rfl, Nat.le_of_ble_eq_true rfl⟩ rfl rfl (Nat.le_of_ble_eq_true rfl) rfl hk0.1 (ce6 hk0.1 _ _) (ctX6_edge_n (kl K) G X.2.2.2.2.2.2.2.1 Nf h σ k0 hk0 r2 (2 : Int32)) dL_areHeld_406 (fun _ => rfl) (fun r7 => ?_)
          refine z_aload_n X dL_areHeld_409 2 rfl ?_
          refine z_iload X dL_areHeld_410 1 rfl ?_
          refine z_iconst (v := (0 : Int32)) X dL_areHeld_412 (by decide) ?_
          refine z_callVN X (g := (fun r8 : Int32 => ((some (.int r8), h, σ) : Option Value × Int64 × cS))) (st := [.int r7]) (st1 := (fun r8 : Int32 => [.int r8, .int r7])) (rmf := 7) (rml := 112) [.int r2, .int (0 : Int32)] k0 cal_X6_edge q_18_2 ⟨Nat.le_of_ble_eq_true rfl, Nat.le_of_ble_eq_true rfl⟩ rfl rfl (Nat.le_of_ble_eq_true rfl) rfl hk0.1 (ce6 hk0.1 _ _) (ctX6_edge_n (kl K) G X.2.2.2.2.2.2.2.1 Nf h σ k0 hk0 r2 (0 : Int32)) dL_areHeld_413 (fun _ => rfl) (fun r8 => ?_)
          refine z_icmp_eq X 436 dL_areHeld_416 (by decide) ?_ ?_
          · exact z_sub [2, 3, 4, 5, 6, 7, 8, 0, 10, 1] rfl (sL_areHeld_436 X Nf k0 hk0 h (fL_areHeld_350 (ll G) Nf k0 n) ih x2 x3 x4 x5 x6 x7 t4 x10 r2 σ)
          · refine z_aload_n X dL_areHeld_419 2 rfl ?_
            refine z_iload X dL_areHeld_420 1 rfl ?_
            refine z_iconst (v := (2 : Int32)) X dL_areHeld_422 (by decide) ?_
            refine z_callVN X (g := (fun r9 : Int32 => ((some (.int r9), h, σ) : Option Value × Int64 × cS))) (st := []) (st1 := (fun r9 : Int32 => [.int r9])) (rmf := 7) (rml := 112) [.int r2, .int (2 : Int32)] k0 cal_X6_edge q_18_2 ⟨Nat.le_of_ble_eq_true rfl, Nat.le_of_ble_eq_true rfl⟩ rfl rfl (Nat.le_of_ble_eq_true rfl) rfl hk0.1 (ce6 hk0.1 _ _) (ctX6_edge_n (kl K) G X.2.2.2.2.2.2.2.1 Nf h σ k0 hk0 r2 (2 : Int32)) dL_areHeld_423 (fun _ => rfl) (fun r9 => ?_)
            refine z_aload_n X dL_areHeld_426 2 rfl ?_
            refine z_iload X dL_areHeld_427 1 rfl ?_
            refine z_iconst (v := (1 : Int32)) X dL_areHeld_429 (by decide) ?_
            refine z_callVN X (g := (fun r10 : Int32 => ((some (.int r10), h, σ) : Option Value × Int64 × cS))) (st := [.int r9]) (st1 := (fun r10 : Int32 => [.int r10, .int r9])) (rmf := 7) (rml := 112) [.int r2, .int (1 : Int32)] k0 cal_X6_edge q_18_2 ⟨Nat.le_of_ble_eq_true rfl, Nat.le_of_ble_eq_true rfl⟩ rfl rfl (Nat.le_of_ble_eq_true rfl) rfl hk0.1 (ce6 hk0.1 _ _) (ctX6_edge_n (kl K) G X.2.2.2.2.2.2.2.1 Nf h σ k0 hk0 r2 (1 : Int32)) dL_areHeld_430 (fun _ => rfl) (fun r10 => ?_)
            refine z_icmp_ne X 469 dL_areHeld_433 (by decide) ?_ ?_
            · exact z_sub [2, 3, 4, 5, 6, 7, 8, 0, 10, 1] rfl (sL_areHeld_436 X Nf k0 hk0 h (fL_areHeld_350 (ll G) Nf k0 n) ih x2 x3 x4 x5 x6 x7 t4 x10 r2 σ)
            · exact z_sub [2, 3, 4, 5, 6, 7, 8, 0, 10] rfl (sL_areHeld_469 X Nf k0 hk0 h (fL_areHeld_350 (ll G) Nf k0 n) ih x2 x3 x4 x5 x6 x7 t4 x10 σ)
def fL_areHeld_344 (L : Nat → Nat) (Nf : Nat) (k0 : Nat) (x2 : Int32) (x3 : Int32) (x4 : Int32) (x5 : Int32) (x6 : Int32) (x7 : Int32) (x8 : Int32) (σ : cS) : Option (Int32 × cS) := fL_areHeld_350 L Nf k0 Nf x2 x3 x4 x5 x6 x7 x8 (0 : Int32) (0 : Int32) σ
set_option maxHeartbeats 4000000 in
set_option maxRecDepth 100000 in
theorem sL_areHeld_344 {K : MCx} {G : Lay} (X : Cx K G RL cL_areHeld 16 (some .boolean) 8 135) (Nf : Nat) (k0 : Nat) (hk0 : isEH G k0) (h : Int64) (x2 : Int32) (x3 : Int32) (x4 : Int32) (x5 : Int32) (x6 : Int32) (x7 : Int32) (x8 : Int32) (σ : cS) : Sm K G TT (QM K G (fun r : (Int32 × cS) => ((some (.int r.1), h, r.2) : Option Value × Int64 × cS))) 16 344 [(0, .ref (la G k0)), (2, .int x2), (3, .int x3), (4, .int x4), (5, .int x5), (6, .int x6), (7, .int x7), (8, .int x8)] [] h σ (fL_areHeld_344 (ll G) Nf k0 x2 x3 x4 x5 x6 x7 x8 σ) := by
  unfold fL_areHeld_344
  refine z_iconst (v := (0 : Int32)) X dL_areHeld_344 (by decide) ?_
  refine z_istore X [(9, .int (0 : Int32)), (0, .ref (la G k0)), (2, .int x2), (3, .int x3), (4, .int x4), (5, .int x5), (6, .int x6), (7, .int x7), (8, .int x8)] dL_areHeld_345 (by decide) rfl ?_
  refine z_iconst (v := (0 : Int32)) X dL_areHeld_347 (by decide) ?_
  refine z_istore X [(10, .int (0 : Int32)), (9, .int (0 : Int32)), (0, .ref (la G k0)), (2, .int x2), (3, .int x3), (4, .int x4), (5, .int x5), (6, .int x6), (7, .int x7), (8, .int x8)] dL_areHeld_348 (by decide) rfl ?_
  exact z_sub [2, 3, 4, 5, 6, 7, 8, 9, 1, 0] rfl (sL_areHeld_350 X Nf k0 hk0 h Nf x2 x3 x4 x5 x6 x7 x8 (0 : Int32) (0 : Int32) σ)
def fL_areHeld_335 (L : Nat → Nat) (Nf : Nat) (k0 : Nat) (self29 : Int32 → Int32 → Int32 → Int32 → Int32 → Int32 → Int32 → Int32 → Int32 → cS → Option (Int32 × cS)) (x1 : Int32) (x2 : Int32) (x3 : Int32) (x4 : Int32) (x5 : Int32) (x6 : Int32) (x8 : Int32) (x9 : Int32) (y0 : Int32) (y1 : Int32) (σ : cS) : Option (Int32 × cS) := bnd ((y0 + y1)) (fun t1 => bnd (x9 + (1 : Int32)) (fun t2 => self29 x1 x2 x3 x4 x5 x6 t1 x8 t2 σ))
set_option maxHeartbeats 4000000 in
set_option maxRecDepth 100000 in
theorem sL_areHeld_335 {K : MCx} {G : Lay} (X : Cx K G RL cL_areHeld 16 (some .boolean) 8 135) (Nf : Nat) (k0 : Nat) (hk0 : isEH G k0) (h : Int64) (self29 : Int32 → Int32 → Int32 → Int32 → Int32 → Int32 → Int32 → Int32 → Int32 → cS → Option (Int32 × cS)) (hself29 : ∀ (x1 : Int32) (x2 : Int32) (x3 : Int32) (x4 : Int32) (x5 : Int32) (x6 : Int32) (x7 : Int32) (x8 : Int32) (x9 : Int32) (σ : cS), Sm K G TT (QM K G (fun r : (Int32 × cS) => ((some (.int r.1), h, r.2) : Option Value × Int64 × cS))) 16 29 [(0, .ref (la G k0)), (1, .int x1), (2, .int x2), (3, .int x3), (4, .int x4), (5, .int x5), (6, .int x6), (7, .int x7), (8, .int x8), (9, .int x9)] [] h σ (self29 x1 x2 x3 x4 x5 x6 x7 x8 x9 σ)) (x1 : Int32) (x2 : Int32) (x3 : Int32) (x4 : Int32) (x5 : Int32) (x6 : Int32) (x8 : Int32) (x9 : Int32) (y0 : Int32) (y1 : Int32) (σ : cS) : Sm K G TT (QM K G (fun r : (Int32 × cS) => ((some (.int r.1), h, r.2) : Option Value × Int64 × cS))) 16 335 [(0, .ref (la G k0)), (1, .int x1), (2, .int x2), (3, .int x3), (4, .int x4), (5, .int x5), (6, .int x6), (8, .int x8), (9, .int x9)] [.int y1, .int y0] h σ (fL_areHeld_335 (ll G) Nf k0 self29 x1 x2 x3 x4 x5 x6 x8 x9 y0 y1 σ) := by
  unfold fL_areHeld_335
  refine z_iadd X dL_areHeld_335 ?_
  refine z_nm (fun t1 => ?_)
  refine z_istore X [(7, .int t1), (0, .ref (la G k0)), (1, .int x1), (2, .int x2), (3, .int x3), (4, .int x4), (5, .int x5), (6, .int x6), (8, .int x8), (9, .int x9)] dL_areHeld_336 (by decide) rfl ?_
  refine z_iinc X (fun t2 => [(9, .int t2), (7, .int t1), (0, .ref (la G k0)), (1, .int x1), (2, .int x2), (3, .int x3), (4, .int x4), (5, .int x5), (6, .int x6), (8, .int x8)]) dL_areHeld_338 9 rfl (by decide) (by decide) (fun _ => rfl) (fun t2 => ?_)
  refine z_goto X 29 dL_areHeld_341 (by decide) ?_
  exact z_sub [2, 3, 4, 5, 6, 7, 8, 1, 9, 0] rfl (hself29 x1 x2 x3 x4 x5 x6 t1 x8 t2 σ)
def fL_areHeld_314 (L : Nat → Nat) (Nf : Nat) (k0 : Nat) (self29 : Int32 → Int32 → Int32 → Int32 → Int32 → Int32 → Int32 → Int32 → Int32 → cS → Option (Int32 × cS)) (x1 : Int32) (x2 : Int32) (x3 : Int32) (x4 : Int32) (x5 : Int32) (x7 : Int32) (x8 : Int32) (x9 : Int32) (x10 : Int32) (y0 : Int32) (σ : cS) : Option (Int32 × cS) := ibn (fX6_node L Nf σ k0 x9 (2 : Int32)) (fun r1 => if x10 ≤ r1.1 then (fL_areHeld_335 L Nf k0 self29 x1 x2 x3 x4 x5 y0 x8 x9 x7 (0 : Int32) r1.2) else (fL_areHeld_335 L Nf k0 self29 x1 x2 x3 x4 x5 y0 x8 x9 x7 (1 : Int32) r1.2))
set_option maxHeartbeats 4000000 in
set_option maxRecDepth 100000 in
theorem sL_areHeld_314 {K : MCx} {G : Lay} (X : Cx K G RL cL_areHeld 16 (some .boolean) 8 135) (Nf : Nat) (k0 : Nat) (hk0 : isEH G k0) (h : Int64) (self29 : Int32 → Int32 → Int32 → Int32 → Int32 → Int32 → Int32 → Int32 → Int32 → cS → Option (Int32 × cS)) (hself29 : ∀ (x1 : Int32) (x2 : Int32) (x3 : Int32) (x4 : Int32) (x5 : Int32) (x6 : Int32) (x7 : Int32) (x8 : Int32) (x9 : Int32) (σ : cS), Sm K G TT (QM K G (fun r : (Int32 × cS) => ((some (.int r.1), h, r.2) : Option Value × Int64 × cS))) 16 29 [(0, .ref (la G k0)), (1, .int x1), (2, .int x2), (3, .int x3), (4, .int x4), (5, .int x5), (6, .int x6), (7, .int x7), (8, .int x8), (9, .int x9)] [] h σ (self29 x1 x2 x3 x4 x5 x6 x7 x8 x9 σ)) (x1 : Int32) (x2 : Int32) (x3 : Int32) (x4 : Int32) (x5 : Int32) (x7 : Int32) (x8 : Int32) (x9 : Int32) (x10 : Int32) (y0 : Int32) (σ : cS) : Sm K G TT (QM K G (fun r : (Int32 × cS) => ((some (.int r.1), h, r.2) : Option Value × Int64 × cS))) 16 314 [(0, .ref (la G k0)), (1, .int x1), (2, .int x2), (3, .int x3), (4, .int x4), (5, .int x5), (7, .int x7), (8, .int x8), (9, .int x9), (10, .int x10)] [.int y0] h σ (fL_areHeld_314 (ll G) Nf k0 self29 x1 x2 x3 x4 x5 x7 x8 x9 x10 y0 σ) := by
  unfold fL_areHeld_314
  refine z_istore X [(6, .int y0), (0, .ref (la G k0)), (1, .int x1), (2, .int x2), (3, .int x3), (4, .int x4), (5, .int x5), (7, .int x7), (8, .int x8), (9, .int x9), (10, .int x10)] dL_areHeld_314 (by decide) rfl ?_
  refine z_iload X dL_areHeld_316 7 rfl ?_
  refine z_iload X dL_areHeld_318 10 rfl ?_
  refine z_aload_n X dL_areHeld_320 1 rfl ?_
  refine z_iload X dL_areHeld_321 9 rfl ?_
  refine z_iconst (v := (2 : Int32)) X dL_areHeld_323 (by decide) ?_
  refine z_callVN X (g := (fun r1 : (Int32 × cS) => ((some (.int r1.1), h, r1.2) : Option Value × Int64 × cS))) (st := [.int x10, .int x7]) (st1 := (fun r1 : (Int32 × cS) => [.int r1.1, .int x10, .int x7])) (rmf := 7) (rml := 111) [.int x9, .int (2 : Int32)] k0 cal_X6_node q_17_3 ⟨Nat.le_of_ble_eq_true rfl, Nat.le_of_ble_eq_true rfl⟩ rfl rfl (Nat.le_of_ble_eq_true rfl) rfl hk0.1 (ce6 hk0.1 _ _) (ctX6_node_n (kl K) G X.2.2.2.2.2.2.2.1 Nf h σ k0 hk0 x9 (2 : Int32)) dL_areHeld_324 (fun _ => rfl) (fun r1 => ?_)
  refine z_icmp_le X 334 dL_areHeld_327 (by decide) ?_ ?_
  · refine z_iconst (v := (0 : Int32)) X dL_areHeld_334 (by decide) ?_
    exact z_sub [1, 2, 3, 4, 5, 6, 0, 8, 9] rfl (sL_areHeld_335 X Nf k0 hk0 h self29 hself29 x1 x2 x3 x4 x5 y0 x8 x9 x7 (0 : Int32) r1.2)
  · refine z_iconst (v := (1 : Int32)) X dL_areHeld_330 (by decide) ?_
    refine z_goto X 335 dL_areHeld_331 (by decide) ?_
    exact z_sub [1, 2, 3, 4, 5, 6, 0, 8, 9] rfl (sL_areHeld_335 X Nf k0 hk0 h self29 hself29 x1 x2 x3 x4 x5 y0 x8 x9 x7 (1 : Int32) r1.2)
def fL_areHeld_298 (L : Nat → Nat) (Nf : Nat) (k0 : Nat) (self29 : Int32 → Int32 → Int32 → Int32 → Int32 → Int32 → Int32 → Int32 → Int32 → cS → Option (Int32 × cS)) (x1 : Int32) (x2 : Int32) (x3 : Int32) (x4 : Int32) (x6 : Int32) (x7 : Int32) (x8 : Int32) (x9 : Int32) (x10 : Int32) (y0 : Int32) (σ : cS) : Option (Int32 × cS) := if x6 ≤ x10 then (fL_areHeld_314 L Nf k0 self29 x1 x2 x3 x4 y0 x7 x8 x9 x10 x6 σ) else (fL_areHeld_314 L Nf k0 self29 x1 x2 x3 x4 y0 x7 x8 x9 x10 x10 σ)
set_option maxHeartbeats 4000000 in
set_option maxRecDepth 100000 in
theorem sL_areHeld_298 {K : MCx} {G : Lay} (X : Cx K G RL cL_areHeld 16 (some .boolean) 8 135) (Nf : Nat) (k0 : Nat) (hk0 : isEH G k0) (h : Int64) (self29 : Int32 → Int32 → Int32 → Int32 → Int32 → Int32 → Int32 → Int32 → Int32 → cS → Option (Int32 × cS)) (hself29 : ∀ (x1 : Int32) (x2 : Int32) (x3 : Int32) (x4 : Int32) (x5 : Int32) (x6 : Int32) (x7 : Int32) (x8 : Int32) (x9 : Int32) (σ : cS), Sm K G TT (QM K G (fun r : (Int32 × cS) => ((some (.int r.1), h, r.2) : Option Value × Int64 × cS))) 16 29 [(0, .ref (la G k0)), (1, .int x1), (2, .int x2), (3, .int x3), (4, .int x4), (5, .int x5), (6, .int x6), (7, .int x7), (8, .int x8), (9, .int x9)] [] h σ (self29 x1 x2 x3 x4 x5 x6 x7 x8 x9 σ)) (x1 : Int32) (x2 : Int32) (x3 : Int32) (x4 : Int32) (x6 : Int32) (x7 : Int32) (x8 : Int32) (x9 : Int32) (x10 : Int32) (y0 : Int32) (σ : cS) : Sm K G TT (QM K G (fun r : (Int32 × cS) => ((some (.int r.1), h, r.2) : Option Value × Int64 × cS))) 16 298 [(0, .ref (la G k0)), (1, .int x1), (2, .int x2), (3, .int x3), (4, .int x4), (6, .int x6), (7, .int x7), (8, .int x8), (9, .int x9), (10, .int x10)] [.int y0] h σ (fL_areHeld_298 (ll G) Nf k0 self29 x1 x2 x3 x4 x6 x7 x8 x9 x10 y0 σ) := by
  unfold fL_areHeld_298
  refine z_istore X [(5, .int y0), (0, .ref (la G k0)), (1, .int x1), (2, .int x2), (3, .int x3), (4, .int x4), (6, .int x6), (7, .int x7), (8, .int x8), (9, .int x9), (10, .int x10)] dL_areHeld_298 (by decide) rfl ?_
  refine z_iload X dL_areHeld_300 10 rfl ?_
  refine z_iload X dL_areHeld_302 6 rfl ?_
  refine z_icmp_ge X 312 dL_areHeld_304 (by decide) ?_ ?_
  · refine z_iload X dL_areHeld_312 6 rfl ?_
    exact z_sub [1, 2, 3, 4, 5, 0, 7, 8, 9, 10] rfl (sL_areHeld_314 X Nf k0 hk0 h self29 hself29 x1 x2 x3 x4 y0 x7 x8 x9 x10 x6 σ)
  · refine z_iload X dL_areHeld_307 10 rfl ?_
    refine z_goto X 314 dL_areHeld_309 (by decide) ?_
    exact z_sub [1, 2, 3, 4, 5, 0, 7, 8, 9, 10] rfl (sL_areHeld_314 X Nf k0 hk0 h self29 hself29 x1 x2 x3 x4 y0 x7 x8 x9 x10 x10 σ)
def fL_areHeld_262 (L : Nat → Nat) (Nf : Nat) (k0 : Nat) (self29 : Int32 → Int32 → Int32 → Int32 → Int32 → Int32 → Int32 → Int32 → Int32 → cS → Option (Int32 × cS)) (x1 : Int32) (x2 : Int32) (x3 : Int32) (x4 : Int32) (x5 : Int32) (x6 : Int32) (x7 : Int32) (x9 : Int32) (x10 : Int32) (x11 : Int32) (y0 : Int32) (σ : cS) : Option (Int32 × cS) := bnd ((x2 + x10)) (fun t1 => bnd ((x3 + x11)) (fun t2 => bnd ((x4 + (x10 * x10))) (fun t3 => if x10 ≤ x5 then (fL_areHeld_298 L Nf k0 self29 x1 t1 t2 t3 x6 x7 y0 x9 x10 x5 σ) else (fL_areHeld_298 L Nf k0 self29 x1 t1 t2 t3 x6 x7 y0 x9 x10 x10 σ))))
set_option maxHeartbeats 4000000 in
set_option maxRecDepth 100000 in
theorem sL_areHeld_262 {K : MCx} {G : Lay} (X : Cx K G RL cL_areHeld 16 (some .boolean) 8 135) (Nf : Nat) (k0 : Nat) (hk0 : isEH G k0) (h : Int64) (self29 : Int32 → Int32 → Int32 → Int32 → Int32 → Int32 → Int32 → Int32 → Int32 → cS → Option (Int32 × cS)) (hself29 : ∀ (x1 : Int32) (x2 : Int32) (x3 : Int32) (x4 : Int32) (x5 : Int32) (x6 : Int32) (x7 : Int32) (x8 : Int32) (x9 : Int32) (σ : cS), Sm K G TT (QM K G (fun r : (Int32 × cS) => ((some (.int r.1), h, r.2) : Option Value × Int64 × cS))) 16 29 [(0, .ref (la G k0)), (1, .int x1), (2, .int x2), (3, .int x3), (4, .int x4), (5, .int x5), (6, .int x6), (7, .int x7), (8, .int x8), (9, .int x9)] [] h σ (self29 x1 x2 x3 x4 x5 x6 x7 x8 x9 σ)) (x1 : Int32) (x2 : Int32) (x3 : Int32) (x4 : Int32) (x5 : Int32) (x6 : Int32) (x7 : Int32) (x9 : Int32) (x10 : Int32) (x11 : Int32) (y0 : Int32) (σ : cS) : Sm K G TT (QM K G (fun r : (Int32 × cS) => ((some (.int r.1), h, r.2) : Option Value × Int64 × cS))) 16 262 [(0, .ref (la G k0)), (1, .int x1), (2, .int x2), (3, .int x3), (4, .int x4), (5, .int x5), (6, .int x6), (7, .int x7), (9, .int x9), (10, .int x10), (11, .int x11)] [.int y0] h σ (fL_areHeld_262 (ll G) Nf k0 self29 x1 x2 x3 x4 x5 x6 x7 x9 x10 x11 y0 σ) := by
  unfold fL_areHeld_262
  refine z_istore X [(8, .int y0), (0, .ref (la G k0)), (1, .int x1), (2, .int x2), (3, .int x3), (4, .int x4), (5, .int x5), (6, .int x6), (7, .int x7), (9, .int x9), (10, .int x10), (11, .int x11)] dL_areHeld_262 (by decide) rfl ?_
  refine z_iload_n X dL_areHeld_264 3 rfl ?_
  refine z_iload X dL_areHeld_265 10 rfl ?_
  refine z_iadd X dL_areHeld_267 ?_
  refine z_nm (fun t1 => ?_)
  refine z_istore_n X [(2, .int t1), (8, .int y0), (0, .ref (la G k0)), (1, .int x1), (3, .int x3), (4, .int x4), (5, .int x5), (6, .int x6), (7, .int x7), (9, .int x9), (10, .int x10), (11, .int x11)] dL_areHeld_268 (by decide) rfl ?_
  refine z_iload_n X dL_areHeld_269 4 rfl ?_
  refine z_iload X dL_areHeld_270 11 rfl ?_
  refine z_iadd X dL_areHeld_272 ?_
  refine z_nm (fun t2 => ?_)
  refine z_istore_n X [(3, .int t2), (2, .int t1), (8, .int y0), (0, .ref (la G k0)), (1, .int x1), (4, .int x4), (5, .int x5), (6, .int x6), (7, .int x7), (9, .int x9), (10, .int x10), (11, .int x11)] dL_areHeld_273 (by decide) rfl ?_
  refine z_iload X dL_areHeld_274 5 rfl ?_
  refine z_iload X dL_areHeld_276 10 rfl ?_
  refine z_iload X dL_areHeld_278 10 rfl ?_
  refine z_imul X dL_areHeld_280 ?_
  refine z_iadd X dL_areHeld_281 ?_
  refine z_nm (fun t3 => ?_)
  refine z_istore X [(4, .int t3), (3, .int t2), (2, .int t1), (8, .int y0), (0, .ref (la G k0)), (1, .int x1), (5, .int x5), (6, .int x6), (7, .int x7), (9, .int x9), (10, .int x10), (11, .int x11)] dL_areHeld_282 (by decide) rfl ?_
  refine z_iload X dL_areHeld_284 10 rfl ?_
  refine z_iload X dL_areHeld_286 6 rfl ?_
  refine z_icmp_le X 296 dL_areHeld_288 (by decide) ?_ ?_
  · refine z_iload X dL_areHeld_296 6 rfl ?_
    exact z_sub [4, 5, 2, 1, 0, 7, 8, 3, 9, 10] rfl (sL_areHeld_298 X Nf k0 hk0 h self29 hself29 x1 t1 t2 t3 x6 x7 y0 x9 x10 x5 σ)
  · refine z_iload X dL_areHeld_291 10 rfl ?_
    refine z_goto X 298 dL_areHeld_293 (by decide) ?_
    exact z_sub [4, 5, 2, 1, 0, 7, 8, 3, 9, 10] rfl (sL_areHeld_298 X Nf k0 hk0 h self29 hself29 x1 t1 t2 t3 x6 x7 y0 x9 x10 x10 σ)
def fL_areHeld_261 (L : Nat → Nat) (Nf : Nat) (k0 : Nat) (self29 : Int32 → Int32 → Int32 → Int32 → Int32 → Int32 → Int32 → Int32 → Int32 → cS → Option (Int32 × cS)) (x1 : Int32) (x2 : Int32) (x3 : Int32) (x4 : Int32) (x5 : Int32) (x6 : Int32) (x7 : Int32) (x9 : Int32) (x10 : Int32) (x11 : Int32) (σ : cS) : Option (Int32 × cS) := fL_areHeld_262 L Nf k0 self29 x1 x2 x3 x4 x5 x6 x7 x9 x10 x11 (0 : Int32) σ
set_option maxHeartbeats 4000000 in
set_option maxRecDepth 100000 in
theorem sL_areHeld_261 {K : MCx} {G : Lay} (X : Cx K G RL cL_areHeld 16 (some .boolean) 8 135) (Nf : Nat) (k0 : Nat) (hk0 : isEH G k0) (h : Int64) (self29 : Int32 → Int32 → Int32 → Int32 → Int32 → Int32 → Int32 → Int32 → Int32 → cS → Option (Int32 × cS)) (hself29 : ∀ (x1 : Int32) (x2 : Int32) (x3 : Int32) (x4 : Int32) (x5 : Int32) (x6 : Int32) (x7 : Int32) (x8 : Int32) (x9 : Int32) (σ : cS), Sm K G TT (QM K G (fun r : (Int32 × cS) => ((some (.int r.1), h, r.2) : Option Value × Int64 × cS))) 16 29 [(0, .ref (la G k0)), (1, .int x1), (2, .int x2), (3, .int x3), (4, .int x4), (5, .int x5), (6, .int x6), (7, .int x7), (8, .int x8), (9, .int x9)] [] h σ (self29 x1 x2 x3 x4 x5 x6 x7 x8 x9 σ)) (x1 : Int32) (x2 : Int32) (x3 : Int32) (x4 : Int32) (x5 : Int32) (x6 : Int32) (x7 : Int32) (x9 : Int32) (x10 : Int32) (x11 : Int32) (σ : cS) : Sm K G TT (QM K G (fun r : (Int32 × cS) => ((some (.int r.1), h, r.2) : Option Value × Int64 × cS))) 16 261 [(0, .ref (la G k0)), (1, .int x1), (2, .int x2), (3, .int x3), (4, .int x4), (5, .int x5), (6, .int x6), (7, .int x7), (9, .int x9), (10, .int x10), (11, .int x11)] [] h σ (fL_areHeld_261 (ll G) Nf k0 self29 x1 x2 x3 x4 x5 x6 x7 x9 x10 x11 σ) := by
  unfold fL_areHeld_261
  refine z_iconst (v := (0 : Int32)) X dL_areHeld_261 (by decide) ?_
  exact z_sub [0, 1, 2, 3, 4, 5, 6, 7, 8, 9, 10] rfl (sL_areHeld_262 X Nf k0 hk0 h self29 hself29 x1 x2 x3 x4 x5 x6 x7 x9 x10 x11 (0 : Int32) σ)
def fL_areHeld_197 (L : Nat → Nat) (Nf : Nat) (k0 : Nat) (self29 : Int32 → Int32 → Int32 → Int32 → Int32 → Int32 → Int32 → Int32 → Int32 → cS → Option (Int32 × cS)) : Nat → Int32 → Int32 → Int32 → Int32 → Int32 → Int32 → Int32 → Int32 → Int32 → Int32 → Int32 → Int32 → Int32 → cS → Option (Int32 × cS)
  | 0, _, _, _, _, _, _, _, _, _, _, _, _, _, _ => none
  | n + 1, x1, x2, x3, x4, x5, x6, x7, x9, x10, x11, x12, x13, x14, σ => if x1 ≤ x14 then (ibn (fX6_node L Nf σ k0 x9 (0 : Int32)) (fun r1 => if x10 = r1.1 then (ibn (fX6_node L Nf r1.2 k0 x9 (1 : Int32)) (fun r2 => if x11 = r2.1 then (ibn (fX6_node L Nf r2.2 k0 x9 (3 : Int32)) (fun r3 => if x13 = r3.1 then (fL_areHeld_262 L Nf k0 self29 x1 x2 x3 x4 x5 x6 x7 x9 x10 x11 (1 : Int32) r3.2) else (fL_areHeld_261 L Nf k0 self29 x1 x2 x3 x4 x5 x6 x7 x9 x10 x11 r3.2))) else (fL_areHeld_261 L Nf k0 self29 x1 x2 x3 x4 x5 x6 x7 x9 x10 x11 r2.2))) else (fL_areHeld_261 L Nf k0 self29 x1 x2 x3 x4 x5 x6 x7 x9 x10 x11 r1.2))) else (bnd ((x13 + ((x12 >>> (x14 &&& 31)) &&& (1 : Int32)))) (fun t4 => bnd (x14 + (1 : Int32)) (fun t5 => fL_areHeld_197 L Nf k0 self29 n x1 x2 x3 x4 x5 x6 x7 x9 x10 x11 x12 t4 t5 σ)))
set_option maxHeartbeats 4000000 in
set_option maxRecDepth 100000 in
theorem sL_areHeld_197 {K : MCx} {G : Lay} (X : Cx K G RL cL_areHeld 16 (some .boolean) 8 135) (Nf : Nat) (k0 : Nat) (hk0 : isEH G k0) (h : Int64) (self29 : Int32 → Int32 → Int32 → Int32 → Int32 → Int32 → Int32 → Int32 → Int32 → cS → Option (Int32 × cS)) (hself29 : ∀ (x1 : Int32) (x2 : Int32) (x3 : Int32) (x4 : Int32) (x5 : Int32) (x6 : Int32) (x7 : Int32) (x8 : Int32) (x9 : Int32) (σ : cS), Sm K G TT (QM K G (fun r : (Int32 × cS) => ((some (.int r.1), h, r.2) : Option Value × Int64 × cS))) 16 29 [(0, .ref (la G k0)), (1, .int x1), (2, .int x2), (3, .int x3), (4, .int x4), (5, .int x5), (6, .int x6), (7, .int x7), (8, .int x8), (9, .int x9)] [] h σ (self29 x1 x2 x3 x4 x5 x6 x7 x8 x9 σ)) : ∀ (n : Nat) (x1 : Int32) (x2 : Int32) (x3 : Int32) (x4 : Int32) (x5 : Int32) (x6 : Int32) (x7 : Int32) (x9 : Int32) (x10 : Int32) (x11 : Int32) (x12 : Int32) (x13 : Int32) (x14 : Int32) (σ : cS), Sm K G TT (QM K G (fun r : (Int32 × cS) => ((some (.int r.1), h, r.2) : Option Value × Int64 × cS))) 16 197 [(0, .ref (la G k0)), (1, .int x1), (2, .int x2), (3, .int x3), (4, .int x4), (5, .int x5), (6, .int x6), (7, .int x7), (9, .int x9), (10, .int x10), (11, .int x11), (12, .int x12), (13, .int x13), (14, .int x14)] [] h σ (fL_areHeld_197 (ll G) Nf k0 self29 n x1 x2 x3 x4 x5 x6 x7 x9 x10 x11 x12 x13 x14 σ) := by
  intro n
  induction n with
  | zero => intros; exact z_none
  | succ n ih =>
    intro x1 x2 x3 x4 x5 x6 x7 x9 x10 x11 x12 x13 x14 σ
    unfold fL_areHeld_197
    refine z_iload X dL_areHeld_197 13 rfl ?_
    refine z_iload_n X dL_areHeld_199 1 rfl ?_
    refine z_icmp_ge X 221 dL_areHeld_200 (by decide) ?_ ?_
    · refine z_iload X dL_areHeld_221 9 rfl ?_
      refine z_aload_n X dL_areHeld_223 0 rfl ?_
      refine z_iload X dL_areHeld_224 8 rfl ?_
      refine z_iconst (v := (0 : Int32)) X dL_areHeld_226 (by decide) ?_
      refine z_callVN X (g := (fun r1 : (Int32 × cS) => ((some (.int r1.1), h, r1.2) : Option Value × Int64 × cS))) (st := [.int x10]) (st1 := (fun r1 : (Int32 × cS) => [.int r1.1, .int x10])) (rmf := 7) (rml := 111) [.int x9, .int (0 : Int32)] k0 cal_X6_node q_17_3 ⟨Nat.le_of_ble_eq_true rfl, Nat.le_of_ble_eq_true rfl⟩ rfl rfl (Nat.le_of_ble_eq_true rfl) rfl hk0.1 (ce6 hk0.1 _ _) (ctX6_node_n (kl K) G X.2.2.2.2.2.2.2.1 Nf h σ k0 hk0 x9 (0 : Int32)) dL_areHeld_227 (fun _ => rfl) (fun r1 => ?_)
      refine z_icmp_ne X 261 dL_areHeld_230 (by decide) ?_ ?_
      · refine z_iload X dL_areHeld_233 10 rfl ?_
        refine z_aload_n X dL_areHeld_235 0 rfl ?_
        refine z_iload X dL_areHeld_236 8 rfl ?_
        refine z_iconst (v := (1 : Int32)) X dL_areHeld_238 (by decide) ?_
        refine z_callVN X (g := (fun r2 : (Int32 × cS) => ((some (.int r2.1), h, r2.2) : Option Value × Int64 × cS))) (st := [.int x11]) (st1 := (fun r2 : (Int32 × cS) => [.int r2.1, .int x11])) (rmf := 7) (rml := 111) [.int x9, .int (1 : Int32)] k0 cal_X6_node q_17_3 ⟨Nat.le_of_ble_eq_true rfl, Nat.le_of_ble_eq_true rfl⟩ rfl rfl (Nat.le_of_ble_eq_true rfl) rfl hk0.1 (ce6 hk0.1 _ _) (ctX6_node_n (kl K) G X.2.2.2.2.2.2.2.1 Nf h r1.2 k0 hk0 x9 (1 : Int32)) dL_areHeld_239 (fun _ => rfl) (fun r2 => ?_)
        refine z_icmp_ne X 261 dL_areHeld_242 (by decide) ?_ ?_
        · refine z_iload X dL_areHeld_245 12 rfl ?_
          refine z_aload_n X dL_areHeld_247 0 rfl ?_
          refine z_iload X dL_areHeld_248 8 rfl ?_
          refine z_iconst (v := (3 : Int32)) X dL_areHeld_250 (by decide) ?_
          refine z_callVN X (g := (fun r3 : (Int32 × cS) => ((some (.int r3.1), h, r3.2) : Option Value × Int64 × cS))) (st := [.int x13]) (st1 := (fun r3 : (Int32 × cS) => [.int r3.1, .int x13])) (rmf := 7) (rml := 111) [.int x9, .int (3 : Int32)] k0 cal_X6_node q_17_3 ⟨Nat.le_of_ble_eq_true rfl, Nat.le_of_ble_eq_true rfl⟩ rfl rfl (Nat.le_of_ble_eq_true rfl) rfl hk0.1 (ce6 hk0.1 _ _) (ctX6_node_n (kl K) G X.2.2.2.2.2.2.2.1 Nf h r2.2 k0 hk0 x9 (3 : Int32)) dL_areHeld_251 (fun _ => rfl) (fun r3 => ?_)
          refine z_icmp_ne X 261 dL_areHeld_254 (by decide) ?_ ?_
          · refine z_iconst (v := (1 : Int32)) X dL_areHeld_257 (by decide) ?_
            refine z_goto X 262 dL_areHeld_258 (by decide) ?_
            exact z_sub [0, 1, 2, 3, 4, 5, 6, 7, 8, 9, 10] rfl (sL_areHeld_262 X Nf k0 hk0 h self29 hself29 x1 x2 x3 x4 x5 x6 x7 x9 x10 x11 (1 : Int32) r3.2)
          · exact z_sub [0, 1, 2, 3, 4, 5, 6, 7, 8, 9, 10] rfl (sL_areHeld_261 X Nf k0 hk0 h self29 hself29 x1 x2 x3 x4 x5 x6 x7 x9 x10 x11 r3.2)
        · exact z_sub [0, 1, 2, 3, 4, 5, 6, 7, 8, 9, 10] rfl (sL_areHeld_261 X Nf k0 hk0 h self29 hself29 x1 x2 x3 x4 x5 x6 x7 x9 x10 x11 r2.2)
      · exact z_sub [0, 1, 2, 3, 4, 5, 6, 7, 8, 9, 10] rfl (sL_areHeld_261 X Nf k0 hk0 h self29 hself29 x1 x2 x3 x4 x5 x6 x7 x9 x10 x11 r1.2)
    · refine z_iload X dL_areHeld_203 12 rfl ?_
      refine z_iload X dL_areHeld_205 11 rfl ?_
      refine z_iload X dL_areHeld_207 13 rfl ?_
      refine z_ishr X dL_areHeld_209 ?_
      refine z_iconst (v := (1 : Int32)) X dL_areHeld_210 (by decide) ?_
      refine z_iand X dL_areHeld_211 ?_
      refine z_iadd X dL_areHeld_212 ?_
      refine z_nm (fun t4 => ?_)
      refine z_istore X [(13, .int t4), (0, .ref (la G k0)), (1, .int x1), (2, .int x2), (3, .int x3), (4, .int x4), (5, .int x5), (6, .int x6), (7, .int x7), (9, .int x9), (10, .int x10), (11, .int x11), (12, .int x12), (14, .int x14)] dL_areHeld_213 (by decide) rfl ?_
      refine z_iinc X (fun t5 => [(14, .int t5), (13, .int t4), (0, .ref (la G k0)), (1, .int x1), (2, .int x2), (3, .int x3), (4, .int x4), (5, .int x5), (6, .int x6), (7, .int x7), (9, .int x9), (10, .int x10), (11, .int x11), (12, .int x12)]) dL_areHeld_215 13 rfl (by decide) (by decide) (fun _ => rfl) (fun t5 => ?_)
      refine z_goto X 197 dL_areHeld_218 (by decide) ?_
      exact z_sub [2, 3, 4, 5, 6, 7, 8, 9, 10, 11, 12, 13, 1, 0] rfl (ih x1 x2 x3 x4 x5 x6 x7 x9 x10 x11 x12 t4 t5 σ)
def fL_areHeld_182 (L : Nat → Nat) (Nf : Nat) (k0 : Nat) (self29 : Int32 → Int32 → Int32 → Int32 → Int32 → Int32 → Int32 → Int32 → Int32 → cS → Option (Int32 × cS)) (self52 : Int32 → Int32 → Int32 → Int32 → Int32 → Int32 → Int32 → Int32 → Int32 → Int32 → Int32 → Int32 → cS → Option (Int32 × cS)) (x1 : Int32) (x2 : Int32) (x3 : Int32) (x4 : Int32) (x5 : Int32) (x6 : Int32) (x7 : Int32) (x9 : Int32) (x10 : Int32) (x11 : Int32) (x13 : Int32) (y0 : Int32) (y1 : Int32) (σ : cS) : Option (Int32 × cS) := bnd ((y0 ||| y1)) (fun t1 => bnd (x13 + (1 : Int32)) (fun t2 => self52 x1 x2 x3 x4 x5 x6 x7 x9 x10 x11 t1 t2 σ))
set_option maxHeartbeats 4000000 in
set_option maxRecDepth 100000 in
theorem sL_areHeld_182 {K : MCx} {G : Lay} (X : Cx K G RL cL_areHeld 16 (some .boolean) 8 135) (Nf : Nat) (k0 : Nat) (hk0 : isEH G k0) (h : Int64) (self29 : Int32 → Int32 → Int32 → Int32 → Int32 → Int32 → Int32 → Int32 → Int32 → cS → Option (Int32 × cS)) (hself29 : ∀ (x1 : Int32) (x2 : Int32) (x3 : Int32) (x4 : Int32) (x5 : Int32) (x6 : Int32) (x7 : Int32) (x8 : Int32) (x9 : Int32) (σ : cS), Sm K G TT (QM K G (fun r : (Int32 × cS) => ((some (.int r.1), h, r.2) : Option Value × Int64 × cS))) 16 29 [(0, .ref (la G k0)), (1, .int x1), (2, .int x2), (3, .int x3), (4, .int x4), (5, .int x5), (6, .int x6), (7, .int x7), (8, .int x8), (9, .int x9)] [] h σ (self29 x1 x2 x3 x4 x5 x6 x7 x8 x9 σ)) (self52 : Int32 → Int32 → Int32 → Int32 → Int32 → Int32 → Int32 → Int32 → Int32 → Int32 → Int32 → Int32 → cS → Option (Int32 × cS)) (hself52 : ∀ (x1 : Int32) (x2 : Int32) (x3 : Int32) (x4 : Int32) (x5 : Int32) (x6 : Int32) (x7 : Int32) (x9 : Int32) (x10 : Int32) (x11 : Int32) (x12 : Int32) (x13 : Int32) (σ : cS), Sm K G TT (QM K G (fun r : (Int32 × cS) => ((some (.int r.1), h, r.2) : Option Value × Int64 × cS))) 16 52 [(0, .ref (la G k0)), (1, .int x1), (2, .int x2), (3, .int x3), (4, .int x4), (5, .int x5), (6, .int x6), (7, .int x7), (9, .int x9), (10, .int x10), (11, .int x11), (12, .int x12), (13, .int x13)] [] h σ (self52 x1 x2 x3 x4 x5 x6 x7 x9 x10 x11 x12 x13 σ)) (x1 : Int32) (x2 : Int32) (x3 : Int32) (x4 : Int32) (x5 : Int32) (x6 : Int32) (x7 : Int32) (x9 : Int32) (x10 : Int32) (x11 : Int32) (x13 : Int32) (y0 : Int32) (y1 : Int32) (σ : cS) : Sm K G TT (QM K G (fun r : (Int32 × cS) => ((some (.int r.1), h, r.2) : Option Value × Int64 × cS))) 16 182 [(0, .ref (la G k0)), (1, .int x1), (2, .int x2), (3, .int x3), (4, .int x4), (5, .int x5), (6, .int x6), (7, .int x7), (9, .int x9), (10, .int x10), (11, .int x11), (13, .int x13)] [.int y1, .int y0] h σ (fL_areHeld_182 (ll G) Nf k0 self29 self52 x1 x2 x3 x4 x5 x6 x7 x9 x10 x11 x13 y0 y1 σ) := by
  unfold fL_areHeld_182
  refine z_ior X dL_areHeld_182 ?_
  refine z_nm (fun t1 => ?_)
  refine z_istore X [(12, .int t1), (0, .ref (la G k0)), (1, .int x1), (2, .int x2), (3, .int x3), (4, .int x4), (5, .int x5), (6, .int x6), (7, .int x7), (9, .int x9), (10, .int x10), (11, .int x11), (13, .int x13)] dL_areHeld_183 (by decide) rfl ?_
  refine z_iinc X (fun t2 => [(13, .int t2), (12, .int t1), (0, .ref (la G k0)), (1, .int x1), (2, .int x2), (3, .int x3), (4, .int x4), (5, .int x5), (6, .int x6), (7, .int x7), (9, .int x9), (10, .int x10), (11, .int x11)]) dL_areHeld_185 12 rfl (by decide) (by decide) (fun _ => rfl) (fun t2 => ?_)
  refine z_goto X 52 dL_areHeld_188 (by decide) ?_
  exact z_sub [2, 3, 4, 5, 6, 7, 8, 9, 10, 11, 12, 1, 0] rfl (hself52 x1 x2 x3 x4 x5 x6 x7 x9 x10 x11 t1 t2 σ)
def fL_areHeld_135 (L : Nat → Nat) (Nf : Nat) (k0 : Nat) (self29 : Int32 → Int32 → Int32 → Int32 → Int32 → Int32 → Int32 → Int32 → Int32 → cS → Option (Int32 × cS)) (self52 : Int32 → Int32 → Int32 → Int32 → Int32 → Int32 → Int32 → Int32 → Int32 → Int32 → Int32 → Int32 → cS → Option (Int32 × cS)) (x1 : Int32) (x2 : Int32) (x3 : Int32) (x4 : Int32) (x5 : Int32) (x6 : Int32) (x7 : Int32) (x9 : Int32) (x10 : Int32) (x12 : Int32) (x13 : Int32) (x14 : Int32) (x15 : Int32) (y0 : Int32) (y1 : Int32) (σ : cS) : Option (Int32 × cS) := bnd ((y0 + y1)) (fun t1 => if x15 = 0 then (ibn (fX6_edge L Nf σ k0 x14 (1 : Int32)) (fun r2 => if r2 = x9 then (ibn (fX6_edge L Nf σ k0 x14 (0 : Int32)) (fun r3 => fL_areHeld_182 L Nf k0 self29 self52 x1 x2 x3 x4 x5 x6 x7 x9 x10 t1 x13 x12 ((1 : Int32) <<< (r3 &&& 31)) σ)) else (fL_areHeld_182 L Nf k0 self29 self52 x1 x2 x3 x4 x5 x6 x7 x9 x10 t1 x13 x12 (0 : Int32) σ))) else (ibn (fX6_edge L Nf σ k0 x14 (1 : Int32)) (fun r4 => fL_areHeld_182 L Nf k0 self29 self52 x1 x2 x3 x4 x5 x6 x7 x9 x10 t1 x13 x12 ((1 : Int32) <<< (r4 &&& 31)) σ)))
set_option maxHeartbeats 4000000 in
set_option maxRecDepth 100000 in
theorem sL_areHeld_135 {K : MCx} {G : Lay} (X : Cx K G RL cL_areHeld 16 (some .boolean) 8 135) (Nf : Nat) (k0 : Nat) (hk0 : isEH G k0) (h : Int64) (self29 : Int32 → Int32 → Int32 → Int32 → Int32 → Int32 → Int32 → Int32 → Int32 → cS → Option (Int32 × cS)) (hself29 : ∀ (x1 : Int32) (x2 : Int32) (x3 : Int32) (x4 : Int32) (x5 : Int32) (x6 : Int32) (x7 : Int32) (x8 : Int32) (x9 : Int32) (σ : cS), Sm K G TT (QM K G (fun r : (Int32 × cS) => ((some (.int r.1), h, r.2) : Option Value × Int64 × cS))) 16 29 [(0, .ref (la G k0)), (1, .int x1), (2, .int x2), (3, .int x3), (4, .int x4), (5, .int x5), (6, .int x6), (7, .int x7), (8, .int x8), (9, .int x9)] [] h σ (self29 x1 x2 x3 x4 x5 x6 x7 x8 x9 σ)) (self52 : Int32 → Int32 → Int32 → Int32 → Int32 → Int32 → Int32 → Int32 → Int32 → Int32 → Int32 → Int32 → cS → Option (Int32 × cS)) (hself52 : ∀ (x1 : Int32) (x2 : Int32) (x3 : Int32) (x4 : Int32) (x5 : Int32) (x6 : Int32) (x7 : Int32) (x9 : Int32) (x10 : Int32) (x11 : Int32) (x12 : Int32) (x13 : Int32) (σ : cS), Sm K G TT (QM K G (fun r : (Int32 × cS) => ((some (.int r.1), h, r.2) : Option Value × Int64 × cS))) 16 52 [(0, .ref (la G k0)), (1, .int x1), (2, .int x2), (3, .int x3), (4, .int x4), (5, .int x5), (6, .int x6), (7, .int x7), (9, .int x9), (10, .int x10), (11, .int x11), (12, .int x12), (13, .int x13)] [] h σ (self52 x1 x2 x3 x4 x5 x6 x7 x9 x10 x11 x12 x13 σ)) (x1 : Int32) (x2 : Int32) (x3 : Int32) (x4 : Int32) (x5 : Int32) (x6 : Int32) (x7 : Int32) (x9 : Int32) (x10 : Int32) (x12 : Int32) (x13 : Int32) (x14 : Int32) (x15 : Int32) (y0 : Int32) (y1 : Int32) (σ : cS) : Sm K G TT (QM K G (fun r : (Int32 × cS) => ((some (.int r.1), h, r.2) : Option Value × Int64 × cS))) 16 135 [(0, .ref (la G k0)), (1, .int x1), (2, .int x2), (3, .int x3), (4, .int x4), (5, .int x5), (6, .int x6), (7, .int x7), (9, .int x9), (10, .int x10), (12, .int x12), (13, .int x13), (14, .int x14), (15, .int x15)] [.int y1, .int y0] h σ (fL_areHeld_135 (ll G) Nf k0 self29 self52 x1 x2 x3 x4 x5 x6 x7 x9 x10 x12 x13 x14 x15 y0 y1 σ) := by
  unfold fL_areHeld_135
  refine z_iadd X dL_areHeld_135 ?_
  refine z_nm (fun t1 => ?_)
  refine z_istore X [(11, .int t1), (0, .ref (la G k0)), (1, .int x1), (2, .int x2), (3, .int x3), (4, .int x4), (5, .int x5), (6, .int x6), (7, .int x7), (9, .int x9), (10, .int x10), (12, .int x12), (13, .int x13), (14, .int x14), (15, .int x15)] dL_areHeld_136 (by decide) rfl ?_
  refine z_iload X dL_areHeld_138 11 rfl ?_
  refine z_iload X dL_areHeld_140 14 rfl ?_
  refine z_if_eq X 157 dL_areHeld_142 (by decide) ?_ ?_
  · refine z_aload_n X dL_areHeld_157 1 rfl ?_
    refine z_iload X dL_areHeld_158 13 rfl ?_
    refine z_iconst (v := (1 : Int32)) X dL_areHeld_160 (by decide) ?_
    refine z_callVN X (g := (fun r2 : Int32 => ((some (.int r2), h, σ) : Option Value × Int64 × cS))) (st := [.int x12]) (st1 := (fun r2 : Int32 => [.int r2, .int x12])) (rmf := 7) (rml := 112) [.int x14, .int (1 : Int32)] k0 cal_X6_edge q_18_2 ⟨Nat.le_of_ble_eq_true rfl, Nat.le_of_ble_eq_true rfl⟩ rfl rfl (Nat.le_of_ble_eq_true rfl) rfl hk0.1 (ce6 hk0.1 _ _) (ctX6_edge_n (kl K) G X.2.2.2.2.2.2.2.1 Nf h σ k0 hk0 x14 (1 : Int32)) dL_areHeld_161 (fun _ => rfl) (fun r2 => ?_)
    refine z_iload X dL_areHeld_164 9 rfl ?_
    refine z_icmp_ne X 181 dL_areHeld_166 (by decide) ?_ ?_
    · refine z_iconst (v := (1 : Int32)) X dL_areHeld_169 (by decide) ?_
      refine z_aload_n X dL_areHeld_170 1 rfl ?_
      refine z_iload X dL_areHeld_171 13 rfl ?_
      refine z_iconst (v := (0 : Int32)) X dL_areHeld_173 (by decide) ?_
      refine z_callVN X (g := (fun r3 : Int32 => ((some (.int r3), h, σ) : Option Value × Int64 × cS))) (st := [.int (1 : Int32), .int x12]) (st1 := (fun r3 : Int32 => [.int r3, .int (1 : Int32), .int x12])) (rmf := 7) (rml := 112) [.int x14, .int (0 : Int32)] k0 cal_X6_edge q_18_2 ⟨Nat.le_of_ble_eq_true rfl, Nat.le_of_ble_eq_true rfl⟩ rfl rfl (Nat.le_of_ble_eq_true rfl) rfl hk0.1 (ce6 hk0.1 _ _) (ctX6_edge_n (kl K) G X.2.2.2.2.2.2.2.1 Nf h σ k0 hk0 x14 (0 : Int32)) dL_areHeld_174 (fun _ => rfl) (fun r3 => ?_)
      refine z_ishl X dL_areHeld_177 ?_
      refine z_goto X 182 dL_areHeld_178 (by decide) ?_
      exact z_sub [1, 2, 3, 4, 5, 6, 7, 8, 9, 10, 0, 12] rfl (sL_areHeld_182 X Nf k0 hk0 h self29 hself29 self52 hself52 x1 x2 x3 x4 x5 x6 x7 x9 x10 t1 x13 x12 ((1 : Int32) <<< (r3 &&& 31)) σ)
    · refine z_iconst (v := (0 : Int32)) X dL_areHeld_181 (by decide) ?_
      exact z_sub [1, 2, 3, 4, 5, 6, 7, 8, 9, 10, 0, 12] rfl (sL_areHeld_182 X Nf k0 hk0 h self29 hself29 self52 hself52 x1 x2 x3 x4 x5 x6 x7 x9 x10 t1 x13 x12 (0 : Int32) σ)
  · refine z_iconst (v := (1 : Int32)) X dL_areHeld_145 (by decide) ?_
    refine z_aload_n X dL_areHeld_146 1 rfl ?_
    refine z_iload X dL_areHeld_147 13 rfl ?_
    refine z_iconst (v := (1 : Int32)) X dL_areHeld_149 (by decide) ?_
    refine z_callVN X (g := (fun r4 : Int32 => ((some (.int r4), h, σ) : Option Value × Int64 × cS))) (st := [.int (1 : Int32), .int x12]) (st1 := (fun r4 : Int32 => [.int r4, .int (1 : Int32), .int x12])) (rmf := 7) (rml := 112) [.int x14, .int (1 : Int32)] k0 cal_X6_edge q_18_2 ⟨Nat.le_of_ble_eq_true rfl, Nat.le_of_ble_eq_true rfl⟩ rfl rfl (Nat.le_of_ble_eq_true rfl) rfl hk0.1 (ce6 hk0.1 _ _) (ctX6_edge_n (kl K) G X.2.2.2.2.2.2.2.1 Nf h σ k0 hk0 x14 (1 : Int32)) dL_areHeld_150 (fun _ => rfl) (fun r4 => ?_)
    refine z_ishl X dL_areHeld_153 ?_
    refine z_goto X 182 dL_areHeld_154 (by decide) ?_
    exact z_sub [1, 2, 3, 4, 5, 6, 7, 8, 9, 10, 0, 12] rfl (sL_areHeld_182 X Nf k0 hk0 h self29 hself29 self52 hself52 x1 x2 x3 x4 x5 x6 x7 x9 x10 t1 x13 x12 ((1 : Int32) <<< (r4 &&& 31)) σ)
def fL_areHeld_130 (L : Nat → Nat) (Nf : Nat) (k0 : Nat) (self29 : Int32 → Int32 → Int32 → Int32 → Int32 → Int32 → Int32 → Int32 → Int32 → cS → Option (Int32 × cS)) (self52 : Int32 → Int32 → Int32 → Int32 → Int32 → Int32 → Int32 → Int32 → Int32 → Int32 → Int32 → Int32 → cS → Option (Int32 × cS)) (x1 : Int32) (x2 : Int32) (x3 : Int32) (x4 : Int32) (x5 : Int32) (x6 : Int32) (x7 : Int32) (x9 : Int32) (x10 : Int32) (x12 : Int32) (x13 : Int32) (x14 : Int32) (x15 : Int32) (y0 : Int32) (σ : cS) : Option (Int32 × cS) := fL_areHeld_135 L Nf k0 self29 self52 x1 x2 x3 x4 x5 x6 x7 x9 x10 x12 x13 x14 x15 y0 (1 : Int32) σ
set_option maxHeartbeats 4000000 in
set_option maxRecDepth 100000 in
theorem sL_areHeld_130 {K : MCx} {G : Lay} (X : Cx K G RL cL_areHeld 16 (some .boolean) 8 135) (Nf : Nat) (k0 : Nat) (hk0 : isEH G k0) (h : Int64) (self29 : Int32 → Int32 → Int32 → Int32 → Int32 → Int32 → Int32 → Int32 → Int32 → cS → Option (Int32 × cS)) (hself29 : ∀ (x1 : Int32) (x2 : Int32) (x3 : Int32) (x4 : Int32) (x5 : Int32) (x6 : Int32) (x7 : Int32) (x8 : Int32) (x9 : Int32) (σ : cS), Sm K G TT (QM K G (fun r : (Int32 × cS) => ((some (.int r.1), h, r.2) : Option Value × Int64 × cS))) 16 29 [(0, .ref (la G k0)), (1, .int x1), (2, .int x2), (3, .int x3), (4, .int x4), (5, .int x5), (6, .int x6), (7, .int x7), (8, .int x8), (9, .int x9)] [] h σ (self29 x1 x2 x3 x4 x5 x6 x7 x8 x9 σ)) (self52 : Int32 → Int32 → Int32 → Int32 → Int32 → Int32 → Int32 → Int32 → Int32 → Int32 → Int32 → Int32 → cS → Option (Int32 × cS)) (hself52 : ∀ (x1 : Int32) (x2 : Int32) (x3 : Int32) (x4 : Int32) (x5 : Int32) (x6 : Int32) (x7 : Int32) (x9 : Int32) (x10 : Int32) (x11 : Int32) (x12 : Int32) (x13 : Int32) (σ : cS), Sm K G TT (QM K G (fun r : (Int32 × cS) => ((some (.int r.1), h, r.2) : Option Value × Int64 × cS))) 16 52 [(0, .ref (la G k0)), (1, .int x1), (2, .int x2), (3, .int x3), (4, .int x4), (5, .int x5), (6, .int x6), (7, .int x7), (9, .int x9), (10, .int x10), (11, .int x11), (12, .int x12), (13, .int x13)] [] h σ (self52 x1 x2 x3 x4 x5 x6 x7 x9 x10 x11 x12 x13 σ)) (x1 : Int32) (x2 : Int32) (x3 : Int32) (x4 : Int32) (x5 : Int32) (x6 : Int32) (x7 : Int32) (x9 : Int32) (x10 : Int32) (x12 : Int32) (x13 : Int32) (x14 : Int32) (x15 : Int32) (y0 : Int32) (σ : cS) : Sm K G TT (QM K G (fun r : (Int32 × cS) => ((some (.int r.1), h, r.2) : Option Value × Int64 × cS))) 16 130 [(0, .ref (la G k0)), (1, .int x1), (2, .int x2), (3, .int x3), (4, .int x4), (5, .int x5), (6, .int x6), (7, .int x7), (9, .int x9), (10, .int x10), (12, .int x12), (13, .int x13), (14, .int x14), (15, .int x15)] [.int y0] h σ (fL_areHeld_130 (ll G) Nf k0 self29 self52 x1 x2 x3 x4 x5 x6 x7 x9 x10 x12 x13 x14 x15 y0 σ) := by
  unfold fL_areHeld_130
  refine z_iconst (v := (1 : Int32)) X dL_areHeld_130 (by decide) ?_
  refine z_goto X 135 dL_areHeld_131 (by decide) ?_
  exact z_sub [0, 1, 2, 3, 4, 5, 6, 7, 8, 9, 10, 11, 12, 13] rfl (sL_areHeld_135 X Nf k0 hk0 h self29 hself29 self52 hself52 x1 x2 x3 x4 x5 x6 x7 x9 x10 x12 x13 x14 x15 y0 (1 : Int32) σ)
def fL_areHeld_108 (L : Nat → Nat) (Nf : Nat) (k0 : Nat) (self29 : Int32 → Int32 → Int32 → Int32 → Int32 → Int32 → Int32 → Int32 → Int32 → cS → Option (Int32 × cS)) (self52 : Int32 → Int32 → Int32 → Int32 → Int32 → Int32 → Int32 → Int32 → Int32 → Int32 → Int32 → Int32 → cS → Option (Int32 × cS)) (x1 : Int32) (x2 : Int32) (x3 : Int32) (x4 : Int32) (x5 : Int32) (x6 : Int32) (x7 : Int32) (x9 : Int32) (x11 : Int32) (x12 : Int32) (x13 : Int32) (x14 : Int32) (x15 : Int32) (y0 : Int32) (y1 : Int32) (σ : cS) : Option (Int32 × cS) := bnd ((y0 + y1)) (fun t1 => if x15 = 0 then (ibn (fX6_edge L Nf σ k0 x14 (1 : Int32)) (fun r2 => if r2 = x9 then (fL_areHeld_130 L Nf k0 self29 self52 x1 x2 x3 x4 x5 x6 x7 x9 t1 x12 x13 x14 x15 x11 σ) else (fL_areHeld_135 L Nf k0 self29 self52 x1 x2 x3 x4 x5 x6 x7 x9 t1 x12 x13 x14 x15 x11 (0 : Int32) σ))) else (fL_areHeld_130 L Nf k0 self29 self52 x1 x2 x3 x4 x5 x6 x7 x9 t1 x12 x13 x14 x15 x11 σ))
set_option maxHeartbeats 4000000 in
set_option maxRecDepth 100000 in
theorem sL_areHeld_108 {K : MCx} {G : Lay} (X : Cx K G RL cL_areHeld 16 (some .boolean) 8 135) (Nf : Nat) (k0 : Nat) (hk0 : isEH G k0) (h : Int64) (self29 : Int32 → Int32 → Int32 → Int32 → Int32 → Int32 → Int32 → Int32 → Int32 → cS → Option (Int32 × cS)) (hself29 : ∀ (x1 : Int32) (x2 : Int32) (x3 : Int32) (x4 : Int32) (x5 : Int32) (x6 : Int32) (x7 : Int32) (x8 : Int32) (x9 : Int32) (σ : cS), Sm K G TT (QM K G (fun r : (Int32 × cS) => ((some (.int r.1), h, r.2) : Option Value × Int64 × cS))) 16 29 [(0, .ref (la G k0)), (1, .int x1), (2, .int x2), (3, .int x3), (4, .int x4), (5, .int x5), (6, .int x6), (7, .int x7), (8, .int x8), (9, .int x9)] [] h σ (self29 x1 x2 x3 x4 x5 x6 x7 x8 x9 σ)) (self52 : Int32 → Int32 → Int32 → Int32 → Int32 → Int32 → Int32 → Int32 → Int32 → Int32 → Int32 → Int32 → cS → Option (Int32 × cS)) (hself52 : ∀ (x1 : Int32) (x2 : Int32) (x3 : Int32) (x4 : Int32) (x5 : Int32) (x6 : Int32) (x7 : Int32) (x9 : Int32) (x10 : Int32) (x11 : Int32) (x12 : Int32) (x13 : Int32) (σ : cS), Sm K G TT (QM K G (fun r : (Int32 × cS) => ((some (.int r.1), h, r.2) : Option Value × Int64 × cS))) 16 52 [(0, .ref (la G k0)), (1, .int x1), (2, .int x2), (3, .int x3), (4, .int x4), (5, .int x5), (6, .int x6), (7, .int x7), (9, .int x9), (10, .int x10), (11, .int x11), (12, .int x12), (13, .int x13)] [] h σ (self52 x1 x2 x3 x4 x5 x6 x7 x9 x10 x11 x12 x13 σ)) (x1 : Int32) (x2 : Int32) (x3 : Int32) (x4 : Int32) (x5 : Int32) (x6 : Int32) (x7 : Int32) (x9 : Int32) (x11 : Int32) (x12 : Int32) (x13 : Int32) (x14 : Int32) (x15 : Int32) (y0 : Int32) (y1 : Int32) (σ : cS) : Sm K G TT (QM K G (fun r : (Int32 × cS) => ((some (.int r.1), h, r.2) : Option Value × Int64 × cS))) 16 108 [(0, .ref (la G k0)), (1, .int x1), (2, .int x2), (3, .int x3), (4, .int x4), (5, .int x5), (6, .int x6), (7, .int x7), (9, .int x9), (11, .int x11), (12, .int x12), (13, .int x13), (14, .int x14), (15, .int x15)] [.int y1, .int y0] h σ (fL_areHeld_108 (ll G) Nf k0 self29 self52 x1 x2 x3 x4 x5 x6 x7 x9 x11 x12 x13 x14 x15 y0 y1 σ) := by
  unfold fL_areHeld_108
  refine z_iadd X dL_areHeld_108 ?_
  refine z_nm (fun t1 => ?_)
  refine z_istore X [(10, .int t1), (0, .ref (la G k0)), (1, .int x1), (2, .int x2), (3, .int x3), (4, .int x4), (5, .int x5), (6, .int x6), (7, .int x7), (9, .int x9), (11, .int x11), (12, .int x12), (13, .int x13), (14, .int x14), (15, .int x15)] dL_areHeld_109 (by decide) rfl ?_
  refine z_iload X dL_areHeld_111 10 rfl ?_
  refine z_iload X dL_areHeld_113 14 rfl ?_
  refine z_if_ne X 130 dL_areHeld_115 (by decide) ?_ ?_
  · refine z_aload_n X dL_areHeld_118 1 rfl ?_
    refine z_iload X dL_areHeld_119 13 rfl ?_
    refine z_iconst (v := (1 : Int32)) X dL_areHeld_121 (by decide) ?_
    refine z_callVN X (g := (fun r2 : Int32 => ((some (.int r2), h, σ) : Option Value × Int64 × cS))) (st := [.int x11]) (st1 := (fun r2 : Int32 => [.int r2, .int x11])) (rmf := 7) (rml := 112) [.int x14, .int (1 : Int32)] k0 cal_X6_edge q_18_2 ⟨Nat.le_of_ble_eq_true rfl, Nat.le_of_ble_eq_true rfl⟩ rfl rfl (Nat.le_of_ble_eq_true rfl) rfl hk0.1 (ce6 hk0.1 _ _) (ctX6_edge_n (kl K) G X.2.2.2.2.2.2.2.1 Nf h σ k0 hk0 x14 (1 : Int32)) dL_areHeld_122 (fun _ => rfl) (fun r2 => ?_)
    refine z_iload X dL_areHeld_125 9 rfl ?_
    refine z_icmp_ne X 134 dL_areHeld_127 (by decide) ?_ ?_
    · exact z_sub [1, 2, 3, 4, 5, 6, 7, 8, 9, 0, 11, 12, 13, 14] rfl (sL_areHeld_130 X Nf k0 hk0 h self29 hself29 self52 hself52 x1 x2 x3 x4 x5 x6 x7 x9 t1 x12 x13 x14 x15 x11 σ)
    · refine z_iconst (v := (0 : Int32)) X dL_areHeld_134 (by decide) ?_
      exact z_sub [1, 2, 3, 4, 5, 6, 7, 8, 9, 0, 11, 12, 13, 14] rfl (sL_areHeld_135 X Nf k0 hk0 h self29 hself29 self52 hself52 x1 x2 x3 x4 x5 x6 x7 x9 t1 x12 x13 x14 x15 x11 (0 : Int32) σ)
  · exact z_sub [1, 2, 3, 4, 5, 6, 7, 8, 9, 0, 11, 12, 13, 14] rfl (sL_areHeld_130 X Nf k0 hk0 h self29 hself29 self52 hself52 x1 x2 x3 x4 x5 x6 x7 x9 t1 x12 x13 x14 x15 x11 σ)
def fL_areHeld_87 (L : Nat → Nat) (Nf : Nat) (k0 : Nat) (self29 : Int32 → Int32 → Int32 → Int32 → Int32 → Int32 → Int32 → Int32 → Int32 → cS → Option (Int32 × cS)) (self52 : Int32 → Int32 → Int32 → Int32 → Int32 → Int32 → Int32 → Int32 → Int32 → Int32 → Int32 → Int32 → cS → Option (Int32 × cS)) (x1 : Int32) (x2 : Int32) (x3 : Int32) (x4 : Int32) (x5 : Int32) (x6 : Int32) (x7 : Int32) (x9 : Int32) (x10 : Int32) (x11 : Int32) (x12 : Int32) (x13 : Int32) (x14 : Int32) (y0 : Int32) (σ : cS) : Option (Int32 × cS) := ibn (fX6_edge L Nf σ k0 x14 (2 : Int32)) (fun r1 => if r1 = x9 then (fL_areHeld_108 L Nf k0 self29 self52 x1 x2 x3 x4 x5 x6 x7 x9 x11 x12 x13 x14 y0 x10 (1 : Int32) σ) else (fL_areHeld_108 L Nf k0 self29 self52 x1 x2 x3 x4 x5 x6 x7 x9 x11 x12 x13 x14 y0 x10 (0 : Int32) σ))
set_option maxHeartbeats 4000000 in
set_option maxRecDepth 100000 in
theorem sL_areHeld_87 {K : MCx} {G : Lay} (X : Cx K G RL cL_areHeld 16 (some .boolean) 8 135) (Nf : Nat) (k0 : Nat) (hk0 : isEH G k0) (h : Int64) (self29 : Int32 → Int32 → Int32 → Int32 → Int32 → Int32 → Int32 → Int32 → Int32 → cS → Option (Int32 × cS)) (hself29 : ∀ (x1 : Int32) (x2 : Int32) (x3 : Int32) (x4 : Int32) (x5 : Int32) (x6 : Int32) (x7 : Int32) (x8 : Int32) (x9 : Int32) (σ : cS), Sm K G TT (QM K G (fun r : (Int32 × cS) => ((some (.int r.1), h, r.2) : Option Value × Int64 × cS))) 16 29 [(0, .ref (la G k0)), (1, .int x1), (2, .int x2), (3, .int x3), (4, .int x4), (5, .int x5), (6, .int x6), (7, .int x7), (8, .int x8), (9, .int x9)] [] h σ (self29 x1 x2 x3 x4 x5 x6 x7 x8 x9 σ)) (self52 : Int32 → Int32 → Int32 → Int32 → Int32 → Int32 → Int32 → Int32 → Int32 → Int32 → Int32 → Int32 → cS → Option (Int32 × cS)) (hself52 : ∀ (x1 : Int32) (x2 : Int32) (x3 : Int32) (x4 : Int32) (x5 : Int32) (x6 : Int32) (x7 : Int32) (x9 : Int32) (x10 : Int32) (x11 : Int32) (x12 : Int32) (x13 : Int32) (σ : cS), Sm K G TT (QM K G (fun r : (Int32 × cS) => ((some (.int r.1), h, r.2) : Option Value × Int64 × cS))) 16 52 [(0, .ref (la G k0)), (1, .int x1), (2, .int x2), (3, .int x3), (4, .int x4), (5, .int x5), (6, .int x6), (7, .int x7), (9, .int x9), (10, .int x10), (11, .int x11), (12, .int x12), (13, .int x13)] [] h σ (self52 x1 x2 x3 x4 x5 x6 x7 x9 x10 x11 x12 x13 σ)) (x1 : Int32) (x2 : Int32) (x3 : Int32) (x4 : Int32) (x5 : Int32) (x6 : Int32) (x7 : Int32) (x9 : Int32) (x10 : Int32) (x11 : Int32) (x12 : Int32) (x13 : Int32) (x14 : Int32) (y0 : Int32) (σ : cS) : Sm K G TT (QM K G (fun r : (Int32 × cS) => ((some (.int r.1), h, r.2) : Option Value × Int64 × cS))) 16 87 [(0, .ref (la G k0)), (1, .int x1), (2, .int x2), (3, .int x3), (4, .int x4), (5, .int x5), (6, .int x6), (7, .int x7), (9, .int x9), (10, .int x10), (11, .int x11), (12, .int x12), (13, .int x13), (14, .int x14)] [.int y0] h σ (fL_areHeld_87 (ll G) Nf k0 self29 self52 x1 x2 x3 x4 x5 x6 x7 x9 x10 x11 x12 x13 x14 y0 σ) := by
  unfold fL_areHeld_87
  refine z_istore X [(15, .int y0), (0, .ref (la G k0)), (1, .int x1), (2, .int x2), (3, .int x3), (4, .int x4), (5, .int x5), (6, .int x6), (7, .int x7), (9, .int x9), (10, .int x10), (11, .int x11), (12, .int x12), (13, .int x13), (14, .int x14)] dL_areHeld_87 (by decide) rfl ?_
  refine z_iload X dL_areHeld_89 10 rfl ?_
  refine z_aload_n X dL_areHeld_91 1 rfl ?_
  refine z_iload X dL_areHeld_92 14 rfl ?_
  refine z_iconst (v := (2 : Int32)) X dL_areHeld_94 (by decide) ?_
  refine z_callVN X (g := (fun r1 : Int32 => ((some (.int r1), h, σ) : Option Value × Int64 × cS))) (st := [.int x10]) (st1 := (fun r1 : Int32 => [.int r1, .int x10])) (rmf := 7) (rml := 112) [.int x14, .int (2 : Int32)] k0 cal_X6_edge q_18_2 ⟨Nat.le_of_ble_eq_true rfl, Nat.le_of_ble_eq_true rfl⟩ rfl rfl (Nat.le_of_ble_eq_true rfl) rfl hk0.1 (ce6 hk0.1 _ _) (ctX6_edge_n (kl K) G X.2.2.2.2.2.2.2.1 Nf h σ k0 hk0 x14 (2 : Int32)) dL_areHeld_95 (fun _ => rfl) (fun r1 => ?_)
  refine z_iload X dL_areHeld_98 9 rfl ?_
  refine z_icmp_ne X 107 dL_areHeld_100 (by decide) ?_ ?_
  · refine z_iconst (v := (1 : Int32)) X dL_areHeld_103 (by decide) ?_
    refine z_goto X 108 dL_areHeld_104 (by decide) ?_
    exact z_sub [1, 2, 3, 4, 5, 6, 7, 8, 9, 11, 12, 13, 14, 0] rfl (sL_areHeld_108 X Nf k0 hk0 h self29 hself29 self52 hself52 x1 x2 x3 x4 x5 x6 x7 x9 x11 x12 x13 x14 y0 x10 (1 : Int32) σ)
  · refine z_iconst (v := (0 : Int32)) X dL_areHeld_107 (by decide) ?_
    exact z_sub [1, 2, 3, 4, 5, 6, 7, 8, 9, 11, 12, 13, 14, 0] rfl (sL_areHeld_108 X Nf k0 hk0 h self29 hself29 self52 hself52 x1 x2 x3 x4 x5 x6 x7 x9 x11 x12 x13 x14 y0 x10 (0 : Int32) σ)
def fL_areHeld_52 (L : Nat → Nat) (Nf : Nat) (k0 : Nat) (self29 : Int32 → Int32 → Int32 → Int32 → Int32 → Int32 → Int32 → Int32 → Int32 → cS → Option (Int32 × cS)) : Nat → Int32 → Int32 → Int32 → Int32 → Int32 → Int32 → Int32 → Int32 → Int32 → Int32 → Int32 → Int32 → cS → Option (Int32 × cS)
  | 0, _, _, _, _, _, _, _, _, _, _, _, _, _ => none
  | n + 1, x1, x2, x3, x4, x5, x6, x7, x9, x10, x11, x12, x13, σ => ibn (fX6_value L Nf σ k0 (1 : Int32)) (fun r1 => if r1 ≤ x13 then (fL_areHeld_197 L Nf k0 self29 Nf x1 x2 x3 x4 x5 x6 x7 x9 x10 x11 x12 (0 : Int32) (0 : Int32) σ) else (ibn (fX6_edgeAt L σ k0 x13) (fun r2 => ibn (fX6_edge L Nf σ k0 r2 (0 : Int32)) (fun r3 => if r3 = x9 then (fL_areHeld_87 L Nf k0 self29 (fL_areHeld_52 L Nf k0 self29 n) x1 x2 x3 x4 x5 x6 x7 x9 x10 x11 x12 x13 r2 (1 : Int32) σ) else (fL_areHeld_87 L Nf k0 self29 (fL_areHeld_52 L Nf k0 self29 n) x1 x2 x3 x4 x5 x6 x7 x9 x10 x11 x12 x13 r2 (0 : Int32) σ)))))
set_option maxHeartbeats 4000000 in
set_option maxRecDepth 100000 in
theorem sL_areHeld_52 {K : MCx} {G : Lay} (X : Cx K G RL cL_areHeld 16 (some .boolean) 8 135) (Nf : Nat) (k0 : Nat) (hk0 : isEH G k0) (h : Int64) (self29 : Int32 → Int32 → Int32 → Int32 → Int32 → Int32 → Int32 → Int32 → Int32 → cS → Option (Int32 × cS)) (hself29 : ∀ (x1 : Int32) (x2 : Int32) (x3 : Int32) (x4 : Int32) (x5 : Int32) (x6 : Int32) (x7 : Int32) (x8 : Int32) (x9 : Int32) (σ : cS), Sm K G TT (QM K G (fun r : (Int32 × cS) => ((some (.int r.1), h, r.2) : Option Value × Int64 × cS))) 16 29 [(0, .ref (la G k0)), (1, .int x1), (2, .int x2), (3, .int x3), (4, .int x4), (5, .int x5), (6, .int x6), (7, .int x7), (8, .int x8), (9, .int x9)] [] h σ (self29 x1 x2 x3 x4 x5 x6 x7 x8 x9 σ)) : ∀ (n : Nat) (x1 : Int32) (x2 : Int32) (x3 : Int32) (x4 : Int32) (x5 : Int32) (x6 : Int32) (x7 : Int32) (x9 : Int32) (x10 : Int32) (x11 : Int32) (x12 : Int32) (x13 : Int32) (σ : cS), Sm K G TT (QM K G (fun r : (Int32 × cS) => ((some (.int r.1), h, r.2) : Option Value × Int64 × cS))) 16 52 [(0, .ref (la G k0)), (1, .int x1), (2, .int x2), (3, .int x3), (4, .int x4), (5, .int x5), (6, .int x6), (7, .int x7), (9, .int x9), (10, .int x10), (11, .int x11), (12, .int x12), (13, .int x13)] [] h σ (fL_areHeld_52 (ll G) Nf k0 self29 n x1 x2 x3 x4 x5 x6 x7 x9 x10 x11 x12 x13 σ) := by
  intro n
  induction n with
  | zero => intros; exact z_none
  | succ n ih =>
    intro x1 x2 x3 x4 x5 x6 x7 x9 x10 x11 x12 x13 σ
    unfold fL_areHeld_52
    refine z_iload X dL_areHeld_52 12 rfl ?_
    refine z_aload_n X dL_areHeld_54 0 rfl ?_
    refine z_iconst (v := (1 : Int32)) X dL_areHeld_55 (by decide) ?_
    refine z_callVN X (g := (fun r1 : Int32 => ((some (.int r1), h, σ) : Option Value × Int64 × cS))) (st := [.int x13]) (st1 := (fun r1 : Int32 => [.int r1, .int x13])) (rmf := 6) (rml := 90) [.int (1 : Int32)] k0 cal_X6_value q_6_2 ⟨Nat.le_of_ble_eq_true rfl, Nat.le_of_ble_eq_true rfl⟩ rfl rfl (Nat.le_of_ble_eq_true rfl) rfl hk0.1 (ce6 hk0.1 _ _) (ctX6_value_n (kl K) G X.2.2.2.2.2.2.2.1 Nf h σ k0 hk0 (1 : Int32)) dL_areHeld_56 (fun _ => rfl) (fun r1 => ?_)
    refine z_icmp_ge X 191 dL_areHeld_59 (by decide) ?_ ?_
    · refine z_iconst (v := (0 : Int32)) X dL_areHeld_191 (by decide) ?_
      refine z_istore X [(13, .int (0 : Int32)), (0, .ref (la G k0)), (1, .int x1), (2, .int x2), (3, .int x3), (4, .int x4), (5, .int x5), (6, .int x6), (7, .int x7), (9, .int x9), (10, .int x10), (11, .int x11), (12, .int x12)] dL_areHeld_192 (by decide) rfl ?_
      refine z_iconst (v := (0 : Int32)) X dL_areHeld_194 (by decide) ?_
      refine z_istore X [(14, .int (0 : Int32)), (13, .int (0 : Int32)), (0, .ref (la G k0)), (1, .int x1), (2, .int x2), (3, .int x3), (4, .int x4), (5, .int x5), (6, .int x6), (7, .int x7), (9, .int x9), (10, .int x10), (11, .int x11), (12, .int x12)] dL_areHeld_195 (by decide) rfl ?_
      exact z_sub [2, 3, 4, 5, 6, 7, 8, 9, 10, 11, 12, 13, 1, 0] rfl (sL_areHeld_197 X Nf k0 hk0 h self29 hself29 Nf x1 x2 x3 x4 x5 x6 x7 x9 x10 x11 x12 (0 : Int32) (0 : Int32) σ)
    · refine z_aload_n X dL_areHeld_62 0 rfl ?_
      refine z_iload X dL_areHeld_63 12 rfl ?_
      refine z_callVN X (g := (fun r2 : Int32 => ((some (.int r2), h, σ) : Option Value × Int64 × cS))) (st := []) (st1 := (fun r2 : Int32 => [.int r2])) (rmf := 6) (rml := 90) [.int x13] k0 cal_X6_edgeAt q_17_22 ⟨Nat.le_of_ble_eq_true rfl, Nat.le_of_ble_eq_true rfl⟩ rfl rfl (Nat.le_of_ble_eq_true rfl) rfl hk0.1 (ce6 hk0.1 _ _) (ctX6_edgeAt_n (kl K) G X.2.2.2.2.2.2.2.1 h σ k0 hk0 x13) dL_areHeld_65 (fun _ => rfl) (fun r2 => ?_)
      refine z_istore X [(14, .int r2), (0, .ref (la G k0)), (1, .int x1), (2, .int x2), (3, .int x3), (4, .int x4), (5, .int x5), (6, .int x6), (7, .int x7), (9, .int x9), (10, .int x10), (11, .int x11), (12, .int x12), (13, .int x13)] dL_areHeld_68 (by decide) rfl ?_
      refine z_aload_n X dL_areHeld_70 1 rfl ?_
      refine z_iload X dL_areHeld_71 0 rfl ?_
      refine z_iconst (v := (0 : Int32)) X dL_areHeld_73 (by decide) ?_
      refine z_callVN X (g := (fun r3 : Int32 => ((some (.int r3), h, σ) : Option Value × Int64 × cS))) (st := []) (st1 := (fun r3 : Int32 => [.int r3])) (rmf := 7) (rml := 112) [.int r2, .int (0 : Int32)] k0 cal_X6_edge q_18_2 ⟨Nat.le_of_ble_eq_true rfl, Nat.le_of_ble_eq_true rfl⟩ rfl rfl (Nat.le_of_ble_eq_true rfl) rfl hk0.1 (ce6 hk0.1 _ _) (ctX6_edge_n (kl K) G X.2.2.2.2.2.2.2.1 Nf h σ k0 hk0 r2 (0 : Int32)) dL_areHeld_74 (fun _ => rfl) (fun r3 => ?_)
      refine z_iload X dL_areHeld_77 9 rfl ?_
      refine z_icmp_ne X 86 dL_areHeld_79 (by decide) ?_ ?_
      · refine z_iconst (v := (1 : Int32)) X dL_areHeld_82 (by decide) ?_
        refine z_goto X 87 dL_areHeld_83 (by decide) ?_
        exact z_sub [1, 2, 3, 4, 5, 6, 7, 8, 9, 10, 11, 12, 13, 0] rfl (sL_areHeld_87 X Nf k0 hk0 h self29 hself29 (fL_areHeld_52 (ll G) Nf k0 self29 n) ih x1 x2 x3 x4 x5 x6 x7 x9 x10 x11 x12 x13 r2 (1 : Int32) σ)
      · refine z_iconst (v := (0 : Int32)) X dL_areHeld_86 (by decide) ?_
        exact z_sub [1, 2, 3, 4, 5, 6, 7, 8, 9, 10, 11, 12, 13, 0] rfl (sL_areHeld_87 X Nf k0 hk0 h self29 hself29 (fL_areHeld_52 (ll G) Nf k0 self29 n) ih x1 x2 x3 x4 x5 x6 x7 x9 x10 x11 x12 x13 r2 (0 : Int32) σ)
def fL_areHeld_29 (L : Nat → Nat) (Nf : Nat) (k0 : Nat) : Nat → Int32 → Int32 → Int32 → Int32 → Int32 → Int32 → Int32 → Int32 → Int32 → cS → Option (Int32 × cS)
  | 0, _, _, _, _, _, _, _, _, _, _ => none
  | n + 1, x1, x2, x3, x4, x5, x6, x7, x8, x9, σ => if x1 ≤ x9 then (fL_areHeld_344 L Nf k0 x2 x3 x4 x5 x6 x7 x8 σ) else (if x8 = 0 then (fL_areHeld_344 L Nf k0 x2 x3 x4 x5 x6 x7 x8 σ) else (fL_areHeld_52 L Nf k0 (fL_areHeld_29 L Nf k0 n) Nf x1 x2 x3 x4 x5 x6 x7 x9 (0 : Int32) (0 : Int32) (0 : Int32) (0 : Int32) σ))
set_option maxHeartbeats 4000000 in
set_option maxRecDepth 100000 in
theorem sL_areHeld_29 {K : MCx} {G : Lay} (X : Cx K G RL cL_areHeld 16 (some .boolean) 8 135) (Nf : Nat) (k0 : Nat) (hk0 : isEH G k0) (h : Int64) : ∀ (n : Nat) (x1 : Int32) (x2 : Int32) (x3 : Int32) (x4 : Int32) (x5 : Int32) (x6 : Int32) (x7 : Int32) (x8 : Int32) (x9 : Int32) (σ : cS), Sm K G TT (QM K G (fun r : (Int32 × cS) => ((some (.int r.1), h, r.2) : Option Value × Int64 × cS))) 16 29 [(0, .ref (la G k0)), (1, .int x1), (2, .int x2), (3, .int x3), (4, .int x4), (5, .int x5), (6, .int x6), (7, .int x7), (8, .int x8), (9, .int x9)] [] h σ (fL_areHeld_29 (ll G) Nf k0 n x1 x2 x3 x4 x5 x6 x7 x8 x9 σ) := by
  intro n
  induction n with
  | zero => intros; exact z_none
  | succ n ih =>
    intro x1 x2 x3 x4 x5 x6 x7 x8 x9 σ
    unfold fL_areHeld_29
    refine z_iload X dL_areHeld_29 9 rfl ?_
    refine z_iload_n X dL_areHeld_31 1 rfl ?_
    refine z_icmp_ge X 344 dL_areHeld_32 (by decide) ?_ ?_
    · exact z_sub [0, 2, 3, 4, 5, 6, 7, 8] rfl (sL_areHeld_344 X Nf k0 hk0 h x2 x3 x4 x5 x6 x7 x8 σ)
    · refine z_iload X dL_areHeld_35 8 rfl ?_
      refine z_if_eq X 344 dL_areHeld_37 (by decide) ?_ ?_
      · exact z_sub [0, 2, 3, 4, 5, 6, 7, 8] rfl (sL_areHeld_344 X Nf k0 hk0 h x2 x3 x4 x5 x6 x7 x8 σ)
      · refine z_iconst (v := (0 : Int32)) X dL_areHeld_40 (by decide) ?_
        refine z_istore X [(10, .int (0 : Int32)), (0, .ref (la G k0)), (1, .int x1), (2, .int x2), (3, .int x3), (4, .int x4), (5, .int x5), (6, .int x6), (7, .int x7), (8, .int x8), (9, .int x9)] dL_areHeld_41 (by decide) rfl ?_
        refine z_iconst (v := (0 : Int32)) X dL_areHeld_43 (by decide) ?_
        refine z_istore X [(11, .int (0 : Int32)), (10, .int (0 : Int32)), (0, .ref (la G k0)), (1, .int x1), (2, .int x2), (3, .int x3), (4, .int x4), (5, .int x5), (6, .int x6), (7, .int x7), (8, .int x8), (9, .int x9)] dL_areHeld_44 (by decide) rfl ?_
        refine z_iconst (v := (0 : Int32)) X dL_areHeld_46 (by decide) ?_
        refine z_istore X [(12, .int (0 : Int32)), (11, .int (0 : Int32)), (10, .int (0 : Int32)), (0, .ref (la G k0)), (1, .int x1), (2, .int x2), (3, .int x3), (4, .int x4), (5, .int x5), (6, .int x6), (7, .int x7), (8, .int x8), (9, .int x9)] dL_areHeld_47 (by decide) rfl ?_
        refine z_iconst (v := (0 : Int32)) X dL_areHeld_49 (by decide) ?_
        refine z_istore X [(13, .int (0 : Int32)), (12, .int (0 : Int32)), (11, .int (0 : Int32)), (10, .int (0 : Int32)), (0, .ref (la G k0)), (1, .int x1), (2, .int x2), (3, .int x3), (4, .int x4), (5, .int x5), (6, .int x6), (7, .int x7), (8, .int x8), (9, .int x9)] dL_areHeld_50 (by decide) rfl ?_
        exact z_sub [4, 5, 6, 7, 8, 9, 10, 11, 13, 3, 2, 1, 0] rfl (sL_areHeld_52 X Nf k0 hk0 h (fL_areHeld_29 (ll G) Nf k0 n) ih Nf x1 x2 x3 x4 x5 x6 x7 x9 (0 : Int32) (0 : Int32) (0 : Int32) (0 : Int32) σ)
def fL_areHeld_0 (L : Nat → Nat) (Nf : Nat) (k0 : Nat) (σ : cS) : Option (Int32 × cS) := ibn (fX6_value L Nf σ k0 (0 : Int32)) (fun r1 => fL_areHeld_29 L Nf k0 Nf r1 (0 : Int32) (0 : Int32) (0 : Int32) (0 : Int32) (99 : Int32) (0 : Int32) (1 : Int32) (0 : Int32) σ)
set_option maxHeartbeats 4000000 in
set_option maxRecDepth 100000 in
theorem sL_areHeld_0 {K : MCx} {G : Lay} (X : Cx K G RL cL_areHeld 16 (some .boolean) 8 135) (Nf : Nat) (k0 : Nat) (hk0 : isEH G k0) (h : Int64) (σ : cS) : Sm K G TT (QM K G (fun r : (Int32 × cS) => ((some (.int r.1), h, r.2) : Option Value × Int64 × cS))) 16 0 [(0, .ref (la G k0))] [] h σ (fL_areHeld_0 (ll G) Nf k0 σ) := by
  unfold fL_areHeld_0
  refine z_aload_n X dL_areHeld_0 0 rfl ?_
  refine z_iconst (v := (0 : Int32)) X dL_areHeld_1 (by decide) ?_
  refine z_callVN X (g := (fun r1 : Int32 => ((some (.int r1), h, σ) : Option Value × Int64 × cS))) (st := []) (st1 := (fun r1 : Int32 => [.int r1])) (rmf := 6) (rml := 90) [.int (0 : Int32)] k0 cal_X6_value q_6_2 ⟨Nat.le_of_ble_eq_true rfl, Nat.le_of_ble_eq_true rfl⟩ rfl rfl (Nat.le_of_ble_eq_true rfl) rfl hk0.1 (ce6 hk0.1 _ _) (ctX6_value_n (kl K) G X.2.2.2.2.2.2.2.1 Nf h σ k0 hk0 (0 : Int32)) dL_areHeld_2 (fun _ => rfl) (fun r1 => ?_)
  refine z_istore_n X [(1, .int r1), (0, .ref (la G k0))] dL_areHeld_5 (by decide) rfl ?_
  refine z_iconst (v := (0 : Int32)) X dL_areHeld_6 (by decide) ?_
  refine z_istore_n X [(2, .int (0 : Int32)), (1, .int r1), (0, .ref (la G k0))] dL_areHeld_7 (by decide) rfl ?_
  refine z_iconst (v := (0 : Int32)) X dL_areHeld_8 (by decide) ?_
  refine z_istore_n X [(3, .int (0 : Int32)), (2, .int (0 : Int32)), (1, .int r1), (0, .ref (la G k0))] dL_areHeld_9 (by decide) rfl ?_
  refine z_iconst (v := (0 : Int32)) X dL_areHeld_10 (by decide) ?_
  refine z_istore X [(4, .int (0 : Int32)), (3, .int (0 : Int32)), (2, .int (0 : Int32)), (1, .int r1), (0, .ref (la G k0))] dL_areHeld_11 (by decide) rfl ?_
  refine z_iconst (v := (0 : Int32)) X dL_areHeld_13 (by decide) ?_
  refine z_istore X [(5, .int (0 : Int32)), (4, .int (0 : Int32)), (3, .int (0 : Int32)), (2, .int (0 : Int32)), (1, .int r1), (0, .ref (la G k0))] dL_areHeld_14 (by decide) rfl ?_
  refine z_bipush (v := (99 : Int32)) X dL_areHeld_16 (by decide) ?_
  refine z_istore X [(6, .int (99 : Int32)), (5, .int (0 : Int32)), (4, .int (0 : Int32)), (3, .int (0 : Int32)), (2, .int (0 : Int32)), (1, .int r1), (0, .ref (la G k0))] dL_areHeld_18 (by decide) rfl ?_
  refine z_iconst (v := (0 : Int32)) X dL_areHeld_20 (by decide) ?_
  refine z_istore X [(7, .int (0 : Int32)), (6, .int (99 : Int32)), (5, .int (0 : Int32)), (4, .int (0 : Int32)), (3, .int (0 : Int32)), (2, .int (0 : Int32)), (1, .int r1), (0, .ref (la G k0))] dL_areHeld_21 (by decide) rfl ?_
  refine z_iconst (v := (1 : Int32)) X dL_areHeld_23 (by decide) ?_
  refine z_istore X [(8, .int (1 : Int32)), (7, .int (0 : Int32)), (6, .int (99 : Int32)), (5, .int (0 : Int32)), (4, .int (0 : Int32)), (3, .int (0 : Int32)), (2, .int (0 : Int32)), (1, .int r1), (0, .ref (la G k0))] dL_areHeld_24 (by decide) rfl ?_
  refine z_iconst (v := (0 : Int32)) X dL_areHeld_26 (by decide) ?_
  refine z_istore X [(9, .int (0 : Int32)), (8, .int (1 : Int32)), (7, .int (0 : Int32)), (6, .int (99 : Int32)), (5, .int (0 : Int32)), (4, .int (0 : Int32)), (3, .int (0 : Int32)), (2, .int (0 : Int32)), (1, .int r1), (0, .ref (la G k0))] dL_areHeld_27 (by decide) rfl ?_
  exact z_sub [9, 8, 7, 6, 5, 4, 3, 2, 1, 0] rfl (sL_areHeld_29 X Nf k0 hk0 h Nf r1 (0 : Int32) (0 : Int32) (0 : Int32) (0 : Int32) (99 : Int32) (0 : Int32) (1 : Int32) (0 : Int32) σ)
def fL_areHeld (L : Nat → Nat) (Nf : Nat) (σ : cS) (k0 : Nat) : Option (Int32 × cS) := fL_areHeld_0 L Nf k0 σ
set_option maxHeartbeats 4000000 in
set_option maxRecDepth 100000 in
theorem ctL_areHeld (l : Launch) (G : Lay) (hi : Inj G) (Nf : Nat) (h : Int64) (σ : cS) (k0 : Nat) (hk0 : isEH G k0) : ∀ r, fL_areHeld (ll G) Nf σ k0 = some r → CM l yL_areHeld cL_areHeld 16 (some .boolean) 8 135 G [.ref (la G k0)] h σ (some (.int r.1), h, r.2) := by
  refine cm_of (g := (fun r : (Int32 × cS) => ((some (.int r.1), h, r.2) : Option Value × Int64 × cS))) (by decide) hi (Nat.le_of_ble_eq_true rfl) (fun K hKl X => ?_)
  unfold fL_areHeld
  exact z_sub [0] rfl (sL_areHeld_0 X Nf k0 hk0 h σ)
def fL_isDense_244 (L : Nat → Nat) (Nf : Nat) (k0 : Nat) (y0 : Int32) (σ : cS) : Option (Int32 × cS) := grd (isb y0) (some (y0, σ))
set_option maxHeartbeats 4000000 in
set_option maxRecDepth 100000 in
theorem sL_isDense_244 {K : MCx} {G : Lay} (X : Cx K G RL cL_isDense 8 (some .boolean) 8 133) (Nf : Nat) (k0 : Nat) (hk0 : isEH G k0) (h : Int64) (y0 : Int32) (σ : cS) : Sm K G TT (QM K G (fun r : (Int32 × cS) => ((some (.int r.1), h, r.2) : Option Value × Int64 × cS))) 8 244 [] [.int y0] h σ (fL_isDense_244 (ll G) Nf k0 y0 σ) := by
  unfold fL_isDense_244
  exact z_zret X rfl dL_isDense_244
def fL_isDense_243 (L : Nat → Nat) (Nf : Nat) (k0 : Nat) (σ : cS) : Option (Int32 × cS) := fL_isDense_244 L Nf k0 (0 : Int32) σ
set_option maxHeartbeats 4000000 in
set_option maxRecDepth 100000 in
theorem sL_isDense_243 {K : MCx} {G : Lay} (X : Cx K G RL cL_isDense 8 (some .boolean) 8 133) (Nf : Nat) (k0 : Nat) (hk0 : isEH G k0) (h : Int64) (σ : cS) : Sm K G TT (QM K G (fun r : (Int32 × cS) => ((some (.int r.1), h, r.2) : Option Value × Int64 × cS))) 8 243 [] [] h σ (fL_isDense_243 (ll G) Nf k0 σ) := by
  unfold fL_isDense_243
  refine z_iconst (v := (0 : Int32)) X dL_isDense_243 (by decide) ?_
  exact z_sub [] rfl (sL_isDense_244 X Nf k0 hk0 h (0 : Int32) σ)
def fL_isDense_239 (L : Nat → Nat) (Nf : Nat) (k0 : Nat) (σ : cS) : Option (Int32 × cS) := fL_isDense_244 L Nf k0 (1 : Int32) σ
set_option maxHeartbeats 4000000 in
set_option maxRecDepth 100000 in
theorem sL_isDense_239 {K : MCx} {G : Lay} (X : Cx K G RL cL_isDense 8 (some .boolean) 8 133) (Nf : Nat) (k0 : Nat) (hk0 : isEH G k0) (h : Int64) (σ : cS) : Sm K G TT (QM K G (fun r : (Int32 × cS) => ((some (.int r.1), h, r.2) : Option Value × Int64 × cS))) 8 239 [] [] h σ (fL_isDense_239 (ll G) Nf k0 σ) := by
  unfold fL_isDense_239
  refine z_iconst (v := (1 : Int32)) X dL_isDense_239 (by decide) ?_
  refine z_goto X 244 dL_isDense_240 (by decide) ?_
  exact z_sub [] rfl (sL_isDense_244 X Nf k0 hk0 h (1 : Int32) σ)
def fL_isDense_224 (L : Nat → Nat) (Nf : Nat) (k0 : Nat) (x6 : Int32) (σ : cS) : Option (Int32 × cS) := ibn (fX6_value L Nf σ k0 (7 : Int32)) (fun r1 => if 0 < r1 then (fL_isDense_239 L Nf k0 σ) else (if x6 = (-1 : Int32) then (fL_isDense_239 L Nf k0 σ) else (fL_isDense_243 L Nf k0 σ)))
set_option maxHeartbeats 4000000 in
set_option maxRecDepth 100000 in
theorem sL_isDense_224 {K : MCx} {G : Lay} (X : Cx K G RL cL_isDense 8 (some .boolean) 8 133) (Nf : Nat) (k0 : Nat) (hk0 : isEH G k0) (h : Int64) (x6 : Int32) (σ : cS) : Sm K G TT (QM K G (fun r : (Int32 × cS) => ((some (.int r.1), h, r.2) : Option Value × Int64 × cS))) 8 224 [(0, .ref (la G k0)), (6, .int x6)] [] h σ (fL_isDense_224 (ll G) Nf k0 x6 σ) := by
  unfold fL_isDense_224
  refine z_aload_n X dL_isDense_224 0 rfl ?_
  refine z_bipush (v := (7 : Int32)) X dL_isDense_225 (by decide) ?_
  refine z_callVN X (g := (fun r1 : Int32 => ((some (.int r1), h, σ) : Option Value × Int64 × cS))) (st := []) (st1 := (fun r1 : Int32 => [.int r1])) (rmf := 6) (rml := 90) [.int (7 : Int32)] k0 cal_X6_value q_6_2 ⟨Nat.le_of_ble_eq_true rfl, Nat.le_of_ble_eq_true rfl⟩ rfl rfl (Nat.le_of_ble_eq_true rfl) rfl hk0.1 (ce6 hk0.1 _ _) (ctX6_value_n (kl K) G X.2.2.2.2.2.2.2.1 Nf h σ k0 hk0 (7 : Int32)) dL_isDense_227 (fun _ => rfl) (fun r1 => ?_)
  refine z_if_gt X 239 dL_isDense_230 (by decide) ?_ ?_
  · exact z_sub [] rfl (sL_isDense_239 X Nf k0 hk0 h σ)
  · refine z_iload X dL_isDense_233 1 rfl ?_
    refine z_iconst (v := (-1 : Int32)) X dL_isDense_235 (by decide) ?_
    refine z_icmp_ne X 243 dL_isDense_236 (by decide) ?_ ?_
    · exact z_sub [] rfl (sL_isDense_239 X Nf k0 hk0 h σ)
    · exact z_sub [] rfl (sL_isDense_243 X Nf k0 hk0 h σ)
def fL_isDense_81 (L : Nat → Nat) (Nf : Nat) (k0 : Nat) (self22 : Int32 → Int32 → Int32 → Int32 → Int32 → Int32 → Int32 → cS → Option (Int32 × cS)) (x1 : Int32) (x2 : Int32) (x3 : Int32) (x4 : Int32) (x6 : Int32) (x7 : Int32) (y0 : Int32) (y1 : Int32) (σ : cS) : Option (Int32 × cS) := bnd ((y0 + y1)) (fun t1 => bnd (x7 + (1 : Int32)) (fun t2 => self22 x1 x2 x3 x4 t1 x6 t2 σ))
set_option maxHeartbeats 4000000 in
set_option maxRecDepth 100000 in
theorem sL_isDense_81 {K : MCx} {G : Lay} (X : Cx K G RL cL_isDense 8 (some .boolean) 8 133) (Nf : Nat) (k0 : Nat) (hk0 : isEH G k0) (h : Int64) (self22 : Int32 → Int32 → Int32 → Int32 → Int32 → Int32 → Int32 → cS → Option (Int32 × cS)) (hself22 : ∀ (x1 : Int32) (x2 : Int32) (x3 : Int32) (x4 : Int32) (x5 : Int32) (x6 : Int32) (x7 : Int32) (σ : cS), Sm K G TT (QM K G (fun r : (Int32 × cS) => ((some (.int r.1), h, r.2) : Option Value × Int64 × cS))) 8 22 [(0, .ref (la G k0)), (1, .int x1), (2, .int x2), (3, .int x3), (4, .int x4), (5, .int x5), (6, .int x6), (7, .int x7)] [] h σ (self22 x1 x2 x3 x4 x5 x6 x7 σ)) (x1 : Int32) (x2 : Int32) (x3 : Int32) (x4 : Int32) (x6 : Int32) (x7 : Int32) (y0 : Int32) (y1 : Int32) (σ : cS) : Sm K G TT (QM K G (fun r : (Int32 × cS) => ((some (.int r.1), h, r.2) : Option Value × Int64 × cS))) 8 81 [(0, .ref (la G k0)), (1, .int x1), (2, .int x2), (3, .int x3), (4, .int x4), (6, .int x6), (7, .int x7)] [.int y1, .int y0] h σ (fL_isDense_81 (ll G) Nf k0 self22 x1 x2 x3 x4 x6 x7 y0 y1 σ) := by
  unfold fL_isDense_81
  refine z_iadd X dL_isDense_81 ?_
  refine z_nm (fun t1 => ?_)
  refine z_istore X [(5, .int t1), (0, .ref (la G k0)), (1, .int x1), (2, .int x2), (3, .int x3), (4, .int x4), (6, .int x6), (7, .int x7)] dL_isDense_82 (by decide) rfl ?_
  refine z_iinc X (fun t2 => [(7, .int t2), (5, .int t1), (0, .ref (la G k0)), (1, .int x1), (2, .int x2), (3, .int x3), (4, .int x4), (6, .int x6)]) dL_isDense_84 7 rfl (by decide) (by decide) (fun _ => rfl) (fun t2 => ?_)
  refine z_goto X 22 dL_isDense_87 (by decide) ?_
  exact z_sub [2, 3, 4, 5, 6, 1, 7, 0] rfl (hself22 x1 x2 x3 x4 t1 x6 t2 σ)
def fL_isDense_80 (L : Nat → Nat) (Nf : Nat) (k0 : Nat) (self22 : Int32 → Int32 → Int32 → Int32 → Int32 → Int32 → Int32 → cS → Option (Int32 × cS)) (x1 : Int32) (x2 : Int32) (x3 : Int32) (x4 : Int32) (x6 : Int32) (x7 : Int32) (y0 : Int32) (σ : cS) : Option (Int32 × cS) := fL_isDense_81 L Nf k0 self22 x1 x2 x3 x4 x6 x7 y0 (0 : Int32) σ
set_option maxHeartbeats 4000000 in
set_option maxRecDepth 100000 in
theorem sL_isDense_80 {K : MCx} {G : Lay} (X : Cx K G RL cL_isDense 8 (some .boolean) 8 133) (Nf : Nat) (k0 : Nat) (hk0 : isEH G k0) (h : Int64) (self22 : Int32 → Int32 → Int32 → Int32 → Int32 → Int32 → Int32 → cS → Option (Int32 × cS)) (hself22 : ∀ (x1 : Int32) (x2 : Int32) (x3 : Int32) (x4 : Int32) (x5 : Int32) (x6 : Int32) (x7 : Int32) (σ : cS), Sm K G TT (QM K G (fun r : (Int32 × cS) => ((some (.int r.1), h, r.2) : Option Value × Int64 × cS))) 8 22 [(0, .ref (la G k0)), (1, .int x1), (2, .int x2), (3, .int x3), (4, .int x4), (5, .int x5), (6, .int x6), (7, .int x7)] [] h σ (self22 x1 x2 x3 x4 x5 x6 x7 σ)) (x1 : Int32) (x2 : Int32) (x3 : Int32) (x4 : Int32) (x6 : Int32) (x7 : Int32) (y0 : Int32) (σ : cS) : Sm K G TT (QM K G (fun r : (Int32 × cS) => ((some (.int r.1), h, r.2) : Option Value × Int64 × cS))) 8 80 [(0, .ref (la G k0)), (1, .int x1), (2, .int x2), (3, .int x3), (4, .int x4), (6, .int x6), (7, .int x7)] [.int y0] h σ (fL_isDense_80 (ll G) Nf k0 self22 x1 x2 x3 x4 x6 x7 y0 σ) := by
  unfold fL_isDense_80
  refine z_iconst (v := (0 : Int32)) X dL_isDense_80 (by decide) ?_
  exact z_sub [0, 1, 2, 3, 4, 5, 6] rfl (sL_isDense_81 X Nf k0 hk0 h self22 hself22 x1 x2 x3 x4 x6 x7 y0 (0 : Int32) σ)
def fL_isDense_22 (L : Nat → Nat) (Nf : Nat) (k0 : Nat) : Nat → Int32 → Int32 → Int32 → Int32 → Int32 → Int32 → Int32 → cS → Option (Int32 × cS)
  | 0, _, _, _, _, _, _, _, _ => none
  | n + 1, x1, x2, x3, x4, x5, x6, x7, σ => ibn (fX6_value L Nf σ k0 (0 : Int32)) (fun r1 => if r1 ≤ x7 then (ibn (fX6_inner L Nf σ k0 x2) (fun r2 => ibn (fX6_inner L Nf σ k0 x1) (fun r3 => if (r2 * x4) < (r3 * x3) then (fL_isDense_243 L Nf k0 σ) else (Option.bind (fX6_least L Nf σ k0) (fun r4 => grd (nz x3) (if r4.1 = (((r2 + x3) - (1 : Int32)) / x3) then (Option.bind (fX6_density L Nf r4.2 k0) (fun r5 => grd (n64b (FP.dmul r5.1 (FP.i2d x3))) (grd (n64b (FP.dsub (FP.i2d r2) (4602678819172646912 : UInt64))) (if (Op.cmpValue (FP.dcmp (FP.dmul r5.1 (FP.i2d x3)) (FP.dsub (FP.i2d r2) (4602678819172646912 : UInt64))) .l) ≤ 0 then (fL_isDense_243 L Nf k0 r5.2) else (Option.bind (fX6_density L Nf r5.2 k0) (fun r6 => grd (n64b (FP.dmul r6.1 (FP.i2d x3))) (grd (n64b (FP.dadd (FP.i2d r2) (4602678819172646912 : UInt64))) (if 0 ≤ (Op.cmpValue (FP.dcmp (FP.dmul r6.1 (FP.i2d x3)) (FP.dadd (FP.i2d r2) (4602678819172646912 : UInt64))) .g) then (fL_isDense_243 L Nf k0 r6.2) else (ibn (fX6_value L Nf r6.2 k0 (2 : Int32)) (fun r7 => Option.bind (fX6_least L Nf r6.2 k0) (fun r8 => if r7 < r8.1 then (fL_isDense_243 L Nf k0 r8.2) else (Option.bind (fX6_leastCapacity L Nf r8.2 k0) (fun r9 => Option.bind (fX6_least L Nf r9.2 k0) (fun r10 => if r9.1 = r10.1 then (ibn (fX6_value L Nf r10.2 k0 (0 : Int32)) (fun r11 => ibn (fX6_inner L Nf r10.2 k0 (((1 : Int32) <<< (r11 &&& 31)) - (1 : Int32))) (fun r12 => ibn (fX6_value L Nf r10.2 k0 (1 : Int32)) (fun r13 => if r12 = r13 then (if x6 = (-1 : Int32) then (fL_isDense_224 L Nf k0 x6 r10.2) else (ibn (fX6_inner L Nf r10.2 k0 x6) (fun r14 => if r14 ≤ x5 then (fL_isDense_243 L Nf k0 r10.2) else (fL_isDense_224 L Nf k0 x6 r10.2)))) else (fL_isDense_243 L Nf k0 r10.2))))) else (fL_isDense_243 L Nf k0 r10.2))))))))))))))) else (fL_isDense_243 L Nf k0 r4.2))))))) else (bnd ((x3 + ((x2 >>> (x7 &&& 31)) &&& (1 : Int32)))) (fun t15 => bnd ((x4 + ((x1 >>> (x7 &&& 31)) &&& (1 : Int32)))) (fun t16 => if x6 < 0 then (fL_isDense_80 L Nf k0 (fL_isDense_22 L Nf k0 n) x1 x2 t15 t16 x6 x7 x5 σ) else (if ((x6 >>> (x7 &&& 31)) &&& (1 : Int32)) = (1 : Int32) then (ibn (fX6_node L Nf σ k0 x7 (2 : Int32)) (fun r17 => fL_isDense_81 L Nf k0 (fL_isDense_22 L Nf k0 n) x1 x2 t15 t16 x6 x7 x5 r17.1 r17.2)) else (fL_isDense_80 L Nf k0 (fL_isDense_22 L Nf k0 n) x1 x2 t15 t16 x6 x7 x5 σ))))))
set_option maxHeartbeats 4000000 in
set_option maxRecDepth 100000 in
theorem sL_isDense_22 {K : MCx} {G : Lay} (X : Cx K G RL cL_isDense 8 (some .boolean) 8 133) (Nf : Nat) (k0 : Nat) (hk0 : isEH G k0) (h : Int64) : ∀ (n : Nat) (x1 : Int32) (x2 : Int32) (x3 : Int32) (x4 : Int32) (x5 : Int32) (x6 : Int32) (x7 : Int32) (σ : cS), Sm K G TT (QM K G (fun r : (Int32 × cS) => ((some (.int r.1), h, r.2) : Option Value × Int64 × cS))) 8 22 [(0, .ref (la G k0)), (1, .int x1), (2, .int x2), (3, .int x3), (4, .int x4), (5, .int x5), (6, .int x6), (7, .int x7)] [] h σ (fL_isDense_22 (ll G) Nf k0 n x1 x2 x3 x4 x5 x6 x7 σ) := by
  intro n
  induction n with
  | zero => intros; exact z_none
  | succ n ih =>
    intro x1 x2 x3 x4 x5 x6 x7 σ
    unfold fL_isDense_22
    refine z_iload X dL_isDense_22 7 rfl ?_
    refine z_aload_n X dL_isDense_24 0 rfl ?_
    refine z_iconst (v := (0 : Int32)) X dL_isDense_25 (by decide) ?_
    refine z_callVN X (g := (fun r1 : Int32 => ((some (.int r1), h, σ) : Option Value × Int64 × cS))) (st := [.int x7]) (st1 := (fun r1 : Int32 => [.int r1, .int x7])) (rmf := 6) (rml := 90) [.int (0 : Int32)] k0 cal_X6_value q_6_2 ⟨Nat.le_of_ble_eq_true rfl, Nat.le_of_ble_eq_true rfl⟩ rfl rfl (Nat.le_of_ble_eq_true rfl) rfl hk0.1 (ce6 hk0.1 _ _) (ctX6_value_n (kl K) G X.2.2.2.2.2.2.2.1 Nf h σ k0 hk0 (0 : Int32)) dL_isDense_26 (fun _ => rfl) (fun r1 => ?_)
    refine z_icmp_ge X 90 dL_isDense_29 (by decide) ?_ ?_
    · refine z_aload_n X dL_isDense_90 0 rfl ?_
      refine z_iload_n X dL_isDense_91 2 rfl ?_
      refine z_callVN X (g := (fun r2 : Int32 => ((some (.int r2), h, σ) : Option Value × Int64 × cS))) (st := []) (st1 := (fun r2 : Int32 => [.int r2])) (rmf := 6) (rml := 90) [.int x2] k0 cal_X6_inner q_22_1 ⟨Nat.le_of_ble_eq_true rfl, Nat.le_of_ble_eq_true rfl⟩ rfl rfl (Nat.le_of_ble_eq_true rfl) rfl hk0.1 (ce6 hk0.1 _ _) (ctX6_inner_n (kl K) G X.2.2.2.2.2.2.2.1 Nf h σ k0 hk0 x2) dL_isDense_92 (fun _ => rfl) (fun r2 => ?_)
      refine z_istore X [(7, .int r2), (0, .ref (la G k0)), (1, .int x1), (2, .int x2), (3, .int x3), (4, .int x4), (5, .int x5), (6, .int x6)] dL_isDense_95 (by decide) rfl ?_
      refine z_aload_n X dL_isDense_97 1 rfl ?_
      refine z_iload_n X dL_isDense_98 2 rfl ?_
      refine z_callVN X (g := (fun r3 : Int32 => ((some (.int r3), h, σ) : Option Value × Int64 × cS))) (st := []) (st1 := (fun r3 : Int32 => [.int r3])) (rmf := 6) (rml := 90) [.int x1] k0 cal_X6_inner q_22_1 ⟨Nat.le_of_ble_eq_true rfl, Nat.le_of_ble_eq_true rfl⟩ rfl rfl (Nat.le_of_ble_eq_true rfl) rfl hk0.1 (ce6 hk0.1 _ _) (ctX6_inner_n (kl K) G X.2.2.2.2.2.2.2.1 Nf h σ k0 hk0 x1) dL_isDense_99 (fun _ => rfl) (fun r3 => ?_)
      refine z_iload_n X dL_isDense_102 4 rfl ?_
      refine z_imul X dL_isDense_103 ?_
      refine z_iload X dL_isDense_104 0 rfl ?_
      refine z_iload X dL_isDense_106 5 rfl ?_
      refine z_imul X dL_isDense_108 ?_
      refine z_icmp_gt X 243 dL_isDense_109 (by decide) ?_ ?_
      · exact z_sub [] rfl (sL_isDense_243 X Nf k0 hk0 h σ)
      · refine z_aload_n X dL_isDense_112 1 rfl ?_
        refine z_callV0 X (g := (fun r4 : (Int32 × cS) => ((some (.int r4.1), h, r4.2) : Option Value × Int64 × cS))) (st := []) (st1 := (fun r4 : (Int32 × cS) => [.int r4.1])) (rmf := 4) (rml := 92) [] k0 cal_X6_least q_9_9 ⟨Nat.le_of_ble_eq_true rfl, Nat.le_of_ble_eq_true rfl⟩ rfl rfl (Nat.le_of_ble_eq_true rfl) rfl hk0.1 (ce6 hk0.1 _ _) (ctX6_least (kl K) G X.2.2.2.2.2.2.2.1 Nf h σ k0 hk0 ) dL_isDense_113 (fun _ => rfl) (fun r4 => ?_)
        refine z_iload X dL_isDense_116 0 rfl ?_
        refine z_iload_n X dL_isDense_118 4 rfl ?_
        refine z_iadd X dL_isDense_119 ?_
        refine z_iconst (v := (1 : Int32)) X dL_isDense_120 (by decide) ?_
        refine z_isub X dL_isDense_121 ?_
        refine z_iload_n X dL_isDense_122 4 rfl ?_
        refine z_idiv X dL_isDense_123 ?_
        refine z_icmp_ne X 243 dL_isDense_124 (by decide) ?_ ?_
        · refine z_aload_n X dL_isDense_127 1 rfl ?_
          refine z_callV0 X (g := (fun r5 : (UInt64 × cS) => ((some (.double r5.1), h, r5.2) : Option Value × Int64 × cS))) (st := []) (st1 := (fun r5 : (UInt64 × cS) => [.double r5.1])) (rmf := 4) (rml := 92) [] k0 cal_X6_density q_9_13 ⟨Nat.le_of_ble_eq_true rfl, Nat.le_of_ble_eq_true rfl⟩ rfl rfl (Nat.le_of_ble_eq_true rfl) rfl hk0.1 (ce6 hk0.1 _ _) (ctX6_density (kl K) G X.2.2.2.2.2.2.2.1 Nf h r4.2 k0 hk0 ) dL_isDense_128 (fun _ => rfl) (fun r5 => ?_)
          refine z_iload_n X dL_isDense_131 4 rfl ?_
          refine z_i2d X dL_isDense_132 ?_
          refine z_dmul X dL_isDense_133 ?_
          refine z_iload X dL_isDense_134 0 rfl ?_
          refine z_i2d X dL_isDense_136 ?_
          refine z_ldc2d X q_24_9 dL_isDense_137 ?_
          refine z_dsub X dL_isDense_140 ?_
          refine z_dcmp X dL_isDense_141 ?_
          refine z_if_le X 243 dL_isDense_142 (by decide) ?_ ?_
          · exact z_sub [] rfl (sL_isDense_243 X Nf k0 hk0 h r5.2)
          · refine z_aload_n X dL_isDense_145 1 rfl ?_
            refine z_callV0 X (g := (fun r6 : (UInt64 × cS) => ((some (.double r6.1), h, r6.2) : Option Value × Int64 × cS))) (st := []) (st1 := (fun r6 : (UInt64 × cS) => [.double r6.1])) (rmf := 4) (rml := 92) [] k0 cal_X6_density q_9_13 ⟨Nat.le_of_ble_eq_true rfl, Nat.le_of_ble_eq_true rfl⟩ rfl rfl (Nat.le_of_ble_eq_true rfl) rfl hk0.1 (ce6 hk0.1 _ _) (ctX6_density (kl K) G X.2.2.2.2.2.2.2.1 Nf h r5.2 k0 hk0 ) dL_isDense_146 (fun _ => rfl) (fun r6 => ?_)
            refine z_iload_n X dL_isDense_149 4 rfl ?_
            refine z_i2d X dL_isDense_150 ?_
            refine z_dmul X dL_isDense_151 ?_
            refine z_iload X dL_isDense_152 0 rfl ?_
            refine z_i2d X dL_isDense_154 ?_
            refine z_ldc2d X q_24_9 dL_isDense_155 ?_
            refine z_dadd X dL_isDense_158 ?_
            refine z_dcmp X dL_isDense_159 ?_
            refine z_if_ge X 243 dL_isDense_160 (by decide) ?_ ?_
            · exact z_sub [] rfl (sL_isDense_243 X Nf k0 hk0 h r6.2)
            · refine z_aload_n X dL_isDense_163 1 rfl ?_
              refine z_iconst (v := (2 : Int32)) X dL_isDense_164 (by decide) ?_
              refine z_callVN X (g := (fun r7 : Int32 => ((some (.int r7), h, r6.2) : Option Value × Int64 × cS))) (st := []) (st1 := (fun r7 : Int32 => [.int r7])) (rmf := 6) (rml := 90) [.int (2 : Int32)] k0 cal_X6_value q_6_2 ⟨Nat.le_of_ble_eq_true rfl, Nat.le_of_ble_eq_true rfl⟩ rfl rfl (Nat.le_of_ble_eq_true rfl) rfl hk0.1 (ce6 hk0.1 _ _) (ctX6_value_n (kl K) G X.2.2.2.2.2.2.2.1 Nf h r6.2 k0 hk0 (2 : Int32)) dL_isDense_165 (fun _ => rfl) (fun r7 => ?_)
              refine z_aload_n X dL_isDense_168 1 rfl ?_
              refine z_callV0 X (g := (fun r8 : (Int32 × cS) => ((some (.int r8.1), h, r8.2) : Option Value × Int64 × cS))) (st := [.int r7]) (st1 := (fun r8 : (Int32 × cS) => [.int r8.1, .int r7])) (rmf := 4) (rml := 92) [] k0 cal_X6_least q_9_9 ⟨Nat.le_of_ble_eq_true rfl, Nat.le_of_ble_eq_true rfl⟩ rfl rfl (Nat.le_of_ble_eq_true rfl) rfl hk0.1 (ce6 hk0.1 _ _) (ctX6_least (kl K) G X.2.2.2.2.2.2.2.1 Nf h r6.2 k0 hk0 ) dL_isDense_169 (fun _ => rfl) (fun r8 => ?_)
              refine z_icmp_lt X 243 dL_isDense_172 (by decide) ?_ ?_
              · exact z_sub [] rfl (sL_isDense_243 X Nf k0 hk0 h r8.2)
              · refine z_aload_n X dL_isDense_175 1 rfl ?_
                refine z_callV0 X (g := (fun r9 : (Int32 × cS) => ((some (.int r9.1), h, r9.2) : Option Value × Int64 × cS))) (st := []) (st1 := (fun r9 : (Int32 × cS) => [.int r9.1])) (rmf := 4) (rml := 92) [] k0 cal_X6_leastCapacity q_24_18 ⟨Nat.le_of_ble_eq_true rfl, Nat.le_of_ble_eq_true rfl⟩ rfl rfl (Nat.le_of_ble_eq_true rfl) rfl hk0.1 (ce6 hk0.1 _ _) (ctX6_leastCapacity (kl K) G X.2.2.2.2.2.2.2.1 Nf h r8.2 k0 hk0 ) dL_isDense_176 (fun _ => rfl) (fun r9 => ?_)
                refine z_aload_n X dL_isDense_179 1 rfl ?_
                refine z_callV0 X (g := (fun r10 : (Int32 × cS) => ((some (.int r10.1), h, r10.2) : Option Value × Int64 × cS))) (st := [.int r9.1]) (st1 := (fun r10 : (Int32 × cS) => [.int r10.1, .int r9.1])) (rmf := 4) (rml := 92) [] k0 cal_X6_least q_9_9 ⟨Nat.le_of_ble_eq_true rfl, Nat.le_of_ble_eq_true rfl⟩ rfl rfl (Nat.le_of_ble_eq_true rfl) rfl hk0.1 (ce6 hk0.1 _ _) (ctX6_least (kl K) G X.2.2.2.2.2.2.2.1 Nf h r9.2 k0 hk0 ) dL_isDense_180 (fun _ => rfl) (fun r10 => ?_)
                refine z_icmp_ne X 243 dL_isDense_183 (by decide) ?_ ?_
                · refine z_aload_n X dL_isDense_186 1 rfl ?_
                  refine z_iconst (v := (1 : Int32)) X dL_isDense_187 (by decide) ?_
                  refine z_aload_n X dL_isDense_188 1 rfl ?_
                  refine z_iconst (v := (0 : Int32)) X dL_isDense_189 (by decide) ?_
                  refine z_callVN X (g := (fun r11 : Int32 => ((some (.int r11), h, r10.2) : Option Value × Int64 × cS))) (st := [.int (1 : Int32), .ref (la G k0)]) (st1 := (fun r11 : Int32 => [.int r11, .int (1 : Int32), .ref (la G k0)])) (rmf := 6) (rml := 90) [.int (0 : Int32)] k0 cal_X6_value q_6_2 ⟨Nat.le_of_ble_eq_true rfl, Nat.le_of_ble_eq_true rfl⟩ rfl rfl (Nat.le_of_ble_eq_true rfl) rfl hk0.1 (ce6 hk0.1 _ _) (ctX6_value_n (kl K) G X.2.2.2.2.2.2.2.1 Nf h r10.2 k0 hk0 (0 : Int32)) dL_isDense_190 (fun _ => rfl) (fun r11 => ?_)
                  refine z_ishl X dL_isDense_193 ?_
                  refine z_iconst (v := (1 : Int32)) X dL_isDense_194 (by decide) ?_
                  refine z_isub X dL_isDense_195 ?_
                  refine z_callVN X (g := (fun r12 : Int32 => ((some (.int r12), h, r10.2) : Option Value × Int64 × cS))) (st := []) (st1 := (fun r12 : Int32 => [.int r12])) (rmf := 6) (rml := 90) [.int (((1 : Int32) <<< (r11 &&& 31)) - (1 : Int32))] k0 cal_X6_inner q_22_1 ⟨Nat.le_of_ble_eq_true rfl, Nat.le_of_ble_eq_true rfl⟩ rfl rfl (Nat.le_of_ble_eq_true rfl) rfl hk0.1 (ce6 hk0.1 _ _) (ctX6_inner_n (kl K) G X.2.2.2.2.2.2.2.1 Nf h r10.2 k0 hk0 (((1 : Int32) <<< (r11 &&& 31)) - (1 : Int32))) dL_isDense_196 (fun _ => rfl) (fun r12 => ?_)
                  refine z_aload_n X dL_isDense_199 1 rfl ?_
                  refine z_iconst (v := (1 : Int32)) X dL_isDense_200 (by decide) ?_
                  refine z_callVN X (g := (fun r13 : Int32 => ((some (.int r13), h, r10.2) : Option Value × Int64 × cS))) (st := [.int r12]) (st1 := (fun r13 : Int32 => [.int r13, .int r12])) (rmf := 6) (rml := 90) [.int (1 : Int32)] k0 cal_X6_value q_6_2 ⟨Nat.le_of_ble_eq_true rfl, Nat.le_of_ble_eq_true rfl⟩ rfl rfl (Nat.le_of_ble_eq_true rfl) rfl hk0.1 (ce6 hk0.1 _ _) (ctX6_value_n (kl K) G X.2.2.2.2.2.2.2.1 Nf h r10.2 k0 hk0 (1 : Int32)) dL_isDense_201 (fun _ => rfl) (fun r13 => ?_)
                  refine z_icmp_ne X 243 dL_isDense_204 (by decide) ?_ ?_
                  · refine z_iload X dL_isDense_207 7 rfl ?_
                    refine z_iconst (v := (-1 : Int32)) X dL_isDense_209 (by decide) ?_
                    refine z_icmp_eq X 224 dL_isDense_210 (by decide) ?_ ?_
                    · exact z_sub [1, 7] rfl (sL_isDense_224 X Nf k0 hk0 h x6 r10.2)
                    · refine z_aload_n X dL_isDense_213 1 rfl ?_
                      refine z_iload X dL_isDense_214 7 rfl ?_
                      refine z_callVN X (g := (fun r14 : Int32 => ((some (.int r14), h, r10.2) : Option Value × Int64 × cS))) (st := []) (st1 := (fun r14 : Int32 => [.int r14])) (rmf := 6) (rml := 90) [.int x6] k0 cal_X6_inner q_22_1 ⟨Nat.le_of_ble_eq_true rfl, Nat.le_of_ble_eq_true rfl⟩ rfl rfl (Nat.le_of_ble_eq_true rfl) rfl hk0.1 (ce6 hk0.1 _ _) (ctX6_inner_n (kl K) G X.2.2.2.2.2.2.2.1 Nf h r10.2 k0 hk0 x6) dL_isDense_216 (fun _ => rfl) (fun r14 => ?_)
                      refine z_iload X dL_isDense_219 6 rfl ?_
                      refine z_icmp_le X 243 dL_isDense_221 (by decide) ?_ ?_
                      · exact z_sub [] rfl (sL_isDense_243 X Nf k0 hk0 h r10.2)
                      · exact z_sub [1, 7] rfl (sL_isDense_224 X Nf k0 hk0 h x6 r10.2)
                  · exact z_sub [] rfl (sL_isDense_243 X Nf k0 hk0 h r10.2)
                · exact z_sub [] rfl (sL_isDense_243 X Nf k0 hk0 h r10.2)
        · exact z_sub [] rfl (sL_isDense_243 X Nf k0 hk0 h r4.2)
    · refine z_iload_n X dL_isDense_32 3 rfl ?_
      refine z_iload_n X dL_isDense_33 2 rfl ?_
      refine z_iload X dL_isDense_34 7 rfl ?_
      refine z_ishr X dL_isDense_36 ?_
      refine z_iconst (v := (1 : Int32)) X dL_isDense_37 (by decide) ?_
      refine z_iand X dL_isDense_38 ?_
      refine z_iadd X dL_isDense_39 ?_
      refine z_nm (fun t15 => ?_)
      refine z_istore_n X [(3, .int t15), (0, .ref (la G k0)), (1, .int x1), (2, .int x2), (4, .int x4), (5, .int x5), (6, .int x6), (7, .int x7)] dL_isDense_40 (by decide) rfl ?_
      refine z_iload X dL_isDense_41 4 rfl ?_
      refine z_iload_n X dL_isDense_43 2 rfl ?_
      refine z_iload X dL_isDense_44 7 rfl ?_
      refine z_ishr X dL_isDense_46 ?_
      refine z_iconst (v := (1 : Int32)) X dL_isDense_47 (by decide) ?_
      refine z_iand X dL_isDense_48 ?_
      refine z_iadd X dL_isDense_49 ?_
      refine z_nm (fun t16 => ?_)
      refine z_istore X [(4, .int t16), (3, .int t15), (0, .ref (la G k0)), (1, .int x1), (2, .int x2), (5, .int x5), (6, .int x6), (7, .int x7)] dL_isDense_50 (by decide) rfl ?_
      refine z_iload X dL_isDense_52 5 rfl ?_
      refine z_iload X dL_isDense_54 6 rfl ?_
      refine z_if_lt X 80 dL_isDense_56 (by decide) ?_ ?_
      · exact z_sub [2, 3, 4, 1, 0, 6, 7] rfl (sL_isDense_80 X Nf k0 hk0 h (fL_isDense_22 (ll G) Nf k0 n) ih x1 x2 t15 t16 x6 x7 x5 σ)
      · refine z_iload X dL_isDense_59 6 rfl ?_
        refine z_iload X dL_isDense_61 7 rfl ?_
        refine z_ishr X dL_isDense_63 ?_
        refine z_iconst (v := (1 : Int32)) X dL_isDense_64 (by decide) ?_
        refine z_iand X dL_isDense_65 ?_
        refine z_iconst (v := (1 : Int32)) X dL_isDense_66 (by decide) ?_
        refine z_icmp_ne X 80 dL_isDense_67 (by decide) ?_ ?_
        · refine z_aload_n X dL_isDense_70 2 rfl ?_
          refine z_iload X dL_isDense_71 7 rfl ?_
          refine z_iconst (v := (2 : Int32)) X dL_isDense_73 (by decide) ?_
          refine z_callVN X (g := (fun r17 : (Int32 × cS) => ((some (.int r17.1), h, r17.2) : Option Value × Int64 × cS))) (st := [.int x5]) (st1 := (fun r17 : (Int32 × cS) => [.int r17.1, .int x5])) (rmf := 7) (rml := 111) [.int x7, .int (2 : Int32)] k0 cal_X6_node q_17_3 ⟨Nat.le_of_ble_eq_true rfl, Nat.le_of_ble_eq_true rfl⟩ rfl rfl (Nat.le_of_ble_eq_true rfl) rfl hk0.1 (ce6 hk0.1 _ _) (ctX6_node_n (kl K) G X.2.2.2.2.2.2.2.1 Nf h σ k0 hk0 x7 (2 : Int32)) dL_isDense_74 (fun _ => rfl) (fun r17 => ?_)
          refine z_goto X 81 dL_isDense_77 (by decide) ?_
          exact z_sub [2, 3, 4, 1, 0, 6, 7] rfl (sL_isDense_81 X Nf k0 hk0 h (fL_isDense_22 (ll G) Nf k0 n) ih x1 x2 t15 t16 x6 x7 x5 r17.1 r17.2)
        · exact z_sub [2, 3, 4, 1, 0, 6, 7] rfl (sL_isDense_80 X Nf k0 hk0 h (fL_isDense_22 (ll G) Nf k0 n) ih x1 x2 t15 t16 x6 x7 x5 σ)
def fL_isDense_0 (L : Nat → Nat) (Nf : Nat) (k0 : Nat) (x1 : Int32) (σ : cS) : Option (Int32 × cS) := Option.bind (fX6_densest L Nf σ k0) (fun r1 => Option.bind (fX6_tooDense L Nf r1.2 k0) (fun r2 => fL_isDense_22 L Nf k0 Nf x1 r1.1 (0 : Int32) (0 : Int32) (0 : Int32) r2.1 (0 : Int32) r2.2))
set_option maxHeartbeats 4000000 in
set_option maxRecDepth 100000 in
theorem sL_isDense_0 {K : MCx} {G : Lay} (X : Cx K G RL cL_isDense 8 (some .boolean) 8 133) (Nf : Nat) (k0 : Nat) (hk0 : isEH G k0) (h : Int64) (x1 : Int32) (σ : cS) : Sm K G TT (QM K G (fun r : (Int32 × cS) => ((some (.int r.1), h, r.2) : Option Value × Int64 × cS))) 8 0 [(0, .ref (la G k0)), (1, .int x1)] [] h σ (fL_isDense_0 (ll G) Nf k0 x1 σ) := by
  unfold fL_isDense_0
  refine z_aload_n X dL_isDense_0 0 rfl ?_
  refine z_callV0 X (g := (fun r1 : (Int32 × cS) => ((some (.int r1.1), h, r1.2) : Option Value × Int64 × cS))) (st := []) (st1 := (fun r1 : (Int32 × cS) => [.int r1.1])) (rmf := 4) (rml := 92) [] k0 cal_X6_densest q_7_11 ⟨Nat.le_of_ble_eq_true rfl, Nat.le_of_ble_eq_true rfl⟩ rfl rfl (Nat.le_of_ble_eq_true rfl) rfl hk0.1 (ce6 hk0.1 _ _) (ctX6_densest (kl K) G X.2.2.2.2.2.2.2.1 Nf h σ k0 hk0 ) dL_isDense_1 (fun _ => rfl) (fun r1 => ?_)
  refine z_istore_n X [(2, .int r1.1), (0, .ref (la G k0)), (1, .int x1)] dL_isDense_4 (by decide) rfl ?_
  refine z_iconst (v := (0 : Int32)) X dL_isDense_5 (by decide) ?_
  refine z_istore_n X [(3, .int (0 : Int32)), (2, .int r1.1), (0, .ref (la G k0)), (1, .int x1)] dL_isDense_6 (by decide) rfl ?_
  refine z_iconst (v := (0 : Int32)) X dL_isDense_7 (by decide) ?_
  refine z_istore X [(4, .int (0 : Int32)), (3, .int (0 : Int32)), (2, .int r1.1), (0, .ref (la G k0)), (1, .int x1)] dL_isDense_8 (by decide) rfl ?_
  refine z_iconst (v := (0 : Int32)) X dL_isDense_10 (by decide) ?_
  refine z_istore X [(5, .int (0 : Int32)), (4, .int (0 : Int32)), (3, .int (0 : Int32)), (2, .int r1.1), (0, .ref (la G k0)), (1, .int x1)] dL_isDense_11 (by decide) rfl ?_
  refine z_aload_n X dL_isDense_13 4 rfl ?_
  refine z_callV0 X (g := (fun r2 : (Int32 × cS) => ((some (.int r2.1), h, r2.2) : Option Value × Int64 × cS))) (st := []) (st1 := (fun r2 : (Int32 × cS) => [.int r2.1])) (rmf := 4) (rml := 92) [] k0 cal_X6_tooDense q_24_10 ⟨Nat.le_of_ble_eq_true rfl, Nat.le_of_ble_eq_true rfl⟩ rfl rfl (Nat.le_of_ble_eq_true rfl) rfl hk0.1 (ce6 hk0.1 _ _) (ctX6_tooDense (kl K) G X.2.2.2.2.2.2.2.1 Nf h r1.2 k0 hk0 ) dL_isDense_14 (fun _ => rfl) (fun r2 => ?_)
  refine z_istore X [(6, .int r2.1), (5, .int (0 : Int32)), (4, .int (0 : Int32)), (3, .int (0 : Int32)), (2, .int r1.1), (0, .ref (la G k0)), (1, .int x1)] dL_isDense_17 (by decide) rfl ?_
  refine z_iconst (v := (0 : Int32)) X dL_isDense_19 (by decide) ?_
  refine z_istore X [(7, .int (0 : Int32)), (6, .int r2.1), (5, .int (0 : Int32)), (4, .int (0 : Int32)), (3, .int (0 : Int32)), (2, .int r1.1), (0, .ref (la G k0)), (1, .int x1)] dL_isDense_20 (by decide) rfl ?_
  exact z_sub [6, 7, 5, 4, 3, 2, 1, 0] rfl (sL_isDense_22 X Nf k0 hk0 h Nf x1 r1.1 (0 : Int32) (0 : Int32) (0 : Int32) r2.1 (0 : Int32) r2.2)
def fL_isDense (L : Nat → Nat) (Nf : Nat) (σ : cS) (k0 : Nat) (x1 : Int32) : Option (Int32 × cS) := fL_isDense_0 L Nf k0 x1 σ
set_option maxHeartbeats 4000000 in
set_option maxRecDepth 100000 in
theorem ctL_isDense (l : Launch) (G : Lay) (hi : Inj G) (Nf : Nat) (h : Int64) (σ : cS) (k0 : Nat) (hk0 : isEH G k0) (x1 : Int32) : ∀ r, fL_isDense (ll G) Nf σ k0 x1 = some r → CM l yL_isDense cL_isDense 8 (some .boolean) 8 133 G [.ref (la G k0), .int x1] h σ (some (.int r.1), h, r.2) := by
  refine cm_of (g := (fun r : (Int32 × cS) => ((some (.int r.1), h, r.2) : Option Value × Int64 × cS))) (by decide) hi (Nat.le_of_ble_eq_true rfl) (fun K hKl X => ?_)
  unfold fL_isDense
  exact z_sub [0, 1] rfl (sL_isDense_0 X Nf k0 hk0 h x1 σ)
