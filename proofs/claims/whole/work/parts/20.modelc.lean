theorem q_15_5 : Cond.methodLink RX7 106 yX7_refusesRelief ∈ wsL_law := seg_15 _ (List.mem_of_getElem? (i := 5) rfl)
theorem q_15_6 : Cond.instanceMethod yX7_refusesRelief ∈ wsL_law := seg_15 _ (List.mem_of_getElem? (i := 6) rfl)
theorem q_15_7 : Cond.selects RX7 yX7_refusesRelief yX7_refusesRelief ∈ wsL_law := seg_15 _ (List.mem_of_getElem? (i := 7) rfl)
theorem q_15_8 : Cond.code yX7_refusesRelief cX7_refusesRelief 2 (some .boolean) ∈ wsL_law := seg_15 _ (List.mem_of_getElem? (i := 8) rfl)
theorem q_17_6 : Cond.methodLink RX7 109 yX7_balances ∈ wsL_law := seg_17 _ (List.mem_of_getElem? (i := 6) rfl)
theorem q_17_7 : Cond.instanceMethod yX7_balances ∈ wsL_law := seg_17 _ (List.mem_of_getElem? (i := 7) rfl)
theorem q_17_8 : Cond.selects RX7 yX7_balances yX7_balances ∈ wsL_law := seg_17 _ (List.mem_of_getElem? (i := 8) rfl)
theorem q_17_9 : Cond.code yX7_balances cX7_balances 5 (some .int) ∈ wsL_law := seg_17 _ (List.mem_of_getElem? (i := 9) rfl)
theorem q_18_3 : Cond.methodLink RX7 112 yX7_refusesCapacity ∈ wsL_law := seg_18 _ (List.mem_of_getElem? (i := 3) rfl)
theorem q_18_4 : Cond.instanceMethod yX7_refusesCapacity ∈ wsL_law := seg_18 _ (List.mem_of_getElem? (i := 4) rfl)
theorem q_18_5 : Cond.selects RX7 yX7_refusesCapacity yX7_refusesCapacity ∈ wsL_law := seg_18 _ (List.mem_of_getElem? (i := 5) rfl)
theorem q_18_6 : Cond.code yX7_refusesCapacity cX7_refusesCapacity 3 (some .boolean) ∈ wsL_law := seg_18 _ (List.mem_of_getElem? (i := 6) rfl)
theorem q_18_7 : Cond.methodLink RX7 115 yX7_sets ∈ wsL_law := seg_18 _ (List.mem_of_getElem? (i := 7) rfl)
theorem q_18_8 : Cond.instanceMethod yX7_sets ∈ wsL_law := seg_18 _ (List.mem_of_getElem? (i := 8) rfl)
theorem q_18_9 : Cond.selects RX7 yX7_sets yX7_sets ∈ wsL_law := seg_18 _ (List.mem_of_getElem? (i := 9) rfl)
theorem q_18_10 : Cond.code yX7_sets cX7_sets 4 (some .int) ∈ wsL_law := seg_18 _ (List.mem_of_getElem? (i := 10) rfl)
theorem q_19_17 : Cond.methodLink RX7 127 yX7_nodeOf ∈ wsL_law := seg_19 _ (List.mem_of_getElem? (i := 17) rfl)
theorem q_19_18 : Cond.instanceMethod yX7_nodeOf ∈ wsL_law := seg_19 _ (List.mem_of_getElem? (i := 18) rfl)
theorem q_19_19 : Cond.selects RX7 yX7_nodeOf yX7_nodeOf ∈ wsL_law := seg_19 _ (List.mem_of_getElem? (i := 19) rfl)
theorem q_19_20 : Cond.code yX7_nodeOf cX7_nodeOf 3 (some .int) ∈ wsL_law := seg_19 _ (List.mem_of_getElem? (i := 20) rfl)
theorem q_19_21 : Cond.methodLink RX7 118 yX7_degree ∈ wsL_law := seg_19 _ (List.mem_of_getElem? (i := 21) rfl)
theorem q_19_22 : Cond.instanceMethod yX7_degree ∈ wsL_law := seg_19 _ (List.mem_of_getElem? (i := 22) rfl)
theorem q_19_23 : Cond.selects RX7 yX7_degree yX7_degree ∈ wsL_law := seg_19 _ (List.mem_of_getElem? (i := 23) rfl)
theorem q_20_0 : Cond.code yX7_degree cX7_degree 4 (some .int) ∈ wsL_law := seg_20 _ (List.mem_of_getElem? (i := 0) rfl)
theorem q_20_1 : Cond.methodLink RX7 121 yX7_neighbours ∈ wsL_law := seg_20 _ (List.mem_of_getElem? (i := 1) rfl)
theorem q_20_2 : Cond.instanceMethod yX7_neighbours ∈ wsL_law := seg_20 _ (List.mem_of_getElem? (i := 2) rfl)
theorem q_20_3 : Cond.selects RX7 yX7_neighbours yX7_neighbours ∈ wsL_law := seg_20 _ (List.mem_of_getElem? (i := 3) rfl)
theorem q_20_4 : Cond.code yX7_neighbours cX7_neighbours 4 (some .int) ∈ wsL_law := seg_20 _ (List.mem_of_getElem? (i := 4) rfl)
theorem q_20_5 : Cond.methodLink RX7 124 yX7_bits ∈ wsL_law := seg_20 _ (List.mem_of_getElem? (i := 5) rfl)
theorem q_20_6 : Cond.static yX7_bits ∈ wsL_law := seg_20 _ (List.mem_of_getElem? (i := 6) rfl)
theorem q_20_7 : Cond.code yX7_bits cX7_bits 3 (some .int) ∈ wsL_law := seg_20 _ (List.mem_of_getElem? (i := 7) rfl)
theorem q_20_19 : Cond.methodLink RX7 130 yX7_edgeOf ∈ wsL_law := seg_20 _ (List.mem_of_getElem? (i := 19) rfl)
theorem q_20_20 : Cond.instanceMethod yX7_edgeOf ∈ wsL_law := seg_20 _ (List.mem_of_getElem? (i := 20) rfl)
theorem q_20_21 : Cond.selects RX7 yX7_edgeOf yX7_edgeOf ∈ wsL_law := seg_20 _ (List.mem_of_getElem? (i := 21) rfl)
theorem q_20_22 : Cond.code yX7_edgeOf cX7_edgeOf 3 (some .int) ∈ wsL_law := seg_20 _ (List.mem_of_getElem? (i := 22) rfl)
theorem cal_X7_refusesRelief : Cal yX7_refusesRelief RX7 cX7_refusesRelief 2 (some .boolean) 1 := ⟨q_15_8, q_15_6, q_15_7, q_1_5, by decide +kernel⟩
theorem cal_X7_balances : Cal yX7_balances RX7 cX7_balances 5 (some .int) 0 := ⟨q_17_9, q_17_7, q_17_8, q_1_5, by decide +kernel⟩
theorem cal_X7_refusesCapacity : Cal yX7_refusesCapacity RX7 cX7_refusesCapacity 3 (some .boolean) 2 := ⟨q_18_6, q_18_4, q_18_5, q_1_5, by decide +kernel⟩
theorem cal_X7_sets : Cal yX7_sets RX7 cX7_sets 4 (some .int) 2 := ⟨q_18_10, q_18_8, q_18_9, q_1_5, by decide +kernel⟩
theorem cal_X7_bits : CalS yX7_bits cX7_bits 3 (some .int) 1 := ⟨q_20_7, q_20_6, q_1_5, by decide +kernel⟩
theorem cal_X7_degree : Cal yX7_degree RX7 cX7_degree 4 (some .int) 1 := ⟨q_20_0, q_19_22, q_19_23, q_1_5, by decide +kernel⟩
theorem cal_X7_neighbours : Cal yX7_neighbours RX7 cX7_neighbours 4 (some .int) 1 := ⟨q_20_4, q_20_2, q_20_3, q_1_5, by decide +kernel⟩
theorem cal_X7_nodeOf : Cal yX7_nodeOf RX7 cX7_nodeOf 3 (some .int) 2 := ⟨q_19_20, q_19_18, q_19_19, q_1_5, by decide +kernel⟩
theorem cal_X7_edgeOf : Cal yX7_edgeOf RX7 cX7_edgeOf 3 (some .int) 2 := ⟨q_20_22, q_20_20, q_20_21, q_1_5, by decide +kernel⟩
def fX7_refusesRelief_35 (L : Nat → Nat) (Nf : Nat) (k0 : Nat) (y1 : Int32) (y2 : Int32) (σ : cS) : Option (Int32 × cS) := Option.bind (fX7_refuses σ k0 y1 y2 (0 : Int32)) (fun r1 => grd (isb r1.1) (some (r1.1, r1.2)))
set_option maxHeartbeats 4000000 in
set_option maxRecDepth 100000 in
theorem sX7_refusesRelief_35 {K : MCx} {G : Lay} (X : Cx K G RX7 cX7_refusesRelief 2 (some .boolean) 3 68) (Nf : Nat) (k0 : Nat) (hk0 : isMod G k0) (h : Int64) (y1 : Int32) (y2 : Int32) (σ : cS) : Sm K G TT (QM K G (fun r : (Int32 × cS) => ((some (.int r.1), h, r.2) : Option Value × Int64 × cS))) 2 35 [] [.int y2, .int y1, .ref (la G k0)] h σ (fX7_refusesRelief_35 (ll G) Nf k0 y1 y2 σ) := by
  unfold fX7_refusesRelief_35
  refine z_iconst (v := (0 : Int32)) X dX7_refusesRelief_35 (by decide) ?_
  refine z_callV0 X (g := (fun r1 : (Int32 × cS) => ((some (.int r1.1), h, r1.2) : Option Value × Int64 × cS))) (st := []) (st1 := (fun r1 : (Int32 × cS) => [.int r1.1])) (rmf := 0) (rml := 0) [.int y1, .int y2, .int (0 : Int32)] k0 cal_X7_refuses q_7_8 ⟨Nat.le_of_ble_eq_true rfl, Nat.le_of_ble_eq_true rfl⟩ rfl rfl (Nat.le_of_ble_eq_true rfl) rfl hk0.1 (ce7 hk0.1 _ _) (ctX7_refuses (kl K) G X.2.2.2.2.2.2.2.1 h σ k0 hk0 y1 y2 (0 : Int32)) dX7_refusesRelief_36 (fun _ => rfl) (fun r1 => ?_)
  exact z_zret X rfl dX7_refusesRelief_39
def fX7_refusesRelief_34 (L : Nat → Nat) (Nf : Nat) (k0 : Nat) (y1 : Int32) (σ : cS) : Option (Int32 × cS) := fX7_refusesRelief_35 L Nf k0 y1 (0 : Int32) σ
set_option maxHeartbeats 4000000 in
set_option maxRecDepth 100000 in
theorem sX7_refusesRelief_34 {K : MCx} {G : Lay} (X : Cx K G RX7 cX7_refusesRelief 2 (some .boolean) 3 68) (Nf : Nat) (k0 : Nat) (hk0 : isMod G k0) (h : Int64) (y1 : Int32) (σ : cS) : Sm K G TT (QM K G (fun r : (Int32 × cS) => ((some (.int r.1), h, r.2) : Option Value × Int64 × cS))) 2 34 [] [.int y1, .ref (la G k0)] h σ (fX7_refusesRelief_34 (ll G) Nf k0 y1 σ) := by
  unfold fX7_refusesRelief_34
  refine z_iconst (v := (0 : Int32)) X dX7_refusesRelief_34 (by decide) ?_
  exact z_sub [] rfl (sX7_refusesRelief_35 X Nf k0 hk0 h y1 (0 : Int32) σ)
def fX7_refusesRelief_14 (L : Nat → Nat) (Nf : Nat) (k0 : Nat) (x1 : Int32) (y1 : Int32) (σ : cS) : Option (Int32 × cS) := Option.bind (fX7_isNode L σ k0 x1) (fun r1 => if r1 = 0 then (fX7_refusesRelief_34 L Nf k0 y1 σ) else (Option.bind (fX7_reliefOf L Nf σ k0 x1) (fun r2 => if 0 ≤ r2.1 then (fX7_refusesRelief_34 L Nf k0 y1 r2.2) else (fX7_refusesRelief_35 L Nf k0 y1 (1 : Int32) r2.2))))
set_option maxHeartbeats 4000000 in
set_option maxRecDepth 100000 in
theorem sX7_refusesRelief_14 {K : MCx} {G : Lay} (X : Cx K G RX7 cX7_refusesRelief 2 (some .boolean) 3 68) (Nf : Nat) (k0 : Nat) (hk0 : isMod G k0) (h : Int64) (x1 : Int32) (y1 : Int32) (σ : cS) : Sm K G TT (QM K G (fun r : (Int32 × cS) => ((some (.int r.1), h, r.2) : Option Value × Int64 × cS))) 2 14 [(0, .ref (la G k0)), (1, .int x1)] [.int y1, .ref (la G k0)] h σ (fX7_refusesRelief_14 (ll G) Nf k0 x1 y1 σ) := by
  unfold fX7_refusesRelief_14
  refine z_aload_n X dX7_refusesRelief_14 0 rfl ?_
  refine z_iload_n X dX7_refusesRelief_15 1 rfl ?_
  refine z_callV0 X (g := (fun r1 : Int32 => ((some (.int r1), h, σ) : Option Value × Int64 × cS))) (st := [.int y1, .ref (la G k0)]) (st1 := (fun r1 : Int32 => [.int r1, .int y1, .ref (la G k0)])) (rmf := 1) (rml := 22) [.int x1] k0 cal_X7_isNode q_10_3 ⟨Nat.le_of_ble_eq_true rfl, Nat.le_of_ble_eq_true rfl⟩ rfl rfl (Nat.le_of_ble_eq_true rfl) rfl hk0.1 (ce7 hk0.1 _ _) (ctX7_isNode (kl K) G X.2.2.2.2.2.2.2.1 h σ k0 hk0 x1) dX7_refusesRelief_16 (fun _ => rfl) (fun r1 => ?_)
  refine z_if_eq X 34 dX7_refusesRelief_19 (by decide) ?_ ?_
  · exact z_sub [] rfl (sX7_refusesRelief_34 X Nf k0 hk0 h y1 σ)
  · refine z_aload_n X dX7_refusesRelief_22 0 rfl ?_
    refine z_iload_n X dX7_refusesRelief_23 1 rfl ?_
    refine z_callV0 X (g := (fun r2 : (Int32 × cS) => ((some (.int r2.1), h, r2.2) : Option Value × Int64 × cS))) (st := [.int y1, .ref (la G k0)]) (st1 := (fun r2 : (Int32 × cS) => [.int r2.1, .int y1, .ref (la G k0)])) (rmf := 2) (rml := 45) [.int x1] k0 cal_X7_reliefOf q_15_9 ⟨Nat.le_of_ble_eq_true rfl, Nat.le_of_ble_eq_true rfl⟩ rfl rfl (Nat.le_of_ble_eq_true rfl) rfl hk0.1 (ce7 hk0.1 _ _) (ctX7_reliefOf (kl K) G X.2.2.2.2.2.2.2.1 Nf h σ k0 hk0 x1) dX7_refusesRelief_24 (fun _ => rfl) (fun r2 => ?_)
    refine z_if_ge X 34 dX7_refusesRelief_27 (by decide) ?_ ?_
    · exact z_sub [] rfl (sX7_refusesRelief_34 X Nf k0 hk0 h y1 r2.2)
    · refine z_iconst (v := (1 : Int32)) X dX7_refusesRelief_30 (by decide) ?_
      refine z_goto X 35 dX7_refusesRelief_31 (by decide) ?_
      exact z_sub [] rfl (sX7_refusesRelief_35 X Nf k0 hk0 h y1 (1 : Int32) r2.2)
def fX7_refusesRelief_0 (L : Nat → Nat) (Nf : Nat) (k0 : Nat) (x1 : Int32) (σ : cS) : Option (Int32 × cS) := Option.bind (fX7_isNode L σ k0 x1) (fun r1 => if r1 = 0 then (fX7_refusesRelief_14 L Nf k0 x1 (1 : Int32) σ) else (fX7_refusesRelief_14 L Nf k0 x1 (0 : Int32) σ))
set_option maxHeartbeats 4000000 in
set_option maxRecDepth 100000 in
theorem sX7_refusesRelief_0 {K : MCx} {G : Lay} (X : Cx K G RX7 cX7_refusesRelief 2 (some .boolean) 3 68) (Nf : Nat) (k0 : Nat) (hk0 : isMod G k0) (h : Int64) (x1 : Int32) (σ : cS) : Sm K G TT (QM K G (fun r : (Int32 × cS) => ((some (.int r.1), h, r.2) : Option Value × Int64 × cS))) 2 0 [(0, .ref (la G k0)), (1, .int x1)] [] h σ (fX7_refusesRelief_0 (ll G) Nf k0 x1 σ) := by
  unfold fX7_refusesRelief_0
  refine z_aload_n X dX7_refusesRelief_0 0 rfl ?_
  refine z_aload_n X dX7_refusesRelief_1 0 rfl ?_
  refine z_iload_n X dX7_refusesRelief_2 1 rfl ?_
  refine z_callV0 X (g := (fun r1 : Int32 => ((some (.int r1), h, σ) : Option Value × Int64 × cS))) (st := [.ref (la G k0)]) (st1 := (fun r1 : Int32 => [.int r1, .ref (la G k0)])) (rmf := 1) (rml := 22) [.int x1] k0 cal_X7_isNode q_10_3 ⟨Nat.le_of_ble_eq_true rfl, Nat.le_of_ble_eq_true rfl⟩ rfl rfl (Nat.le_of_ble_eq_true rfl) rfl hk0.1 (ce7 hk0.1 _ _) (ctX7_isNode (kl K) G X.2.2.2.2.2.2.2.1 h σ k0 hk0 x1) dX7_refusesRelief_3 (fun _ => rfl) (fun r1 => ?_)
  refine z_if_ne X 13 dX7_refusesRelief_6 (by decide) ?_ ?_
  · refine z_iconst (v := (1 : Int32)) X dX7_refusesRelief_9 (by decide) ?_
    refine z_goto X 14 dX7_refusesRelief_10 (by decide) ?_
    exact z_sub [0, 1] rfl (sX7_refusesRelief_14 X Nf k0 hk0 h x1 (1 : Int32) σ)
  · refine z_iconst (v := (0 : Int32)) X dX7_refusesRelief_13 (by decide) ?_
    exact z_sub [0, 1] rfl (sX7_refusesRelief_14 X Nf k0 hk0 h x1 (0 : Int32) σ)
def fX7_refusesRelief (L : Nat → Nat) (Nf : Nat) (σ : cS) (k0 : Nat) (x1 : Int32) : Option (Int32 × cS) := fX7_refusesRelief_0 L Nf k0 x1 σ
set_option maxHeartbeats 4000000 in
set_option maxRecDepth 100000 in
theorem ctX7_refusesRelief (l : Launch) (G : Lay) (hi : Inj G) (Nf : Nat) (h : Int64) (σ : cS) (k0 : Nat) (hk0 : isMod G k0) (x1 : Int32) : ∀ r, fX7_refusesRelief (ll G) Nf σ k0 x1 = some r → CM l yX7_refusesRelief cX7_refusesRelief 2 (some .boolean) 3 68 G [.ref (la G k0), .int x1] h σ (some (.int r.1), h, r.2) := by
  refine cm_of (g := (fun r : (Int32 × cS) => ((some (.int r.1), h, r.2) : Option Value × Int64 × cS))) (by decide) hi (Nat.le_of_ble_eq_true rfl) (fun K hKl X => ?_)
  unfold fX7_refusesRelief
  exact z_sub [0, 1] rfl (sX7_refusesRelief_0 X Nf k0 hk0 h x1 σ)
def fX7_relieve_0 (L : Nat → Nat) (Nf : Nat) (k0 : Nat) (x1 : Int32) (σ : cS) : Option (Int32 × cS) := Option.bind (fX7_refusesRelief L Nf σ k0 x1) (fun r1 => if r1.1 = 0 then (Option.bind (fX7_save L Nf r1.2 k0) (fun r2 => Option.bind (fX7_relieves L Nf r2 k0 x1) (fun r3 => some (r3.1, r3.2)))) else (some ((0 : Int32), r1.2)))
set_option maxHeartbeats 4000000 in
set_option maxRecDepth 100000 in
theorem sX7_relieve_0 {K : MCx} {G : Lay} (X : Cx K G RX7 cX7_relieve 2 (some .int) 4 92) (Nf : Nat) (k0 : Nat) (hk0 : isMod G k0) (h : Int64) (x1 : Int32) (σ : cS) : Sm K G TT (QM K G (fun r : (Int32 × cS) => ((some (.int r.1), h, r.2) : Option Value × Int64 × cS))) 2 0 [(0, .ref (la G k0)), (1, .int x1)] [] h σ (fX7_relieve_0 (ll G) Nf k0 x1 σ) := by
  unfold fX7_relieve_0
  refine z_aload_n X dX7_relieve_0 0 rfl ?_
  refine z_iload_n X dX7_relieve_1 1 rfl ?_
  refine z_callV0 X (g := (fun r1 : (Int32 × cS) => ((some (.int r1.1), h, r1.2) : Option Value × Int64 × cS))) (st := []) (st1 := (fun r1 : (Int32 × cS) => [.int r1.1])) (rmf := 3) (rml := 68) [.int x1] k0 cal_X7_refusesRelief q_15_5 ⟨Nat.le_of_ble_eq_true rfl, Nat.le_of_ble_eq_true rfl⟩ rfl rfl (Nat.le_of_ble_eq_true rfl) rfl hk0.1 (ce7 hk0.1 _ _) (ctX7_refusesRelief (kl K) G X.2.2.2.2.2.2.2.1 Nf h σ k0 hk0 x1) dX7_relieve_2 (fun _ => rfl) (fun r1 => ?_)
  refine z_if_eq X 10 dX7_relieve_5 (by decide) ?_ ?_
  · refine z_aload_n X dX7_relieve_10 0 rfl ?_
    refine z_callV0 X (g := (fun r2 : cS => ((none, h, r2) : Option Value × Int64 × cS))) (st := []) (st1 := (fun r2 : cS => [])) (rmf := 0) (rml := 0) [] k0 cal_X7_save q_7_13 ⟨Nat.le_of_ble_eq_true rfl, Nat.le_of_ble_eq_true rfl⟩ rfl rfl (Nat.le_of_ble_eq_true rfl) rfl hk0.1 (ce7 hk0.1 _ _) (ctX7_save (kl K) G X.2.2.2.2.2.2.2.1 Nf h r1.2 k0 hk0 ) dX7_relieve_11 (fun _ => rfl) (fun r2 => ?_)
    refine z_aload_n X dX7_relieve_14 0 rfl ?_
    refine z_iload_n X dX7_relieve_15 1 rfl ?_
    refine z_callV0 X (g := (fun r3 : (Int32 × cS) => ((some (.int r3.1), h, r3.2) : Option Value × Int64 × cS))) (st := []) (st1 := (fun r3 : (Int32 × cS) => [.int r3.1])) (rmf := 3) (rml := 68) [.int x1] k0 cal_X7_relieves q_15_23 ⟨Nat.le_of_ble_eq_true rfl, Nat.le_of_ble_eq_true rfl⟩ rfl rfl (Nat.le_of_ble_eq_true rfl) rfl hk0.1 (ce7 hk0.1 _ _) (ctX7_relieves (kl K) G X.2.2.2.2.2.2.2.1 Nf h r2 k0 hk0 x1) dX7_relieve_16 (fun _ => rfl) (fun r3 => ?_)
    exact z_iret X rfl dX7_relieve_19
  · refine z_iconst (v := (0 : Int32)) X dX7_relieve_8 (by decide) ?_
    exact z_iret X rfl dX7_relieve_9
def fX7_relieve (L : Nat → Nat) (Nf : Nat) (σ : cS) (k0 : Nat) (x1 : Int32) : Option (Int32 × cS) := fX7_relieve_0 L Nf k0 x1 σ
set_option maxHeartbeats 4000000 in
set_option maxRecDepth 100000 in
theorem ctX7_relieve (l : Launch) (G : Lay) (hi : Inj G) (Nf : Nat) (h : Int64) (σ : cS) (k0 : Nat) (hk0 : isMod G k0) (x1 : Int32) : ∀ r, fX7_relieve (ll G) Nf σ k0 x1 = some r → CM l yX7_relieve cX7_relieve 2 (some .int) 4 92 G [.ref (la G k0), .int x1] h σ (some (.int r.1), h, r.2) := by
  refine cm_of (g := (fun r : (Int32 × cS) => ((some (.int r.1), h, r.2) : Option Value × Int64 × cS))) (by decide) hi (Nat.le_of_ble_eq_true rfl) (fun K hKl X => ?_)
  unfold fX7_relieve
  exact z_sub [0, 1] rfl (sX7_relieve_0 X Nf k0 hk0 h x1 σ)
def fX7_balance_0 (L : Nat → Nat) (Nf : Nat) (k0 : Nat) (σ : cS) : Option (Int32 × cS) := bnd (st2 σ k0 7 (0 : Int32)) (fun σ1 => Option.bind (fX7_save L Nf σ1 k0) (fun r2 => Option.bind (fX7_balances L Nf r2 k0) (fun r3 => some (r3.1, r3.2))))
set_option maxHeartbeats 4000000 in
set_option maxRecDepth 100000 in
theorem sX7_balance_0 {K : MCx} {G : Lay} (X : Cx K G RX7 cX7_balance 1 (some .int) 5 116) (Nf : Nat) (k0 : Nat) (hk0 : isMod G k0) (h : Int64) (σ : cS) : Sm K G TT (QM K G (fun r : (Int32 × cS) => ((some (.int r.1), h, r.2) : Option Value × Int64 × cS))) 1 0 [(0, .ref (la G k0))] [] h σ (fX7_balance_0 (ll G) Nf k0 σ) := by
  unfold fX7_balance_0
  refine z_aload_n X dX7_balance_0 0 rfl ?_
  refine z_iconst (v := (0 : Int32)) X dX7_balance_1 (by decide) ?_
  refine z_put X inlX7 rfl hk0.1 (ce7 hk0.1 _ _) 7 (by decide) q_7_12 tyX7 tyX7_ok nmX7 rfl (cp7 hk0.1 _ _ _ 7 (by decide)) rfl rfl (Nat.le_of_ble_eq_true rfl) dX7_balance_2 (fun σ1 => ?_)
  refine z_aload_n X dX7_balance_5 0 rfl ?_
  refine z_callV0 X (g := (fun r2 : cS => ((none, h, r2) : Option Value × Int64 × cS))) (st := []) (st1 := (fun r2 : cS => [])) (rmf := 0) (rml := 0) [] k0 cal_X7_save q_7_13 ⟨Nat.le_of_ble_eq_true rfl, Nat.le_of_ble_eq_true rfl⟩ rfl rfl (Nat.le_of_ble_eq_true rfl) rfl hk0.1 (ce7 hk0.1 _ _) (ctX7_save (kl K) G X.2.2.2.2.2.2.2.1 Nf h σ1 k0 hk0 ) dX7_balance_6 (fun _ => rfl) (fun r2 => ?_)
  refine z_aload_n X dX7_balance_9 0 rfl ?_
  refine z_callV0 X (g := (fun r3 : (Int32 × cS) => ((some (.int r3.1), h, r3.2) : Option Value × Int64 × cS))) (st := []) (st1 := (fun r3 : (Int32 × cS) => [.int r3.1])) (rmf := 4) (rml := 92) [] k0 cal_X7_balances q_17_6 ⟨Nat.le_of_ble_eq_true rfl, Nat.le_of_ble_eq_true rfl⟩ rfl rfl (Nat.le_of_ble_eq_true rfl) rfl hk0.1 (ce7 hk0.1 _ _) (ctX7_balances (kl K) G X.2.2.2.2.2.2.2.1 Nf h r2 k0 hk0 ) dX7_balance_10 (fun _ => rfl) (fun r3 => ?_)
  exact z_iret X rfl dX7_balance_13
def fX7_balance (L : Nat → Nat) (Nf : Nat) (σ : cS) (k0 : Nat) : Option (Int32 × cS) := fX7_balance_0 L Nf k0 σ
set_option maxHeartbeats 4000000 in
set_option maxRecDepth 100000 in
theorem ctX7_balance (l : Launch) (G : Lay) (hi : Inj G) (Nf : Nat) (h : Int64) (σ : cS) (k0 : Nat) (hk0 : isMod G k0) : ∀ r, fX7_balance (ll G) Nf σ k0 = some r → CM l yX7_balance cX7_balance 1 (some .int) 5 116 G [.ref (la G k0)] h σ (some (.int r.1), h, r.2) := by
  refine cm_of (g := (fun r : (Int32 × cS) => ((some (.int r.1), h, r.2) : Option Value × Int64 × cS))) (by decide) hi (Nat.le_of_ble_eq_true rfl) (fun K hKl X => ?_)
  unfold fX7_balance
  exact z_sub [0] rfl (sX7_balance_0 X Nf k0 hk0 h σ)
def fX7_refusesCapacity_29 (L : Nat → Nat) (k0 : Nat) (y1 : Int32) (y2 : Int32) (σ : cS) : Option (Int32 × cS) := Option.bind (fX7_refuses σ k0 y1 y2 (0 : Int32)) (fun r1 => grd (isb r1.1) (some (r1.1, r1.2)))
set_option maxHeartbeats 4000000 in
set_option maxRecDepth 100000 in
theorem sX7_refusesCapacity_29 {K : MCx} {G : Lay} (X : Cx K G RX7 cX7_refusesCapacity 3 (some .boolean) 2 43) (k0 : Nat) (hk0 : isMod G k0) (h : Int64) (y1 : Int32) (y2 : Int32) (σ : cS) : Sm K G TT (QM K G (fun r : (Int32 × cS) => ((some (.int r.1), h, r.2) : Option Value × Int64 × cS))) 3 29 [] [.int y2, .int y1, .ref (la G k0)] h σ (fX7_refusesCapacity_29 (ll G) k0 y1 y2 σ) := by
  unfold fX7_refusesCapacity_29
  refine z_iconst (v := (0 : Int32)) X dX7_refusesCapacity_29 (by decide) ?_
  refine z_callV0 X (g := (fun r1 : (Int32 × cS) => ((some (.int r1.1), h, r1.2) : Option Value × Int64 × cS))) (st := []) (st1 := (fun r1 : (Int32 × cS) => [.int r1.1])) (rmf := 0) (rml := 0) [.int y1, .int y2, .int (0 : Int32)] k0 cal_X7_refuses q_7_8 ⟨Nat.le_of_ble_eq_true rfl, Nat.le_of_ble_eq_true rfl⟩ rfl rfl (Nat.le_of_ble_eq_true rfl) rfl hk0.1 (ce7 hk0.1 _ _) (ctX7_refuses (kl K) G X.2.2.2.2.2.2.2.1 h σ k0 hk0 y1 y2 (0 : Int32)) dX7_refusesCapacity_30 (fun _ => rfl) (fun r1 => ?_)
  exact z_zret X rfl dX7_refusesCapacity_33
def fX7_refusesCapacity_14 (L : Nat → Nat) (k0 : Nat) (x2 : Int32) (y1 : Int32) (σ : cS) : Option (Int32 × cS) := Option.bind (fX7_in σ x2 (0 : Int32) (40 : Int32)) (fun r1 => if r1 = 0 then (fX7_refusesCapacity_29 L k0 y1 (1 : Int32) σ) else (fX7_refusesCapacity_29 L k0 y1 (0 : Int32) σ))
set_option maxHeartbeats 4000000 in
set_option maxRecDepth 100000 in
theorem sX7_refusesCapacity_14 {K : MCx} {G : Lay} (X : Cx K G RX7 cX7_refusesCapacity 3 (some .boolean) 2 43) (k0 : Nat) (hk0 : isMod G k0) (h : Int64) (x2 : Int32) (y1 : Int32) (σ : cS) : Sm K G TT (QM K G (fun r : (Int32 × cS) => ((some (.int r.1), h, r.2) : Option Value × Int64 × cS))) 3 14 [(2, .int x2)] [.int y1, .ref (la G k0)] h σ (fX7_refusesCapacity_14 (ll G) k0 x2 y1 σ) := by
  unfold fX7_refusesCapacity_14
  refine z_iload_n X dX7_refusesCapacity_14 0 rfl ?_
  refine z_iconst (v := (0 : Int32)) X dX7_refusesCapacity_15 (by decide) ?_
  refine z_bipush (v := (40 : Int32)) X dX7_refusesCapacity_16 (by decide) ?_
  refine z_callS0 X (g := (fun r1 : Int32 => ((some (.int r1), h, σ) : Option Value × Int64 × cS))) (st := [.int y1, .ref (la G k0)]) (st1 := (fun r1 : Int32 => [.int r1, .int y1, .ref (la G k0)])) (rmf := 0) (rml := 0) [.int x2, .int (0 : Int32), .int (40 : Int32)] cal_X7_in q_7_5 ⟨Nat.le_of_ble_eq_true rfl, Nat.le_of_ble_eq_true rfl⟩ rfl rfl (Nat.le_of_ble_eq_true rfl) (ctX7_in (kl K) G X.2.2.2.2.2.2.2.1 h σ x2 (0 : Int32) (40 : Int32)) dX7_refusesCapacity_18 (fun _ => rfl) (fun r1 => ?_)
  refine z_if_ne X 28 dX7_refusesCapacity_21 (by decide) ?_ ?_
  · refine z_iconst (v := (1 : Int32)) X dX7_refusesCapacity_24 (by decide) ?_
    refine z_goto X 29 dX7_refusesCapacity_25 (by decide) ?_
    exact z_sub [] rfl (sX7_refusesCapacity_29 X k0 hk0 h y1 (1 : Int32) σ)
  · refine z_iconst (v := (0 : Int32)) X dX7_refusesCapacity_28 (by decide) ?_
    exact z_sub [] rfl (sX7_refusesCapacity_29 X k0 hk0 h y1 (0 : Int32) σ)
def fX7_refusesCapacity_0 (L : Nat → Nat) (k0 : Nat) (x1 : Int32) (x2 : Int32) (σ : cS) : Option (Int32 × cS) := Option.bind (fX7_isNode L σ k0 x1) (fun r1 => if r1 = 0 then (fX7_refusesCapacity_14 L k0 x2 (1 : Int32) σ) else (fX7_refusesCapacity_14 L k0 x2 (0 : Int32) σ))
set_option maxHeartbeats 4000000 in
set_option maxRecDepth 100000 in
theorem sX7_refusesCapacity_0 {K : MCx} {G : Lay} (X : Cx K G RX7 cX7_refusesCapacity 3 (some .boolean) 2 43) (k0 : Nat) (hk0 : isMod G k0) (h : Int64) (x1 : Int32) (x2 : Int32) (σ : cS) : Sm K G TT (QM K G (fun r : (Int32 × cS) => ((some (.int r.1), h, r.2) : Option Value × Int64 × cS))) 3 0 [(0, .ref (la G k0)), (1, .int x1), (2, .int x2)] [] h σ (fX7_refusesCapacity_0 (ll G) k0 x1 x2 σ) := by
  unfold fX7_refusesCapacity_0
  refine z_aload_n X dX7_refusesCapacity_0 0 rfl ?_
  refine z_aload_n X dX7_refusesCapacity_1 0 rfl ?_
  refine z_iload_n X dX7_refusesCapacity_2 1 rfl ?_
  refine z_callV0 X (g := (fun r1 : Int32 => ((some (.int r1), h, σ) : Option Value × Int64 × cS))) (st := [.ref (la G k0)]) (st1 := (fun r1 : Int32 => [.int r1, .ref (la G k0)])) (rmf := 1) (rml := 22) [.int x1] k0 cal_X7_isNode q_10_3 ⟨Nat.le_of_ble_eq_true rfl, Nat.le_of_ble_eq_true rfl⟩ rfl rfl (Nat.le_of_ble_eq_true rfl) rfl hk0.1 (ce7 hk0.1 _ _) (ctX7_isNode (kl K) G X.2.2.2.2.2.2.2.1 h σ k0 hk0 x1) dX7_refusesCapacity_3 (fun _ => rfl) (fun r1 => ?_)
  refine z_if_ne X 13 dX7_refusesCapacity_6 (by decide) ?_ ?_
  · refine z_iconst (v := (1 : Int32)) X dX7_refusesCapacity_9 (by decide) ?_
    refine z_goto X 14 dX7_refusesCapacity_10 (by decide) ?_
    exact z_sub [2] rfl (sX7_refusesCapacity_14 X k0 hk0 h x2 (1 : Int32) σ)
  · refine z_iconst (v := (0 : Int32)) X dX7_refusesCapacity_13 (by decide) ?_
    exact z_sub [2] rfl (sX7_refusesCapacity_14 X k0 hk0 h x2 (0 : Int32) σ)
def fX7_refusesCapacity (L : Nat → Nat) (σ : cS) (k0 : Nat) (x1 : Int32) (x2 : Int32) : Option (Int32 × cS) := fX7_refusesCapacity_0 L k0 x1 x2 σ
set_option maxHeartbeats 4000000 in
set_option maxRecDepth 100000 in
theorem ctX7_refusesCapacity (l : Launch) (G : Lay) (hi : Inj G) (h : Int64) (σ : cS) (k0 : Nat) (hk0 : isMod G k0) (x1 : Int32) (x2 : Int32) : ∀ r, fX7_refusesCapacity (ll G) σ k0 x1 x2 = some r → CM l yX7_refusesCapacity cX7_refusesCapacity 3 (some .boolean) 2 43 G [.ref (la G k0), .int x1, .int x2] h σ (some (.int r.1), h, r.2) := by
  refine cm_of (g := (fun r : (Int32 × cS) => ((some (.int r.1), h, r.2) : Option Value × Int64 × cS))) (by decide) hi (Nat.le_of_ble_eq_true rfl) (fun K hKl X => ?_)
  unfold fX7_refusesCapacity
  exact z_sub [0, 1, 2] rfl (sX7_refusesCapacity_0 X k0 hk0 h x1 x2 σ)
def fX7_sets_0 (L : Nat → Nat) (k0 : Nat) (x1 : Int32) (x2 : Int32) (σ : cS) : Option (Int32 × cS) := grd (inb ((4 : Int32) + x1) (L (k0 + 1))) (bnd ((σ (k0 + 1) ((4 : Int32) + x1).toNatClampNeg)) (fun t1 => grd (inb ((4 : Int32) + x1) (L (k0 + 1))) (bnd (st2 σ (k0 + 1) ((4 : Int32) + x1).toNatClampNeg x2) (fun σ2 => some (t1, σ2)))))
set_option maxHeartbeats 4000000 in
set_option maxRecDepth 100000 in
theorem sX7_sets_0 {K : MCx} {G : Lay} (X : Cx K G RX7 cX7_sets 4 (some .int) 0 0) (k0 : Nat) (hk0 : isMod G k0) (h : Int64) (x1 : Int32) (x2 : Int32) (σ : cS) : Sm K G TT (QM K G (fun r : (Int32 × cS) => ((some (.int r.1), h, r.2) : Option Value × Int64 × cS))) 4 0 [(0, .ref (la G k0)), (1, .int x1), (2, .int x2)] [] h σ (fX7_sets_0 (ll G) k0 x1 x2 σ) := by
  unfold fX7_sets_0
  refine z_aload_n X dX7_sets_0 0 rfl ?_
  refine z_get X inlX7 rfl hk0.1 (ce7 hk0.1 _ _) 0 (by decide) q_5_4 rfl dX7_sets_1 ?_
  refine z_iconst (v := (4 : Int32)) X dX7_sets_4 (by decide) ?_
  refine z_iload_n X dX7_sets_5 1 rfl ?_
  refine z_iadd X dX7_sets_6 ?_
  refine z_iald X hk0.2.1 dX7_sets_7 ?_
  refine z_nm (fun t1 => ?_)
  refine z_istore_n X [(3, .int t1), (0, .ref (la G k0)), (1, .int x1), (2, .int x2)] dX7_sets_8 (by decide) rfl ?_
  refine z_aload_n X dX7_sets_9 1 rfl ?_
  refine z_get X inlX7 rfl hk0.1 (ce7 hk0.1 _ _) 0 (by decide) q_5_4 rfl dX7_sets_10 ?_
  refine z_iconst (v := (4 : Int32)) X dX7_sets_13 (by decide) ?_
  refine z_iload_n X dX7_sets_14 2 rfl ?_
  refine z_iadd X dX7_sets_15 ?_
  refine z_iload_n X dX7_sets_16 3 rfl ?_
  refine z_iast X hk0.2.1 dX7_sets_17 (fun σ2 => ?_)
  refine z_iload_n X dX7_sets_18 0 rfl ?_
  exact z_iret X rfl dX7_sets_19
def fX7_sets (L : Nat → Nat) (σ : cS) (k0 : Nat) (x1 : Int32) (x2 : Int32) : Option (Int32 × cS) := fX7_sets_0 L k0 x1 x2 σ
set_option maxHeartbeats 4000000 in
set_option maxRecDepth 100000 in
theorem ctX7_sets (l : Launch) (G : Lay) (hi : Inj G) (h : Int64) (σ : cS) (k0 : Nat) (hk0 : isMod G k0) (x1 : Int32) (x2 : Int32) : ∀ r, fX7_sets (ll G) σ k0 x1 x2 = some r → CM l yX7_sets cX7_sets 4 (some .int) 0 0 G [.ref (la G k0), .int x1, .int x2] h σ (some (.int r.1), h, r.2) := by
  refine cm_of (g := (fun r : (Int32 × cS) => ((some (.int r.1), h, r.2) : Option Value × Int64 × cS))) (by decide) hi (Nat.le_of_ble_eq_true rfl) (fun K hKl X => ?_)
  unfold fX7_sets
  exact z_sub [0, 1, 2] rfl (sX7_sets_0 X k0 hk0 h x1 x2 σ)
def fX7_setCapacity_0 (L : Nat → Nat) (Nf : Nat) (k0 : Nat) (x1 : Int32) (x2 : Int32) (σ : cS) : Option (Int32 × cS) := Option.bind (fX7_refusesCapacity L σ k0 x1 x2) (fun r1 => if r1.1 = 0 then (Option.bind (fX7_save L Nf r1.2 k0) (fun r2 => Option.bind (fX7_sets L r2 k0 x1 x2) (fun r3 => some (r3.1, r3.2)))) else (some ((0 : Int32), r1.2)))
set_option maxHeartbeats 4000000 in
set_option maxRecDepth 100000 in
theorem sX7_setCapacity_0 {K : MCx} {G : Lay} (X : Cx K G RX7 cX7_setCapacity 3 (some .int) 3 65) (Nf : Nat) (k0 : Nat) (hk0 : isMod G k0) (h : Int64) (x1 : Int32) (x2 : Int32) (σ : cS) : Sm K G TT (QM K G (fun r : (Int32 × cS) => ((some (.int r.1), h, r.2) : Option Value × Int64 × cS))) 3 0 [(0, .ref (la G k0)), (1, .int x1), (2, .int x2)] [] h σ (fX7_setCapacity_0 (ll G) Nf k0 x1 x2 σ) := by
  unfold fX7_setCapacity_0
  refine z_aload_n X dX7_setCapacity_0 0 rfl ?_
  refine z_iload_n X dX7_setCapacity_1 1 rfl ?_
  refine z_iload_n X dX7_setCapacity_2 2 rfl ?_
  refine z_callV0 X (g := (fun r1 : (Int32 × cS) => ((some (.int r1.1), h, r1.2) : Option Value × Int64 × cS))) (st := []) (st1 := (fun r1 : (Int32 × cS) => [.int r1.1])) (rmf := 2) (rml := 43) [.int x1, .int x2] k0 cal_X7_refusesCapacity q_18_3 ⟨Nat.le_of_ble_eq_true rfl, Nat.le_of_ble_eq_true rfl⟩ rfl rfl (Nat.le_of_ble_eq_true rfl) rfl hk0.1 (ce7 hk0.1 _ _) (ctX7_refusesCapacity (kl K) G X.2.2.2.2.2.2.2.1 h σ k0 hk0 x1 x2) dX7_setCapacity_3 (fun _ => rfl) (fun r1 => ?_)
  refine z_if_eq X 11 dX7_setCapacity_6 (by decide) ?_ ?_
  · refine z_aload_n X dX7_setCapacity_11 0 rfl ?_
    refine z_callV0 X (g := (fun r2 : cS => ((none, h, r2) : Option Value × Int64 × cS))) (st := []) (st1 := (fun r2 : cS => [])) (rmf := 0) (rml := 0) [] k0 cal_X7_save q_7_13 ⟨Nat.le_of_ble_eq_true rfl, Nat.le_of_ble_eq_true rfl⟩ rfl rfl (Nat.le_of_ble_eq_true rfl) rfl hk0.1 (ce7 hk0.1 _ _) (ctX7_save (kl K) G X.2.2.2.2.2.2.2.1 Nf h r1.2 k0 hk0 ) dX7_setCapacity_12 (fun _ => rfl) (fun r2 => ?_)
    refine z_aload_n X dX7_setCapacity_15 0 rfl ?_
    refine z_iload_n X dX7_setCapacity_16 1 rfl ?_
    refine z_iload_n X dX7_setCapacity_17 2 rfl ?_
    refine z_callV0 X (g := (fun r3 : (Int32 × cS) => ((some (.int r3.1), h, r3.2) : Option Value × Int64 × cS))) (st := []) (st1 := (fun r3 : (Int32 × cS) => [.int r3.1])) (rmf := 0) (rml := 0) [.int x1, .int x2] k0 cal_X7_sets q_18_7 ⟨Nat.le_of_ble_eq_true rfl, Nat.le_of_ble_eq_true rfl⟩ rfl rfl (Nat.le_of_ble_eq_true rfl) rfl hk0.1 (ce7 hk0.1 _ _) (ctX7_sets (kl K) G X.2.2.2.2.2.2.2.1 h r2 k0 hk0 x1 x2) dX7_setCapacity_18 (fun _ => rfl) (fun r3 => ?_)
    exact z_iret X rfl dX7_setCapacity_21
  · refine z_iconst (v := (0 : Int32)) X dX7_setCapacity_9 (by decide) ?_
    exact z_iret X rfl dX7_setCapacity_10
def fX7_setCapacity (L : Nat → Nat) (Nf : Nat) (σ : cS) (k0 : Nat) (x1 : Int32) (x2 : Int32) : Option (Int32 × cS) := fX7_setCapacity_0 L Nf k0 x1 x2 σ
set_option maxHeartbeats 4000000 in
set_option maxRecDepth 100000 in
theorem ctX7_setCapacity (l : Launch) (G : Lay) (hi : Inj G) (Nf : Nat) (h : Int64) (σ : cS) (k0 : Nat) (hk0 : isMod G k0) (x1 : Int32) (x2 : Int32) : ∀ r, fX7_setCapacity (ll G) Nf σ k0 x1 x2 = some r → CM l yX7_setCapacity cX7_setCapacity 3 (some .int) 3 65 G [.ref (la G k0), .int x1, .int x2] h σ (some (.int r.1), h, r.2) := by
  refine cm_of (g := (fun r : (Int32 × cS) => ((some (.int r.1), h, r.2) : Option Value × Int64 × cS))) (by decide) hi (Nat.le_of_ble_eq_true rfl) (fun K hKl X => ?_)
  unfold fX7_setCapacity
  exact z_sub [0, 1, 2] rfl (sX7_setCapacity_0 X Nf k0 hk0 h x1 x2 σ)
def fX7_bits_4 (Nf : Nat) (σ : cS) : Nat → Int32 → Int32 → Option Int32
  | 0, _, _ => none
  | n + 1, x1, x2 => if x2 = 0 then (some x1) else (bnd (x1 + (1 : Int32)) (fun t1 => bnd ((x2 &&& (x2 - (1 : Int32)))) (fun t2 => fX7_bits_4 Nf σ n t1 t2)))
set_option maxHeartbeats 4000000 in
set_option maxRecDepth 100000 in
theorem sX7_bits_4 {K : MCx} {G : Lay} (X : Cx K G RX7 cX7_bits 3 (some .int) 0 0) (Nf : Nat)  (h : Int64) (σ : cS) : ∀ (n : Nat) (x1 : Int32) (x2 : Int32), Sm K G TT (QM K G (fun r : Int32 => ((some (.int r), h, σ) : Option Value × Int64 × cS))) 3 4 [(1, .int x1), (2, .int x2)] [] h σ (fX7_bits_4 Nf σ n x1 x2) := by
  intro n
  induction n with
  | zero => intros; exact z_none
  | succ n ih =>
    intro x1 x2
    unfold fX7_bits_4
    refine z_iload_n X dX7_bits_4 1 rfl ?_
    refine z_if_eq X 20 dX7_bits_5 (by decide) ?_ ?_
    · refine z_iload_n X dX7_bits_20 0 rfl ?_
      exact z_iret X rfl dX7_bits_21
    · refine z_iinc X (fun t1 => [(1, .int t1), (2, .int x2)]) dX7_bits_8 0 rfl (by decide) (by decide) (fun _ => rfl) (fun t1 => ?_)
      refine z_iload_n X dX7_bits_11 1 rfl ?_
      refine z_iload_n X dX7_bits_12 1 rfl ?_
      refine z_iconst (v := (1 : Int32)) X dX7_bits_13 (by decide) ?_
      refine z_isub X dX7_bits_14 ?_
      refine z_iand X dX7_bits_15 ?_
      refine z_nm (fun t2 => ?_)
      refine z_istore_n X [(2, .int t2), (1, .int t1)] dX7_bits_16 (by decide) rfl ?_
      refine z_goto X 4 dX7_bits_17 (by decide) ?_
      exact z_sub [1, 0] rfl (ih t1 t2)
def fX7_bits_0 (Nf : Nat) (σ : cS) (x0 : Int32)  : Option Int32 := fX7_bits_4 Nf σ Nf (0 : Int32) x0
set_option maxHeartbeats 4000000 in
set_option maxRecDepth 100000 in
theorem sX7_bits_0 {K : MCx} {G : Lay} (X : Cx K G RX7 cX7_bits 3 (some .int) 0 0) (Nf : Nat)  (h : Int64) (σ : cS) (x0 : Int32) : Sm K G TT (QM K G (fun r : Int32 => ((some (.int r), h, σ) : Option Value × Int64 × cS))) 3 0 [(0, .int x0)] [] h σ (fX7_bits_0 Nf σ x0) := by
  unfold fX7_bits_0
  refine z_iconst (v := (0 : Int32)) X dX7_bits_0 (by decide) ?_
  refine z_istore_n X [(1, .int (0 : Int32)), (0, .int x0)] dX7_bits_1 (by decide) rfl ?_
  refine z_iload_n X dX7_bits_2 1 rfl ?_
  refine z_istore_n X [(2, .int x0), (1, .int (0 : Int32)), (0, .int x0)] dX7_bits_3 (by decide) rfl ?_
  exact z_sub [1, 0] rfl (sX7_bits_4 X Nf  h σ Nf (0 : Int32) x0)
def fX7_bits (Nf : Nat) (σ : cS) (x0 : Int32) : Option Int32 := fX7_bits_0 Nf σ x0
set_option maxHeartbeats 4000000 in
set_option maxRecDepth 100000 in
theorem ctX7_bits (l : Launch) (G : Lay) (hi : Inj G) (Nf : Nat) (h : Int64) (σ : cS)  (x0 : Int32) : ∀ r, fX7_bits Nf σ x0 = some r → CM l yX7_bits cX7_bits 3 (some .int) 0 0 G [.int x0] h σ (some (.int r), h, σ) := by
  refine cm_of (g := (fun r : Int32 => ((some (.int r), h, σ) : Option Value × Int64 × cS))) (by decide) hi (Nat.le_of_ble_eq_true rfl) (fun K hKl X => ?_)
  unfold fX7_bits
  exact z_sub [0] rfl (sX7_bits_0 X Nf  h σ x0)
def fX7_neighbours_70 (L : Nat → Nat) (Nf : Nat) (σ : cS) (k0 : Nat) (self4 : Int32 → Int32 → Int32 → Option Int32) (x1 : Int32) (x3 : Int32) (y0 : Int32) (y1 : Int32)  : Option Int32 := bnd ((y0 ||| y1)) (fun t1 => bnd (x3 + (1 : Int32)) (fun t2 => self4 x1 t1 t2))
set_option maxHeartbeats 4000000 in
set_option maxRecDepth 100000 in
theorem sX7_neighbours_70 {K : MCx} {G : Lay} (X : Cx K G RX7 cX7_neighbours 4 (some .int) 0 0) (Nf : Nat) (k0 : Nat) (hk0 : isMod G k0) (h : Int64) (σ : cS) (self4 : Int32 → Int32 → Int32 → Option Int32) (hself4 : ∀ (x1 : Int32) (x2 : Int32) (x3 : Int32), Sm K G TT (QM K G (fun r : Int32 => ((some (.int r), h, σ) : Option Value × Int64 × cS))) 4 4 [(0, .ref (la G k0)), (1, .int x1), (2, .int x2), (3, .int x3)] [] h σ (self4 x1 x2 x3)) (x1 : Int32) (x3 : Int32) (y0 : Int32) (y1 : Int32) : Sm K G TT (QM K G (fun r : Int32 => ((some (.int r), h, σ) : Option Value × Int64 × cS))) 4 70 [(0, .ref (la G k0)), (1, .int x1), (3, .int x3)] [.int y1, .int y0] h σ (fX7_neighbours_70 (ll G) Nf σ k0 self4 x1 x3 y0 y1) := by
  unfold fX7_neighbours_70
  refine z_ior X dX7_neighbours_70 ?_
  refine z_nm (fun t1 => ?_)
  refine z_istore_n X [(2, .int t1), (0, .ref (la G k0)), (1, .int x1), (3, .int x3)] dX7_neighbours_71 (by decide) rfl ?_
  refine z_iinc X (fun t2 => [(3, .int t2), (2, .int t1), (0, .ref (la G k0)), (1, .int x1)]) dX7_neighbours_72 3 rfl (by decide) (by decide) (fun _ => rfl) (fun t2 => ?_)
  refine z_goto X 4 dX7_neighbours_75 (by decide) ?_
  exact z_sub [2, 3, 1, 0] rfl (hself4 x1 t1 t2)
def fX7_neighbours_4 (L : Nat → Nat) (Nf : Nat) (σ : cS) (k0 : Nat) : Nat → Int32 → Int32 → Int32 → Option Int32
  | 0, _, _, _ => none
  | n + 1, x1, x2, x3 => grd (inb (3 : Int32) (L (k0 + 1))) (if (σ (k0 + 1) (3 : Int32).toNatClampNeg) ≤ x3 then (some x2) else (grd (inb ((56 : Int32) + x3) (L (k0 + 1))) (if (σ (k0 + 1) ((56 : Int32) + x3).toNatClampNeg) = x1 then (grd (inb ((96 : Int32) + x3) (L (k0 + 1))) (fX7_neighbours_70 L Nf σ k0 (fX7_neighbours_4 L Nf σ k0 n) x1 x3 x2 ((1 : Int32) <<< ((σ (k0 + 1) ((96 : Int32) + x3).toNatClampNeg) &&& 31)))) else (grd (inb ((96 : Int32) + x3) (L (k0 + 1))) (if (σ (k0 + 1) ((96 : Int32) + x3).toNatClampNeg) = x1 then (grd (inb ((56 : Int32) + x3) (L (k0 + 1))) (fX7_neighbours_70 L Nf σ k0 (fX7_neighbours_4 L Nf σ k0 n) x1 x3 x2 ((1 : Int32) <<< ((σ (k0 + 1) ((56 : Int32) + x3).toNatClampNeg) &&& 31)))) else (fX7_neighbours_70 L Nf σ k0 (fX7_neighbours_4 L Nf σ k0 n) x1 x3 x2 (0 : Int32)))))))
set_option maxHeartbeats 4000000 in
set_option maxRecDepth 100000 in
theorem sX7_neighbours_4 {K : MCx} {G : Lay} (X : Cx K G RX7 cX7_neighbours 4 (some .int) 0 0) (Nf : Nat) (k0 : Nat) (hk0 : isMod G k0) (h : Int64) (σ : cS) : ∀ (n : Nat) (x1 : Int32) (x2 : Int32) (x3 : Int32), Sm K G TT (QM K G (fun r : Int32 => ((some (.int r), h, σ) : Option Value × Int64 × cS))) 4 4 [(0, .ref (la G k0)), (1, .int x1), (2, .int x2), (3, .int x3)] [] h σ (fX7_neighbours_4 (ll G) Nf σ k0 n x1 x2 x3) := by
  intro n
  induction n with
  | zero => intros; exact z_none
  | succ n ih =>
    intro x1 x2 x3
    unfold fX7_neighbours_4
    refine z_iload_n X dX7_neighbours_4 3 rfl ?_
    refine z_aload_n X dX7_neighbours_5 0 rfl ?_
    refine z_get X inlX7 rfl hk0.1 (ce7 hk0.1 _ _) 0 (by decide) q_5_4 rfl dX7_neighbours_6 ?_
    refine z_iconst (v := (3 : Int32)) X dX7_neighbours_9 (by decide) ?_
    refine z_iald X hk0.2.1 dX7_neighbours_10 ?_
    refine z_icmp_ge X 78 dX7_neighbours_11 (by decide) ?_ ?_
    · refine z_iload_n X dX7_neighbours_78 2 rfl ?_
      exact z_iret X rfl dX7_neighbours_79
    · refine z_iload_n X dX7_neighbours_14 2 rfl ?_
      refine z_aload_n X dX7_neighbours_15 0 rfl ?_
      refine z_get X inlX7 rfl hk0.1 (ce7 hk0.1 _ _) 0 (by decide) q_5_4 rfl dX7_neighbours_16 ?_
      refine z_bipush (v := (56 : Int32)) X dX7_neighbours_19 (by decide) ?_
      refine z_iload_n X dX7_neighbours_21 3 rfl ?_
      refine z_iadd X dX7_neighbours_22 ?_
      refine z_iald X hk0.2.1 dX7_neighbours_23 ?_
      refine z_iload_n X dX7_neighbours_24 1 rfl ?_
      refine z_icmp_ne X 42 dX7_neighbours_25 (by decide) ?_ ?_
      · refine z_iconst (v := (1 : Int32)) X dX7_neighbours_28 (by decide) ?_
        refine z_aload_n X dX7_neighbours_29 0 rfl ?_
        refine z_get X inlX7 rfl hk0.1 (ce7 hk0.1 _ _) 0 (by decide) q_5_4 rfl dX7_neighbours_30 ?_
        refine z_bipush (v := (96 : Int32)) X dX7_neighbours_33 (by decide) ?_
        refine z_iload_n X dX7_neighbours_35 3 rfl ?_
        refine z_iadd X dX7_neighbours_36 ?_
        refine z_iald X hk0.2.1 dX7_neighbours_37 ?_
        refine z_ishl X dX7_neighbours_38 ?_
        refine z_goto X 70 dX7_neighbours_39 (by decide) ?_
        exact z_sub [0, 1, 3] rfl (sX7_neighbours_70 X Nf k0 hk0 h σ (fX7_neighbours_4 (ll G) Nf σ k0 n) ih x1 x3 x2 ((1 : Int32) <<< ((σ (k0 + 1) ((96 : Int32) + x3).toNatClampNeg) &&& 31)))
      · refine z_aload_n X dX7_neighbours_42 0 rfl ?_
        refine z_get X inlX7 rfl hk0.1 (ce7 hk0.1 _ _) 0 (by decide) q_5_4 rfl dX7_neighbours_43 ?_
        refine z_bipush (v := (96 : Int32)) X dX7_neighbours_46 (by decide) ?_
        refine z_iload_n X dX7_neighbours_48 3 rfl ?_
        refine z_iadd X dX7_neighbours_49 ?_
        refine z_iald X hk0.2.1 dX7_neighbours_50 ?_
        refine z_iload_n X dX7_neighbours_51 1 rfl ?_
        refine z_icmp_ne X 69 dX7_neighbours_52 (by decide) ?_ ?_
        · refine z_iconst (v := (1 : Int32)) X dX7_neighbours_55 (by decide) ?_
          refine z_aload_n X dX7_neighbours_56 0 rfl ?_
          refine z_get X inlX7 rfl hk0.1 (ce7 hk0.1 _ _) 0 (by decide) q_5_4 rfl dX7_neighbours_57 ?_
          refine z_bipush (v := (56 : Int32)) X dX7_neighbours_60 (by decide) ?_
          refine z_iload_n X dX7_neighbours_62 3 rfl ?_
          refine z_iadd X dX7_neighbours_63 ?_
          refine z_iald X hk0.2.1 dX7_neighbours_64 ?_
          refine z_ishl X dX7_neighbours_65 ?_
          refine z_goto X 70 dX7_neighbours_66 (by decide) ?_
          exact z_sub [0, 1, 3] rfl (sX7_neighbours_70 X Nf k0 hk0 h σ (fX7_neighbours_4 (ll G) Nf σ k0 n) ih x1 x3 x2 ((1 : Int32) <<< ((σ (k0 + 1) ((56 : Int32) + x3).toNatClampNeg) &&& 31)))
        · refine z_iconst (v := (0 : Int32)) X dX7_neighbours_69 (by decide) ?_
          exact z_sub [0, 1, 3] rfl (sX7_neighbours_70 X Nf k0 hk0 h σ (fX7_neighbours_4 (ll G) Nf σ k0 n) ih x1 x3 x2 (0 : Int32))
def fX7_neighbours_0 (L : Nat → Nat) (Nf : Nat) (σ : cS) (k0 : Nat) (x1 : Int32)  : Option Int32 := fX7_neighbours_4 L Nf σ k0 Nf x1 (0 : Int32) (0 : Int32)
set_option maxHeartbeats 4000000 in
set_option maxRecDepth 100000 in
theorem sX7_neighbours_0 {K : MCx} {G : Lay} (X : Cx K G RX7 cX7_neighbours 4 (some .int) 0 0) (Nf : Nat) (k0 : Nat) (hk0 : isMod G k0) (h : Int64) (σ : cS) (x1 : Int32) : Sm K G TT (QM K G (fun r : Int32 => ((some (.int r), h, σ) : Option Value × Int64 × cS))) 4 0 [(0, .ref (la G k0)), (1, .int x1)] [] h σ (fX7_neighbours_0 (ll G) Nf σ k0 x1) := by
  unfold fX7_neighbours_0
  refine z_iconst (v := (0 : Int32)) X dX7_neighbours_0 (by decide) ?_
  refine z_istore_n X [(2, .int (0 : Int32)), (0, .ref (la G k0)), (1, .int x1)] dX7_neighbours_1 (by decide) rfl ?_
  refine z_iconst (v := (0 : Int32)) X dX7_neighbours_2 (by decide) ?_
  refine z_istore_n X [(3, .int (0 : Int32)), (2, .int (0 : Int32)), (0, .ref (la G k0)), (1, .int x1)] dX7_neighbours_3 (by decide) rfl ?_
  exact z_sub [2, 3, 1, 0] rfl (sX7_neighbours_4 X Nf k0 hk0 h σ Nf x1 (0 : Int32) (0 : Int32))
def fX7_neighbours (L : Nat → Nat) (Nf : Nat) (σ : cS) (k0 : Nat) (x1 : Int32) : Option Int32 := fX7_neighbours_0 L Nf σ k0 x1
set_option maxHeartbeats 4000000 in
set_option maxRecDepth 100000 in
theorem ctX7_neighbours (l : Launch) (G : Lay) (hi : Inj G) (Nf : Nat) (h : Int64) (σ : cS) (k0 : Nat) (hk0 : isMod G k0) (x1 : Int32) : ∀ r, fX7_neighbours (ll G) Nf σ k0 x1 = some r → CM l yX7_neighbours cX7_neighbours 4 (some .int) 0 0 G [.ref (la G k0), .int x1] h σ (some (.int r), h, σ) := by
  refine cm_of (g := (fun r : Int32 => ((some (.int r), h, σ) : Option Value × Int64 × cS))) (by decide) hi (Nat.le_of_ble_eq_true rfl) (fun K hKl X => ?_)
  unfold fX7_neighbours
  exact z_sub [0, 1] rfl (sX7_neighbours_0 X Nf k0 hk0 h σ x1)
def fX7_degree_46 (L : Nat → Nat) (Nf : Nat) (σ : cS) (k0 : Nat) (self4 : Int32 → Int32 → Int32 → Option Int32) (x1 : Int32) (x3 : Int32) (y0 : Int32) (y1 : Int32)  : Option Int32 := bnd ((y0 + y1)) (fun t1 => bnd (x3 + (1 : Int32)) (fun t2 => self4 x1 t1 t2))
set_option maxHeartbeats 4000000 in
set_option maxRecDepth 100000 in
theorem sX7_degree_46 {K : MCx} {G : Lay} (X : Cx K G RX7 cX7_degree 4 (some .int) 0 0) (Nf : Nat) (k0 : Nat) (hk0 : isMod G k0) (h : Int64) (σ : cS) (self4 : Int32 → Int32 → Int32 → Option Int32) (hself4 : ∀ (x1 : Int32) (x2 : Int32) (x3 : Int32), Sm K G TT (QM K G (fun r : Int32 => ((some (.int r), h, σ) : Option Value × Int64 × cS))) 4 4 [(0, .ref (la G k0)), (1, .int x1), (2, .int x2), (3, .int x3)] [] h σ (self4 x1 x2 x3)) (x1 : Int32) (x3 : Int32) (y0 : Int32) (y1 : Int32) : Sm K G TT (QM K G (fun r : Int32 => ((some (.int r), h, σ) : Option Value × Int64 × cS))) 4 46 [(0, .ref (la G k0)), (1, .int x1), (3, .int x3)] [.int y1, .int y0] h σ (fX7_degree_46 (ll G) Nf σ k0 self4 x1 x3 y0 y1) := by
  unfold fX7_degree_46
  refine z_iadd X dX7_degree_46 ?_
  refine z_nm (fun t1 => ?_)
  refine z_istore_n X [(2, .int t1), (0, .ref (la G k0)), (1, .int x1), (3, .int x3)] dX7_degree_47 (by decide) rfl ?_
  refine z_iinc X (fun t2 => [(3, .int t2), (2, .int t1), (0, .ref (la G k0)), (1, .int x1)]) dX7_degree_48 3 rfl (by decide) (by decide) (fun _ => rfl) (fun t2 => ?_)
  refine z_goto X 4 dX7_degree_51 (by decide) ?_
  exact z_sub [2, 3, 1, 0] rfl (hself4 x1 t1 t2)
def fX7_degree_41 (L : Nat → Nat) (Nf : Nat) (σ : cS) (k0 : Nat) (self4 : Int32 → Int32 → Int32 → Option Int32) (x1 : Int32) (x3 : Int32) (y0 : Int32)  : Option Int32 := fX7_degree_46 L Nf σ k0 self4 x1 x3 y0 (1 : Int32)
set_option maxHeartbeats 4000000 in
set_option maxRecDepth 100000 in
theorem sX7_degree_41 {K : MCx} {G : Lay} (X : Cx K G RX7 cX7_degree 4 (some .int) 0 0) (Nf : Nat) (k0 : Nat) (hk0 : isMod G k0) (h : Int64) (σ : cS) (self4 : Int32 → Int32 → Int32 → Option Int32) (hself4 : ∀ (x1 : Int32) (x2 : Int32) (x3 : Int32), Sm K G TT (QM K G (fun r : Int32 => ((some (.int r), h, σ) : Option Value × Int64 × cS))) 4 4 [(0, .ref (la G k0)), (1, .int x1), (2, .int x2), (3, .int x3)] [] h σ (self4 x1 x2 x3)) (x1 : Int32) (x3 : Int32) (y0 : Int32) : Sm K G TT (QM K G (fun r : Int32 => ((some (.int r), h, σ) : Option Value × Int64 × cS))) 4 41 [(0, .ref (la G k0)), (1, .int x1), (3, .int x3)] [.int y0] h σ (fX7_degree_41 (ll G) Nf σ k0 self4 x1 x3 y0) := by
  unfold fX7_degree_41
  refine z_iconst (v := (1 : Int32)) X dX7_degree_41 (by decide) ?_
  refine z_goto X 46 dX7_degree_42 (by decide) ?_
  exact z_sub [0, 1, 2] rfl (sX7_degree_46 X Nf k0 hk0 h σ self4 hself4 x1 x3 y0 (1 : Int32))
def fX7_degree_4 (L : Nat → Nat) (Nf : Nat) (σ : cS) (k0 : Nat) : Nat → Int32 → Int32 → Int32 → Option Int32
  | 0, _, _, _ => none
  | n + 1, x1, x2, x3 => grd (inb (3 : Int32) (L (k0 + 1))) (if (σ (k0 + 1) (3 : Int32).toNatClampNeg) ≤ x3 then (some x2) else (grd (inb ((56 : Int32) + x3) (L (k0 + 1))) (if (σ (k0 + 1) ((56 : Int32) + x3).toNatClampNeg) = x1 then (fX7_degree_41 L Nf σ k0 (fX7_degree_4 L Nf σ k0 n) x1 x3 x2) else (grd (inb ((96 : Int32) + x3) (L (k0 + 1))) (if (σ (k0 + 1) ((96 : Int32) + x3).toNatClampNeg) = x1 then (fX7_degree_41 L Nf σ k0 (fX7_degree_4 L Nf σ k0 n) x1 x3 x2) else (fX7_degree_46 L Nf σ k0 (fX7_degree_4 L Nf σ k0 n) x1 x3 x2 (0 : Int32)))))))
set_option maxHeartbeats 4000000 in
set_option maxRecDepth 100000 in
theorem sX7_degree_4 {K : MCx} {G : Lay} (X : Cx K G RX7 cX7_degree 4 (some .int) 0 0) (Nf : Nat) (k0 : Nat) (hk0 : isMod G k0) (h : Int64) (σ : cS) : ∀ (n : Nat) (x1 : Int32) (x2 : Int32) (x3 : Int32), Sm K G TT (QM K G (fun r : Int32 => ((some (.int r), h, σ) : Option Value × Int64 × cS))) 4 4 [(0, .ref (la G k0)), (1, .int x1), (2, .int x2), (3, .int x3)] [] h σ (fX7_degree_4 (ll G) Nf σ k0 n x1 x2 x3) := by
  intro n
  induction n with
  | zero => intros; exact z_none
  | succ n ih =>
    intro x1 x2 x3
    unfold fX7_degree_4
    refine z_iload_n X dX7_degree_4 3 rfl ?_
    refine z_aload_n X dX7_degree_5 0 rfl ?_
    refine z_get X inlX7 rfl hk0.1 (ce7 hk0.1 _ _) 0 (by decide) q_5_4 rfl dX7_degree_6 ?_
    refine z_iconst (v := (3 : Int32)) X dX7_degree_9 (by decide) ?_
    refine z_iald X hk0.2.1 dX7_degree_10 ?_
    refine z_icmp_ge X 54 dX7_degree_11 (by decide) ?_ ?_
    · refine z_iload_n X dX7_degree_54 2 rfl ?_
      exact z_iret X rfl dX7_degree_55
    · refine z_iload_n X dX7_degree_14 2 rfl ?_
      refine z_aload_n X dX7_degree_15 0 rfl ?_
      refine z_get X inlX7 rfl hk0.1 (ce7 hk0.1 _ _) 0 (by decide) q_5_4 rfl dX7_degree_16 ?_
      refine z_bipush (v := (56 : Int32)) X dX7_degree_19 (by decide) ?_
      refine z_iload_n X dX7_degree_21 3 rfl ?_
      refine z_iadd X dX7_degree_22 ?_
      refine z_iald X hk0.2.1 dX7_degree_23 ?_
      refine z_iload_n X dX7_degree_24 1 rfl ?_
      refine z_icmp_eq X 41 dX7_degree_25 (by decide) ?_ ?_
      · exact z_sub [0, 1, 3] rfl (sX7_degree_41 X Nf k0 hk0 h σ (fX7_degree_4 (ll G) Nf σ k0 n) ih x1 x3 x2)
      · refine z_aload_n X dX7_degree_28 0 rfl ?_
        refine z_get X inlX7 rfl hk0.1 (ce7 hk0.1 _ _) 0 (by decide) q_5_4 rfl dX7_degree_29 ?_
        refine z_bipush (v := (96 : Int32)) X dX7_degree_32 (by decide) ?_
        refine z_iload_n X dX7_degree_34 3 rfl ?_
        refine z_iadd X dX7_degree_35 ?_
        refine z_iald X hk0.2.1 dX7_degree_36 ?_
        refine z_iload_n X dX7_degree_37 1 rfl ?_
        refine z_icmp_ne X 45 dX7_degree_38 (by decide) ?_ ?_
        · exact z_sub [0, 1, 3] rfl (sX7_degree_41 X Nf k0 hk0 h σ (fX7_degree_4 (ll G) Nf σ k0 n) ih x1 x3 x2)
        · refine z_iconst (v := (0 : Int32)) X dX7_degree_45 (by decide) ?_
          exact z_sub [0, 1, 3] rfl (sX7_degree_46 X Nf k0 hk0 h σ (fX7_degree_4 (ll G) Nf σ k0 n) ih x1 x3 x2 (0 : Int32))
def fX7_degree_0 (L : Nat → Nat) (Nf : Nat) (σ : cS) (k0 : Nat) (x1 : Int32)  : Option Int32 := fX7_degree_4 L Nf σ k0 Nf x1 (0 : Int32) (0 : Int32)
set_option maxHeartbeats 4000000 in
set_option maxRecDepth 100000 in
theorem sX7_degree_0 {K : MCx} {G : Lay} (X : Cx K G RX7 cX7_degree 4 (some .int) 0 0) (Nf : Nat) (k0 : Nat) (hk0 : isMod G k0) (h : Int64) (σ : cS) (x1 : Int32) : Sm K G TT (QM K G (fun r : Int32 => ((some (.int r), h, σ) : Option Value × Int64 × cS))) 4 0 [(0, .ref (la G k0)), (1, .int x1)] [] h σ (fX7_degree_0 (ll G) Nf σ k0 x1) := by
  unfold fX7_degree_0
  refine z_iconst (v := (0 : Int32)) X dX7_degree_0 (by decide) ?_
  refine z_istore_n X [(2, .int (0 : Int32)), (0, .ref (la G k0)), (1, .int x1)] dX7_degree_1 (by decide) rfl ?_
  refine z_iconst (v := (0 : Int32)) X dX7_degree_2 (by decide) ?_
  refine z_istore_n X [(3, .int (0 : Int32)), (2, .int (0 : Int32)), (0, .ref (la G k0)), (1, .int x1)] dX7_degree_3 (by decide) rfl ?_
  exact z_sub [2, 3, 1, 0] rfl (sX7_degree_4 X Nf k0 hk0 h σ Nf x1 (0 : Int32) (0 : Int32))
def fX7_degree (L : Nat → Nat) (Nf : Nat) (σ : cS) (k0 : Nat) (x1 : Int32) : Option Int32 := fX7_degree_0 L Nf σ k0 x1
set_option maxHeartbeats 4000000 in
set_option maxRecDepth 100000 in
theorem ctX7_degree (l : Launch) (G : Lay) (hi : Inj G) (Nf : Nat) (h : Int64) (σ : cS) (k0 : Nat) (hk0 : isMod G k0) (x1 : Int32) : ∀ r, fX7_degree (ll G) Nf σ k0 x1 = some r → CM l yX7_degree cX7_degree 4 (some .int) 0 0 G [.ref (la G k0), .int x1] h σ (some (.int r), h, σ) := by
  refine cm_of (g := (fun r : Int32 => ((some (.int r), h, σ) : Option Value × Int64 × cS))) (by decide) hi (Nat.le_of_ble_eq_true rfl) (fun K hKl X => ?_)
  unfold fX7_degree
  exact z_sub [0, 1] rfl (sX7_degree_0 X Nf k0 hk0 h σ x1)
def fX7_nodeOf_0 (L : Nat → Nat) (Nf : Nat) (k0 : Nat) (x1 : Int32) (x2 : Int32) (σ : cS) : Option (Int32 × cS) := if x2 = (0 : Int32) then (Option.bind (fX7_load L Nf σ k0 x1) (fun r1 => some (r1, σ))) else (if x2 = (1 : Int32) then (Option.bind (fX7_degree L Nf σ k0 x1) (fun r2 => some (r2, σ))) else (if x2 = (2 : Int32) then (grd (inb ((4 : Int32) + x1) (L (k0 + 1))) (some ((σ (k0 + 1) ((4 : Int32) + x1).toNatClampNeg), σ))) else (if x2 = (3 : Int32) then (Option.bind (fX7_neighbours L Nf σ k0 x1) (fun r3 => Option.bind (fX7_bits Nf σ r3) (fun r4 => some (r4, σ)))) else (Option.bind (fX7_visits L Nf σ k0 x1) (fun r5 => some ((r5 k0 10), r5))))))
set_option maxHeartbeats 4000000 in
set_option maxRecDepth 100000 in
theorem sX7_nodeOf_0 {K : MCx} {G : Lay} (X : Cx K G RX7 cX7_nodeOf 3 (some .int) 2 45) (Nf : Nat) (k0 : Nat) (hk0 : isMod G k0) (h : Int64) (x1 : Int32) (x2 : Int32) (σ : cS) : Sm K G TT (QM K G (fun r : (Int32 × cS) => ((some (.int r.1), h, r.2) : Option Value × Int64 × cS))) 3 0 [(0, .ref (la G k0)), (1, .int x1), (2, .int x2)] [] h σ (fX7_nodeOf_0 (ll G) Nf k0 x1 x2 σ) := by
  unfold fX7_nodeOf_0
  refine z_iload_n X dX7_nodeOf_0 2 rfl ?_
  refine z_ite (fun c0 => ?_) (fun c0 => ?_)
  · refine z_tsIn (off := 31) X 32 dX7_nodeOf_1 (by rw [c0]; decide) (by rw [c0]; decide) (by rw [c0]; rfl) (by decide) ?_
    refine z_aload_n X dX7_nodeOf_32 0 rfl ?_
    refine z_iload_n X dX7_nodeOf_33 1 rfl ?_
    refine z_callV0 X (g := (fun r1 : Int32 => ((some (.int r1), h, σ) : Option Value × Int64 × cS))) (st := []) (st1 := (fun r1 : Int32 => [.int r1])) (rmf := 1) (rml := 21) [.int x1] k0 cal_X7_load q_10_11 ⟨Nat.le_of_ble_eq_true rfl, Nat.le_of_ble_eq_true rfl⟩ rfl rfl (Nat.le_of_ble_eq_true rfl) rfl hk0.1 (ce7 hk0.1 _ _) (ctX7_load (kl K) G X.2.2.2.2.2.2.2.1 Nf h σ k0 hk0 x1) dX7_nodeOf_34 (fun _ => rfl) (fun r1 => ?_)
    exact z_iret X rfl dX7_nodeOf_37
  · refine z_ite (fun c1 => ?_) (fun c1 => ?_)
    · refine z_tsIn (off := 37) X 38 dX7_nodeOf_1 (by rw [c1]; decide) (by rw [c1]; decide) (by rw [c1]; rfl) (by decide) ?_
      refine z_aload_n X dX7_nodeOf_38 0 rfl ?_
      refine z_iload_n X dX7_nodeOf_39 1 rfl ?_
      refine z_callV0 X (g := (fun r2 : Int32 => ((some (.int r2), h, σ) : Option Value × Int64 × cS))) (st := []) (st1 := (fun r2 : Int32 => [.int r2])) (rmf := 0) (rml := 0) [.int x1] k0 cal_X7_degree q_19_21 ⟨Nat.le_of_ble_eq_true rfl, Nat.le_of_ble_eq_true rfl⟩ rfl rfl (Nat.le_of_ble_eq_true rfl) rfl hk0.1 (ce7 hk0.1 _ _) (ctX7_degree (kl K) G X.2.2.2.2.2.2.2.1 Nf h σ k0 hk0 x1) dX7_nodeOf_40 (fun _ => rfl) (fun r2 => ?_)
      exact z_iret X rfl dX7_nodeOf_43
    · refine z_ite (fun c2 => ?_) (fun c2 => ?_)
      · refine z_tsIn (off := 43) X 44 dX7_nodeOf_1 (by rw [c2]; decide) (by rw [c2]; decide) (by rw [c2]; rfl) (by decide) ?_
        refine z_aload_n X dX7_nodeOf_44 0 rfl ?_
        refine z_get X inlX7 rfl hk0.1 (ce7 hk0.1 _ _) 0 (by decide) q_5_4 rfl dX7_nodeOf_45 ?_
        refine z_iconst (v := (4 : Int32)) X dX7_nodeOf_48 (by decide) ?_
        refine z_iload_n X dX7_nodeOf_49 1 rfl ?_
        refine z_iadd X dX7_nodeOf_50 ?_
        refine z_iald X hk0.2.1 dX7_nodeOf_51 ?_
        exact z_iret X rfl dX7_nodeOf_52
      · refine z_ite (fun c3 => ?_) (fun c3 => ?_)
        · refine z_tsIn (off := 52) X 53 dX7_nodeOf_1 (by rw [c3]; decide) (by rw [c3]; decide) (by rw [c3]; rfl) (by decide) ?_
          refine z_aload_n X dX7_nodeOf_53 0 rfl ?_
          refine z_iload_n X dX7_nodeOf_54 1 rfl ?_
          refine z_callV0 X (g := (fun r3 : Int32 => ((some (.int r3), h, σ) : Option Value × Int64 × cS))) (st := []) (st1 := (fun r3 : Int32 => [.int r3])) (rmf := 0) (rml := 0) [.int x1] k0 cal_X7_neighbours q_20_1 ⟨Nat.le_of_ble_eq_true rfl, Nat.le_of_ble_eq_true rfl⟩ rfl rfl (Nat.le_of_ble_eq_true rfl) rfl hk0.1 (ce7 hk0.1 _ _) (ctX7_neighbours (kl K) G X.2.2.2.2.2.2.2.1 Nf h σ k0 hk0 x1) dX7_nodeOf_55 (fun _ => rfl) (fun r3 => ?_)
          refine z_callS0 X (g := (fun r4 : Int32 => ((some (.int r4), h, σ) : Option Value × Int64 × cS))) (st := []) (st1 := (fun r4 : Int32 => [.int r4])) (rmf := 0) (rml := 0) [.int r3] cal_X7_bits q_20_5 ⟨Nat.le_of_ble_eq_true rfl, Nat.le_of_ble_eq_true rfl⟩ rfl rfl (Nat.le_of_ble_eq_true rfl) (ctX7_bits (kl K) G X.2.2.2.2.2.2.2.1 Nf h σ r3) dX7_nodeOf_58 (fun _ => rfl) (fun r4 => ?_)
          exact z_iret X rfl dX7_nodeOf_61
        · refine z_tsOut X 62 dX7_nodeOf_1 (by decide) (ts_out_0_3 c0 c1 c2 c3) ?_
          refine z_aload_n X dX7_nodeOf_62 0 rfl ?_
          refine z_iload_n X dX7_nodeOf_63 1 rfl ?_
          refine z_callV0 X (g := (fun r5 : cS => ((none, h, r5) : Option Value × Int64 × cS))) (st := []) (st1 := (fun r5 : cS => [])) (rmf := 1) (rml := 21) [.int x1] k0 cal_X7_visits q_15_14 ⟨Nat.le_of_ble_eq_true rfl, Nat.le_of_ble_eq_true rfl⟩ rfl rfl (Nat.le_of_ble_eq_true rfl) rfl hk0.1 (ce7 hk0.1 _ _) (ctX7_visits (kl K) G X.2.2.2.2.2.2.2.1 Nf h σ k0 hk0 x1) dX7_nodeOf_64 (fun _ => rfl) (fun r5 => ?_)
          refine z_aload_n X dX7_nodeOf_67 0 rfl ?_
          refine z_get X inlX7 rfl hk0.1 (ce7 hk0.1 _ _) 10 (by decide) q_15_18 rfl dX7_nodeOf_68 ?_
          exact z_iret X rfl dX7_nodeOf_71
def fX7_nodeOf (L : Nat → Nat) (Nf : Nat) (σ : cS) (k0 : Nat) (x1 : Int32) (x2 : Int32) : Option (Int32 × cS) := fX7_nodeOf_0 L Nf k0 x1 x2 σ
set_option maxHeartbeats 4000000 in
set_option maxRecDepth 100000 in
theorem ctX7_nodeOf (l : Launch) (G : Lay) (hi : Inj G) (Nf : Nat) (h : Int64) (σ : cS) (k0 : Nat) (hk0 : isMod G k0) (x1 : Int32) (x2 : Int32) : ∀ r, fX7_nodeOf (ll G) Nf σ k0 x1 x2 = some r → CM l yX7_nodeOf cX7_nodeOf 3 (some .int) 2 45 G [.ref (la G k0), .int x1, .int x2] h σ (some (.int r.1), h, r.2) := by
  refine cm_of (g := (fun r : (Int32 × cS) => ((some (.int r.1), h, r.2) : Option Value × Int64 × cS))) (by decide) hi (Nat.le_of_ble_eq_true rfl) (fun K hKl X => ?_)
  unfold fX7_nodeOf
  exact z_sub [0, 1, 2] rfl (sX7_nodeOf_0 X Nf k0 hk0 h x1 x2 σ)
def fX7_node_45 (L : Nat → Nat) (Nf : Nat) (k0 : Nat) (y0 : Int32) (σ : cS) : Option (Int32 × cS) := some (y0, σ)
set_option maxHeartbeats 4000000 in
set_option maxRecDepth 100000 in
theorem sX7_node_45 {K : MCx} {G : Lay} (X : Cx K G RX7 cX7_node 3 (some .int) 3 67) (Nf : Nat) (k0 : Nat) (hk0 : isMod G k0) (h : Int64) (y0 : Int32) (σ : cS) : Sm K G TT (QM K G (fun r : (Int32 × cS) => ((some (.int r.1), h, r.2) : Option Value × Int64 × cS))) 3 45 [] [.int y0] h σ (fX7_node_45 (ll G) Nf k0 y0 σ) := by
  unfold fX7_node_45
  exact z_iret X rfl dX7_node_45
def fX7_node_28 (L : Nat → Nat) (Nf : Nat) (k0 : Nat) (x1 : Int32) (x2 : Int32) (y1 : Int32) (y2 : Int32) (σ : cS) : Option (Int32 × cS) := Option.bind (fX7_refuses σ k0 y1 y2 (0 : Int32)) (fun r1 => if r1.1 = 0 then (Option.bind (fX7_nodeOf L Nf r1.2 k0 x1 x2) (fun r2 => fX7_node_45 L Nf k0 r2.1 r2.2)) else (fX7_node_45 L Nf k0 (0 : Int32) r1.2))
set_option maxHeartbeats 4000000 in
set_option maxRecDepth 100000 in
theorem sX7_node_28 {K : MCx} {G : Lay} (X : Cx K G RX7 cX7_node 3 (some .int) 3 67) (Nf : Nat) (k0 : Nat) (hk0 : isMod G k0) (h : Int64) (x1 : Int32) (x2 : Int32) (y1 : Int32) (y2 : Int32) (σ : cS) : Sm K G TT (QM K G (fun r : (Int32 × cS) => ((some (.int r.1), h, r.2) : Option Value × Int64 × cS))) 3 28 [(0, .ref (la G k0)), (1, .int x1), (2, .int x2)] [.int y2, .int y1, .ref (la G k0)] h σ (fX7_node_28 (ll G) Nf k0 x1 x2 y1 y2 σ) := by
  unfold fX7_node_28
  refine z_iconst (v := (0 : Int32)) X dX7_node_28 (by decide) ?_
  refine z_callV0 X (g := (fun r1 : (Int32 × cS) => ((some (.int r1.1), h, r1.2) : Option Value × Int64 × cS))) (st := []) (st1 := (fun r1 : (Int32 × cS) => [.int r1.1])) (rmf := 0) (rml := 0) [.int y1, .int y2, .int (0 : Int32)] k0 cal_X7_refuses q_7_8 ⟨Nat.le_of_ble_eq_true rfl, Nat.le_of_ble_eq_true rfl⟩ rfl rfl (Nat.le_of_ble_eq_true rfl) rfl hk0.1 (ce7 hk0.1 _ _) (ctX7_refuses (kl K) G X.2.2.2.2.2.2.2.1 h σ k0 hk0 y1 y2 (0 : Int32)) dX7_node_29 (fun _ => rfl) (fun r1 => ?_)
  refine z_if_eq X 39 dX7_node_32 (by decide) ?_ ?_
  · refine z_aload_n X dX7_node_39 0 rfl ?_
    refine z_iload_n X dX7_node_40 1 rfl ?_
    refine z_iload_n X dX7_node_41 2 rfl ?_
    refine z_callV0 X (g := (fun r2 : (Int32 × cS) => ((some (.int r2.1), h, r2.2) : Option Value × Int64 × cS))) (st := []) (st1 := (fun r2 : (Int32 × cS) => [.int r2.1])) (rmf := 2) (rml := 45) [.int x1, .int x2] k0 cal_X7_nodeOf q_19_17 ⟨Nat.le_of_ble_eq_true rfl, Nat.le_of_ble_eq_true rfl⟩ rfl rfl (Nat.le_of_ble_eq_true rfl) rfl hk0.1 (ce7 hk0.1 _ _) (ctX7_nodeOf (kl K) G X.2.2.2.2.2.2.2.1 Nf h r1.2 k0 hk0 x1 x2) dX7_node_42 (fun _ => rfl) (fun r2 => ?_)
    exact z_sub [] rfl (sX7_node_45 X Nf k0 hk0 h r2.1 r2.2)
  · refine z_iconst (v := (0 : Int32)) X dX7_node_35 (by decide) ?_
    refine z_goto X 45 dX7_node_36 (by decide) ?_
    exact z_sub [] rfl (sX7_node_45 X Nf k0 hk0 h (0 : Int32) r1.2)
def fX7_node_14 (L : Nat → Nat) (Nf : Nat) (k0 : Nat) (x1 : Int32) (x2 : Int32) (y1 : Int32) (σ : cS) : Option (Int32 × cS) := Option.bind (fX7_in σ x2 (0 : Int32) (4 : Int32)) (fun r1 => if r1 = 0 then (fX7_node_28 L Nf k0 x1 x2 y1 (1 : Int32) σ) else (fX7_node_28 L Nf k0 x1 x2 y1 (0 : Int32) σ))
set_option maxHeartbeats 4000000 in
set_option maxRecDepth 100000 in
theorem sX7_node_14 {K : MCx} {G : Lay} (X : Cx K G RX7 cX7_node 3 (some .int) 3 67) (Nf : Nat) (k0 : Nat) (hk0 : isMod G k0) (h : Int64) (x1 : Int32) (x2 : Int32) (y1 : Int32) (σ : cS) : Sm K G TT (QM K G (fun r : (Int32 × cS) => ((some (.int r.1), h, r.2) : Option Value × Int64 × cS))) 3 14 [(0, .ref (la G k0)), (1, .int x1), (2, .int x2)] [.int y1, .ref (la G k0)] h σ (fX7_node_14 (ll G) Nf k0 x1 x2 y1 σ) := by
  unfold fX7_node_14
  refine z_iload_n X dX7_node_14 2 rfl ?_
  refine z_iconst (v := (0 : Int32)) X dX7_node_15 (by decide) ?_
  refine z_iconst (v := (4 : Int32)) X dX7_node_16 (by decide) ?_
  refine z_callS0 X (g := (fun r1 : Int32 => ((some (.int r1), h, σ) : Option Value × Int64 × cS))) (st := [.int y1, .ref (la G k0)]) (st1 := (fun r1 : Int32 => [.int r1, .int y1, .ref (la G k0)])) (rmf := 0) (rml := 0) [.int x2, .int (0 : Int32), .int (4 : Int32)] cal_X7_in q_7_5 ⟨Nat.le_of_ble_eq_true rfl, Nat.le_of_ble_eq_true rfl⟩ rfl rfl (Nat.le_of_ble_eq_true rfl) (ctX7_in (kl K) G X.2.2.2.2.2.2.2.1 h σ x2 (0 : Int32) (4 : Int32)) dX7_node_17 (fun _ => rfl) (fun r1 => ?_)
  refine z_if_ne X 27 dX7_node_20 (by decide) ?_ ?_
  · refine z_iconst (v := (1 : Int32)) X dX7_node_23 (by decide) ?_
    refine z_goto X 28 dX7_node_24 (by decide) ?_
    exact z_sub [0, 1, 2] rfl (sX7_node_28 X Nf k0 hk0 h x1 x2 y1 (1 : Int32) σ)
  · refine z_iconst (v := (0 : Int32)) X dX7_node_27 (by decide) ?_
    exact z_sub [0, 1, 2] rfl (sX7_node_28 X Nf k0 hk0 h x1 x2 y1 (0 : Int32) σ)
def fX7_node_0 (L : Nat → Nat) (Nf : Nat) (k0 : Nat) (x1 : Int32) (x2 : Int32) (σ : cS) : Option (Int32 × cS) := Option.bind (fX7_isNode L σ k0 x1) (fun r1 => if r1 = 0 then (fX7_node_14 L Nf k0 x1 x2 (1 : Int32) σ) else (fX7_node_14 L Nf k0 x1 x2 (0 : Int32) σ))
set_option maxHeartbeats 4000000 in
set_option maxRecDepth 100000 in
theorem sX7_node_0 {K : MCx} {G : Lay} (X : Cx K G RX7 cX7_node 3 (some .int) 3 67) (Nf : Nat) (k0 : Nat) (hk0 : isMod G k0) (h : Int64) (x1 : Int32) (x2 : Int32) (σ : cS) : Sm K G TT (QM K G (fun r : (Int32 × cS) => ((some (.int r.1), h, r.2) : Option Value × Int64 × cS))) 3 0 [(0, .ref (la G k0)), (1, .int x1), (2, .int x2)] [] h σ (fX7_node_0 (ll G) Nf k0 x1 x2 σ) := by
  unfold fX7_node_0
  refine z_aload_n X dX7_node_0 0 rfl ?_
  refine z_aload_n X dX7_node_1 0 rfl ?_
  refine z_iload_n X dX7_node_2 1 rfl ?_
  refine z_callV0 X (g := (fun r1 : Int32 => ((some (.int r1), h, σ) : Option Value × Int64 × cS))) (st := [.ref (la G k0)]) (st1 := (fun r1 : Int32 => [.int r1, .ref (la G k0)])) (rmf := 1) (rml := 22) [.int x1] k0 cal_X7_isNode q_10_3 ⟨Nat.le_of_ble_eq_true rfl, Nat.le_of_ble_eq_true rfl⟩ rfl rfl (Nat.le_of_ble_eq_true rfl) rfl hk0.1 (ce7 hk0.1 _ _) (ctX7_isNode (kl K) G X.2.2.2.2.2.2.2.1 h σ k0 hk0 x1) dX7_node_3 (fun _ => rfl) (fun r1 => ?_)
  refine z_if_ne X 13 dX7_node_6 (by decide) ?_ ?_
  · refine z_iconst (v := (1 : Int32)) X dX7_node_9 (by decide) ?_
    refine z_goto X 14 dX7_node_10 (by decide) ?_
    exact z_sub [0, 1, 2] rfl (sX7_node_14 X Nf k0 hk0 h x1 x2 (1 : Int32) σ)
  · refine z_iconst (v := (0 : Int32)) X dX7_node_13 (by decide) ?_
    exact z_sub [0, 1, 2] rfl (sX7_node_14 X Nf k0 hk0 h x1 x2 (0 : Int32) σ)
def fX7_node (L : Nat → Nat) (Nf : Nat) (σ : cS) (k0 : Nat) (x1 : Int32) (x2 : Int32) : Option (Int32 × cS) := fX7_node_0 L Nf k0 x1 x2 σ
set_option maxHeartbeats 4000000 in
set_option maxRecDepth 100000 in
theorem ctX7_node (l : Launch) (G : Lay) (hi : Inj G) (Nf : Nat) (h : Int64) (σ : cS) (k0 : Nat) (hk0 : isMod G k0) (x1 : Int32) (x2 : Int32) : ∀ r, fX7_node (ll G) Nf σ k0 x1 x2 = some r → CM l yX7_node cX7_node 3 (some .int) 3 67 G [.ref (la G k0), .int x1, .int x2] h σ (some (.int r.1), h, r.2) := by
  refine cm_of (g := (fun r : (Int32 × cS) => ((some (.int r.1), h, r.2) : Option Value × Int64 × cS))) (by decide) hi (Nat.le_of_ble_eq_true rfl) (fun K hKl X => ?_)
  unfold fX7_node
  exact z_sub [0, 1, 2] rfl (sX7_node_0 X Nf k0 hk0 h x1 x2 σ)
def fX7_edgeOf_56 (L : Nat → Nat) (σ : cS) (k0 : Nat) (y0 : Int32)  : Option Int32 := some y0
set_option maxHeartbeats 4000000 in
set_option maxRecDepth 100000 in
theorem sX7_edgeOf_56 {K : MCx} {G : Lay} (X : Cx K G RX7 cX7_edgeOf 3 (some .int) 1 21) (k0 : Nat) (hk0 : isMod G k0) (h : Int64) (σ : cS) (y0 : Int32) : Sm K G TT (QM K G (fun r : Int32 => ((some (.int r), h, σ) : Option Value × Int64 × cS))) 3 56 [] [.int y0] h σ (fX7_edgeOf_56 (ll G) σ k0 y0) := by
  unfold fX7_edgeOf_56
  exact z_iret X rfl dX7_edgeOf_56
def fX7_edgeOf_0 (L : Nat → Nat) (σ : cS) (k0 : Nat) (x1 : Int32) (x2 : Int32)  : Option Int32 := if x2 = 0 then (grd (inb ((56 : Int32) + x1) (L (k0 + 1))) (fX7_edgeOf_56 L σ k0 (σ (k0 + 1) ((56 : Int32) + x1).toNatClampNeg))) else (if x2 = (1 : Int32) then (grd (inb ((96 : Int32) + x1) (L (k0 + 1))) (fX7_edgeOf_56 L σ k0 (σ (k0 + 1) ((96 : Int32) + x1).toNatClampNeg))) else (if x2 = (2 : Int32) then (Option.bind (fX7_holder L σ k0 x1) (fun r1 => fX7_edgeOf_56 L σ k0 r1)) else (grd (inb ((176 : Int32) + x1) (L (k0 + 1))) (fX7_edgeOf_56 L σ k0 (σ (k0 + 1) ((176 : Int32) + x1).toNatClampNeg)))))
set_option maxHeartbeats 4000000 in
set_option maxRecDepth 100000 in
theorem sX7_edgeOf_0 {K : MCx} {G : Lay} (X : Cx K G RX7 cX7_edgeOf 3 (some .int) 1 21) (k0 : Nat) (hk0 : isMod G k0) (h : Int64) (σ : cS) (x1 : Int32) (x2 : Int32) : Sm K G TT (QM K G (fun r : Int32 => ((some (.int r), h, σ) : Option Value × Int64 × cS))) 3 0 [(0, .ref (la G k0)), (1, .int x1), (2, .int x2)] [] h σ (fX7_edgeOf_0 (ll G) σ k0 x1 x2) := by
  unfold fX7_edgeOf_0
  refine z_iload_n X dX7_edgeOf_0 2 rfl ?_
  refine z_if_ne X 16 dX7_edgeOf_1 (by decide) ?_ ?_
  · refine z_aload_n X dX7_edgeOf_4 0 rfl ?_
    refine z_get X inlX7 rfl hk0.1 (ce7 hk0.1 _ _) 0 (by decide) q_5_4 rfl dX7_edgeOf_5 ?_
    refine z_bipush (v := (56 : Int32)) X dX7_edgeOf_8 (by decide) ?_
    refine z_iload_n X dX7_edgeOf_10 1 rfl ?_
    refine z_iadd X dX7_edgeOf_11 ?_
    refine z_iald X hk0.2.1 dX7_edgeOf_12 ?_
    refine z_goto X 56 dX7_edgeOf_13 (by decide) ?_
    exact z_sub [] rfl (sX7_edgeOf_56 X k0 hk0 h σ (σ (k0 + 1) ((56 : Int32) + x1).toNatClampNeg))
  · refine z_iload_n X dX7_edgeOf_16 2 rfl ?_
    refine z_iconst (v := (1 : Int32)) X dX7_edgeOf_17 (by decide) ?_
    refine z_icmp_ne X 33 dX7_edgeOf_18 (by decide) ?_ ?_
    · refine z_aload_n X dX7_edgeOf_21 0 rfl ?_
      refine z_get X inlX7 rfl hk0.1 (ce7 hk0.1 _ _) 0 (by decide) q_5_4 rfl dX7_edgeOf_22 ?_
      refine z_bipush (v := (96 : Int32)) X dX7_edgeOf_25 (by decide) ?_
      refine z_iload_n X dX7_edgeOf_27 1 rfl ?_
      refine z_iadd X dX7_edgeOf_28 ?_
      refine z_iald X hk0.2.1 dX7_edgeOf_29 ?_
      refine z_goto X 56 dX7_edgeOf_30 (by decide) ?_
      exact z_sub [] rfl (sX7_edgeOf_56 X k0 hk0 h σ (σ (k0 + 1) ((96 : Int32) + x1).toNatClampNeg))
    · refine z_iload_n X dX7_edgeOf_33 2 rfl ?_
      refine z_iconst (v := (2 : Int32)) X dX7_edgeOf_34 (by decide) ?_
      refine z_icmp_ne X 46 dX7_edgeOf_35 (by decide) ?_ ?_
      · refine z_aload_n X dX7_edgeOf_38 0 rfl ?_
        refine z_iload_n X dX7_edgeOf_39 1 rfl ?_
        refine z_callV0 X (g := (fun r1 : Int32 => ((some (.int r1), h, σ) : Option Value × Int64 × cS))) (st := []) (st1 := (fun r1 : Int32 => [.int r1])) (rmf := 0) (rml := 0) [.int x1] k0 cal_X7_holder q_10_15 ⟨Nat.le_of_ble_eq_true rfl, Nat.le_of_ble_eq_true rfl⟩ rfl rfl (Nat.le_of_ble_eq_true rfl) rfl hk0.1 (ce7 hk0.1 _ _) (ctX7_holder (kl K) G X.2.2.2.2.2.2.2.1 h σ k0 hk0 x1) dX7_edgeOf_40 (fun _ => rfl) (fun r1 => ?_)
        refine z_goto X 56 dX7_edgeOf_43 (by decide) ?_
        exact z_sub [] rfl (sX7_edgeOf_56 X k0 hk0 h σ r1)
      · refine z_aload_n X dX7_edgeOf_46 0 rfl ?_
        refine z_get X inlX7 rfl hk0.1 (ce7 hk0.1 _ _) 0 (by decide) q_5_4 rfl dX7_edgeOf_47 ?_
        refine z_sipush (v := (176 : Int32)) X dX7_edgeOf_50 (by decide) ?_
        refine z_iload_n X dX7_edgeOf_53 1 rfl ?_
        refine z_iadd X dX7_edgeOf_54 ?_
        refine z_iald X hk0.2.1 dX7_edgeOf_55 ?_
        exact z_sub [] rfl (sX7_edgeOf_56 X k0 hk0 h σ (σ (k0 + 1) ((176 : Int32) + x1).toNatClampNeg))
def fX7_edgeOf (L : Nat → Nat) (σ : cS) (k0 : Nat) (x1 : Int32) (x2 : Int32) : Option Int32 := fX7_edgeOf_0 L σ k0 x1 x2
set_option maxHeartbeats 4000000 in
set_option maxRecDepth 100000 in
theorem ctX7_edgeOf (l : Launch) (G : Lay) (hi : Inj G) (h : Int64) (σ : cS) (k0 : Nat) (hk0 : isMod G k0) (x1 : Int32) (x2 : Int32) : ∀ r, fX7_edgeOf (ll G) σ k0 x1 x2 = some r → CM l yX7_edgeOf cX7_edgeOf 3 (some .int) 1 21 G [.ref (la G k0), .int x1, .int x2] h σ (some (.int r), h, σ) := by
  refine cm_of (g := (fun r : Int32 => ((some (.int r), h, σ) : Option Value × Int64 × cS))) (by decide) hi (Nat.le_of_ble_eq_true rfl) (fun K hKl X => ?_)
  unfold fX7_edgeOf
  exact z_sub [0, 1, 2] rfl (sX7_edgeOf_0 X k0 hk0 h σ x1 x2)
def fX7_edge_49 (L : Nat → Nat) (Nf : Nat) (k0 : Nat) (y0 : Int32) (σ : cS) : Option (Int32 × cS) := some (y0, σ)
set_option maxHeartbeats 4000000 in
set_option maxRecDepth 100000 in
theorem sX7_edge_49 {K : MCx} {G : Lay} (X : Cx K G RX7 cX7_edge 3 (some .int) 2 43) (Nf : Nat) (k0 : Nat) (hk0 : isMod G k0) (h : Int64) (y0 : Int32) (σ : cS) : Sm K G TT (QM K G (fun r : (Int32 × cS) => ((some (.int r.1), h, r.2) : Option Value × Int64 × cS))) 3 49 [] [.int y0] h σ (fX7_edge_49 (ll G) Nf k0 y0 σ) := by
  unfold fX7_edge_49
  exact z_iret X rfl dX7_edge_49
def fX7_edge_28 (L : Nat → Nat) (Nf : Nat) (k0 : Nat) (x1 : Int32) (x2 : Int32) (y1 : Int32) (y2 : Int32) (σ : cS) : Option (Int32 × cS) := Option.bind (fX7_refuses σ k0 y1 y2 (0 : Int32)) (fun r1 => if r1.1 = 0 then (Option.bind (fX7_placeOf L Nf r1.2 k0 x1) (fun r2 => Option.bind (fX7_edgeOf L r1.2 k0 r2 x2) (fun r3 => fX7_edge_49 L Nf k0 r3 r1.2))) else (fX7_edge_49 L Nf k0 (0 : Int32) r1.2))
set_option maxHeartbeats 4000000 in
set_option maxRecDepth 100000 in
theorem sX7_edge_28 {K : MCx} {G : Lay} (X : Cx K G RX7 cX7_edge 3 (some .int) 2 43) (Nf : Nat) (k0 : Nat) (hk0 : isMod G k0) (h : Int64) (x1 : Int32) (x2 : Int32) (y1 : Int32) (y2 : Int32) (σ : cS) : Sm K G TT (QM K G (fun r : (Int32 × cS) => ((some (.int r.1), h, r.2) : Option Value × Int64 × cS))) 3 28 [(0, .ref (la G k0)), (1, .int x1), (2, .int x2)] [.int y2, .int y1, .ref (la G k0)] h σ (fX7_edge_28 (ll G) Nf k0 x1 x2 y1 y2 σ) := by
  unfold fX7_edge_28
  refine z_iconst (v := (0 : Int32)) X dX7_edge_28 (by decide) ?_
  refine z_callV0 X (g := (fun r1 : (Int32 × cS) => ((some (.int r1.1), h, r1.2) : Option Value × Int64 × cS))) (st := []) (st1 := (fun r1 : (Int32 × cS) => [.int r1.1])) (rmf := 0) (rml := 0) [.int y1, .int y2, .int (0 : Int32)] k0 cal_X7_refuses q_7_8 ⟨Nat.le_of_ble_eq_true rfl, Nat.le_of_ble_eq_true rfl⟩ rfl rfl (Nat.le_of_ble_eq_true rfl) rfl hk0.1 (ce7 hk0.1 _ _) (ctX7_refuses (kl K) G X.2.2.2.2.2.2.2.1 h σ k0 hk0 y1 y2 (0 : Int32)) dX7_edge_29 (fun _ => rfl) (fun r1 => ?_)
  refine z_if_eq X 39 dX7_edge_32 (by decide) ?_ ?_
  · refine z_aload_n X dX7_edge_39 0 rfl ?_
    refine z_aload_n X dX7_edge_40 0 rfl ?_
    refine z_iload_n X dX7_edge_41 1 rfl ?_
    refine z_callV0 X (g := (fun r2 : Int32 => ((some (.int r2), h, r1.2) : Option Value × Int64 × cS))) (st := [.ref (la G k0)]) (st1 := (fun r2 : Int32 => [.int r2, .ref (la G k0)])) (rmf := 0) (rml := 0) [.int x1] k0 cal_X7_placeOf q_12_5 ⟨Nat.le_of_ble_eq_true rfl, Nat.le_of_ble_eq_true rfl⟩ rfl rfl (Nat.le_of_ble_eq_true rfl) rfl hk0.1 (ce7 hk0.1 _ _) (ctX7_placeOf (kl K) G X.2.2.2.2.2.2.2.1 Nf h r1.2 k0 hk0 x1) dX7_edge_42 (fun _ => rfl) (fun r2 => ?_)
    refine z_iload_n X dX7_edge_45 2 rfl ?_
    refine z_callV0 X (g := (fun r3 : Int32 => ((some (.int r3), h, r1.2) : Option Value × Int64 × cS))) (st := []) (st1 := (fun r3 : Int32 => [.int r3])) (rmf := 1) (rml := 21) [.int r2, .int x2] k0 cal_X7_edgeOf q_20_19 ⟨Nat.le_of_ble_eq_true rfl, Nat.le_of_ble_eq_true rfl⟩ rfl rfl (Nat.le_of_ble_eq_true rfl) rfl hk0.1 (ce7 hk0.1 _ _) (ctX7_edgeOf (kl K) G X.2.2.2.2.2.2.2.1 h r1.2 k0 hk0 r2 x2) dX7_edge_46 (fun _ => rfl) (fun r3 => ?_)
    exact z_sub [] rfl (sX7_edge_49 X Nf k0 hk0 h r3 r1.2)
  · refine z_iconst (v := (0 : Int32)) X dX7_edge_35 (by decide) ?_
    refine z_goto X 49 dX7_edge_36 (by decide) ?_
    exact z_sub [] rfl (sX7_edge_49 X Nf k0 hk0 h (0 : Int32) r1.2)
def fX7_edge_14 (L : Nat → Nat) (Nf : Nat) (k0 : Nat) (x1 : Int32) (x2 : Int32) (y1 : Int32) (σ : cS) : Option (Int32 × cS) := Option.bind (fX7_in σ x2 (0 : Int32) (3 : Int32)) (fun r1 => if r1 = 0 then (fX7_edge_28 L Nf k0 x1 x2 y1 (1 : Int32) σ) else (fX7_edge_28 L Nf k0 x1 x2 y1 (0 : Int32) σ))
set_option maxHeartbeats 4000000 in
set_option maxRecDepth 100000 in
theorem sX7_edge_14 {K : MCx} {G : Lay} (X : Cx K G RX7 cX7_edge 3 (some .int) 2 43) (Nf : Nat) (k0 : Nat) (hk0 : isMod G k0) (h : Int64) (x1 : Int32) (x2 : Int32) (y1 : Int32) (σ : cS) : Sm K G TT (QM K G (fun r : (Int32 × cS) => ((some (.int r.1), h, r.2) : Option Value × Int64 × cS))) 3 14 [(0, .ref (la G k0)), (1, .int x1), (2, .int x2)] [.int y1, .ref (la G k0)] h σ (fX7_edge_14 (ll G) Nf k0 x1 x2 y1 σ) := by
  unfold fX7_edge_14
  refine z_iload_n X dX7_edge_14 2 rfl ?_
  refine z_iconst (v := (0 : Int32)) X dX7_edge_15 (by decide) ?_
  refine z_iconst (v := (3 : Int32)) X dX7_edge_16 (by decide) ?_
  refine z_callS0 X (g := (fun r1 : Int32 => ((some (.int r1), h, σ) : Option Value × Int64 × cS))) (st := [.int y1, .ref (la G k0)]) (st1 := (fun r1 : Int32 => [.int r1, .int y1, .ref (la G k0)])) (rmf := 0) (rml := 0) [.int x2, .int (0 : Int32), .int (3 : Int32)] cal_X7_in q_7_5 ⟨Nat.le_of_ble_eq_true rfl, Nat.le_of_ble_eq_true rfl⟩ rfl rfl (Nat.le_of_ble_eq_true rfl) (ctX7_in (kl K) G X.2.2.2.2.2.2.2.1 h σ x2 (0 : Int32) (3 : Int32)) dX7_edge_17 (fun _ => rfl) (fun r1 => ?_)
  refine z_if_ne X 27 dX7_edge_20 (by decide) ?_ ?_
  · refine z_iconst (v := (1 : Int32)) X dX7_edge_23 (by decide) ?_
    refine z_goto X 28 dX7_edge_24 (by decide) ?_
    exact z_sub [0, 1, 2] rfl (sX7_edge_28 X Nf k0 hk0 h x1 x2 y1 (1 : Int32) σ)
  · refine z_iconst (v := (0 : Int32)) X dX7_edge_27 (by decide) ?_
    exact z_sub [0, 1, 2] rfl (sX7_edge_28 X Nf k0 hk0 h x1 x2 y1 (0 : Int32) σ)
def fX7_edge_0 (L : Nat → Nat) (Nf : Nat) (k0 : Nat) (x1 : Int32) (x2 : Int32) (σ : cS) : Option (Int32 × cS) := Option.bind (fX7_placeOf L Nf σ k0 x1) (fun r1 => if 0 ≤ r1 then (fX7_edge_14 L Nf k0 x1 x2 (0 : Int32) σ) else (fX7_edge_14 L Nf k0 x1 x2 (1 : Int32) σ))
set_option maxHeartbeats 4000000 in
set_option maxRecDepth 100000 in
theorem sX7_edge_0 {K : MCx} {G : Lay} (X : Cx K G RX7 cX7_edge 3 (some .int) 2 43) (Nf : Nat) (k0 : Nat) (hk0 : isMod G k0) (h : Int64) (x1 : Int32) (x2 : Int32) (σ : cS) : Sm K G TT (QM K G (fun r : (Int32 × cS) => ((some (.int r.1), h, r.2) : Option Value × Int64 × cS))) 3 0 [(0, .ref (la G k0)), (1, .int x1), (2, .int x2)] [] h σ (fX7_edge_0 (ll G) Nf k0 x1 x2 σ) := by
  unfold fX7_edge_0
  refine z_aload_n X dX7_edge_0 0 rfl ?_
  refine z_aload_n X dX7_edge_1 0 rfl ?_
  refine z_iload_n X dX7_edge_2 1 rfl ?_
  refine z_callV0 X (g := (fun r1 : Int32 => ((some (.int r1), h, σ) : Option Value × Int64 × cS))) (st := [.ref (la G k0)]) (st1 := (fun r1 : Int32 => [.int r1, .ref (la G k0)])) (rmf := 0) (rml := 0) [.int x1] k0 cal_X7_placeOf q_12_5 ⟨Nat.le_of_ble_eq_true rfl, Nat.le_of_ble_eq_true rfl⟩ rfl rfl (Nat.le_of_ble_eq_true rfl) rfl hk0.1 (ce7 hk0.1 _ _) (ctX7_placeOf (kl K) G X.2.2.2.2.2.2.2.1 Nf h σ k0 hk0 x1) dX7_edge_3 (fun _ => rfl) (fun r1 => ?_)
  refine z_if_ge X 13 dX7_edge_6 (by decide) ?_ ?_
  · refine z_iconst (v := (0 : Int32)) X dX7_edge_13 (by decide) ?_
    exact z_sub [0, 1, 2] rfl (sX7_edge_14 X Nf k0 hk0 h x1 x2 (0 : Int32) σ)
  · refine z_iconst (v := (1 : Int32)) X dX7_edge_9 (by decide) ?_
    refine z_goto X 14 dX7_edge_10 (by decide) ?_
    exact z_sub [0, 1, 2] rfl (sX7_edge_14 X Nf k0 hk0 h x1 x2 (1 : Int32) σ)
def fX7_edge (L : Nat → Nat) (Nf : Nat) (σ : cS) (k0 : Nat) (x1 : Int32) (x2 : Int32) : Option (Int32 × cS) := fX7_edge_0 L Nf k0 x1 x2 σ
set_option maxHeartbeats 4000000 in
set_option maxRecDepth 100000 in
theorem ctX7_edge (l : Launch) (G : Lay) (hi : Inj G) (Nf : Nat) (h : Int64) (σ : cS) (k0 : Nat) (hk0 : isMod G k0) (x1 : Int32) (x2 : Int32) : ∀ r, fX7_edge (ll G) Nf σ k0 x1 x2 = some r → CM l yX7_edge cX7_edge 3 (some .int) 2 43 G [.ref (la G k0), .int x1, .int x2] h σ (some (.int r.1), h, r.2) := by
  refine cm_of (g := (fun r : (Int32 × cS) => ((some (.int r.1), h, r.2) : Option Value × Int64 × cS))) (by decide) hi (Nat.le_of_ble_eq_true rfl) (fun K hKl X => ?_)
  unfold fX7_edge
  exact z_sub [0, 1, 2] rfl (sX7_edge_0 X Nf k0 hk0 h x1 x2 σ)
def fX7_edgeAt_43 (L : Nat → Nat) (k0 : Nat) (y0 : Int32) (σ : cS) : Option (Int32 × cS) := some (y0, σ)
set_option maxHeartbeats 4000000 in
set_option maxRecDepth 100000 in
theorem sX7_edgeAt_43 {K : MCx} {G : Lay} (X : Cx K G RX7 cX7_edgeAt 2 (some .int) 1 23) (k0 : Nat) (hk0 : isMod G k0) (h : Int64) (y0 : Int32) (σ : cS) : Sm K G TT (QM K G (fun r : (Int32 × cS) => ((some (.int r.1), h, r.2) : Option Value × Int64 × cS))) 2 43 [] [.int y0] h σ (fX7_edgeAt_43 (ll G) k0 y0 σ) := by
  unfold fX7_edgeAt_43
  exact z_iret X rfl dX7_edgeAt_43
def fX7_edgeAt_22 (L : Nat → Nat) (k0 : Nat) (x1 : Int32) (y1 : Int32) (σ : cS) : Option (Int32 × cS) := Option.bind (fX7_refuses σ k0 y1 (0 : Int32) (0 : Int32)) (fun r1 => if r1.1 = 0 then (grd (inb ((16 : Int32) + x1) (L (k0 + 1))) (fX7_edgeAt_43 L k0 (r1.2 (k0 + 1) ((16 : Int32) + x1).toNatClampNeg) r1.2)) else (fX7_edgeAt_43 L k0 (0 : Int32) r1.2))
set_option maxHeartbeats 4000000 in
set_option maxRecDepth 100000 in
theorem sX7_edgeAt_22 {K : MCx} {G : Lay} (X : Cx K G RX7 cX7_edgeAt 2 (some .int) 1 23) (k0 : Nat) (hk0 : isMod G k0) (h : Int64) (x1 : Int32) (y1 : Int32) (σ : cS) : Sm K G TT (QM K G (fun r : (Int32 × cS) => ((some (.int r.1), h, r.2) : Option Value × Int64 × cS))) 2 22 [(0, .ref (la G k0)), (1, .int x1)] [.int y1, .ref (la G k0)] h σ (fX7_edgeAt_22 (ll G) k0 x1 y1 σ) := by
  unfold fX7_edgeAt_22
  refine z_iconst (v := (0 : Int32)) X dX7_edgeAt_22 (by decide) ?_
  refine z_iconst (v := (0 : Int32)) X dX7_edgeAt_23 (by decide) ?_
  refine z_callV0 X (g := (fun r1 : (Int32 × cS) => ((some (.int r1.1), h, r1.2) : Option Value × Int64 × cS))) (st := []) (st1 := (fun r1 : (Int32 × cS) => [.int r1.1])) (rmf := 0) (rml := 0) [.int y1, .int (0 : Int32), .int (0 : Int32)] k0 cal_X7_refuses q_7_8 ⟨Nat.le_of_ble_eq_true rfl, Nat.le_of_ble_eq_true rfl⟩ rfl rfl (Nat.le_of_ble_eq_true rfl) rfl hk0.1 (ce7 hk0.1 _ _) (ctX7_refuses (kl K) G X.2.2.2.2.2.2.2.1 h σ k0 hk0 y1 (0 : Int32) (0 : Int32)) dX7_edgeAt_24 (fun _ => rfl) (fun r1 => ?_)
  refine z_if_eq X 34 dX7_edgeAt_27 (by decide) ?_ ?_
  · refine z_aload_n X dX7_edgeAt_34 0 rfl ?_
    refine z_get X inlX7 rfl hk0.1 (ce7 hk0.1 _ _) 0 (by decide) q_5_4 rfl dX7_edgeAt_35 ?_
    refine z_bipush (v := (16 : Int32)) X dX7_edgeAt_38 (by decide) ?_
    refine z_iload_n X dX7_edgeAt_40 1 rfl ?_
    refine z_iadd X dX7_edgeAt_41 ?_
    refine z_iald X hk0.2.1 dX7_edgeAt_42 ?_
    exact z_sub [] rfl (sX7_edgeAt_43 X k0 hk0 h (r1.2 (k0 + 1) ((16 : Int32) + x1).toNatClampNeg) r1.2)
  · refine z_iconst (v := (0 : Int32)) X dX7_edgeAt_30 (by decide) ?_
    refine z_goto X 43 dX7_edgeAt_31 (by decide) ?_
    exact z_sub [] rfl (sX7_edgeAt_43 X k0 hk0 h (0 : Int32) r1.2)
def fX7_edgeAt_0 (L : Nat → Nat) (k0 : Nat) (x1 : Int32) (σ : cS) : Option (Int32 × cS) := grd (inb (3 : Int32) (L (k0 + 1))) (Option.bind (fX7_in σ x1 (0 : Int32) ((σ (k0 + 1) (3 : Int32).toNatClampNeg) - (1 : Int32))) (fun r1 => if r1 = 0 then (fX7_edgeAt_22 L k0 x1 (1 : Int32) σ) else (fX7_edgeAt_22 L k0 x1 (0 : Int32) σ)))
set_option maxHeartbeats 4000000 in
set_option maxRecDepth 100000 in
theorem sX7_edgeAt_0 {K : MCx} {G : Lay} (X : Cx K G RX7 cX7_edgeAt 2 (some .int) 1 23) (k0 : Nat) (hk0 : isMod G k0) (h : Int64) (x1 : Int32) (σ : cS) : Sm K G TT (QM K G (fun r : (Int32 × cS) => ((some (.int r.1), h, r.2) : Option Value × Int64 × cS))) 2 0 [(0, .ref (la G k0)), (1, .int x1)] [] h σ (fX7_edgeAt_0 (ll G) k0 x1 σ) := by
  unfold fX7_edgeAt_0
  refine z_aload_n X dX7_edgeAt_0 0 rfl ?_
  refine z_iload_n X dX7_edgeAt_1 1 rfl ?_
  refine z_iconst (v := (0 : Int32)) X dX7_edgeAt_2 (by decide) ?_
  refine z_aload_n X dX7_edgeAt_3 0 rfl ?_
  refine z_get X inlX7 rfl hk0.1 (ce7 hk0.1 _ _) 0 (by decide) q_5_4 rfl dX7_edgeAt_4 ?_
  refine z_iconst (v := (3 : Int32)) X dX7_edgeAt_7 (by decide) ?_
  refine z_iald X hk0.2.1 dX7_edgeAt_8 ?_
  refine z_iconst (v := (1 : Int32)) X dX7_edgeAt_9 (by decide) ?_
  refine z_isub X dX7_edgeAt_10 ?_
  refine z_callS0 X (g := (fun r1 : Int32 => ((some (.int r1), h, σ) : Option Value × Int64 × cS))) (st := [.ref (la G k0)]) (st1 := (fun r1 : Int32 => [.int r1, .ref (la G k0)])) (rmf := 0) (rml := 0) [.int x1, .int (0 : Int32), .int ((σ (k0 + 1) (3 : Int32).toNatClampNeg) - (1 : Int32))] cal_X7_in q_7_5 ⟨Nat.le_of_ble_eq_true rfl, Nat.le_of_ble_eq_true rfl⟩ rfl rfl (Nat.le_of_ble_eq_true rfl) (ctX7_in (kl K) G X.2.2.2.2.2.2.2.1 h σ x1 (0 : Int32) ((σ (k0 + 1) (3 : Int32).toNatClampNeg) - (1 : Int32))) dX7_edgeAt_11 (fun _ => rfl) (fun r1 => ?_)
  refine z_if_ne X 21 dX7_edgeAt_14 (by decide) ?_ ?_
  · refine z_iconst (v := (1 : Int32)) X dX7_edgeAt_17 (by decide) ?_
    refine z_goto X 22 dX7_edgeAt_18 (by decide) ?_
    exact z_sub [0, 1] rfl (sX7_edgeAt_22 X k0 hk0 h x1 (1 : Int32) σ)
  · refine z_iconst (v := (0 : Int32)) X dX7_edgeAt_21 (by decide) ?_
    exact z_sub [0, 1] rfl (sX7_edgeAt_22 X k0 hk0 h x1 (0 : Int32) σ)
def fX7_edgeAt (L : Nat → Nat) (σ : cS) (k0 : Nat) (x1 : Int32) : Option (Int32 × cS) := fX7_edgeAt_0 L k0 x1 σ
set_option maxHeartbeats 4000000 in
set_option maxRecDepth 100000 in
theorem ctX7_edgeAt (l : Launch) (G : Lay) (hi : Inj G) (h : Int64) (σ : cS) (k0 : Nat) (hk0 : isMod G k0) (x1 : Int32) : ∀ r, fX7_edgeAt (ll G) σ k0 x1 = some r → CM l yX7_edgeAt cX7_edgeAt 2 (some .int) 1 23 G [.ref (la G k0), .int x1] h σ (some (.int r.1), h, r.2) := by
  refine cm_of (g := (fun r : (Int32 × cS) => ((some (.int r.1), h, r.2) : Option Value × Int64 × cS))) (by decide) hi (Nat.le_of_ble_eq_true rfl) (fun K hKl X => ?_)
  unfold fX7_edgeAt
  exact z_sub [0, 1] rfl (sX7_edgeAt_0 X k0 hk0 h x1 σ)
