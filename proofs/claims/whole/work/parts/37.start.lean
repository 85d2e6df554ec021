/-! ===== the law: its loop, its start ===== -/
set_option maxHeartbeats 4000000 in
set_option maxRecDepth 100000 in
theorem q_1_0 : Cond.classLink RL 8 RX6 ∈ wsL_law := seg_1 _ (List.mem_of_getElem? (i := 0) rfl)
set_option maxHeartbeats 4000000 in
set_option maxRecDepth 100000 in
theorem q_1_1 : Cond.instantiable RX6 6 ∈ wsL_law := seg_1 _ (List.mem_of_getElem? (i := 1) rfl)
set_option maxHeartbeats 4000000 in
set_option maxRecDepth 100000 in
theorem q_1_3 : Cond.classLink RL 73 RX7 ∈ wsL_law := seg_1 _ (List.mem_of_getElem? (i := 3) rfl)
set_option maxHeartbeats 4000000 in
set_option maxRecDepth 100000 in
theorem q_1_4 : Cond.instantiable RX7 18 ∈ wsL_law := seg_1 _ (List.mem_of_getElem? (i := 4) rfl)
set_option maxHeartbeats 4000000 in
set_option maxRecDepth 100000 in
theorem q_1_6 : Cond.arrayClass .long ∈ wsL_law := seg_1 _ (List.mem_of_getElem? (i := 6) rfl)
set_option maxHeartbeats 4000000 in
set_option maxRecDepth 100000 in
theorem q_1_7 : Cond.methodLink RL 72 yX6_init ∈ wsL_law := seg_1 _ (List.mem_of_getElem? (i := 7) rfl)
set_option maxHeartbeats 4000000 in
set_option maxRecDepth 100000 in
theorem q_1_8 : Cond.instanceMethod yX6_init ∈ wsL_law := seg_1 _ (List.mem_of_getElem? (i := 8) rfl)
set_option maxHeartbeats 4000000 in
set_option maxRecDepth 100000 in
theorem q_1_9 : Cond.code yX6_init cX6_init 1 none ∈ wsL_law := seg_1 _ (List.mem_of_getElem? (i := 9) rfl)
set_option maxHeartbeats 4000000 in
set_option maxRecDepth 100000 in
theorem q_5_0 : Cond.methodLink RL 75 yX7_init ∈ wsL_law := seg_5 _ (List.mem_of_getElem? (i := 0) rfl)
set_option maxHeartbeats 4000000 in
set_option maxRecDepth 100000 in
theorem q_5_1 : Cond.instanceMethod yX7_init ∈ wsL_law := seg_5 _ (List.mem_of_getElem? (i := 1) rfl)
set_option maxHeartbeats 4000000 in
set_option maxRecDepth 100000 in
theorem q_5_2 : Cond.code yX7_init cX7_init 1 none ∈ wsL_law := seg_5 _ (List.mem_of_getElem? (i := 2) rfl)
set_option maxHeartbeats 4000000 in
set_option maxRecDepth 100000 in
theorem k_icgtT {K : MCx} {D : va_G} {cI cG cL : ClassId} {A : Nat → Prop} {own : String} {cc : ByteArray} {nL rf rc rs rl : Nat} {Q : State → Prop} {pc : Nat} {lv : List (Nat × Value)} {st : List Value} {ws : va_W} {cn sn : Nat} (X : Cy K D cI cG cL A own cc nL rf rc rs rl) {x y : Int32} {off : Int} (tgt : Nat) (hdg : decode cc pc = .ok (.if_icmp .gt off, 3)) (ht : (pc : Int) + off = (tgt : Int)) (e : x > y) (k : Sk K D A Q nL (tgt) lv st ws cn sn) : Sk K D A Q nL pc lv (.int y :: .int x :: st) ws cn sn := fun H locs ls hP hD hS hl => lv_icmp_gt X.1 X.2.1 hdg ht (fun _ => k H locs ls hP hD hS hl) (fun n => absurd e n)
set_option maxHeartbeats 4000000 in
set_option maxRecDepth 100000 in
theorem k_icgtF {K : MCx} {D : va_G} {cI cG cL : ClassId} {A : Nat → Prop} {own : String} {cc : ByteArray} {nL rf rc rs rl : Nat} {Q : State → Prop} {pc : Nat} {lv : List (Nat × Value)} {st : List Value} {ws : va_W} {cn sn : Nat} (X : Cy K D cI cG cL A own cc nL rf rc rs rl) {x y : Int32} {off : Int} (tgt : Nat) (hdg : decode cc pc = .ok (.if_icmp .gt off, 3)) (ht : (pc : Int) + off = (tgt : Int)) (e : ¬ x > y) (k : Sk K D A Q nL (pc + 3) lv st ws cn sn) : Sk K D A Q nL pc lv (.int y :: .int x :: st) ws cn sn := fun H locs ls hP hD hS hl => lv_icmp_gt X.1 X.2.1 hdg ht (fun n => absurd n e) (fun _ => k H locs ls hP hD hS hl)
def gL_it (Nf : Nat) (v x1 x2 x3 : Int32) (S : Int64 × cS × Int64 × cS) : Option (Int64 × cS × Int64 × cS) := match (v &&& 31).toNatClampNeg with
  | 0 => gL_c0 Nf x1 x2 x3 S.1 S.2.1 S.2.2.1 S.2.2.2
  | 1 => gL_c1 Nf x1 x2 x3 S.1 S.2.1 S.2.2.1 S.2.2.2
  | 2 => gL_c2 Nf x1 x2 x3 S.1 S.2.1 S.2.2.1 S.2.2.2
  | 3 => gL_c3 Nf x1 x2 x3 S.1 S.2.1 S.2.2.1 S.2.2.2
  | 4 => gL_c4 Nf x1 x2 x3 S.1 S.2.1 S.2.2.1 S.2.2.2
  | 5 => gL_c5 Nf x1 x2 x3 S.1 S.2.1 S.2.2.1 S.2.2.2
  | 6 => gL_c6 Nf x1 x2 x3 S.1 S.2.1 S.2.2.1 S.2.2.2
  | 7 => gL_c7 Nf x1 x2 x3 S.1 S.2.1 S.2.2.1 S.2.2.2
  | 8 => gL_c8 Nf x1 x2 x3 S.1 S.2.1 S.2.2.1 S.2.2.2
  | 9 => gL_c9 Nf x1 x2 x3 S.1 S.2.1 S.2.2.1 S.2.2.2
  | 10 => gL_c10 Nf x1 x2 x3 S.1 S.2.1 S.2.2.1 S.2.2.2
  | 11 => gL_c11 Nf x1 x2 x3 S.1 S.2.1 S.2.2.1 S.2.2.2
  | 12 => gL_c12 Nf x1 x2 x3 S.1 S.2.1 S.2.2.1 S.2.2.2
  | 13 => gL_c13 Nf x1 x2 x3 S.1 S.2.1 S.2.2.1 S.2.2.2
  | 14 => gL_c14 Nf x1 x2 x3 S.1 S.2.1 S.2.2.1 S.2.2.2
  | 15 => gL_c15 Nf x1 x2 x3 S.1 S.2.1 S.2.2.1 S.2.2.2
  | 16 => gL_c16 Nf x1 x2 x3 S.1 S.2.1 S.2.2.1 S.2.2.2
  | 17 => gL_c17 Nf x1 x2 x3 S.1 S.2.1 S.2.2.1 S.2.2.2
  | 18 => gL_c18 Nf x1 x2 x3 S.1 S.2.1 S.2.2.1 S.2.2.2
  | 19 => gL_c19 Nf x1 x2 x3 S.1 S.2.1 S.2.2.1 S.2.2.2
  | 20 => gL_c20 Nf x1 x2 x3 S.1 S.2.1 S.2.2.1 S.2.2.2
  | 21 => gL_c21 Nf x1 x2 x3 S.1 S.2.1 S.2.2.1 S.2.2.2
  | 22 => gL_c22 Nf x1 x2 x3 S.1 S.2.1 S.2.2.1 S.2.2.2
  | 23 => gL_c23 Nf x1 x2 x3 S.1 S.2.1 S.2.2.1 S.2.2.2
  | 24 => gL_c24 Nf x1 x2 x3 S.1 S.2.1 S.2.2.1 S.2.2.2
  | 25 => gL_c25 Nf x1 x2 x3 S.1 S.2.1 S.2.2.1 S.2.2.2
  | 26 => gL_c26 Nf x1 x2 x3 S.1 S.2.1 S.2.2.1 S.2.2.2
  | 27 => gL_c27 Nf x1 x2 x3 S.1 S.2.1 S.2.2.1 S.2.2.2
  | _ => some S
def gL_run (Nf : Nat) (xs : Nat → Int32) (L : Nat) : Nat → Nat → Int64 × cS × Int64 × cS → Option Unit
  | 0, _, _ => none
  | n + 1, T, S => if T + 4 ≤ L then (gL_it Nf (xs T) (xs (T + 1)) (xs (T + 2)) (xs (T + 3)) S).bind (fun S1 => gL_run Nf xs L n (T + 4) S1) else some ()
set_option maxHeartbeats 4000000 in
set_option maxRecDepth 100000 in
theorem law_gt {T L : Nat} (hL : L ≤ 2048) (hT : T ≤ 4096) : (nI T > nI L - 4) ↔ L < T + 4 := by
  rcases Nat.lt_or_ge L 4 with h | h
  · refine ⟨fun _ => by omega, fun _ => ?_⟩
    show nI L - 4 < nI T
    rw [Int32.lt_iff_toInt_lt, nI_toInt (by omega)]
    rcases (show L = 0 ∨ L = 1 ∨ L = 2 ∨ L = 3 by omega) with rfl | rfl | rfl | rfl
    · exact Int.lt_of_lt_of_le (show (nI 0 - 4).toInt < 0 by decide) (Int.natCast_nonneg T)
    · exact Int.lt_of_lt_of_le (show (nI 1 - 4).toInt < 0 by decide) (Int.natCast_nonneg T)
    · exact Int.lt_of_lt_of_le (show (nI 2 - 4).toInt < 0 by decide) (Int.natCast_nonneg T)
    · exact Int.lt_of_lt_of_le (show (nI 3 - 4).toInt < 0 by decide) (Int.natCast_nonneg T)
  · obtain ⟨M, rfl⟩ : ∃ M, L = M + 4 := ⟨L - 4, by omega⟩
    have e : nI (M + 4) - 4 = nI M := by
      rw [← nI_add]
      exact Int32.add_sub_cancel (nI M) 4
    rw [e]
    show nI M < nI T ↔ _
    rw [nI_ltI (by omega) (by omega)]
    omega
set_option maxHeartbeats 4000000 in
set_option maxRecDepth 100000 in
theorem and31 (x : Int32) : ∃ j : Nat, j < 32 ∧ x &&& 31 = nI j := by
  refine ⟨(x &&& 31).toBitVec.toNat, ?_, ?_⟩
  · have e : (x &&& 31).toBitVec = x.toBitVec &&& 31#32 := rfl
    rw [e, BitVec.toNat_and]
    exact Nat.lt_of_le_of_lt Nat.and_le_right (by decide)
  · refine Int32.toBitVec_inj.mp ?_
    show _ = BitVec.ofNat 32 _
    exact (BitVec.ofNat_toNat 32 _).symm ▸ (by simp)
abbrev jw (D : va_G) (cI cG cL : ClassId) (ga ma : Nat → Nat) (S : Int64 × cS × Int64 × cS) : va_W := wd (Gc D cI cG cL ga) S.1 S.2.1 ++ wd (Mm D cI cG cL ma) S.2.2.1 S.2.2.2
set_option maxHeartbeats 4000000 in
set_option maxRecDepth 100000 in
theorem law_case {K : MCx} {D : va_G} {cI cG cL : ClassId} {b L : Nat} {xs : Nat → Int32} {Q : State → Prop} (X : Cy K D cI cG cL (aN K) RL cL_law 9 11 601024 7293034 390) (hX : va_X b L xs (ks K) (ks K).heap) (hbl : b < (ks K).heap.size) (hsx : ∀ G : Lay, (∀ q, FA G q → (ks K).heap.size ≤ q) → SX G (ks K) (ks K).heap) (hfl : (kl K).stackTraces = false) (ga ma : Nat → Nat) (Nf : Nat) {S : Int64 × cS × Int64 × cS} {t : Int32} {cn sn : Nat} (hcn : cn + 1 ≤ 601024 ∧ sn + 6 ≤ 7293034) (j : Nat) (hj : j < 32) (v x1 x2 x3 : Int32) (hv : v &&& 31 = nI j) (hx1 : vp_in (t + 1) L ∧ xs (t + 1).toNatClampNeg = x1) (hx2 : vp_in (t + 2) L ∧ xs (t + 2).toNatClampNeg = x2) (hx3 : vp_in (t + 3) L ∧ xs (t + 3).toNatClampNeg = x3) (r : Int64 × cS × Int64 × cS) (hr : gL_it Nf v x1 x2 x3 S = some r) (hk : Sk K D (aN K) Q 9 1372 (lv5 b ga ma t) [] (jw D cI cG cL ga ma r) (cn + 1) (sn + 6)) : Sk K D (aN K) Q 9 39 (lv5 b ga ma t) [.int (v &&& 31)] (jw D cI cG cL ga ma S) cn sn := by
  unfold gL_it at hr
  rw [hv, nI_clamp (by omega)] at hr
  rw [hv]
  rcases (show j = 0 ∨ j = 1 ∨ j = 2 ∨ j = 3 ∨ j = 4 ∨ j = 5 ∨ j = 6 ∨ j = 7 ∨ j = 8 ∨ j = 9 ∨ j = 10 ∨ j = 11 ∨ j = 12 ∨ j = 13 ∨ j = 14 ∨ j = 15 ∨ j = 16 ∨ j = 17 ∨ j = 18 ∨ j = 19 ∨ j = 20 ∨ j = 21 ∨ j = 22 ∨ j = 23 ∨ j = 24 ∨ j = 25 ∨ j = 26 ∨ j = 27 ∨ j = 28 ∨ j = 29 ∨ j = 30 ∨ j = 31 by omega) with rfl | rfl | rfl | rfl | rfl | rfl | rfl | rfl | rfl | rfl | rfl | rfl | rfl | rfl | rfl | rfl | rfl | rfl | rfl | rfl | rfl | rfl | rfl | rfl | rfl | rfl | rfl | rfl | rfl | rfl | rfl | rfl
  · refine k_tsIn X 164 dL_law_39 (by decide) (by decide) rfl (by decide) ?_
    exact jL_c0 X hX hbl hsx hfl ga ma Nf hcn x1 x2 x3 hx1 hx2 hx3 r hr hk
  · refine k_tsIn X 220 dL_law_39 (by decide) (by decide) rfl (by decide) ?_
    exact jL_c1 X hX hbl hsx hfl ga ma Nf hcn x1 x2 x3 hx1 hx2 hx3 r hr hk
  · refine k_tsIn X 288 dL_law_39 (by decide) (by decide) rfl (by decide) ?_
    exact jL_c2 X hX hbl hsx hfl ga ma Nf hcn x1 x2 x3 hx1 hx2 hx3 r hr hk
  · refine k_tsIn X 344 dL_law_39 (by decide) (by decide) rfl (by decide) ?_
    exact jL_c3 X hX hbl hsx hfl ga ma Nf hcn x1 x2 x3 hx1 hx2 hx3 r hr hk
  · refine k_tsIn X 400 dL_law_39 (by decide) (by decide) rfl (by decide) ?_
    exact jL_c4 X hX hbl hsx hfl ga ma Nf hcn x1 x2 x3 hx1 hx2 hx3 r hr hk
  · refine k_tsIn X 456 dL_law_39 (by decide) (by decide) rfl (by decide) ?_
    exact jL_c5 X hX hbl hsx hfl ga ma Nf hcn x1 x2 x3 hx1 hx2 hx3 r hr hk
  · refine k_tsIn X 469 dL_law_39 (by decide) (by decide) rfl (by decide) ?_
    exact jL_c6 X hX hbl hsx hfl ga ma Nf hcn x1 x2 x3 hx1 hx2 hx3 r hr hk
  · refine k_tsIn X 537 dL_law_39 (by decide) (by decide) rfl (by decide) ?_
    exact jL_c7 X hX hbl hsx hfl ga ma Nf hcn x1 x2 x3 hx1 hx2 hx3 r hr hk
  · refine k_tsIn X 605 dL_law_39 (by decide) (by decide) rfl (by decide) ?_
    exact jL_c8 X hX hbl hsx hfl ga ma Nf hcn x1 x2 x3 hx1 hx2 hx3 r hr hk
  · refine k_tsIn X 673 dL_law_39 (by decide) (by decide) rfl (by decide) ?_
    exact jL_c9 X hX hbl hsx hfl ga ma Nf hcn x1 x2 x3 hx1 hx2 hx3 r hr hk
  · refine k_tsIn X 729 dL_law_39 (by decide) (by decide) rfl (by decide) ?_
    exact jL_c10 X hX hbl hsx hfl ga ma Nf hcn x1 x2 x3 hx1 hx2 hx3 r hr hk
  · refine k_tsIn X 785 dL_law_39 (by decide) (by decide) rfl (by decide) ?_
    exact jL_c11 X hX hbl hsx hfl ga ma Nf hcn x1 x2 x3 hx1 hx2 hx3 r hr hk
  · refine k_tsIn X 853 dL_law_39 (by decide) (by decide) rfl (by decide) ?_
    exact jL_c12 X hX hbl hsx hfl ga ma Nf hcn x1 x2 x3 hx1 hx2 hx3 r hr hk
  · refine k_tsIn X 933 dL_law_39 (by decide) (by decide) rfl (by decide) ?_
    exact jL_c13 X hX hbl hsx hfl ga ma Nf hcn x1 x2 x3 hx1 hx2 hx3 r hr hk
  · refine k_tsIn X 989 dL_law_39 (by decide) (by decide) rfl (by decide) ?_
    exact jL_c14 X hX hbl hsx hfl ga ma Nf hcn x1 x2 x3 hx1 hx2 hx3 r hr hk
  · refine k_tsIn X 1002 dL_law_39 (by decide) (by decide) rfl (by decide) ?_
    exact jL_c15 X hX hbl hsx hfl ga ma Nf hcn x1 x2 x3 hx1 hx2 hx3 r hr hk
  · refine k_tsIn X 1015 dL_law_39 (by decide) (by decide) rfl (by decide) ?_
    exact jL_c16 X hX hbl hsx hfl ga ma Nf hcn x1 x2 x3 hx1 hx2 hx3 r hr hk
  · refine k_tsIn X 1028 dL_law_39 (by decide) (by decide) rfl (by decide) ?_
    exact jL_c17 X hX hbl hsx hfl ga ma Nf hcn x1 x2 x3 hx1 hx2 hx3 r hr hk
  · refine k_tsIn X 1096 dL_law_39 (by decide) (by decide) rfl (by decide) ?_
    exact jL_c18 X hX hbl hsx hfl ga ma Nf hcn x1 x2 x3 hx1 hx2 hx3 r hr hk
  · refine k_tsIn X 1152 dL_law_39 (by decide) (by decide) rfl (by decide) ?_
    exact jL_c19 X hX hbl hsx hfl ga ma Nf hcn x1 x2 x3 hx1 hx2 hx3 r hr hk
  · refine k_tsIn X 1165 dL_law_39 (by decide) (by decide) rfl (by decide) ?_
    exact jL_c20 X hX hbl hsx hfl ga ma Nf hcn x1 x2 x3 hx1 hx2 hx3 r hr hk
  · refine k_tsIn X 1178 dL_law_39 (by decide) (by decide) rfl (by decide) ?_
    exact jL_c21 X hX hbl hsx hfl ga ma Nf hcn x1 x2 x3 hx1 hx2 hx3 r hr hk
  · refine k_tsIn X 1191 dL_law_39 (by decide) (by decide) rfl (by decide) ?_
    exact jL_c22 X hX hbl hsx hfl ga ma Nf hcn x1 x2 x3 hx1 hx2 hx3 r hr hk
  · refine k_tsIn X 1232 dL_law_39 (by decide) (by decide) rfl (by decide) ?_
    exact jL_c23 X hX hbl hsx hfl ga ma Nf hcn x1 x2 x3 hx1 hx2 hx3 r hr hk
  · refine k_tsIn X 1288 dL_law_39 (by decide) (by decide) rfl (by decide) ?_
    exact jL_c24 X hX hbl hsx hfl ga ma Nf hcn x1 x2 x3 hx1 hx2 hx3 r hr hk
  · refine k_tsIn X 1301 dL_law_39 (by decide) (by decide) rfl (by decide) ?_
    exact jL_c25 X hX hbl hsx hfl ga ma Nf hcn x1 x2 x3 hx1 hx2 hx3 r hr hk
  · refine k_tsIn X 1314 dL_law_39 (by decide) (by decide) rfl (by decide) ?_
    exact jL_c26 X hX hbl hsx hfl ga ma Nf hcn x1 x2 x3 hx1 hx2 hx3 r hr hk
  · refine k_tsIn X 1358 dL_law_39 (by decide) (by decide) rfl (by decide) ?_
    exact jL_c27 X hX hbl hsx hfl ga ma Nf hcn x1 x2 x3 hx1 hx2 hx3 r hr hk
  · refine k_tsOut X 1372 dL_law_39 (by decide) (by decide) ?_
    obtain rfl := Option.some.inj hr
    exact k_wider (Nat.le_add_right _ _) (Nat.le_add_right _ _) hk
  · refine k_tsOut X 1372 dL_law_39 (by decide) (by decide) ?_
    obtain rfl := Option.some.inj hr
    exact k_wider (Nat.le_add_right _ _) (Nat.le_add_right _ _) hk
  · refine k_tsOut X 1372 dL_law_39 (by decide) (by decide) ?_
    obtain rfl := Option.some.inj hr
    exact k_wider (Nat.le_add_right _ _) (Nat.le_add_right _ _) hk
  · refine k_tsOut X 1372 dL_law_39 (by decide) (by decide) ?_
    obtain rfl := Option.some.inj hr
    exact k_wider (Nat.le_add_right _ _) (Nat.le_add_right _ _) hk
set_option maxHeartbeats 4000000 in
set_option maxRecDepth 100000 in
theorem law_loop {K : MCx} {D : va_G} {cI cG cL : ClassId} {b L : Nat} {xs : Nat → Int32} {Q : State → Prop} (X : Cy K D cI cG cL (aN K) RL cL_law 9 11 601024 7293034 390) (hX : va_X b L xs (ks K) (ks K).heap) (hbl : b < (ks K).heap.size) (hsx : ∀ G : Lay, (∀ q, FA G q → (ks K).heap.size ≤ q) → SX G (ks K) (ks K).heap) (hfl : (kl K).stackTraces = false) (ga ma : Nat → Nat) (Nf : Nat) (hL : L ≤ 2048) (hend : ∀ (lv : List (Nat × Value)) (ws : va_W) (cn sn : Nat), cn ≤ 601024 → sn ≤ 7293034 → Sk K D (aN K) Q 9 1378 lv [] ws cn sn) : ∀ (n T : Nat) (S : Int64 × cS × Int64 × cS) (cn sn : Nat), T ≤ 4096 → gL_run Nf xs L n T S = some () → cn + n ≤ 601024 → sn + 6 * n ≤ 7293034 → Sk K D (aN K) Q 9 23 (lv5 b ga ma (nI T)) [] (jw D cI cG cL ga ma S) cn sn := by
  intro n
  induction n with
  | zero => intro T S cn sn hT hr; cases hr
  | succ n ih =>
    intro T S cn sn hT hr hc hs
    have hr : (if T + 4 ≤ L then (gL_it Nf (xs T) (xs (T + 1)) (xs (T + 2)) (xs (T + 3)) S).bind (fun S1 => gL_run Nf xs L n (T + 4) S1) else some ()) = some () := hr
    refine k_iload X dL_law_23 4 rfl ?_
    refine k_aload_n X dL_law_25 0 rfl ?_
    refine k_slen X hX hbl (Nat.not_le.mpr hbl) dL_law_26 ?_
    refine k_iconst (v := (4 : Int32)) X dL_law_27 (by decide) ?_
    refine k_isub X dL_law_28 ?_
    by_cases h4 : T + 4 ≤ L
    · rw [if_pos h4] at hr
      obtain ⟨S1, h1, h2⟩ := Option.bind_eq_some_iff.mp hr
      refine k_icgtF X 1378 dL_law_29 (by decide) (fun q => by have := (law_gt hL hT).mp q; omega) ?_
      refine k_aload_n X dL_law_32 0 rfl ?_
      refine k_iload X dL_law_33 4 rfl ?_
      refine k_sld (x := xs T) X hX hbl (Nat.not_le.mpr hbl) ⟨vp_in_nI (by omega) (by omega), by rw [nI_clamp (by omega)]⟩ dL_law_35 ?_
      refine k_bipush (v := (31 : Int32)) X dL_law_36 (by decide) ?_
      refine k_iand X dL_law_38 ?_
      obtain ⟨j, hj, hv⟩ := and31 (xs T)
      have ex : ∀ d : Nat, d ≤ 3 → ∀ v : Int32, nI d = v → vp_in (nI T + v) L ∧ xs (nI T + v).toNatClampNeg = xs (T + d) := fun d hd v ev => by
        rw [← ev, nI_add]
        exact ⟨vp_in_nI (by omega) (by omega), by rw [nI_clamp (by omega)]⟩
      refine law_case X hX hbl hsx hfl ga ma Nf ⟨by omega, by omega⟩ j hj (xs T) (xs (T + 1)) (xs (T + 2)) (xs (T + 3)) hv (ex 1 (by omega) 1 (by decide)) (ex 2 (by omega) 2 (by decide)) (ex 3 (by omega) 3 (by decide)) S1 h1 ?_
      refine k_iinc X [(4, .int (nI (T + 4))), (0, .ref b), (1, .ref (ga 107)), (2, .ref (ma 0)), (3, .ref (ga 108))] dL_law_1372 4 rfl (by decide) (show nI T + Int32.ofInt 4 = nI (T + 4) by rw [← nI_add]; rfl) rfl ?_
      refine k_goto X 23 dL_law_1375 (by decide) ?_
      refine k_sub [1, 2, 3, 4, 0] rfl ?_
      exact ih (T + 4) S1 (cn + 1) (sn + 6) (by omega) h2 (by omega) (by omega)
    · refine k_icgtT X 1378 dL_law_29 (by decide) ((law_gt hL hT).mpr (by omega)) ?_
      exact hend _ _ _ _ (by omega) (by omega)
set_option maxHeartbeats 4000000 in
set_option maxRecDepth 100000 in
theorem ac_of {s : State} {args : Array Value} {ty : FieldType} (h : (Cond.arrayClass ty).before args s = true) : ∃ cA, ArrOfT s cA ty ∧ s.vm.findClass ("[" ++ ty.toString) = some cA := by
  obtain ⟨c, k, comp, h1, h2, h3⟩ := Cond.arrayClass_spec (args := args) (first := s) (o := none) (s := s) (idx := []) h
  exact ⟨c, fun n z => ⟨fun k h => (by cases h), k, h2, comp, h3⟩, h1⟩
set_option maxHeartbeats 4000000 in
set_option maxRecDepth 100000 in
theorem ao_of {s : State} {args : Array Value} {C : String} (h : (Cond.arrayOver (.object C)).before args s = true) : ∃ cA, ArrOfT s cA (.object C) ∧ va_RA s cA (.object C) := by
  obtain ⟨comp, c, k, h1, h2, h3, h4, h5⟩ := Cond.arrayOver_spec (args := args) (first := s) (o := none) (idx := []) h
  exact ⟨c, fun n z => ⟨fun k h => (by cases h), k, h3, comp, h4⟩, k, comp, h3, h4, h1, h5⟩
set_option maxHeartbeats 4000000 in
set_option maxRecDepth 100000 in
theorem law_K {s : State} {args : Array Value} (hts : ∀ w ∈ wsL_law, w.before args s = true) (hao : (Cond.arrayOver (.object "EdgeHolders$Graph")).before args s = true) : ∃ (D : va_G) (cI cG cL : ClassId), va_K D vwCl (tyk cI cG cL) s := by
  obtain ⟨c0, i0, h0⟩ := u_known (C := RX0) (T := TX0) (N := 11) (n := 11) hts inlX0 (hts _ q_1_14)
  obtain ⟨c1, i1, h1⟩ := u_known (C := RX1) (T := TX1) (N := 3) (n := 3) hts inlX1 (hts _ q_2_7)
  obtain ⟨c2, i2, h2⟩ := u_known (C := RX2) (T := TX2) (N := 8) (n := 8) hts inlX2 (hts _ q_2_3)
  obtain ⟨c3, i3, h3⟩ := u_known (C := RX3) (T := TX3) (N := 7) (n := 7) hts inlX3 (hts _ q_1_23)
  obtain ⟨c4, i4, h4⟩ := u_known (C := RX4) (T := TX4) (N := 1) (n := 1) hts inlX4 (hts _ q_2_15)
  obtain ⟨c5, i5, h5⟩ := u_known (C := RX5) (T := TX5) (N := 6) (n := 6) hts inlX5 (hts _ q_1_19)
  obtain ⟨c6, i6, h6⟩ := u_known (C := RX6) (T := TX6) (N := 6) (n := 6) hts inlX6 (hts _ q_1_1)
  obtain ⟨c7, i7, h7⟩ := u_known (C := RX7) (T := TX7) (N := 18) (n := 18) hts inlX7 (hts _ q_1_4)
  obtain ⟨cI, a1, b1⟩ := ac_of (hts _ q_3_4)
  obtain ⟨cL, a2, b2⟩ := ac_of (hts _ q_1_6)
  obtain ⟨cG, a3, b3⟩ := ao_of hao
  refine ⟨(fun k => match k with | 0 => c0 | 1 => c1 | 2 => c2 | 3 => c3 | 4 => c4 | 5 => c5 | 6 => c6 | _ => c7, fun k => match k with | 0 => i0 | 1 => i1 | 2 => i2 | 3 => i3 | 4 => i4 | 5 => i5 | 6 => i6 | _ => i7), cI, cG, cL, ?_, ?_⟩
  · intro k q hq
    match k, hq with
    | 0, hq => cases hq; exact h0
    | 1, hq => cases hq; exact h1
    | 2, hq => cases hq; exact h2
    | 3, hq => cases hq; exact h3
    | 4, hq => cases hq; exact h4
    | 5, hq => cases hq; exact h5
    | 6, hq => cases hq; exact h6
    | 7, hq => cases hq; exact h7
    | k + 8, hq => simp [vwCl] at hq
  · intro k q hq
    match k, hq with
    | 0, hq => cases hq; exact ⟨a1, b1⟩
    | 1, hq => cases hq; exact ⟨a3, b3⟩
    | 2, hq => cases hq; exact ⟨a2, b2⟩
    | k + 3, hq => simp [tyk] at hq
set_option maxHeartbeats 4000000 in
set_option maxRecDepth 100000 in
theorem in_thW : ∀ w ∈ thW, w ∈ lw_tbl := by decide +kernel
set_option maxHeartbeats 4000000 in
set_option maxRecDepth 100000 in
theorem in_nst : ∀ w ∈ nstW, w ∈ lw_tbl := by decide +kernel
set_option maxHeartbeats 4000000 in
set_option maxRecDepth 100000 in
theorem in_strs : ∀ q ∈ strs, Cond.stringRef RX6 q.1 q.2 ∈ lw_tbl := by decide +kernel
set_option maxHeartbeats 4000000 in
set_option maxRecDepth 100000 in
theorem in_ao : Cond.arrayOver (.object "EdgeHolders$Graph") ∈ lw_tbl := by decide +kernel
set_option maxHeartbeats 4000000 in
set_option maxRecDepth 100000 in
theorem in_lay1 : Cond.laysStatic Bundle.tN "UNASSIGNED_STACK" Bundle.steD ∈ lw_tbl := by decide +kernel
set_option maxHeartbeats 4000000 in
set_option maxRecDepth 100000 in
theorem in_lay2 : Cond.laysStatic Bundle.tN "SUPPRESSED_SENTINEL" Bundle.listD ∈ lw_tbl := by decide +kernel
set_option maxHeartbeats 4000000 in
set_option maxRecDepth 100000 in
theorem in_thr : Cond.initialized Bundle.tN ∈ lw_tbl := by decide +kernel
set_option maxHeartbeats 4000000 in
set_option maxRecDepth 100000 in
theorem nr_strs : ∀ q ∈ strs, Cond.exactly (.string RX6 q.1) "java/lang/String" ∈ flatC (Jvm.Cond.and given_1 narrow_1) := by decide +kernel
set_option maxHeartbeats 4000000 in
set_option maxRecDepth 100000 in
theorem nr_ncs : ∀ q ∈ ncs, Cond.not (.castable (exN q.1) (exN q.2)) ∈ flatC (Jvm.Cond.and given_1 narrow_1) := by decide +kernel
set_option maxHeartbeats 4000000 in
set_option maxRecDepth 100000 in
theorem nr_st1 : Cond.isRef (.static Bundle.tN "UNASSIGNED_STACK" Bundle.steD) ∈ flatC (Jvm.Cond.and given_1 narrow_1) := by decide +kernel
set_option maxHeartbeats 4000000 in
set_option maxRecDepth 100000 in
theorem nr_st2 : Cond.isRef (.static Bundle.tN "SUPPRESSED_SENTINEL" Bundle.listD) ∈ flatC (Jvm.Cond.and given_1 narrow_1) := by decide +kernel
set_option maxHeartbeats 4000000 in
set_option maxRecDepth 100000 in
theorem law_SX {s : State} {args : Array Value} (hts : ∀ w ∈ lw_tbl, w.before args s = true) (hgv : (Jvm.Cond.and given_1 narrow_1).before args s = true) (G : Lay) (hF : ∀ q, FA G q → s.heap.size ≤ q) : SX G s s.heap := by
  have hs := flat_of_before _ hgv
  have hA : ∀ a : Nat, a < s.heap.size → ¬ s.heap.size ≤ a := fun a h => Nat.not_le.mpr h
  refine ⟨(vx_Zqof (A := fun q => s.heap.size ≤ q) (hts _ in_lay1) (hts _ in_thr) (hs _ nr_st1) hA).narrow hF, (vx_Zqof (A := fun q => s.heap.size ≤ q) (hts _ in_lay2) (hts _ in_thr) (hs _ nr_st2) hA).narrow hF, fun w hw => va_Nw.of (thW_tab hw) (hts _ (in_thW w hw)), fun q hq => ?_, fun q hq => va_Nc.of (hs _ (nr_ncs q hq))⟩
  obtain ⟨a, c, cA, kA, q1, -⟩ := Cond.exactly_spec (args := args) (first := s) (o := none) (s := s) (idx := []) (hs _ (nr_strs q hq))
  exact ⟨a, vk_R.of (hts _ (in_strs q hq)) q1⟩
set_option maxHeartbeats 4000000 in
set_option maxRecDepth 100000 in
theorem law_NW {s : State} {args : Array Value} (hts : ∀ w ∈ lw_tbl, w.before args s = true) : NW s := ⟨fun w hw => va_Nw.of (nst_tab hw) (hts _ (in_nst w hw)), va_AO.of (hts _ in_ao)⟩
set_option maxHeartbeats 4000000 in
set_option maxRecDepth 100000 in
theorem start_of {p : Program} {e : Env} {s : State} {m : MethodId} {below : List Frame} {meth : Method} {c : Code} (l : Launch) (hflags : l.flags = flags0) {b L : Nat} {xs : Nat → Int32} (Nf : Nat) (hL : L ≤ 2048) (hrun : gL_run Nf xs L 513 0 (0, σI, 0, mI) = some ()) (C0 : lw_At p s m meth c b L xs) : W p l e room_1 s m #[Value.ref b] below meth c s.heap [] 0 0 (lw_Z below #[Value.ref b] s) (entryFrame m ([Value.ref b] : List Value).toArray 9) := by
  obtain ⟨hx, hb, hr, hml, hown, hts, hX, hbl, hlocks, hgv⟩ := C0
  have hfl : l.stackTraces = false := by
    unfold Launch.stackTraces
    rw [hflags]
    decide +kernel
  have htl : ∀ w ∈ wsL_law, w.before #[Value.ref b] s = true := fun w hw => hts w (in_law w hw)
  obtain ⟨D, cI, cG, cL, hK⟩ := law_K htl (hts _ in_ao)
  have hl := lv_entry ([.ref b]) (n := 9) (Nat.le_of_ble_eq_true rfl)
  rw [lg_entry_eq]
  generalize hls : (lg_sl ([.ref b]) ++ List.replicate (9 - (lg_sl ([.ref b])).length) Slot.unset).toArray = ls at hl ⊢
  have hl : lv_has ls 9 [(0, .ref b)] := hl
  obtain ⟨K, hKe⟩ : ∃ K : MCx, K = (p, l, e, room_1, s, m, #[Value.ref b], below, meth, c) := ⟨_, rfl⟩
  have X : Cy K D cI cG cL (aN K) RL cL_law 9 11 601024 7293034 390 := by
    subst hKe
    exact ⟨hx, hb, hml, hown, htl, hK, hlocks, fun q h => h, rfl, law_NW hts⟩
  have hX' : va_X b L xs (ks K) (ks K).heap := by subst hKe; exact hX
  have hbl' : b < (ks K).heap.size := by subst hKe; exact hbl
  have hsx : ∀ G : Lay, (∀ q, FA G q → (ks K).heap.size ≤ q) → SX G (ks K) (ks K).heap := by subst hKe; exact fun G hF => law_SX hts hgv G hF
  have hfl' : (kl K).stackTraces = false := by subst hKe; exact hfl
  have hend : ∀ (lv : List (Nat × Value)) (ws : va_W) (cn sn : Nat), cn ≤ 601024 → sn ≤ 7293034 → Sk K D (aN K) (lw_Z below #[Value.ref b] s) 9 1378 lv [] ws cn sn := by
    intro lv ws cn sn h1 h2
    refine k_iconst (v := (1 : Int32)) X dL_law_1378 (by decide) ?_
    subst hKe
    intro H locs ls hP hD hS hl
    refine va_forget (fun q hq => hS.2.2 q hq) ?_
    refine W.widen h1 h2 ?_
    exact lw_ret (d0 := s.drawn) (Drawn.sameBut.refl s.drawn lw_cs) hx hb hr hlocks dL_law_1379
  have main : Sk K D (aN K) (lw_Z below #[Value.ref b] s) 9 0 [(0, .ref b)] [] [] 0 0 := by
    refine k_new (ci := 6) X nf6 inlX6 tyX6 tyX6_ok q_1_0 q_1_1 q_1_2 rfl nf6_ok (Nat.le_of_ble_eq_true rfl) (Nat.le_of_ble_eq_true rfl) dL_law_0 (fun q0 => ?_)
    refine k_dup X dL_law_3 rfl ?_
    refine k_init X (w := w6 D cI cG cL) (As := []) (st := [.ref q0]) (ciX6 (kl K) D cI cG cL q0) q_1_9 q_1_8 q_1_2 q_1_7 (by decide +kernel) rfl ⟨Nat.le_of_ble_eq_true rfl, Nat.le_of_ble_eq_true rfl⟩ rfl rfl (Nat.le_of_ble_eq_true rfl) ⟨Nat.le_of_ble_eq_true rfl, Nat.le_of_ble_eq_true rfl⟩ dL_law_4 (fun a ha => ?_)
    refine k_astore_n X [(1, .ref q0), (0, .ref b)] dL_law_7 (by decide) rfl ?_
    refine k_new (ci := 7) X nf7 inlX7 tyX7 tyX7_ok q_1_3 q_1_4 q_1_5 rfl nf7_ok (Nat.le_of_ble_eq_true rfl) (Nat.le_of_ble_eq_true rfl) dL_law_8 (fun q1 => ?_)
    refine k_dup X dL_law_11 rfl ?_
    refine k_init X (w := w7 D cI cG cL) (As := []) (st := [.ref q1]) (ciX7 (kl K) D cI cG cL q1) q_5_2 q_5_1 q_1_5 q_5_0 (by decide +kernel) rfl ⟨Nat.le_of_ble_eq_true rfl, Nat.le_of_ble_eq_true rfl⟩ rfl rfl (Nat.le_of_ble_eq_true rfl) ⟨Nat.le_of_ble_eq_true rfl, Nat.le_of_ble_eq_true rfl⟩ dL_law_12 (fun a2 ha2 => ?_)
    refine k_astore_n X [(2, .ref q1), (1, .ref q0), (0, .ref b)] dL_law_15 (by decide) rfl ?_
    refine k_iconst (v := (1 : Int32)) X dL_law_16 (by decide) ?_
    refine k_newl X 1 q_1_6 (by decide) (by decide) (by decide) (Nat.le_of_ble_eq_true rfl) (Nat.le_of_ble_eq_true rfl) dL_law_17 (fun q2 => ?_)
    refine k_astore_n X [(3, .ref q2), (2, .ref q1), (1, .ref q0), (0, .ref b)] dL_law_19 (by decide) rfl ?_
    refine k_iconst (v := (0 : Int32)) X dL_law_20 (by decide) ?_
    refine k_istore X [(4, .int 0), (3, .ref q2), (2, .ref q1), (1, .ref q0), (0, .ref b)] dL_law_21 (by decide) rfl ?_
    refine k_sub [4, 3, 2, 1, 0] rfl ?_
    have go := law_loop X hX' hbl' hsx hfl' (aC a q2) a2 Nf hL hend 513 0 (0, σI, 0, mI) 120 12000 (by omega) hrun (by omega) (by omega)
    subst ha
    subst ha2
    intro H locs ls hP hD hS hl
    exact W.widen (Nat.le_of_ble_eq_true rfl) (Nat.le_of_ble_eq_true rfl) (go H locs ls (full_P hP) (full_D hD) hS hl)
  subst hKe
  exact main s.heap [] ls (fun k q h => by simp at h) ⟨fun i j p q h => by simp at h, fun k q h => by simp at h⟩ va_S.rf hl
