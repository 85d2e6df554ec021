/-! ===== the law: its start ===== -/
set_option maxHeartbeats 4000000 in
set_option maxRecDepth 100000 in
theorem q_1_0 : Cond.classLink RL 10 RX6 ∈ wsL_law := seg_1 _ (List.mem_of_getElem? (i := 0) rfl)
set_option maxHeartbeats 4000000 in
set_option maxRecDepth 100000 in
theorem q_1_1 : Cond.instantiable RX6 6 ∈ wsL_law := seg_1 _ (List.mem_of_getElem? (i := 1) rfl)
set_option maxHeartbeats 4000000 in
set_option maxRecDepth 100000 in
theorem q_1_4 : Cond.methodLink RL 149 yX6_init ∈ wsL_law := seg_1 _ (List.mem_of_getElem? (i := 4) rfl)
set_option maxHeartbeats 4000000 in
set_option maxRecDepth 100000 in
theorem q_1_5 : Cond.instanceMethod yX6_init ∈ wsL_law := seg_1 _ (List.mem_of_getElem? (i := 5) rfl)
set_option maxHeartbeats 4000000 in
set_option maxRecDepth 100000 in
theorem q_1_6 : Cond.code yX6_init cX6_init 1 none ∈ wsL_law := seg_1 _ (List.mem_of_getElem? (i := 6) rfl)
set_option maxHeartbeats 4000000 in
set_option maxRecDepth 100000 in
theorem ac_of {s : State} {args : Array Value} {ty : FieldType} (h : (Cond.arrayClass ty).before args s = true) : ∃ cA, ArrOfT s cA ty ∧ s.vm.findClass ("[" ++ ty.toString) = some cA := by
  obtain ⟨c, k, comp, h1, h2, h3⟩ := Cond.arrayClass_spec (args := args) (first := s) (o := none) (s := s) (idx := []) h
  exact ⟨c, fun n z => ⟨fun k h => (by cases h), k, h2, comp, h3⟩, h1⟩
set_option maxHeartbeats 4000000 in
set_option maxRecDepth 100000 in
theorem ao_of {s : State} {args : Array Value} {C : String} (h : (Cond.arrayOver (.object C)).before args s = true) : ∃ cA, ArrOfT s cA (.object C) ∧ va_RA s cA (.object C) := by
  obtain ⟨comp, c, k, h1, h2, h3, h4, h5⟩ := Cond.arrayOver_spec (args := args) (first := s) (o := none) (idx := []) h
  exact ⟨c, fun n z => ⟨fun k h => (by cases h), k, h3, comp, h4⟩, k, comp, h3, h4, h1, h5⟩
set_option maxHeartbeats 4000000 in
set_option maxRecDepth 100000 in
theorem law_K {s : State} {args : Array Value} (hts : ∀ w ∈ wsL_law, w.before args s = true) (hao : (Cond.arrayOver (.object "EdgeHolders$Graph")).before args s = true) : ∃ (D : va_G) (cI cG : ClassId), va_K D vwCl (tyk cI cG 0) s := by
  obtain ⟨c0, i0, h0⟩ := u_known (C := RX0) (T := TX0) (N := 11) (n := 11) hts inlX0 (hts _ q_1_11)
  obtain ⟨c1, i1, h1⟩ := u_known (C := RX1) (T := TX1) (N := 3) (n := 3) hts inlX1 (hts _ q_2_4)
  obtain ⟨c2, i2, h2⟩ := u_known (C := RX2) (T := TX2) (N := 8) (n := 8) hts inlX2 (hts _ q_2_0)
  obtain ⟨c3, i3, h3⟩ := u_known (C := RX3) (T := TX3) (N := 7) (n := 7) hts inlX3 (hts _ q_1_20)
  obtain ⟨c4, i4, h4⟩ := u_known (C := RX4) (T := TX4) (N := 1) (n := 1) hts inlX4 (hts _ q_2_12)
  obtain ⟨c5, i5, h5⟩ := u_known (C := RX5) (T := TX5) (N := 6) (n := 6) hts inlX5 (hts _ q_1_16)
  obtain ⟨c6, i6, h6⟩ := u_known (C := RX6) (T := TX6) (N := 6) (n := 6) hts inlX6 (hts _ q_1_1)
  obtain ⟨cI, a1, b1⟩ := ac_of (hts _ q_1_3)
  obtain ⟨cG, a3, b3⟩ := ao_of hao
  refine ⟨(fun k => match k with | 0 => c0 | 1 => c1 | 2 => c2 | 3 => c3 | 4 => c4 | 5 => c5 | _ => c6, fun k => match k with | 0 => i0 | 1 => i1 | 2 => i2 | 3 => i3 | 4 => i4 | 5 => i5 | _ => i6), cI, cG, ?_, ?_⟩
  · intro k q hq
    match k, hq with
    | 0, hq => cases hq; exact h0
    | 1, hq => cases hq; exact h1
    | 2, hq => cases hq; exact h2
    | 3, hq => cases hq; exact h3
    | 4, hq => cases hq; exact h4
    | 5, hq => cases hq; exact h5
    | 6, hq => cases hq; exact h6
    | k + 7, hq => simp [vwCl] at hq
  · intro k q hq
    match k, hq with
    | 0, hq => cases hq; exact ⟨a1, b1⟩
    | 1, hq => cases hq; exact ⟨a3, b3⟩
    | k + 2, hq => simp [tyk] at hq
set_option maxHeartbeats 4000000 in
set_option maxRecDepth 100000 in
theorem in_thW : ∀ w ∈ thW, w ∈ lw_tbl := by decide +kernel
set_option maxHeartbeats 4000000 in
set_option maxRecDepth 100000 in
theorem in_nst : ∀ w ∈ nstW, w ∈ lw_tbl := by decide +kernel
set_option maxHeartbeats 4000000 in
set_option maxRecDepth 100000 in
theorem in_strs : ∀ q ∈ strs, Cond.stringRef RX6 q.1 q.2 ∈ lw_tbl := by decide +kernel
set_option maxHeartbeats 4000000 in
set_option maxRecDepth 100000 in
theorem in_ao : Cond.arrayOver (.object "EdgeHolders$Graph") ∈ lw_tbl := by decide +kernel
set_option maxHeartbeats 4000000 in
set_option maxRecDepth 100000 in
theorem in_lay1 : Cond.laysStatic Bundle.tN "UNASSIGNED_STACK" Bundle.steD ∈ lw_tbl := by decide +kernel
set_option maxHeartbeats 4000000 in
set_option maxRecDepth 100000 in
theorem in_lay2 : Cond.laysStatic Bundle.tN "SUPPRESSED_SENTINEL" Bundle.listD ∈ lw_tbl := by decide +kernel
set_option maxHeartbeats 4000000 in
set_option maxRecDepth 100000 in
theorem in_thr : Cond.initialized Bundle.tN ∈ lw_tbl := by decide +kernel
set_option maxHeartbeats 4000000 in
set_option maxRecDepth 100000 in
theorem nr_strs : ∀ q ∈ strs, Cond.exactly (.string RX6 q.1) "java/lang/String" ∈ flatC (Jvm.Cond.and given_1 narrow_1) := by decide +kernel
set_option maxHeartbeats 4000000 in
set_option maxRecDepth 100000 in
theorem nr_ncs : ∀ q ∈ ncs, Cond.not (.castable (exN q.1) (exN q.2)) ∈ flatC (Jvm.Cond.and given_1 narrow_1) := by decide +kernel
set_option maxHeartbeats 4000000 in
set_option maxRecDepth 100000 in
theorem nr_st1 : Cond.isRef (.static Bundle.tN "UNASSIGNED_STACK" Bundle.steD) ∈ flatC (Jvm.Cond.and given_1 narrow_1) := by decide +kernel
set_option maxHeartbeats 4000000 in
set_option maxRecDepth 100000 in
theorem nr_st2 : Cond.isRef (.static Bundle.tN "SUPPRESSED_SENTINEL" Bundle.listD) ∈ flatC (Jvm.Cond.and given_1 narrow_1) := by decide +kernel
set_option maxHeartbeats 4000000 in
set_option maxRecDepth 100000 in
theorem law_SX {s : State} {args : Array Value} (hts : ∀ w ∈ lw_tbl, w.before args s = true) (hgv : (Jvm.Cond.and given_1 narrow_1).before args s = true) : SX (fun q => s.heap.size ≤ q) s s.heap := by
  have hs := flat_of_before _ hgv
  have hA : ∀ a : Nat, a < s.heap.size → ¬ s.heap.size ≤ a := fun a h => Nat.not_le.mpr h
  refine ⟨vx_Zqof (A := fun q => s.heap.size ≤ q) (hts _ in_lay1) (hts _ in_thr) (hs _ nr_st1) hA, vx_Zqof (A := fun q => s.heap.size ≤ q) (hts _ in_lay2) (hts _ in_thr) (hs _ nr_st2) hA, fun w hw => va_Nw.of (thW_tab hw) (hts _ (in_thW w hw)), fun q hq => ?_, fun q hq => va_Nc.of (hs _ (nr_ncs q hq))⟩
  obtain ⟨a, c, cA, kA, q1, -⟩ := Cond.exactly_spec (args := args) (first := s) (o := none) (s := s) (idx := []) (hs _ (nr_strs q hq))
  exact ⟨a, vk_R.of (hts _ (in_strs q hq)) q1⟩
set_option maxHeartbeats 4000000 in
set_option maxRecDepth 100000 in
theorem law_NW {s : State} {args : Array Value} (hts : ∀ w ∈ lw_tbl, w.before args s = true) : NW s := ⟨fun w hw => va_Nw.of (nst_tab hw) (hts _ (in_nst w hw)), va_AO.of (hts _ in_ao)⟩
set_option maxHeartbeats 4000000 in
set_option maxRecDepth 100000 in
theorem start_of {p : Program} {e : Env} {s : State} {m : MethodId} {below : List Frame} {meth : Method} {c : Code} (l : Launch) (hflags : l.flags = flags0) {b L : Nat} {xs : Nat → Int32} (Nf : Nat) (hL : L ≤ 260) {σ9 : cS} {n : Nat} (hrun : fL_law_8 (lCt ()) Nf xs L σI = some ((1, σ9), n)) (hn : n ≤ 500000) (C0 : lw_At p s m meth c b L xs) : W p l e room_1 s m #[Value.ref b] below meth c s.heap [] 0 0 (lw_Z below #[Value.ref b] s) (entryFrame m ([Value.ref b] : List Value).toArray 18) := by
  obtain ⟨hx, hb, hr, hml, hown, hts, hX, hbl, hlocks, hgv⟩ := C0
  have hfl : l.stackTraces = false := by
    unfold Launch.stackTraces
    rw [hflags]
    decide +kernel
  have htl : ∀ w ∈ wsL_law, w.before #[Value.ref b] s = true := fun w hw => hts w (in_law w hw)
  obtain ⟨D, cI, cG, hK⟩ := law_K htl (hts _ in_ao)
  have hl := lv_entry ([.ref b]) (n := 18) (Nat.le_of_ble_eq_true rfl)
  rw [lg_entry_eq]
  generalize hls : (lg_sl ([.ref b]) ++ List.replicate (18 - (lg_sl ([.ref b])).length) Slot.unset).toArray = ls at hl ⊢
  have hl : lv_has ls 18 [(0, .ref b)] := hl
  obtain ⟨K, hKe⟩ : ∃ K : MCx, K = (p, l, e, room_1, s, m, #[Value.ref b], below, meth, c, fun q => s.heap.size ≤ q, 820) := ⟨_, rfl⟩
  have X : Cy K D cI cG 0 (fun q => (ks K).heap.size ≤ q) RL cL_law 18 12 600130 7301080 456 := by
    subst hKe
    exact ⟨hx, hb, hml, hown, htl, hK, hlocks, fun q h => h, rfl, law_NW hts⟩
  have main : Sk K D (fun q => (ks K).heap.size ≤ q) (lw_Z below #[Value.ref b] s) 18 0 [(0, .ref b)] [] [] 0 0 := by
    refine k_new (ci := 6) X nf6 inlX6 tyX6 tyX6_ok q_1_0 q_1_1 q_1_2 rfl nf6_ok (Nat.le_of_ble_eq_true rfl) (Nat.le_of_ble_eq_true rfl) dL_law_0 (fun q0 => ?_)
    refine k_dup X dL_law_3 rfl ?_
    refine k_init X (w := w6 D cI cG 0) (As := []) (st := [.ref q0]) (ciX6 (kl K) D cI cG 0 q0) q_1_6 q_1_5 q_1_2 q_1_4 (by decide +kernel) rfl ⟨Nat.le_of_ble_eq_true rfl, Nat.le_of_ble_eq_true rfl⟩ rfl rfl (Nat.le_of_ble_eq_true rfl) ⟨Nat.le_of_ble_eq_true rfl, Nat.le_of_ble_eq_true rfl⟩ dL_law_4 (fun a ha => ?_)
    refine k_astore_n X [(1, .ref q0), (0, .ref b)] dL_law_7 (by decide) rfl ?_
    refine k_sub [1, 0] rfl ?_
    subst ha
    intro H locs ls hP hD hS hl
    have hP2 := full_P hP
    have hD2 := full_D hD
    have Xc : Cx K (Gc D cI cG 0 (aC a)) RL cL_law 18 (some .boolean) 12 456 := by
      have hinj := inj_of_D hD2
      have hFA := FA_of_D hD2
      subst hKe
      exact ⟨hx, hb, hml, hown, htl, hK, hlocks, hinj, hr, rfl, rfl, law_NW hts, hFA, Nat.le_of_ble_eq_true rfl, Nat.le_of_ble_eq_true rfl⟩
    have Y : YL K (Gc D cI cG 0 (aC a)) (lw_Z below #[Value.ref b] s) b L xs := by
      subst hKe
      refine ⟨⟨rfl, rfl, rfl⟩, hX, hbl, fun q => Iff.rfl, fun H locs ls cn sn hS h1 h2 => ?_⟩
      refine va_forget (fun q hq => hS.2.2 q hq) ?_
      refine W.widen h1 h2 ?_
      exact lw_ret (d0 := s.drawn) (Drawn.sameBut.refl s.drawn lw_cs) hx hb hr hlocks dL_law_924
    have hPL : PL K ((1, σ9), n) := by
      subst hKe
      exact ⟨⟨by show 820 + n ≤ 600130; omega, by show 12 * (820 + n) ≤ 7301080; omega, law_SX hts hgv, hfl⟩, rfl⟩
    have hS' : va_S (kA K) (ks K).heap H locs := by
      subst hKe
      exact hS
    have go := sL_law_8 Nf D cI cG 0 (lw_Z below #[Value.ref b] s) b L xs Xc Y 0 σI _ hrun hPL H locs ls hP2 hS' hl
    have hu : ku K = 820 := by subst hKe; rfl
    have go2 : W (kp K) (kl K) (ke K) (kR K) (ks K) (km K) (ka K) (kb K) (kme K) (kc K) H locs (ku K) (12 * ku K) (lw_Z below #[Value.ref b] s) (F0 (km K) 8 ls []) := go
    rw [hu] at go2
    exact W.widen (Nat.le_of_ble_eq_true rfl) (Nat.le_of_ble_eq_true rfl) go2
  subst hKe
  exact main s.heap [] ls (fun k q h => by simp at h) ⟨fun i j p q h => by simp at h, fun k q h => by simp at h⟩ va_S.rf hl
