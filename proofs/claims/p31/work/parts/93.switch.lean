/-! ===== the switch ===== -/
theorem plc_none {A : Nat → Nat} {x : Int32} (h : A 3 = 0) : plc A x = none := by unfold plc; rw [h]; rfl
abbrev edgeX (A : Nat → Nat) (y : Int32) : Prop := (A 3 = 0 ∧ y = 0) ∨ ∃ k, k < A 3 ∧ y = nI (A (16 + k))
theorem s_add {σ : cS} {A : Nat → Nat} {B Nf L a b N : Nat} {xs : Nat → Int32} {self98 : Int32 → Int32 → cS → Option ((Int32 × cS) × Nat)} {x3 x4 x6 x7 : Int32} (s : ST σ A B) (hB : B ≤ 351) (ha : a < A 0) (hb : b < A 0) (hab : a ≠ b) (hF : 300000 < Nf) (K : KK Nf L xs self98 x3 x4 x6 x7 B N) : EX (wbn (w1n (fL_add (lCt ()) Nf σ 107 (nI a) (nI b))) (fun r6 => if r6.1 = (-2052 : Int32) then (fL_law_399 (lCt ()) Nf xs L self98 x3 x4 x6 x7 r6.1 r6.2) else (ibn (fX6_edge (lCt ()) Nf r6.2 107 r6.1 (2 : Int32)) (fun r7 => if nI (ld A a) ≤ nI (ld A b) then (fL_law_383 (lCt ()) Nf xs L self98 x3 x4 x6 x7 r6.1 r7 (nI a) r6.2) else (fL_law_383 (lCt ()) Nf xs L self98 x3 x4 x6 x7 r6.1 r7 (nI b) r6.2))))) (N + 1) R1 := by
  obtain ⟨g, w, pp, ga⟩ := ST_g s
  have w4 := w.2.2.2.1
  have z4 := ga.2.2.2
  have h3 : A 3 < 40 := by omega
  have la := ld_le w a
  have lb := ld_le w b
  obtain ⟨σ1, a1, a2⟩ := o_add (Nf := Nf) s ha hb hab h3 (by omega)
  have s1 := ST_NX a2
  have e := r_edge (Nf := Nf) (k := A 3) (j := 2) s1 (by omega) (by rw [add_3]; omega) (by omega) (by omega)
  rw [add_16] at e
  have eh : eI (addA A a b) (A 3) (nI 2) = nI (newH A a b) := by
    rw [eI_2, hd_add h3 (Nat.le_refl _), if_pos rfl]
  have e383 : EX (fL_law_383 (lCt ()) Nf xs L self98 x3 x4 x6 x7 (nI (A 1)) (eI (addA A a b) (A 3) (nI 2)) (nI (newH A a b)) σ1) N R1 := by
    unfold fL_law_383
    refine e_t eh ?_
    refine e_i (r_value s1 (k := 6) (by omega) (by omega)) (e_t ?_ ?_)
    · show nI (addA A a b 1) = nI (A 1) + nI 1
      rw [add_1, nI_add]
    · unfold fL_law_399 fL_law_404
      exact K _ _ _ _ s1 (by omega) (okX_n (by omega))
  refine e_w a1 (e_f (nI_nx (by omega) (by decide)) (e_i e ?_))
  unfold newH at e383
  by_cases q : ld A b < ld A a
  · rw [if_pos q] at e383
    exact e_f (fun z => absurd ((nI_leI (by omega) (by omega)).mp z) (by omega)) e383
  · rw [if_neg q] at e383
    exact e_t ((nI_leI (by omega) (by omega)).mpr (by omega)) e383
theorem s_438 {σ : cS} {A : Nat → Nat} {B Nf L N : Nat} {xs : Nat → Int32} {self98 : Int32 → Int32 → cS → Option ((Int32 × cS) × Nat)} {x3 x4 x6 x7 y held : Int32} (s : ST σ A B) (hB : B ≤ 351) (hy : A 3 = 0 ∨ ∃ k, k < A 3 ∧ y = nI (A (16 + k)) ∧ held = nI (hd A k)) (hF : 300000 < Nf) (K : KK Nf L xs self98 x3 x4 x6 x7 B N) : EX (fL_law_438 (lCt ()) Nf xs L self98 x3 x4 x6 x7 y held σ) (N + 1) R1 := by
  obtain ⟨g, w, pp, ga⟩ := ST_g s
  have w2 := w.2.1
  unfold fL_law_438
  rcases hy with h | ⟨k, hk, rfl, rfl⟩
  · refine e_w (o_noEdge s (plc_none h) (by omega)).2.1 (e_t rfl ?_)
    refine e_i (r_value s (k := 1) (by omega) (by omega)) (e_t ?_ ?_)
    · show nI (A 3) = 0
      rw [h]; rfl
    · unfold fL_law_496
      exact K _ _ _ _ s (by omega) (Or.inr (Or.inr rfl))
  · obtain ⟨σ1, a1, a2⟩ := o_turn (Nf := Nf) s (plc_own w (by omega) hk) (by omega)
    have s1 := ST_NX a2
    have w3 := w.2.2.1
    have wk := w.2.2.2.2.1 k hk
    have ho := ot_lt w hk
    have hh := hd_lt w hk
    have e := r_edge (Nf := Nf) (k := k) (j := 2) s1 (by omega) (by rw [trn_o (by omega) (by omega) (by omega)]; exact hk) (by omega) (by omega)
    rw [trn_o (by omega) (by omega) (by omega), eI_2] at e
    have et : hd (trnA A k) k = ot A k := by
      unfold hd ot
      rw [trn_o (j := 56 + k) (by omega) (by omega) (by omega), trn_o (j := 96 + k) (by omega) (by omega) (by omega)]
      have e136 : trnA A k (136 + k) = 1 - A (136 + k) := by
        unfold trnA
        rw [up_o (by omega), up_o (by omega), up_s]
      rw [e136]
      by_cases q : A (136 + k) = 0
      · rw [if_neg (by omega), if_pos q]
      · rw [if_pos (by omega), if_neg q]
    rw [et] at e
    refine e_w a1 (e_f (nI_nx (by omega) (by decide)) (e_f ?_ (e_i e (e_t rfl ?_))))
    · show ¬ nI (ot A k) = nI (hd A k)
      rw [eq_n (by omega) (by omega)]
      unfold hd ot
      split
      · exact fun q => wk.2.2.1 q.symm
      · exact wk.2.2.1
    · unfold fL_law_496
      exact K _ _ _ _ s1 (by omega) (okX_n (by omega))
theorem s_turn {σ : cS} {A : Nat → Nat} {B Nf L N : Nat} {xs : Nat → Int32} {self98 : Int32 → Int32 → cS → Option ((Int32 × cS) × Nat)} {x3 x4 x6 x7 y : Int32} (s : ST σ A B) (hB : B ≤ 351) (hy : edgeX A y) (hF : 300000 < Nf) (K : KK Nf L xs self98 x3 x4 x6 x7 B N) : EX (ibn (fX6_value (lCt ()) Nf σ 107 (1 : Int32)) (fun r21 => if r21 = 0 then (fL_law_438 (lCt ()) Nf xs L self98 x3 x4 x6 x7 y (0 : Int32) σ) else (ibn (fX6_edge (lCt ()) Nf σ 107 y (2 : Int32)) (fun r22 => fL_law_438 (lCt ()) Nf xs L self98 x3 x4 x6 x7 y r22 σ)))) (N + 1) R1 := by
  obtain ⟨g, w, pp, ga⟩ := ST_g s
  have w3 := w.2.2.1
  refine e_i (r_value s (k := 1) (by omega) (by omega)) ?_
  rcases hy with ⟨h, rfl⟩ | ⟨k, hk, rfl⟩
  · refine e_t ?_ ?_
    · show nI (A 3) = 0
      rw [h]; rfl
    · exact s_438 s hB (Or.inl h) hF K
  · refine e_f ?_ ?_
    · show ¬ nI (A 3) = 0
      exact nI_ne0 (by omega) (by omega)
    · refine e_i (r_edge s (by omega) hk (j := 2) (by omega) (by omega)) ?_
      exact s_438 s hB (Or.inr ⟨k, hk, rfl, eI_2⟩) hF K
theorem s_relieve {σ : cS} {A : Nat → Nat} {B Nf L a N : Nat} {xs : Nat → Int32} {self98 : Int32 → Int32 → cS → Option ((Int32 × cS) × Nat)} {x3 x4 x6 x7 : Int32} (s : ST σ A B) (hB : B ≤ 351) (ha : a < A 0) (hF : 300000 < Nf) (K : KK Nf L xs self98 x3 x4 x6 x7 B N) : EX (wbn (w1n (fL_relieve (lCt ()) Nf σ 107 (nI a))) (fun r27 => if r27.1 = (-2052 : Int32) then (fL_law_545 (lCt ()) Nf xs L self98 x3 x4 x6 x7 r27.1 r27.2) else (if r27.1 ≤ 0 then (fL_law_549 (lCt ()) Nf xs L self98 x3 x4 x6 x7 r27.1 r27.2) else (ibn (fX6_node (lCt ()) Nf r27.2 107 (nI a) (0 : Int32)) (fun r28 => if r28.1 = (nI (ld A a) - (1 : Int32)) then (ibn (fX6_value (lCt ()) Nf r28.2 107 (4 : Int32)) (fun r29 => if nI (sqs (ld A) (A 0)) ≤ r29 then (fL_law_549 (lCt ()) Nf xs L self98 x3 x4 x6 x7 r27.1 r28.2) else (fL_law_545 (lCt ()) Nf xs L self98 x3 x4 x6 x7 r27.1 r28.2))) else (fL_law_549 (lCt ()) Nf xs L self98 x3 x4 x6 x7 r27.1 r28.2)))))) (N + 1) R1 := by
  obtain ⟨g, w, pp, ga⟩ := ST_g s
  have w2 := w.2.1
  have h := o_relieve (Nf := Nf) s ha (by omega)
  have e545 : ∀ σ' A' B' y, ST σ' A' B' → B' ≤ B + 12 → okX y → EX (fL_law_545 (lCt ()) Nf xs L self98 x3 x4 x6 x7 y σ') N R1 := fun σ' A' B' y s' hb hy => by
    unfold fL_law_545 fL_law_550
    exact K _ _ _ _ s' hb hy
  cases e : rel A a with
  | none =>
    rw [e] at h
    obtain ⟨σ1, a1, a2⟩ := h
    exact e_w a1 (e_t rfl (e545 _ _ _ _ (ST_RD s a2) (by omega) (Or.inr (Or.inl rfl))))
  | some j =>
    rw [e] at h
    obtain ⟨σ1, a1, a2⟩ := h
    obtain ⟨j1, j2, j3⟩ := rel_i e
    obtain ⟨p1, p2⟩ := rel_pos w ha e
    obtain ⟨u1, u2, u3⟩ := rel_WF w ha j2
    have s1 := ST_NX a2
    have fl := rel_falls w ha e
    have sq := sq_le w
    have l := rel_ld w ha j2 a
    have ne : (bfs A a).2.1 j ≠ a := fun q => by rw [q] at j3; omega
    rw [beq_self_eq_true, beq_false_of_ne ne] at l
    have l : ld (relA A a j) a + 1 = ld A a + 0 := l
    refine e_w a1 (e_f (nI_nx (by omega) (by decide)) (e_f (fun q => absurd ((nI_leI (a := pln A (bfs A a) a 12 ((bfs A a).2.1 j)) (b := 0) (by omega) (by omega)).mp q) (by omega)) ?_))
    obtain ⟨σ2, b1', b2⟩ := r_node (Nf := Nf) (j := 0) s1 (show a < relA A a j 0 by rw [u2]; exact ha) (by omega) (by omega)
    have s2 := ST_RD s1 b2
    refine e_i b1' (e_t ?_ ?_)
    · show nI (ld (relA A a j) a) = nI (ld A a) - nI 1
      rw [nI_sub (by omega)]
      congr 1; omega
    refine e_i (r_value s2 (k := 4) (by omega) (by omega)) (e_f ?_ ?_)
    · show ¬ nI (sqs (ld A) (A 0)) ≤ nI (sqs (ld (relA A a j)) (relA A a j 0))
      rw [u2]
      exact fun q => absurd ((nI_leI (by omega) (by omega)).mp q) (by omega)
    · exact e545 _ _ _ _ s2 (by omega) (okX_n (by omega))
theorem s_cap {σ : cS} {A : Nat → Nat} {B Nf L a w N : Nat} {xs : Nat → Int32} {self98 : Int32 → Int32 → cS → Option ((Int32 × cS) × Nat)} {x3 x4 x6 : Int32} (s : ST σ A B) (hB : B ≤ 351) (ha : a < A 0) (hw : w < 8192) (hF : 300000 < Nf) (K : KK Nf L xs self98 x3 x4 x6 (nI w) B N) : EX (grd (nz (5 : Int32)) (wbn (w1n (fL_setCapacity (lCt ()) Nf σ 107 (nI a) (nI w - nI w / (5 : Int32) * (5 : Int32)))) (fun r36 => ibn (fX6_node (lCt ()) Nf r36.2 107 (nI a) (2 : Int32)) (fun r37 => grd (nz (5 : Int32)) (if r37.1 = (nI w - nI w / (5 : Int32) * (5 : Int32)) then (fL_law_617 (lCt ()) Nf xs L self98 x3 x4 x6 (nI w) r36.1 (1 : Int32) r37.2) else (fL_law_617 (lCt ()) Nf xs L self98 x3 x4 x6 (nI w) r36.1 (0 : Int32) r37.2)))))) (N + 1) R1 := by
  obtain ⟨g, wf, pp, ga⟩ := ST_g s
  have w2 := wf.2.1
  have wc := wf.2.2.2.2.2.2 a (by omega)
  have em : (nI w - nI w / (5 : Int32) * (5 : Int32)) = nI (w % 5) := nI_md (a := w) (b := 5) (by omega) (by omega)
  rw [em]
  obtain ⟨σ1, a1, a2⟩ := o_setCap (Nf := Nf) (cp := w % 5) s ha (by omega) (by omega)
  have s1 := ST_NX a2
  obtain ⟨σ2, b1', b2⟩ := r_node (Nf := Nf) (j := 2) s1 (show a < up A (4 + a) (w % 5) 0 by rw [up_o (by omega)]; exact ha) (by omega) (by omega)
  refine e_g (by decide) (e_w a1 (e_i b1' (e_g (by decide) (e_t ?_ ?_))))
  · show nI (up A (4 + a) (w % 5) (4 + a)) = nI (w % 5)
    rw [up_s]
  · unfold fL_law_617
    exact K _ _ _ _ (ST_RD s1 b2) (by omega) (okX_n (by omega))
theorem s_balance {σ : cS} {A : Nat → Nat} {B Nf L N : Nat} {xs : Nat → Int32} {self98 : Int32 → Int32 → cS → Option ((Int32 × cS) × Nat)} {x3 x4 x6 x7 : Int32} (s : ST σ A B) (hB : B ≤ 351) (hF : 300000 < Nf) (K : KK Nf L xs self98 x3 x4 x6 x7 B N) : EX (Option.bind (fX6_balance (lCt ()) Nf σ 107) (fun r33 => ibn (fX6_value (lCt ()) Nf r33.2 107 (2 : Int32)) (fun r34 => Option.bind (fX6_least (lCt ()) Nf r33.2 107) (fun r35 => if r34 = r35.1 then (if r33.1 < 0 then (fL_law_581 (lCt ()) Nf xs L self98 x3 x4 x6 x7 r33.1 r35.2) else (fL_law_582 (lCt ()) Nf xs L self98 x3 x4 x6 x7 r33.1 (1 : Int32) r35.2)) else (fL_law_581 (lCt ()) Nf xs L self98 x3 x4 x6 x7 r33.1 r35.2))))) N R1 := by
  obtain ⟨g, w, pp, ga⟩ := ST_g s
  obtain ⟨σ1, n, a1, a2, a3, a4, a5, a6⟩ := o_balance s hF
  have s1 := ST_NX a3
  obtain ⟨σ2, b1', b2⟩ := r_least (Nf := Nf) s1 (by omega)
  refine e_b a1 (e_i (r_value s1 (k := 2) (by omega) (by omega)) (e_b b1' (e_t ?_ (e_f (fun q => absurd ((nI_ltI (a := n) (b := 0) (by omega) (by omega)).mp q) (by omega)) ?_))))
  · show nI (mx (ld (balA A)) (balA A 0)) = nI (lst (balA A) (inn (balA A)))
    rw [mx_lst a4 (balA_fin w)]
  · unfold fL_law_582
    exact K _ _ _ _ (ST_RD s1 b2) (by omega) (okX_n (by omega))
theorem s_path {σ : cS} {A : Nat → Nat} {B Nf L a b N : Nat} {xs : Nat → Int32} {self98 : Int32 → Int32 → cS → Option ((Int32 × cS) × Nat)} {x3 x4 x6 x7 : Int32} (s : ST σ A B) (hB : B ≤ 351) (ha : a < A 0) (hb : b < A 0) (hab : a ≠ b) (hF : 300000 < Nf) (K : KK Nf L xs self98 x3 x4 x6 x7 B N) : EX (ibn (fX6_path (lCt ()) Nf σ 107 (nI a) (nI b)) (fun r40 => wbn (some (z12 r40.2, 1)) (fun σ41 => fL_law_640 (lCt ()) Nf xs L self98 Nf x3 x4 x6 x7 (nI a) (nI b) (nI (ld A a)) (nI (ld A b)) (0 : Int32) r40.1 (0 : Int32) σ41))) (N + 12) R1 := by
  obtain ⟨g, w, pp, ga⟩ := ST_g s
  have w2 := w.2.1
  obtain ⟨σ1, a1, a2⟩ := r_path (Nf := Nf) s ha hb (by omega)
  have s1 := ST_RD s (RD_tr a2 (RD_12 (A := A)))
  refine e_i a1 (e_a (N := N + 11) (M := 1) (Q := fun z => z = z12 σ1) ⟨z12 σ1, 1, rfl, Nat.le_refl _, rfl⟩ (fun z hz => ?_))
  subst hz
  by_cases h : seen A a b
  · have hl := plen_le w ha (show b < 12 by omega) h
    have ep : pthI A a b = nI (plen A a b) := if_pos h
    rw [ep]
    exact f_640 w hB ha hb hab h hF K (plen A a b) 0 Nf _ (by omega) (by omega) s1 (fun k hk => absurd hk (Nat.not_lt_zero _))
  · have ep : pthI A a b = -1 := if_neg h
    obtain ⟨n, rfl⟩ : ∃ z, Nf = z + 1 := ⟨Nf - 1, by omega⟩
    rw [ep]
    unfold fL_law_640
    refine e_t (show (-1 : Int32) ≤ 0 by decide) ?_
    unfold fL_law_671
    refine e_t (show (-1 : Int32) ≤ 0 by decide) (e_t (show (-1 : Int32) ≤ 0 by decide) ?_)
    unfold fL_law_728 fL_law_733
    exact e_le (K _ _ _ _ s1 (by omega) (Or.inl (by decide))) (by omega) (fun _ h => h)
theorem s_begin {σ : cS} {A : Nat → Nat} {B Nf L v N : Nat} {xs : Nat → Int32} {self98 : Int32 → Int32 → cS → Option ((Int32 × cS) × Nat)} {x3 x4 x7 : Int32} (s : ST σ A B) (hv : v < 8192) (hF : 300000 < Nf) (K : KK Nf L xs self98 x3 x4 (nI v) x7 B N) : EX (if x3 ≤ (3 : Int32) then (grd (nz (5 : Int32)) (wbn (w1n (fL_begin (lCt ()) Nf σ 107 ((2 : Int32) + (nI v - nI v / (5 : Int32) * (5 : Int32))))) (fun r5 => fL_law_339 (lCt ()) Nf xs L self98 (1 : Int32) x3 x4 (nI v) x7 r5.1 r5.2))) else (fL_law_339 (lCt ()) Nf xs L self98 (1 : Int32) x3 x4 (nI v) x7 (0 : Int32) σ)) (N + 1) R1 := by
  obtain ⟨g, w, pp, ga⟩ := ST_g s
  have w3 := w.2.2.1
  have em : (2 : Int32) + (nI v - nI v / (5 : Int32) * (5 : Int32)) = nI (2 + v % 5) := by
    rw [show (nI v - nI v / (5 : Int32) * (5 : Int32)) = nI (v % 5) from nI_md (a := v) (b := 5) (by omega) (by omega)]
    exact nI_add 2 (v % 5)
  rw [em]
  by_cases q : x3 ≤ (3 : Int32)
  · obtain ⟨σ1, a1, a2⟩ := o_begin (Nf := Nf) (n := 2 + v % 5) s (by omega) (by omega) (by omega)
    refine e_t q (e_g (by decide) (e_w a1 ?_))
    unfold fL_law_339
    exact K _ _ _ _ (ST_NX a2) (by omega) (okX_n (by omega))
  · refine e_f q ?_
    unfold fL_law_339
    exact e_le (K _ _ _ _ s (by omega) (Or.inl (by decide))) (by omega) (fun _ h => h)
theorem s_remove {σ : cS} {A : Nat → Nat} {B Nf L N : Nat} {xs : Nat → Int32} {self98 : Int32 → Int32 → cS → Option ((Int32 × cS) × Nat)} {x3 x4 x6 x7 y : Int32} (s : ST σ A B) (hB : B ≤ 351) (hy : edgeX A y) (hF : 300000 < Nf) (K : KK Nf L xs self98 x3 x4 x6 x7 B N) : EX (wbn (w1n (fL_remove (lCt ()) Nf σ 107 y)) (fun r20 => fL_law_743 (lCt ()) Nf xs L self98 (1 : Int32) x3 x4 x6 x7 r20.1 r20.2)) (N + 1) R1 := by
  obtain ⟨g, w, pp, ga⟩ := ST_g s
  have w2 := w.2.1
  rcases hy with ⟨h, rfl⟩ | ⟨k, hk, rfl⟩
  · exact e_w (o_noEdge s (plc_none h) (by omega)).1 (K _ _ _ _ s (by omega) (Or.inr (Or.inr rfl)))
  · obtain ⟨σ1, a1, a2⟩ := o_remove (Nf := Nf) s (plc_own w (by omega) hk) (by omega)
    have hh := hd_lt w hk
    exact e_w a1 (K _ _ _ _ (ST_NX a2) (by omega) (okX_n (by omega)))
theorem s_undo {σ : cS} {A : Nat → Nat} {B Nf L N : Nat} {xs : Nat → Int32} {self98 : Int32 → Int32 → cS → Option ((Int32 × cS) × Nat)} {x3 x4 x6 x7 : Int32} (s : ST σ A B) (hF : 300000 < Nf) (K : KK Nf L xs self98 x3 x4 x6 x7 B N) : EX (wbn (w1n (fL_undo (lCt ()) Nf σ 107)) (fun r43 => fL_law_743 (lCt ()) Nf xs L self98 (1 : Int32) x3 x4 x6 x7 r43.1 r43.2)) (N + 1) R1 := by
  rcases u_any (Nf := Nf) s (by omega) with h | ⟨σ1, n, A', h1, h2, h3⟩
  · exact e_w h (K _ _ _ _ s (by omega) (Or.inr (Or.inl rfl)))
  · exact e_w h1 (K _ _ _ _ h3 (by omega) (okX_n (by omega)))
theorem f_195 {σ : cS} {A : Nat → Nat} {B Nf L a b v w N : Nat} {xs : Nat → Int32} {self98 : Int32 → Int32 → cS → Option ((Int32 × cS) × Nat)} {x3 x4 y : Int32} (s : ST σ A B) (hB : B ≤ 351) (ha : a < A 0) (hb : b < A 0) (hab : a ≠ b) (hv : v < 8192) (hw : w < 8192) (hy : edgeX A y) (hF : 300000 < Nf) (K : KK Nf L xs self98 x3 x4 (nI v) (nI w) B N) : EX (fL_law_195 (lCt ()) Nf xs L self98 (1 : Int32) x3 x4 (nI v) (nI w) (nI a) (nI b) y σ) (N + 12) R1 := by
  obtain ⟨σ1, a1, a2⟩ := r_node (Nf := Nf) (j := 0) s ha (by omega) (by omega)
  have s1 := ST_RD s a2
  obtain ⟨σ2, b1', b2⟩ := r_node (Nf := Nf) (j := 0) s1 hb (by omega) (by omega)
  have s2 := ST_RD s1 b2
  obtain ⟨m, m1, m2⟩ := low_e (σ := σ2) x4 (n := 20) (by omega) (by omega)
  unfold fL_law_195
  refine e_i a1 (e_i b1' (e_i (r_value s2 (k := 4) (by omega) (by omega)) (e_b m2 ?_)))
  have up1 : ∀ {E : Option ((Int32 × cS) × Nat)}, EX E (N + 1) R1 → EX E (N + 12) R1 := fun h => e_le h (by omega) (fun _ h => h)
  rcases (show m = 0 ∨ m = 1 ∨ m = 2 ∨ m = 3 ∨ m = 4 ∨ m = 5 ∨ m = 6 ∨ m = 7 ∨ m = 8 ∨ m = 9 ∨ m = 10 ∨ m = 11 ∨ m = 12 ∨ m = 13 ∨ m = 14 ∨ m = 15 ∨ m = 16 ∨ m = 17 ∨ m = 18 ∨ m = 19 by omega) with rfl | rfl | rfl | rfl | rfl | rfl | rfl | rfl | rfl | rfl | rfl | rfl | rfl | rfl | rfl | rfl | rfl | rfl | rfl | rfl
  · exact e_t rfl (up1 (s_begin s2 hv hF K))
  · exact e_f (by decide) (e_t rfl (up1 (s_add s2 hB ha hb hab hF K)))
  · exact e_f (by decide) (e_f (by decide) (e_t rfl (up1 (s_add s2 hB ha hb hab hF K))))
  · exact e_f (by decide) (e_f (by decide) (e_f (by decide) (e_t rfl (up1 (s_add s2 hB ha hb hab hF K)))))
  · exact e_f (by decide) (e_f (by decide) (e_f (by decide) (e_f (by decide) (e_t rfl (up1 (s_add s2 hB ha hb hab hF K))))))
  · exact e_f (by decide) (e_f (by decide) (e_f (by decide) (e_f (by decide) (e_f (by decide) (e_t rfl (up1 (s_add s2 hB ha hb hab hF K)))))))
  · exact e_f (by decide) (e_f (by decide) (e_f (by decide) (e_f (by decide) (e_f (by decide) (e_f (by decide) (e_t rfl (up1 (s_add s2 hB ha hb hab hF K))))))))
  · exact e_f (by decide) (e_f (by decide) (e_f (by decide) (e_f (by decide) (e_f (by decide) (e_f (by decide) (e_f (by decide) (e_t rfl (up1 (s_add s2 hB ha hb hab hF K)))))))))
  · exact e_f (by decide) (e_f (by decide) (e_f (by decide) (e_f (by decide) (e_f (by decide) (e_f (by decide) (e_f (by decide) (e_f (by decide) (e_t rfl (up1 (s_remove s2 hB hy hF K))))))))))
  · exact e_f (by decide) (e_f (by decide) (e_f (by decide) (e_f (by decide) (e_f (by decide) (e_f (by decide) (e_f (by decide) (e_f (by decide) (e_f (by decide) (e_t rfl (up1 (s_turn s2 hB hy hF K)))))))))))
  · exact e_f (by decide) (e_f (by decide) (e_f (by decide) (e_f (by decide) (e_f (by decide) (e_f (by decide) (e_f (by decide) (e_f (by decide) (e_f (by decide) (e_f (by decide) (e_t rfl (up1 (s_turn s2 hB hy hF K))))))))))))
  · exact e_f (by decide) (e_f (by decide) (e_f (by decide) (e_f (by decide) (e_f (by decide) (e_f (by decide) (e_f (by decide) (e_f (by decide) (e_f (by decide) (e_f (by decide) (e_f (by decide) (e_t rfl (up1 (s_turn s2 hB hy hF K)))))))))))))
  · exact e_f (by decide) (e_f (by decide) (e_f (by decide) (e_f (by decide) (e_f (by decide) (e_f (by decide) (e_f (by decide) (e_f (by decide) (e_f (by decide) (e_f (by decide) (e_f (by decide) (e_f (by decide) (e_t rfl (up1 (s_relieve s2 hB ha hF K))))))))))))))
  · exact e_f (by decide) (e_f (by decide) (e_f (by decide) (e_f (by decide) (e_f (by decide) (e_f (by decide) (e_f (by decide) (e_f (by decide) (e_f (by decide) (e_f (by decide) (e_f (by decide) (e_f (by decide) (e_f (by decide) (e_t rfl (up1 (s_relieve s2 hB ha hF K)))))))))))))))
  · exact e_f (by decide) (e_f (by decide) (e_f (by decide) (e_f (by decide) (e_f (by decide) (e_f (by decide) (e_f (by decide) (e_f (by decide) (e_f (by decide) (e_f (by decide) (e_f (by decide) (e_f (by decide) (e_f (by decide) (e_f (by decide) (e_t rfl (e_le (s_balance s2 hB hF K) (by omega) (fun _ h => h))))))))))))))))
  · exact e_f (by decide) (e_f (by decide) (e_f (by decide) (e_f (by decide) (e_f (by decide) (e_f (by decide) (e_f (by decide) (e_f (by decide) (e_f (by decide) (e_f (by decide) (e_f (by decide) (e_f (by decide) (e_f (by decide) (e_f (by decide) (e_f (by decide) (e_t rfl (up1 (s_cap s2 hB ha hw hF K)))))))))))))))))
  · exact e_f (by decide) (e_f (by decide) (e_f (by decide) (e_f (by decide) (e_f (by decide) (e_f (by decide) (e_f (by decide) (e_f (by decide) (e_f (by decide) (e_f (by decide) (e_f (by decide) (e_f (by decide) (e_f (by decide) (e_f (by decide) (e_f (by decide) (e_f (by decide) (e_t rfl (up1 (s_cap s2 hB ha hw hF K))))))))))))))))))
  · exact e_f (by decide) (e_f (by decide) (e_f (by decide) (e_f (by decide) (e_f (by decide) (e_f (by decide) (e_f (by decide) (e_f (by decide) (e_f (by decide) (e_f (by decide) (e_f (by decide) (e_f (by decide) (e_f (by decide) (e_f (by decide) (e_f (by decide) (e_f (by decide) (e_f (by decide) (e_t rfl (s_path s2 hB ha hb hab hF K))))))))))))))))))
  · exact e_f (by decide) (e_f (by decide) (e_f (by decide) (e_f (by decide) (e_f (by decide) (e_f (by decide) (e_f (by decide) (e_f (by decide) (e_f (by decide) (e_f (by decide) (e_f (by decide) (e_f (by decide) (e_f (by decide) (e_f (by decide) (e_f (by decide) (e_f (by decide) (e_f (by decide) (e_f (by decide) (up1 (s_undo s2 hF K)))))))))))))))))))
  · exact e_f (by decide) (e_f (by decide) (e_f (by decide) (e_f (by decide) (e_f (by decide) (e_f (by decide) (e_f (by decide) (e_f (by decide) (e_f (by decide) (e_f (by decide) (e_f (by decide) (e_f (by decide) (e_f (by decide) (e_f (by decide) (e_f (by decide) (e_f (by decide) (e_f (by decide) (e_f (by decide) (up1 (s_undo s2 hF K)))))))))))))))))))
