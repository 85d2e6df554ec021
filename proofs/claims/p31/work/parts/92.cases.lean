/-! ===== the law's steps ===== -/
abbrev KK (Nf L : Nat) (xs : Nat → Int32) (self98 : Int32 → Int32 → cS → Option ((Int32 × cS) × Nat)) (x3 x4 x6 x7 : Int32) (B N : Nat) : Prop := ∀ σ' A' B' y, ST σ' A' B' → B' ≤ B + 12 → okX y → EX (fL_law_743 (lCt ()) Nf xs L self98 (1 : Int32) x3 x4 x6 x7 y σ') N R1
theorem r_step8 {σ : cS} {A : Nat → Nat} {B s u m Nf : Nat} (v : ST σ A B) (hs : s < A 0) (hu : u < A 0) (h : seen A s u) (hm : m < plen A s u) (hf : 1000 < Nf) : ∃ σ', fX6_step (lCt ()) Nf σ 107 (nI s) (nI u) (nI m) = some (.inl (nI (A (16 + pse A s u m)), σ')) ∧ RD A σ σ' ∧ σ' 108 = σ 108 := by
  obtain ⟨g, w, p, ga⟩ := ST_g v
  have w2 := w.2.1
  have w3 := w.2.2.1
  have b := BI_bfs w hs
  have hl := plen_le w hs (show u < 12 by omega) h
  obtain ⟨σ', r1, r2, r3⟩ := c_visitFrom (Nf := Nf) LG_0 (by omega) g w hs (by omega)
  refine ⟨σ', ?_, RD_FS r3, r3 108 (by omega)⟩
  obtain ⟨i, hi, e⟩ := seen_i w hs (show u < 12 by omega) h
  have h4 : pln A (bfs A s) s 12 u = plen A s u := rfl
  have cb := c_back (m := m) (Nf := Nf) w b r2 (plen A s u - 1 - m) i Nf hi (by rw [e]; omega) (by omega)
  rw [e, show m + (plen A s u - 1 - m) = plen A s u - 1 by omega] at cb
  have cl := c_lengthTo (Nf := Nf) w b r2 (show u < 12 by omega) (by omega)
  rw [if_pos h, h4] at cl
  have cs : fX5_slotOnPathTo (lCt ()) Nf σ' 90 (nI u) (nI m) = some (nI (pse A s u m)) := by
    unfold fX5_slotOnPathTo fX5_slotOnPathTo_0
    rw [cl, Option.bind_some, if_neg (show ¬ nI m < 0 from fun q => absurd ((nI_ltI (a := m) (b := 0) (by omega) (by omega)).mp q) (by omega)), if_pos ((nI_ltI (by omega) (by omega)).mpr hm), n1, nI_sub (by omega), bnd_e]
    exact cb
  have hk := (pse_in w hs (show u < 12 by omega) h hm).1
  unfold fX6_step fX6_step_0
  rw [chk_y g w (isN_y w hs), chk_y g w (isN_y w hu), xbn_l, xbn_l, r1, Option.bind_some, cs, Option.bind_some, if_neg (nI_ne1 (by omega)), row_get (show lCt () (1 + 1) = 40 from rfl) (by omega) (by omega), Option.bind_some]
  show some (Sum.inl (σ' (0 + 1 + 1) (pse A s u m), σ')) = _
  rw [r3 _ (by omega), g.2.2.2.2.1 _ hk]
theorem o_turn8 {σ : cS} {A : Nat → Nat} {B p Nf : Nat} {x1 : Int32} (v : ST σ A B) (e : plc A x1 = some p) (hf : 1000 < Nf) : ∃ σ', fL_turn (lCt ()) Nf σ 107 x1 = some (nI (ot A p), σ') ∧ NX σ' A (trnA A p) (B + 1) ∧ σ' 108 = σ 108 := by
  obtain ⟨Hs, q, c, v⟩ := v
  have w := v.2.1.1
  have hp1 := plc_lt e
  obtain ⟨σ1, Hs1, q1, c1, k1, k2, k3, k4, k5, k6⟩ := o_save v (show 40 < Nf by omega)
  obtain ⟨rc, r1, r2, r3, r4⟩ := c_flip LG_0 k2 w hp1
  refine ⟨rc.2, ?_, ?_, ?_⟩
  · unfold fL_turn fX6_turn fX6_turn_0
    rw [chs_y v.1 w (by omega) e]
    show Option.bind (Option.bind (fX1_save (lCt ()) Nf σ 105 0) _) _ = _
    rw [k1, Option.bind_some, r1, Option.bind_some, Option.bind_some]
    show some (rc.1, rc.2) = _
    rw [r2]
  · refine NX_of v.2.2.2.2 k3 k4 k5 k6 (fun x hx => r4 x (by omega)) r3 (trn_GA v.2.1 hp1) (by omega) (PT_keep v.2.2.2.1 ?_ ?_ (trn_o (by omega) (by omega) (by omega)) (inn_trn w hp1))
    · rw [r4 97 (by omega), k6 97 (by omega) (by omega)]
    · rw [r4 98 (by omega), k6 98 (by omega) (by omega)]
  · rw [r4 108 (by omega), k6 108 (by omega) (by omega)]
/-- the graph behind the first m edges of a path turned -/
def TI (A : Nat → Nat) (s u : Nat) (m : Nat) (C : Nat → Nat) : Prop := C 0 = A 0 ∧ C 3 = A 3 ∧ (∀ k, k < A 3 → C (16 + k) = A (16 + k) ∧ C (56 + k) = A (56 + k) ∧ C (96 + k) = A (96 + k) ∧ ((∀ i, i < m → pse A s u i ≠ k) → C (136 + k) = A (136 + k))) ∧ ∀ x, ld C x + b1 (s == x) = ld A x + b1 (pnd A s u m == x)
theorem TI_0 {A : Nat → Nat} {B s u : Nat} (w : WF A B) (hs : s < A 0) (hu : u < 12) (h : seen A s u) : TI A s u 0 A := by
  refine ⟨rfl, rfl, fun k hk => ⟨rfl, rfl, rfl, fun _ => rfl⟩, fun x => ?_⟩
  rw [pnd_0 w hs hu h]
theorem TI_s {A C : Nat → Nat} {B B' s u m : Nat} (w : WF A B) (w' : WF C B') (hs : s < A 0) (hu : u < 12) (h : seen A s u) (hm : m < plen A s u) (t : TI A s u m C) : TI A s u (m + 1) (trnA C (pse A s u m)) ∧ ot C (pse A s u m) = pnd A s u (m + 1) := by
  obtain ⟨t1, t2, t3, t4⟩ := t
  obtain ⟨p1, p2, p3⟩ := pse_in w hs hu h hm
  have w3 := w.2.2.1
  have ne : ∀ i, i < m → pse A s u i ≠ pse A s u m := fun i hi q => by
    have e1 := (pse_in w hs hu h (show i < plen A s u by omega)).2.1
    rw [q, p2] at e1
    have l1 := (pnd_in w hs hu h (show i ≤ plen A s u by omega)).2.2
    have l2 := (pnd_in w hs hu h (show m ≤ plen A s u by omega)).2.2
    rw [e1] at l2
    omega
  obtain ⟨q1, q2, q3, q4⟩ := t3 _ p1
  have q4 := q4 ne
  have eh : hd C (pse A s u m) = pnd A s u m := by rw [← p2]; unfold hd; rw [q2, q3, q4]
  have eo : ot C (pse A s u m) = pnd A s u (m + 1) := by rw [← p3]; unfold ot; rw [q2, q3, q4]
  refine ⟨⟨?_, ?_, fun k hk => ?_, fun x => ?_⟩, eo⟩
  · rw [trn_o (by omega) (by omega) (by omega)]; exact t1
  · rw [trn_o (by omega) (by omega) (by omega)]; exact t2
  · obtain ⟨c1, c2, c3, c4⟩ := t3 k hk
    rw [trn_o (j := 16 + k) (by omega) (by omega) (by omega), trn_o (j := 56 + k) (by omega) (by omega) (by omega), trn_o (j := 96 + k) (by omega) (by omega) (by omega)]
    refine ⟨c1, c2, c3, fun hn => ?_⟩
    have := hn m (by omega)
    rw [trn_o (by omega) (by omega) (by omega)]
    exact c4 (fun i hi => hn i (by omega))
  · have l1 := ld_trn (k := pse A s u m) w' (by omega) x
    have l2 := t4 x
    rw [eh, eo] at l1
    omega
theorem f_671 {A : Nat → Nat} {B Nf L s u N : Nat} {xs : Nat → Int32} {self98 : Int32 → Int32 → cS → Option ((Int32 × cS) × Nat)} {x3 x4 x6 x7 : Int32} {row : Nat → Int32} (w : WF A B) (hB : B ≤ 351) (hs : s < A 0) (hu : u < A 0) (hsu : s ≠ u) (h : seen A s u) (hr : ∀ k, k < plen A s u → row k = nI (A (16 + pse A s u k))) (hF : 300000 < Nf) (K : KK Nf L xs self98 x3 x4 x6 x7 B N) : ∀ (d m n : Nat) (y : Int32) (σ : cS) (C : Nat → Nat), m + d = plen A s u → d < n → ST σ C (B + m) → TI A s u m C → σ 108 = row → okX y → EX (fL_law_671 (lCt ()) Nf xs L self98 n x3 x4 x6 x7 (nI s) (nI u) (nI (ld A s)) (nI (ld A u)) y (nI (plen A s u)) (nI m) σ) (N + d) R1 := by
  have w2 := w.2.1
  have w3 := w.2.2.1
  have hl := plen_le w hs (show u < 12 by omega) h
  have l0 : plen A s u ≠ 0 := fun q => hsu ((plen_0 w hs (by omega) h).mp q).symm
  intro d
  induction d with
  | zero =>
    intro m n y σ C h1 h2 v t e8 hy
    obtain ⟨n, rfl⟩ : ∃ z, n = z + 1 := ⟨n - 1, by omega⟩
    obtain rfl : m = plen A s u := by omega
    obtain ⟨t1, t2, t3, t4⟩ := t
    have w' := (ST_g v).2.1
    have ls := t4 s
    have lu := t4 u
    rw [pnd_l, beq_self_eq_true, beq_false_of_ne (fun q => hsu q.symm)] at ls
    rw [pnd_l, beq_self_eq_true, beq_false_of_ne hsu] at lu
    have ls : ld C s + 1 = ld A s + 0 := ls
    have lu : ld C u + 0 = ld A u + 1 := lu
    unfold fL_law_671
    refine e_t ((nI_leI (a := plen A s u) (b := plen A s u) (by omega) (by omega)).mpr (Nat.le_refl _)) ?_
    refine e_f (fun q => absurd ((nI_leI (a := plen A s u) (b := 0) (by omega) (by omega)).mp q) (by omega)) ?_
    obtain ⟨σ1, a1, a2⟩ := r_node (Nf := Nf) (j := 0) v (show s < C 0 by omega) (by omega) (by omega)
    have v1 := ST_RD v a2
    refine e_i a1 (e_t ?_ ?_)
    · show nI (ld C s) = nI (ld A s) - nI 1
      rw [nI_sub (by omega)]
      congr 1; omega
    obtain ⟨σ2, b1', b2⟩ := r_node (Nf := Nf) (j := 0) v1 (show u < C 0 by omega) (by omega) (by omega)
    have v2 := ST_RD v1 b2
    refine e_i b1' (e_t ?_ ?_)
    · show nI (ld C u) = nI (ld A u) + nI 1
      rw [nI_add]
      congr 1
    unfold fL_law_728 fL_law_733
    exact K _ _ _ _ v2 (by omega) hy
  | succ d ih =>
    intro m n y σ C h1 h2 v t e8 hy
    obtain ⟨n, rfl⟩ : ∃ z, n = z + 1 := ⟨n - 1, by omega⟩
    have w' := (ST_g v).2.1
    have hm : m < plen A s u := by omega
    obtain ⟨t5, t6⟩ := TI_s w w' hs (show u < 12 by omega) h hm t
    have pi := pnd_in w hs (show u < 12 by omega) h (show m + 1 ≤ plen A s u by omega)
    have pk := (pse_in w hs (show u < 12 by omega) h hm).1
    have pl := plc_own (k := pse A s u m) w' (by omega) (by rw [t.2.1]; exact pk)
    rw [(t.2.2.1 _ pk).1] at pl
    obtain ⟨σ1, a1, a2, a3⟩ := o_turn8 (Nf := Nf) v pl (by omega)
    unfold fL_law_671
    refine e_f (fun q => absurd ((nI_leI (a := plen A s u) (b := m) (by omega) (by omega)).mp q) (by omega)) ?_
    refine e_g (inb_n (i := m) (n := 12) (by omega) (by omega)) ?_
    have ev : σ 108 (nI m).toNatClampNeg = nI (A (16 + pse A s u m)) := by
      rw [nI_clamp (by omega), e8, hr m hm]
    rw [ev]
    refine e_w a1 (e_n ?_)
    show EX (fL_law_671 _ _ _ _ _ _ _ _ _ _ _ _ _ _ (nI (ot C (pse A s u m))) _ (nI m + nI 1) _) _ _
    rw [nI_add, t6]
    exact ih (m + 1) n _ σ1 _ (by omega) (by omega) (ST_NX a2) t5 (a3.trans e8) (okX_n (by omega))
theorem f_640 {A : Nat → Nat} {B Nf L s u N : Nat} {xs : Nat → Int32} {self98 : Int32 → Int32 → cS → Option ((Int32 × cS) × Nat)} {x3 x4 x6 x7 : Int32} (w : WF A B) (hB : B ≤ 351) (hs : s < A 0) (hu : u < A 0) (hsu : s ≠ u) (h : seen A s u) (hF : 300000 < Nf) (K : KK Nf L xs self98 x3 x4 x6 x7 B N) : ∀ (d m n : Nat) (σ : cS), m + d = plen A s u → d < n → ST σ A B → (∀ k, k < m → σ 108 k = nI (A (16 + pse A s u k))) → EX (fL_law_640 (lCt ()) Nf xs L self98 n x3 x4 x6 x7 (nI s) (nI u) (nI (ld A s)) (nI (ld A u)) (0 : Int32) (nI (plen A s u)) (nI m) σ) (N + 11) R1 := by
  have w2 := w.2.1
  have w3 := w.2.2.1
  have hl := plen_le w hs (show u < 12 by omega) h
  intro d
  induction d with
  | zero =>
    intro m n σ h1 h2 v hr
    obtain ⟨n, rfl⟩ : ∃ z, n = z + 1 := ⟨n - 1, by omega⟩
    obtain rfl : m = plen A s u := by omega
    unfold fL_law_640
    refine e_t ((nI_leI (a := plen A s u) (b := plen A s u) (by omega) (by omega)).mpr (Nat.le_refl _)) ?_
    exact e_le (f_671 w hB hs hu hsu h hr hF K (plen A s u) 0 Nf 0 σ A (by omega) (by omega) v (TI_0 w hs (by omega) h) rfl (Or.inl (by decide))) (by omega) (fun _ h => h)
  | succ d ih =>
    intro m n σ h1 h2 v hr
    obtain ⟨n, rfl⟩ : ∃ z, n = z + 1 := ⟨n - 1, by omega⟩
    have hm : m < plen A s u := by omega
    obtain ⟨σ1, a1, a2, a3⟩ := r_step8 (Nf := Nf) v hs hu h hm (by omega)
    unfold fL_law_640
    refine e_f (fun q => absurd ((nI_leI (a := plen A s u) (b := m) (by omega) (by omega)).mp q) (by omega)) ?_
    refine e_i a1 (e_g (inb_n (i := m) (n := 12) (by omega) (by omega)) (e_n (e_n ?_)))
    show EX (fL_law_640 _ _ _ _ _ _ _ _ _ _ _ _ _ _ _ _ (nI m + nI 1) _) _ _
    rw [nI_add, nI_clamp (by omega)]
    refine ih (m + 1) n _ (by omega) (by omega) (ST_RD v (RD_tr a2 RD_st)) (fun k hk => ?_)
    by_cases e : k = m
    · subst e; exact st2_ss
    · rw [st2_nj (by omega)]
      show σ1 108 k = _
      rw [a3]
      exact hr k (by omega)
