/-! ===== the densest part is one, and proves the least capacity ===== -/
theorem cnt_mono {p q : Nat → Bool} {n : Nat} (h : ∀ k, k < n → p k = true → q k = true) : cnt p n ≤ cnt q n := by
  induction n with
  | zero => exact Nat.le_refl _
  | succ n ih =>
    have h1 := ih (fun k hk => h k (by omega))
    have h2 := h n (by omega)
    show cnt p n + (if p n = true then 1 else 0) ≤ cnt q n + (if q n = true then 1 else 0)
    by_cases e : p n = true
    · rw [if_pos e, if_pos (h2 e)]; omega
    · rw [if_neg e]; omega
theorem cnt_all {p : Nat → Bool} {n : Nat} (h : ∀ k, k < n → p k = true) : cnt p n = n := by
  induction n with
  | zero => rfl
  | succ n ih =>
    show cnt p n + (if p n = true then 1 else 0) = n + 1
    rw [ih (fun k hk => h k (by omega)), if_pos (h n (by omega))]
theorem sm_cnt {g : Nat → Nat} {s N : Nat} : ∀ E, (∀ k, k < E → g k < N) → sm (fun v => cnt (fun k => g k == v) E) s N = cnt (fun k => s.testBit (g k)) E := by
  intro E
  induction E with
  | zero => intro _; exact sm_0 s N
  | succ E ih =>
    intro h
    have hE := h E (by omega)
    have e : sm (fun v => cnt (fun k => g k == v) (E + 1)) s N = sm (fun v => cnt (fun k => g k == v) E + (if v = g E then 1 else 0)) s N := sm_W (fun v _ => by
      rw [cnt_b1]
      unfold b1
      by_cases q : v = g E
      · rw [if_pos q, if_pos (by rw [q]; exact beq_self_eq_true _)]
      · rw [if_neg q, if_neg (by rw [beq_false_of_ne (fun z => q z.symm)]; decide)])
    rw [e, sm_add, ih (fun k hk => h k (by omega)), sm_one (g E) s N, cnt_b1]
    unfold b1
    by_cases q : s.testBit (g E) = true
    · rw [if_pos ⟨hE, q⟩, if_pos q]
    · rw [if_neg (fun z => q z.2), if_neg q]
theorem inn_sm {A : Nat → Nat} {B : Nat} (w : WF A B) (s : Nat) : inn A s ≤ sm (ld A) s (A 0) := by
  have e : sm (ld A) s (A 0) = cnt (fun k => s.testBit (hd A k)) (A 3) := sm_cnt (A 3) (fun k hk => hd_lt w hk)
  rw [e]
  refine cnt_mono (fun k hk h => ?_)
  have h1 := (Bool.and_eq_true _ _).mp h
  unfold hd
  split
  · first | exact h1.1 | exact h1.2
  · first | exact h1.2 | exact h1.1
theorem sm_cap {W : Nat → Nat} {m s n : Nat} (h : ∀ v, v < n → W v ≤ m) : sm W s n ≤ m * cnt (fun v => s.testBit v) n := by
  induction n with
  | zero => exact Nat.le_refl _
  | succ n ih =>
    have h1 := ih (fun v hv => h v (by omega))
    have h2 := h n (by omega)
    show sm W s n + (if s.testBit n = true then W n else 0) ≤ m * (cnt (fun v => s.testBit v) n + (if s.testBit n = true then 1 else 0))
    by_cases e : s.testBit n = true
    · rw [if_pos e, if_pos e, Nat.mul_succ]; omega
    · rw [if_neg e, if_neg e]; exact h1
theorem sm_mono {W V : Nat → Nat} {s n : Nat} (h : ∀ v, v < n → W v ≤ V v) : sm W s n ≤ sm V s n := by
  induction n with
  | zero => exact Nat.le_refl _
  | succ n ih =>
    have h1 := ih (fun v hv => h v (by omega))
    have h2 := h n (by omega)
    simp only [sm]
    split <;> omega
/-- any part's inner edges are at most its nodes times the greatest load -/
theorem inn_mx {A : Nat → Nat} {B s : Nat} (w : WF A B) (hs : s < 2 ^ A 0) : inn A s ≤ mx (ld A) (A 0) * pct s := by
  rw [pct_N hs w.2.1]
  exact Nat.le_trans (inn_sm w s) (sm_cap (fun v hv => mx_ge hv))
theorem lst_mx {A : Nat → Nat} {B : Nat} (w : WF A B) : lst A (inn A) ≤ mx (ld A) (A 0) := (lst_le w (inn A)).mpr (fun s _ hs => inn_mx w hs)
theorem tds_is {g h : Nat → Nat} : ∀ n, (tds g h n).1 = -1 ∨ ∃ p, 1 ≤ p ∧ p ≤ n ∧ (tds g h n).1 = nI p ∧ h p < g p := by
  intro n
  induction n with
  | zero => exact Or.inl rfl
  | succ n ih =>
    rw [tds]
    by_cases e : h (n + 1) + (tds g h n).2 < g (n + 1)
    · rw [if_pos e]
      exact Or.inr ⟨n + 1, by omega, by omega, rfl, by omega⟩
    · rw [if_neg e]
      rcases ih with h1 | ⟨p, h1, h2, h3, h4⟩
      · exact Or.inl h1
      · exact Or.inr ⟨p, h1, by omega, h3, h4⟩
theorem ovr_0 {A : Nat → Nat} {n : Nat} (h : ovr A n = 0) : ∀ v, v < n → ld A v ≤ A (4 + v) := by
  intro v hv
  refine Classical.byContradiction fun q => ?_
  have : 1 ≤ ovr A n := cnt_pos hv (decide_eq_true (by omega))
  omega
theorem fp_half : ∀ a, a < 41 → ∀ b, b < 13 → b = 0 ∨ (n64b (FP.dmul (FP.ddiv (FP.i2d (nI a)) (FP.i2d (nI b))) (FP.i2d (nI b))) = true ∧ n64b (FP.dsub (FP.i2d (nI a)) (4602678819172646912 : UInt64)) = true ∧ n64b (FP.dadd (FP.i2d (nI a)) (4602678819172646912 : UInt64)) = true ∧ ¬ (Op.cmpValue (FP.dcmp (FP.dmul (FP.ddiv (FP.i2d (nI a)) (FP.i2d (nI b))) (FP.i2d (nI b))) (FP.dsub (FP.i2d (nI a)) (4602678819172646912 : UInt64))) .l) ≤ 0 ∧ ¬ 0 ≤ (Op.cmpValue (FP.dcmp (FP.dmul (FP.ddiv (FP.i2d (nI a)) (FP.i2d (nI b))) (FP.i2d (nI b))) (FP.dadd (FP.i2d (nI a)) (4602678819172646912 : UInt64))) .g)) := by decide +kernel
theorem inn_full {A : Nat → Nat} {B : Nat} (w : WF A B) : inn A (2 ^ A 0 - 1) = A 3 := by
  refine cnt_all (fun k hk => ?_)
  obtain ⟨h1, h2, h3, -⟩ := w.2.2.2.2.1 k hk
  show ((2 ^ A 0 - 1).testBit (A (56 + k)) && (2 ^ A 0 - 1).testBit (A (96 + k))) = true
  rw [Nat.testBit_two_pow_sub_one, Nat.testBit_two_pow_sub_one, decide_eq_true h1, decide_eq_true h2]
  rfl
/-- the bits, counted -/
theorem d_22 {σ0 : cS} {A : Nat → Nat} {B Nf s : Nat} {x6 : Int32} {p : Nat} {P : Int32 × cS → Prop} (v0 : ST σ0 A B) (hs : s < 4096) (hp : x6 = -1 ∧ p = 0 ∨ x6 = nI p ∧ p < 4096) (hF : 300000 < Nf) (go : ∀ n σ, RD A σ0 σ → EY (fL_isDense_22 (lCt ()) Nf 107 (n + 1) (nI s) (nI (dnsP A)) (nI (cnt (fun v => (dnsP A).testBit v) (A 0))) (nI (cnt (fun v => s.testBit v) (A 0))) (nI (sm (fun v => A (4 + v)) p (A 0))) x6 (nI (A 0)) σ) P) : ∀ (d i n : Nat) (σ : cS), i + d = A 0 → d < n → RD A σ0 σ → EY (fL_isDense_22 (lCt ()) Nf 107 n (nI s) (nI (dnsP A)) (nI (cnt (fun v => (dnsP A).testBit v) i)) (nI (cnt (fun v => s.testBit v) i)) (nI (sm (fun v => A (4 + v)) p i)) x6 (nI i) σ) P := by
  intro d
  induction d with
  | zero =>
    intro i n σ h1 h2 rd
    obtain ⟨n, rfl⟩ : ∃ z, n = z + 1 := ⟨n - 1, by omega⟩
    obtain rfl : i = A 0 := by omega
    exact go n σ rd
  | succ d ih =>
    intro i n σ h1 h2 rd
    have v := ST_RD v0 rd
    obtain ⟨g, w, pp, ga⟩ := ST_g v
    have w2 := w.2.1
    have hpw : 2 ^ A 0 ≤ 4096 := Nat.pow_le_pow_right (by omega) w2 (n := 2)
    obtain ⟨d1, d2, -⟩ := dnsP_in w
    obtain ⟨n, rfl⟩ : ∃ z, n = z + 1 := ⟨n - 1, by omega⟩
    have hb1 := shr (s := dnsP A) (v := i) (by omega) (by omega)
    have hb2 := shr (s := s) (v := i) hs (by omega)
    unfold fL_isDense_22
    refine y_i (r_value v (k := 0) (by omega) (by omega)) ?_
    refine y_f (fun q => absurd ((nI_leI (a := A 0) (b := i) (by omega) (by omega)).mp q) (by omega)) ?_
    refine y_n (y_n ?_)
    rw [show ((nI (dnsP A) >>> (nI i &&& 31)) &&& (1 : Int32)) = _ from hb1, show ((nI s >>> (nI i &&& 31)) &&& (1 : Int32)) = _ from hb2, nI_add, nI_add]
    have z80 : ∀ x, sm (fun v => A (4 + v)) p i = x → sm (fun v => A (4 + v)) p (i + 1) = x → EY (fL_isDense_80 (lCt ()) Nf 107 (fL_isDense_22 (lCt ()) Nf 107 n) (nI s) (nI (dnsP A)) (nI (cnt (fun v => (dnsP A).testBit v) (i + 1))) (nI (cnt (fun v => s.testBit v) (i + 1))) x6 (nI i) (nI (sm (fun v => A (4 + v)) p i)) σ) P := fun x q1 q2 => by
      unfold fL_isDense_80 fL_isDense_81
      refine y_n (y_n ?_)
      have := ih (i + 1) n σ (by omega) (by omega) rd
      rw [q2, ← q1] at this
      rw [n0, n1, nI_add, nI_add]
      exact this
    rcases hp with ⟨rfl, rfl⟩ | ⟨rfl, hp⟩
    · refine y_t (by decide) ?_
      exact z80 _ rfl (by show _ + (if (0 : Nat).testBit i = true then _ else 0) = _; rw [Nat.zero_testBit]; rfl)
    · have hb3 := shr (s := p) (v := i) hp (by omega)
      refine y_f (fun q => absurd ((nI_ltI (a := p) (b := 0) (by omega) (by omega)).mp q) (by omega)) ?_
      by_cases e : p.testBit i = true
      · rw [if_pos e] at hb3
        refine y_t hb3 ?_
        obtain ⟨σ2, a1, a2⟩ := r_node (Nf := Nf) (j := 2) v (show i < A 0 by omega) (by omega) (by omega)
        refine y_i a1 ?_
        unfold fL_isDense_81
        refine y_n (y_n ?_)
        have := ih (i + 1) n σ2 (by omega) (by omega) (RD_tr rd a2)
        show EY (fL_isDense_22 _ _ _ _ _ _ _ _ (nI (sm (fun v => A (4 + v)) p i) + nI (A (4 + i))) _ (nI i + nI 1) _) P
        rw [nI_add, nI_add]
        rw [show sm (fun v => A (4 + v)) p (i + 1) = sm (fun v => A (4 + v)) p i + A (4 + i) by simp only [sm]; rw [if_pos e]] at this
        exact this
      · rw [if_neg e] at hb3
        refine y_f (by rw [show ((nI p >>> (nI i &&& 31)) &&& (1 : Int32)) = _ from hb3]; decide) ?_
        exact z80 _ rfl (by simp only [sm]; rw [if_neg e]; rfl)
theorem f_isDense {σ : cS} {A : Nat → Nat} {B s Nf : Nat} (v : ST σ A B) (h1 : 1 ≤ s) (h2 : s < 2 ^ A 0) (hF : 300000 < Nf) : EY (fL_isDense (lCt ()) Nf σ 107 (nI s)) (fun r => r.1 = 1 ∧ RD A σ r.2) := by
  obtain ⟨g, w, pp, ga⟩ := ST_g v
  have w2 := w.2.1
  have hpw : 2 ^ A 0 ≤ 4096 := Nat.pow_le_pow_right (by omega) w2 (n := 2)
  have hp4 : 2 ^ 2 ≤ 2 ^ A 0 := Nat.pow_le_pow_right (by omega) w.1
  obtain ⟨q1, q2, q3, q4, q5⟩ := dnsP_in w
  obtain ⟨m1, m2, m3, m4⟩ := dns_max (f := inn A) (2 ^ A 0 - 1) (by omega)
  have ms := m4 s h1 (by omega)
  rw [m1, m3 (by omega)] at ms
  have ms : inn A s * pct (dnsP A) ≤ inn A (dnsP A) * pct s := ms
  have u1 := pct_N q2 w2
  have u2 := pct_N h2 w2
  have l1 : lst A (inn A) = (inn A (dnsP A) + pct (dnsP A) - 1) / pct (dnsP A) := rfl
  have l2 := lst_mx w
  have l3 := lst_b (A := A) (f := inn A) (fun s => Nat.le_trans (inn_le w s) (by omega))
  have l4 := mxld_le w
  have is1 := inn_le w s
  have ps1 := pct_le s
  obtain ⟨f1, f2, f3, f4, f5⟩ := (fp_half (inn A (dnsP A)) (by omega) (pct (dnsP A)) (by omega)).resolve_left (by omega)
  have fin : ∀ (x6 : Int32) (p : Nat), (x6 = -1 ∧ p = 0 ∨ x6 = nI p ∧ 1 ≤ p ∧ p < 2 ^ A 0 ∧ cps A p < inn A p) → ∀ n σ1, RD A σ σ1 → EY (fL_isDense_22 (lCt ()) Nf 107 (n + 1) (nI s) (nI (dnsP A)) (nI (cnt (fun v => (dnsP A).testBit v) (A 0))) (nI (cnt (fun v => s.testBit v) (A 0))) (nI (sm (fun v => A (4 + v)) p (A 0))) x6 (nI (A 0)) σ1) (fun r => r.1 = 1 ∧ RD A σ r.2) := fun x6 p hp n σ1 rd1 => by
    have v1 := ST_RD v rd1
    rw [← u1, ← u2]
    unfold fL_isDense_22
    refine y_i (r_value v1 (k := 0) (by omega) (by omega)) ?_
    refine y_t ((nI_leI (a := A 0) (b := A 0) (by omega) (by omega)).mpr (Nat.le_refl _)) ?_
    refine y_i (r_inner v1 q1 q2 (by omega)) ?_
    refine y_i (r_inner v1 h1 h2 (by omega)) ?_
    have b1' : inn A (dnsP A) * pct s ≤ 40 * 12 := Nat.mul_le_mul q5 ps1
    have b2' : inn A s * pct (dnsP A) ≤ 40 * 12 := Nat.mul_le_mul is1 q4
    refine y_f (by rw [nI_mul, nI_mul]; exact fun q => absurd ((nI_ltI (by omega) (by omega)).mp q) (by omega)) ?_
    obtain ⟨σ2, a1, a2⟩ := r_least (Nf := Nf) v1 (by omega)
    have v2 := ST_RD v1 a2
    refine y_b a1 (y_g (by exact nz_n (by omega) (by omega)) (y_t ?_ ?_))
    · show nI (lst A (inn A)) = (nI (inn A (dnsP A)) + nI (pct (dnsP A)) - nI 1) / nI (pct (dnsP A))
      rw [nI_add, nI_sub (by omega), nI_dv (by omega) (by omega) (by omega), l1]
    obtain ⟨σ3, c1, c2⟩ := r_density (Nf := Nf) v2 (by omega)
    have v3 := ST_RD v2 c2
    refine y_b c1 (y_g f1 (y_g f2 (y_f f4 ?_)))
    obtain ⟨σ4, d1, d2⟩ := r_density (Nf := Nf) v3 (by omega)
    have v4 := ST_RD v3 d2
    refine y_b d1 (y_g f1 (y_g f3 (y_f f5 ?_)))
    refine y_i (r_value v4 (k := 2) (by omega) (by omega)) ?_
    obtain ⟨σ5, e1, e2⟩ := r_least (Nf := Nf) v4 (by omega)
    have v5 := ST_RD v4 e2
    refine y_b e1 (y_f (fun q => absurd ((nI_ltI (a := mx (ld A) (A 0)) (b := lst A (inn A)) (by omega) (by omega)).mp q) (by omega)) ?_)
    obtain ⟨σ6, k1, k2⟩ := r_leastC (Nf := Nf) v5 (by omega)
    have v6 := ST_RD v5 k2
    obtain ⟨σ7, n1', n2'⟩ := r_least (Nf := Nf) v6 (by omega)
    have v7 := ST_RD v6 n2'
    have rd7 := RD_tr rd1 (RD_tr a2 (RD_tr c2 (RD_tr d2 (RD_tr e2 (RD_tr k2 n2')))))
    refine y_b k1 (y_b n1' (y_t rfl ?_))
    refine y_i (r_value v7 (k := 0) (by omega) (by omega)) ?_
    have full := r_inner (Nf := Nf) v7 (n := 2 ^ A 0 - 1) (by omega) (by omega) (by omega)
    have fe : ((1 : Int32) <<< (nI (A 0) &&& 31)) - (1 : Int32) = nI (2 ^ A 0 - 1) := by
      rw [show ((1 : Int32) <<< (nI (A 0) &&& 31)) = nI (2 ^ A 0) from sh1 _ (by omega), n1, nI_sub (by omega)]
    refine y_i (by show fX6_inner (lCt ()) Nf σ7 107 (((1 : Int32) <<< (nI (A 0) &&& 31)) - (1 : Int32)) = _; rw [fe]; exact full) ?_
    refine y_i (r_value v7 (k := 1) (by omega) (by omega)) ?_
    refine y_t (by rw [inn_full w]; rfl) ?_
    have end1 : EY (fL_isDense_239 (lCt ()) Nf 107 σ7) (fun r => r.1 = 1 ∧ RD A σ r.2) := by
      unfold fL_isDense_239 fL_isDense_244
      exact y_g (by decide) (y_r ⟨rfl, rd7⟩)
    rcases hp with ⟨rfl, rfl⟩ | ⟨rfl, p1, p2, p3⟩
    · refine y_t rfl ?_
      unfold fL_isDense_224
      refine y_i (r_value v7 (k := 7) (by omega) (by omega)) ?_
      by_cases o : 0 < vI A 7
      · exact y_t o end1
      · exact y_f o (y_t rfl end1)
    · refine y_f (nI_ne1 (by omega)) ?_
      refine y_i (r_inner v7 p1 p2 (by omega)) ?_
      have ip := inn_le w p
      have cp := cps_le w p
      refine y_f (fun q => absurd ((nI_leI (a := inn A p) (b := cps A p) (by omega) (by omega)).mp q) (by omega)) ?_
      unfold fL_isDense_224
      refine y_i (r_value v7 (k := 7) (by omega) (by omega)) ?_
      have ov1 : ovr A (A 0) ≤ A 0 := cnt_le _ _
      have ov : 1 ≤ ovr A (A 0) := by
        refine Classical.byContradiction fun q => ?_
        have h0 := ovr_0 (A := A) (n := A 0) (by omega)
        have := Nat.le_trans (inn_sm w p) (sm_mono (s := p) h0)
        unfold cps at p3
        omega
      exact y_t ((nI_ltI (a := 0) (b := ovr A (A 0)) (by omega) (by omega)).mpr (by omega)) end1
  unfold fL_isDense fL_isDense_0
  obtain ⟨σ2, a1, a2⟩ := r_densest (Nf := Nf) v (by omega)
  have v2 := ST_RD v a2
  obtain ⟨σ3, c1, c2⟩ := r_tooDense (Nf := Nf) v2 (by omega)
  refine y_b a1 (y_b c1 ?_)
  show EY (fL_isDense_22 (lCt ()) Nf 107 Nf (nI s) (nI (dnsP A)) (0 : Int32) (0 : Int32) (0 : Int32) (tds (inn A) (cps A) (2 ^ A 0 - 1)).1 (0 : Int32) σ3) _
  rcases tds_is (g := inn A) (h := cps A) (2 ^ A 0 - 1) with t | ⟨p, p1, p2, p3, p4⟩
  · rw [t]
    exact d_22 v (p := 0) (by omega) (Or.inl ⟨rfl, rfl⟩) hF (fin _ _ (Or.inl ⟨rfl, rfl⟩)) (A 0) 0 Nf σ3 (by omega) (by omega) (RD_tr a2 c2)
  · rw [p3]
    exact d_22 v (p := p) (by omega) (Or.inr ⟨rfl, by omega⟩) hF (fin _ _ (Or.inr ⟨rfl, p1, by omega, p4⟩)) (A 0) 0 Nf σ3 (by omega) (by omega) (RD_tr a2 c2)
