/-! ===== the law, from its start to its end ===== -/
theorem f_98 {Nf L : Nat} {xs : Nat → Int32} (hL : L ≤ 260) (hF : 300000 < Nf) : ∀ (d t n : Nat) (σ : cS) (A : Nat → Nat) (B : Nat), t + d = 26 → d < n → ST σ A B → B ≤ bdB t → EX (fL_law_98 (lCt ()) Nf xs L n (1 : Int32) (nI t) σ) (60 * d + 40) R1 := by
  intro d
  induction d with
  | zero =>
    intro t n σ A B h1 h2 s hB
    obtain ⟨n, rfl⟩ : ∃ z, n = z + 1 := ⟨n - 1, by omega⟩
    obtain rfl : t = 26 := by omega
    have hB : B ≤ 351 := by unfold bdB at hB; omega
    have h3 : A 3 < 40 := by have := (ST_g s).2.2.2.2.2.2; omega
    unfold fL_law_98
    refine e_t (by decide) ?_
    unfold fL_law_901
    refine e_f (by decide) ?_
    obtain ⟨r, d1, d2, d3⟩ := f_areHeld s (by omega) hF
    refine e_b d1 (e_f (by rw [d2]; decide) ?_)
    refine e_a (M := 40) (N := 0) (f_refused (ST_RD s d3) (by omega) h3 hF) (fun a ha => e_f (by rw [ha.1]; decide) ?_)
    unfold fL_law_924
    exact e_g (by decide) (e_r rfl)
  | succ d ih =>
    intro t n σ A B h1 h2 s hB
    obtain ⟨n, rfl⟩ : ∃ z, n = z + 1 := ⟨n - 1, by omega⟩
    have ht : t < 26 := by omega
    unfold bdB at hB
    have hB2 : B ≤ 351 := by omega
    obtain ⟨g, w, pp, ga⟩ := ST_g s
    have w1 := w.1
    have w2 := w.2.1
    have w3 := w.2.2.1
    obtain ⟨x, hx⟩ := cell_e xs hL ht
    obtain ⟨v, v1, v2⟩ := low_e (σ := σ) (x >>> ((5 : Int32) &&& 31)) (n := 8192) (by omega) (by omega)
    obtain ⟨u, u1, u2⟩ := low_e (σ := σ) (x >>> ((11 : Int32) &&& 31)) (n := 8192) (by omega) (by omega)
    have o := off_ne (v := v) (w := u) w1
    have q1 : v % A 0 < A 0 := Nat.mod_lt _ (by omega)
    have q2 : u % (A 0 - 1) < A 0 - 1 := Nat.mod_lt _ (by omega)
    have nz0 : nz (nI (A 0)) = true := nz_n (by omega) (by omega)
    have s1 : nI (A 0) - (1 : Int32) = nI (A 0 - 1) := nI_sub (a := A 0) (b := 1) (by omega)
    have K : KK Nf L xs (fL_law_98 (lCt ()) Nf xs L n) (nI t) x (nI v) (nI u) B (60 * d + 40 + 47) := fun σ' A' B' y s' hb hy => f_743 s' ht (by omega) v1 u1 hy hF (fun σ2 A2 B2 s2 hb2 => ih (t + 1) n σ2 A2 B2 (by omega) (by omega) s2 hb2)
    unfold fL_law_98
    refine e_f (fun q => absurd ((nI_leI (a := 26) (b := t) (by omega) (by omega)).mp q) (by omega)) (e_f (by decide) (e_b hx (e_i (r_value s (k := 0) (by omega) (by omega)) (e_b v2 (e_b u2 (e_g nz0 (e_n (e_g ?_ (e_g nz0 (e_n ?_))))))))))
    · show nz (nI (A 0) - (1 : Int32)) = true
      rw [s1]; exact nz_n (by omega) (by omega)
    refine e_i (r_value s (k := 1) (by omega) (by omega)) ?_
    have fin : ∀ y, edgeX A y → EX (fL_law_195 (lCt ()) Nf xs L (fL_law_98 (lCt ()) Nf xs L n) (1 : Int32) (nI t) x (nI v) (nI u) (nI v - nI v / nI (A 0) * nI (A 0)) ((((nI v - nI v / nI (A 0) * nI (A 0)) + (1 : Int32)) + (nI u - nI u / (nI (A 0) - (1 : Int32)) * (nI (A 0) - (1 : Int32)))) - (((nI v - nI v / nI (A 0) * nI (A 0)) + (1 : Int32)) + (nI u - nI u / (nI (A 0) - (1 : Int32)) * (nI (A 0) - (1 : Int32)))) / nI (A 0) * nI (A 0)) y σ) (60 * (d + 1) + 40) R1 := fun y hy => by
      rw [s1, nI_md (a := v) (b := A 0) (by omega) (by omega), nI_md (a := u) (b := A 0 - 1) (by omega) (by omega), n1, nI_add, nI_add, nI_md (by omega) (by omega)]
      exact e_le (f_195 s hB2 q1 o.1 o.2 v1 u1 hy hF K) (by omega) (fun _ h => h)
    by_cases h0 : A 3 = 0
    · refine e_t ?_ (fin 0 (Or.inl ⟨h0, rfl⟩))
      show nI (A 3) = 0
      rw [h0]; rfl
    · refine e_f (show ¬ nI (A 3) = 0 from nI_ne0 (by omega) (by omega)) ?_
      refine e_i (r_value s (k := 1) (by omega) (by omega)) (e_g (show nz (nI (A 3)) = true from nz_n (by omega) h0) ?_)
      have hk : u % A 3 < A 3 := Nat.mod_lt _ (by omega)
      have ea := r_edgeAt s hk
      rw [← nI_md (a := u) (b := A 3) (by omega) (by omega)] at ea
      exact e_i ea (fin _ (Or.inr ⟨u % A 3, hk, rfl⟩))
theorem t_order {Nf : Nat} {σ : cS} (h1 : σ 102 1 = nI 0) (h2 : σ 102 2 = nI 0) : fX2_readOrder (lCt ()) Nf σ 102 = some (0, σ) := by
  unfold fX2_readOrder fX2_readOrder_0
  rw [h1, h2, if_neg (show ¬ nI 0 < nI 0 by decide)]
  rfl
def rwS (σ : cS) : cS := st2 (st2 σ 102 2 (0 : Int32)) 102 3 (-1 : Int32)
theorem rw_e (σ : cS) : fX2_rewind σ 102 = some (rwS σ) := rfl
theorem rw_o {σ : cS} {x : Nat} (h : x ≠ 102) : rwS σ x = σ x := by
  unfold rwS
  rw [st2_out h, st2_out h]
theorem rw_1 {σ : cS} : rwS σ 102 1 = σ 102 1 ∧ rwS σ 102 2 = nI 0 ∧ rwS σ 102 3 = -1 := by
  unfold rwS
  refine ⟨?_, ?_, st2_ss⟩
  · rw [st2_nj (by omega), st2_nj (by omega)]
  · rw [st2_nj (by omega), st2_ss]; rfl
theorem t_syntax {Nf : Nat} {σ : cS} (h1 : σ 102 1 = nI 0) (hf : 1000 < Nf) : fX2_findSyntaxError (lCt ()) Nf σ 102 = some (-1, rwS σ) := by
  obtain ⟨n, rfl⟩ : ∃ z, Nf = z + 1 + 1 := ⟨Nf - 2, by omega⟩
  obtain ⟨r1, r2, r3⟩ := rw_1 (σ := σ)
  unfold fX2_findSyntaxError fX2_findSyntaxError_0
  rw [rw_e, Option.bind_some]
  unfold fX2_findSyntaxError_8
  rw [if_neg (by decide), if_neg (by decide), t_order (r1.trans h1) r2, Option.bind_some, bnd_e]
  unfold fX2_findSyntaxError_8
  rw [if_neg (by decide), if_pos rfl]
  unfold fX2_findSyntaxError_29
  show some (rwS σ 102 3, rwS σ) = _
  rw [r3]
theorem t_carry {σ : cS} {A : Nat → Nat} {Hs : Nat → Nat → Nat} {B Nf : Nat} (v : CV σ A Hs 0 0 B) (hf : 1000 < Nf) : ∃ σ', fX6_carryOut (lCt ()) Nf σ 107 = some (0, σ') ∧ CV σ' A (fun _ => A) 1 1 B := by
  obtain ⟨v1, v2, ⟨h1, h2, h3, h4, h7⟩, v4, v5⟩ := v
  obtain ⟨n, rfl⟩ : ∃ z, Nf = z + 1 := ⟨Nf - 1, by omega⟩
  have g1 : GR (rwS σ) 0 A := GR_keep v1 (fun x hx hx2 => rw_o (by omega))
  obtain ⟨σ2, a1, a2, a3, a4, a5⟩ := c_save (q := 0) (c := 0) (Nf := n + 1) g1 v2.1 (by omega) (by omega) (by rw [rw_o (by omega)]; exact h3) (by rw [rw_o (by omega)]; exact h4) (by omega)
  have o3 : ∀ x, x ≠ 97 → x ≠ 102 → rwS (st2 σ2 97 6 (nI 0)) x = σ2 x := fun x hx hx2 => by rw [rw_o hx2, st2_out hx]
  have e102 : rwS (st2 σ2 97 6 (nI 0)) 102 1 = nI 0 := by
    rw [rw_1.1, st2_out (by omega), a5 102 (by omega) (by omega), rw_1.1]; exact v5
  refine ⟨rwS (st2 σ2 97 6 (nI 0)), ?_, ?_⟩
  · unfold fX6_carryOut fX6_carryOut_0
    rw [t_syntax v5 hf, Option.bind_some, if_pos rfl]
    show Option.bind (fX1_save (lCt ()) (n + 1) (rwS σ) 105 0) _ = _
    rw [a1, Option.bind_some, forget_e, Option.bind_some, rw_e, Option.bind_some]
    unfold fX6_carryOut_45
    rw [if_neg (by decide), t_order e102 rw_1.2.1, Option.bind_some, if_pos rfl]
    rfl
  · refine ⟨GR_keep v1 (fun x hx hx2 => ?_), v2, ⟨by omega, by omega, ?_, ?_, fun d i hd hc hi => ?_⟩, Or.inl ?_, e102⟩
    · rw [o3 x (by omega) (by omega), a5 x (by omega) (by omega), rw_o (by omega)]
    · rw [o3 105 (by omega) (by omega), a3]
    · rw [o3 105 (by omega) (by omega), a4, if_neg (by omega)]
    · obtain rfl : d = 1 := by omega
      obtain rfl : i = 0 := by omega
      exact ⟨v2, GR_keep a2 (fun x hx hx2 => o3 x (by omega) (by omega))⟩
    · rw [rw_o (by omega), st2_ss]
theorem zr_dns : dnsP (zrA 6) = 63 := by
  have ez : inn (zrA 6) = fun _ => 0 := funext (inn_zr 6)
  show (dns (inn (zrA 6)) 63).1 = 63
  rw [ez]
  decide +kernel
theorem zr_lst : lst (zrA 6) (inn (zrA 6)) = 0 := by
  show rup (inn (zrA 6) (dnsP (zrA 6))) (pct (dnsP (zrA 6))) = 0
  rw [zr_dns, inn_zr]
  decide +kernel
theorem zr_dnsD : (Op.cmpValue (FP.dcmp (dnsD (zrA 6)) FP.dconst0) .l) = 0 := by
  unfold dnsD
  rw [zr_dns, inn_zr]
  decide +kernel
theorem f_8 {σ : cS} {Hs : Nat → Nat → Nat} {Nf L : Nat} {xs : Nat → Int32} (v : CV σ (zrA 6) Hs 0 0 0) (hL : L ≤ 260) (hF : 300000 < Nf) : EX (fL_law_8 (lCt ()) Nf xs L σ) 1642 R1 := by
  have s0 : ST σ (zrA 6) 0 := ⟨Hs, 0, 0, v⟩
  have eu : fL_undo (lCt ()) Nf σ 107 = some (-2052, σ) := by
    unfold fL_undo fX6_undo fX6_undo_0
    rw [v.2.2.1.2.2.2.1, if_pos (show (nI 0 : Int32) = 0 from rfl)]; rfl
  obtain ⟨σ1, a1, a2⟩ := r_densest (Nf := Nf) s0 (by omega)
  have s1 := ST_RD s0 a2
  obtain ⟨σ2, b1', b2⟩ := r_least (Nf := Nf) s1 (by omega)
  have s2 := ST_RD s1 b2
  obtain ⟨σ3, c1, c2⟩ := r_density (Nf := Nf) s2 (by omega)
  have s3 := ST_RD s2 c2
  obtain ⟨σ4, d1, d2⟩ := r_critical (Nf := Nf) s3 (by omega)
  have v4 := CV_RD v (RD_tr a2 (RD_tr b2 (RD_tr c2 d2)))
  obtain ⟨σ5, k1, k2⟩ := t_carry (Nf := Nf) v4 (by omega)
  obtain ⟨σ6, m1, m2⟩ := c_undo (Nf := Nf) k2 (by omega) (by omega)
  have s6 : ST σ6 (zrA 6) 0 := ⟨_, _, _, m2⟩
  unfold fL_law_8
  refine e_w eu (e_t rfl (e_i (r_value s0 (k := 0) (by omega) (by omega)) (e_t rfl (e_i (r_value s0 (k := 1) (by omega) (by omega)) (e_t rfl (e_b a1 (e_t ?_ (e_b b1' (e_t ?_ (e_b c1 (e_t zr_dnsD (e_b d1 (e_t ?_ (e_b k1 (e_t rfl (e_w m1 (e_t rfl ?_)))))))))))))))))
  · show nI (dnsP (zrA 6)) = 63
    rw [zr_dns]; rfl
  · show nI (lst (zrA 6) (inn (zrA 6))) = 0
    rw [zr_lst]; rfl
  · rfl
  · refine e_a (M := 40) (N := 1600) (f_refused s6 (by omega) (by show (0 : Nat) < 40; omega) hF) (fun a ha => e_f (by rw [ha.1]; decide) ?_)
    unfold fL_law_95
    exact f_98 hL hF 26 0 Nf a.2 (zrA 6) 0 (by omega) (by omega) (ST_RD s6 ha.2) (by omega)
theorem start_0 : σI 0 7 = nI 6 ∧ σI 0 8 = nI 0 ∧ σI 0 9 = nI 0 ∧ σI 0 10 = nI 0 ∧ (∀ v, v < 12 → σI (0 + 11 + 1) v = nI 0) ∧ (∀ v, v < 12 → σI (0 + 13 + 1) v = nI 3) ∧ σI 105 1 = nI 0 ∧ σI 105 2 = nI 0 ∧ σI 102 1 = nI 0 ∧ σI 97 6 = nI 0 := by decide +kernel
theorem CV_start : CV σI (zrA 6) (fun _ _ => 0) 0 0 0 := by
  obtain ⟨a1, a2, a3, a4, a5, a6, a9, a10, a11, a13⟩ := start_0
  refine ⟨⟨a1, a2, a3, a4, fun k hk => absurd hk (Nat.not_lt_zero _), fun k hk => absurd hk (Nat.not_lt_zero _), fun k hk => absurd hk (Nat.not_lt_zero _), fun k hk => absurd hk (Nat.not_lt_zero _), fun k hk => absurd hk (Nat.not_lt_zero _), fun v hv => a5 v hv, fun v hv => ?_⟩, zr_GA (by omega) (by omega), ⟨by omega, by omega, a9, a10, fun d i h1 h2 => by omega⟩, Or.inl a13, a11⟩
  rw [a6 v hv]
  unfold zrA
  rw [if_neg (by omega), if_pos (by omega)]
def NF : Nat := 400000
theorem NF_big : 300000 < NF := by decide
theorem law_true (xs : Nat → Int32) (L : Nat) (hL : L ≤ 260) : ∃ σ9 n, fL_law_8 (lCt ()) NF xs L σI = some ((1, σ9), n) ∧ n ≤ 500000 := by
  obtain ⟨⟨a, b⟩, n, h1, h2, h3⟩ := f_8 (xs := xs) CV_start hL NF_big
  have h3 : a = 1 := h3
  subst h3
  exact ⟨b, n, h1, by omega⟩
