/-! ===== what is told ahead comes ===== -/
theorem nI_nx {k : Nat} {x : Int32} (hk : k < 2 ^ 31) (hx : ¬ nI 0 ≤ x) : nI k ≠ x := fun q => hx (q ▸ (nI_leI (a := 0) (b := k) (by omega) hk).mpr (Nat.zero_le k))
theorem lst_self {A : Nat → Nat} {B : Nat} (w : WF A B) (f : Nat → Nat) : ∀ s, 1 ≤ s → s < 2 ^ A 0 → f s ≤ lst A f * pct s := (lst_le w f).mp (Nat.le_refl _)
theorem lst_two {A : Nat → Nat} {B : Nat} {f g : Nat → Nat} (w : WF A B) (h : ∀ s, f s ≤ g s ∧ g s ≤ f s + 1) : lst A f ≤ lst A g ∧ lst A g ≤ lst A f + 1 := by
  have w2 := w.2.1
  have hpw : 2 ^ A 0 ≤ 4096 := Nat.pow_le_pow_right (by omega) w2 (n := 2)
  refine ⟨(lst_le w f).mpr (fun s h1 h2 => Nat.le_trans (h s).1 (lst_self w g s h1 h2)), (lst_le w g).mpr (fun s h1 h2 => ?_)⟩
  have p1 := pct_pos (s := s) (by omega) (by omega)
  have := lst_self w f s h1 h2
  rw [Nat.succ_mul]
  have := (h s).2
  omega
theorem lst_with {A : Nat → Nat} {B : Nat} (w : WF A B) (a b : Nat) : lst A (inn A) ≤ lst A (innW A a b) ∧ lst A (innW A a b) ≤ lst A (inn A) + 1 := lst_two w (fun s => by
  unfold innW b1
  split <;> omega)
theorem lst_wo {A : Nat → Nat} {B k : Nat} (w : WF A B) (hk : k < A 3) : lst A (innO A k) ≤ lst A (inn A) ∧ lst A (inn A) ≤ lst A (innO A k) + 1 := lst_two w (fun s => by
  have := innO_e hk s
  have h1 : b1 (inP A s k) ≤ 1 := by unfold b1; split <;> omega
  omega)
theorem add_56 {A : Nat → Nat} {a b : Nat} : addA A a b (56 + A 3) = a := by
  unfold addA preA
  rw [up_o (by omega), up_o (by omega), up_o (by omega), up_o (by omega), up_o (by omega), up_s]
theorem add_96 {A : Nat → Nat} {a b : Nat} : addA A a b (96 + A 3) = b := by
  unfold addA preA
  rw [up_o (by omega), up_o (by omega), up_o (by omega), up_o (by omega), up_s]
theorem add_16 {A : Nat → Nat} {a b : Nat} : addA A a b (16 + A 3) = A 1 := by
  unfold addA preA
  rw [up_o (by omega), up_o (by omega), up_o (by omega), up_o (by omega), up_o (by omega), up_o (by omega), up_s]
theorem add_0 {A : Nat → Nat} {a b : Nat} : addA A a b 0 = A 0 := add_o (by omega) (by omega) (by omega) (by omega) (by omega) (by omega) (by omega)
theorem inn_add {A : Nat → Nat} {a b : Nat} (h3 : A 3 < 40) (s : Nat) : inn (addA A a b) s = innW A a b s := by
  have e : inn (addA A a b) s = cnt (fun k => s.testBit (addA A a b (56 + k)) && s.testBit (addA A a b (96 + k))) (A 3) + b1 (s.testBit (addA A a b (56 + A 3)) && s.testBit (addA A a b (96 + A 3))) := by
    unfold inn
    rw [add_3]; rfl
  rw [e, add_56, add_96, cnt_ext (q := fun k => s.testBit (A (56 + k)) && s.testBit (A (96 + k))) (fun k hk => by
    rw [add_o (j := 56 + k) (by omega) (by omega) (by omega) (by omega) (by omega) (by omega) (by omega), add_o (j := 96 + k) (by omega) (by omega) (by omega) (by omega) (by omega) (by omega) (by omega)])]
  exact Nat.add_comm _ _
theorem inn_addO {A : Nat → Nat} {a b : Nat} (h3 : A 3 < 40) (s : Nat) : innO (addA A a b) (A 3) s = inn A s := by
  have h := innO_e (A := addA A a b) (k := A 3) (by rw [add_3]; omega) s
  rw [inn_add h3] at h
  unfold innW inP at h
  rw [add_56, add_96] at h
  omega
theorem inn_rem {A : Nat → Nat} {p : Nat} (hp : p < A 3) (h3 : A 3 ≤ 40) (s : Nat) : inn (remA A p) s = innO A p s := by
  have h := cnt_gap (f := inP A s) (g := inP (remA A p) s) (p := p) (A 3 - 1) (by omega) (fun j hj => by
    unfold inP
    rw [rem_bl (c := 56) (by omega) hj h3, rem_bl (c := 96) (by omega) hj h3]
    split <;> rfl)
  rw [show A 3 - 1 + 1 = A 3 by omega] at h
  have y := innO_e hp s
  have e1 : cnt (inP (remA A p) s) (A 3 - 1) = inn (remA A p) s := by unfold inn; rw [rem_3]; rfl
  have e2 : cnt (inP A s) (A 3) = inn A s := rfl
  omega
theorem add_plc {A : Nat → Nat} {B a b : Nat} (w : WF A B) (hB : B < 2 ^ 29) (h3 : A 3 < 40) (ha : a < A 0) (hb : b < A 0) (hab : a ≠ b) : plc (addA A a b) (nI (A 1)) = some (A 3) := by
  have := plc_own (k := A 3) (add_WF w h3 ha hb hab) (by omega) (by rw [add_3]; omega)
  rwa [add_16] at this
theorem crt_ne {A : Nat → Nat} {B k : Nat} (w : WF A B) (hB : B < 2 ^ 30) (hk : k < A 3) (h0 : k ≠ 0) : nI (A (16 + k)) ≠ nI (A (16 + 0)) := fun q => by
  have e1 := plc_own w hB hk
  have e2 := plc_own w hB (show 0 < A 3 by omega)
  rw [q, e2] at e1
  exact h0 (Option.some.inj e1).symm
theorem f_isAhead {σ : cS} {A : Nat → Nat} {B a b Nf : Nat} (v : ST σ A B) (hB : B ≤ 1000) (h3 : A 3 < 40) (ha : a < A 0) (hb : b < A 0) (hab : a ≠ b) (hF : 300000 < Nf) : EX (fL_isAhead (lCt ()) Nf σ 107 (nI a) (nI b)) 5 (fun r => r.1 = 1 ∧ ST r.2 A (B + 13)) := by
  obtain ⟨g, w, pp, ga⟩ := ST_g v
  have w2 := w.2.1
  have l3 := lst_b (A := A) (f := inn A) (fun s => Nat.le_trans (inn_le w s) (by omega))
  obtain ⟨lw1, lw2⟩ := lst_with w a b
  have mv := bal_MV 19200 A 0 w
  have mv : MV A (balA A) (12 * 19200) := mv
  obtain ⟨z1, z2, z3, z4⟩ := ga
  -- the last part
  have e328 : ∀ σ', ST σ' A (B + 13) → EX (fL_isAhead_328 (lCt ()) Nf 107 (prA A) σ') 0 (fun r => r.1 = 1 ∧ ST r.2 A (B + 13)) := fun σ' v' => by
    obtain ⟨σ1, a1, a2⟩ := p_print (Nf := Nf) v' (by omega) (by omega)
    unfold fL_isAhead_328
    refine e_b a1 (e_t (lgc _) ?_)
    unfold fL_isAhead_342
    exact e_g (by decide) (e_r ⟨rfl, ST_RD v' a2⟩)
  have e277 : ∀ σ' x11, 0 < A 3 → ST σ' A (B + 13) → EX (fL_isAhead_277 (lCt ()) Nf 107 (prA A) x11 (nI (A (16 + 0))) (nI (lst A (innO A 0))) σ') 2 (fun r => r.1 = 1 ∧ ST r.2 A (B + 13)) := fun σ' x11 h0 v' => by
    have pl := plc_own w (by omega) h0
    obtain ⟨σ1, a1, a2⟩ := o_remove (Nf := Nf) v' pl (by omega)
    unfold fL_isAhead_277
    have hh := hd_lt w h0
    refine e_w a1 (e_f (fun q => absurd ((nI_ltI (a := hd A 0) (b := 0) (by omega) (by omega)).mp q) (by omega)) ?_)
    obtain ⟨σ2, c1, c2⟩ := r_least (Nf := Nf) (ST_NX a2) (by omega)
    refine e_b c1 (e_t ?_ ?_)
    · show nI (lst (remA A 0) (inn (remA A 0))) = nI (lst A (innO A 0))
      rw [lst_c (A := A) (f := innO A 0) (rem_lo (by omega) (by omega)) (inn_rem h0 w.2.2.1)]
    · obtain ⟨σ3, n, d1, d2, d3⟩ := u_back (Nf := Nf) (NX_RD a2 c2) (by omega)
      refine e_w d1 (e_f (fun q => absurd ((nI_ltI (a := n) (b := 0) (by omega) (by omega)).mp q) (by omega)) ?_)
      unfold fL_isAhead_307 fL_isAhead_309
      refine e_f (by decide) ?_
      refine e_i (r_value d3 (k := 1) (by omega) (by omega)) ?_
      refine e_t ((nI_ltI (a := 0) (b := A 3) (by omega) (by omega)).mpr h0) ?_
      exact e328 σ3 d3
  have e231 : ∀ σ', 0 < A 3 → ST σ' A (B + 13) → EX (fL_isAhead_231 (lCt ()) Nf 107 (prA A) (nI (lst A (inn A))) (nbI A (crt A)) (nI (A (16 + 0))) (nI (lst A (innO A 0))) σ') 2 (fun r => r.1 = 1 ∧ ST r.2 A (B + 13)) := fun σ' h0 v' => by
    obtain ⟨lo1, lo2⟩ := lst_wo w h0
    have l1 := lst_1 w h0
    have id0 := (w.2.2.2.2.1 0 h0).2.2.2.2
    have wB := w.2.2.2.1
    have tail : ∀ y, EX (fL_isAhead_255 (lCt ()) Nf 107 (prA A) (nI (lst A (inn A))) (nbI A (crt A)) (nI (A (16 + 0))) (nI (lst A (innO A 0))) y y σ') 2 (fun r => r.1 = 1 ∧ ST r.2 A (B + 13)) := fun y => by
      unfold fL_isAhead_255
      refine e_t rfl ?_
      cases ec : crt A with
      | none => exact e_t rfl (e277 σ' _ h0 v')
      | some k =>
        obtain ⟨k1, k2, k3⟩ := fnd_some _ _ _ ec
        have k3 := of_decide_eq_true k3
        obtain ⟨ko1, ko2⟩ := lst_wo w (k := k) (by omega)
        have idk := (w.2.2.2.2.1 k (by omega)).2.2.2.2
        refine e_f (nI_ne1 (k := A (16 + k)) (by omega)) ?_
        obtain ⟨σ2, c1, c2⟩ := r_leastWithout (Nf := Nf) v' (plc_own w (by omega) (show k < A 3 by omega)) (by omega)
        refine e_i c1 (e_t ?_ (e277 σ2 _ h0 (ST_RD v' c2)))
        show nI (lst A (innO A k)) = nI (lst A (inn A)) - nI 1
        rw [nI_sub (by omega)]
        congr 1
        omega
    unfold fL_isAhead_231
    by_cases q : lst A (innO A 0) < lst A (inn A)
    · have ec : crt A = some 0 := fnd_at (A 3) 0 (by omega) (by omega) (fun j h1 h2 => by omega) (decide_eq_true q)
      refine e_t (by rw [ec]; rfl) ?_
      unfold fL_isAhead_243
      refine e_f (fun z => absurd ((nI_leI (a := lst A (inn A)) (b := lst A (innO A 0)) (by omega) (by omega)).mp z) (by omega)) ?_
      exact tail 1
    · refine e_f ?_ ?_
      · cases ec : crt A with
        | none => exact fun z => nI_ne1 (k := A (16 + 0)) (by omega) z.symm
        | some k =>
          obtain ⟨k1, k2, k3⟩ := fnd_some _ _ _ ec
          refine crt_ne w (by omega) (by omega) (fun z => ?_)
          subst z
          exact q (of_decide_eq_true k3)
      · unfold fL_isAhead_243
        refine e_t ((nI_leI (a := lst A (inn A)) (b := lst A (innO A 0)) (by omega) (by omega)).mpr (by omega)) ?_
        exact tail 0
  have e179 : ∀ σ', ST σ' A (B + 13) → EX (fL_isAhead_179 (lCt ()) Nf 107 (prA A) (nI (lst A (inn A))) (1 : Int32) σ') 2 (fun r => r.1 = 1 ∧ ST r.2 A (B + 13)) := fun σ' v' => by
    obtain ⟨σ1, a1, a2⟩ := r_critical (Nf := Nf) v' (by omega)
    have v1 := ST_RD v' a2
    unfold fL_isAhead_179
    refine e_b a1 (e_f (by decide) ?_)
    refine e_i (r_value v1 (k := 1) (by omega) (by omega)) ?_
    by_cases h0 : A 3 = 0
    · refine e_t ((nI_leI (a := A 3) (b := 0) (by omega) (by omega)).mpr (by omega)) ?_
      unfold fL_isAhead_309
      refine e_f (by decide) ?_
      refine e_i (r_value v1 (k := 1) (by omega) (by omega)) ?_
      refine e_f (fun q => absurd ((nI_ltI (a := 0) (b := A 3) (by omega) (by omega)).mp q) (by omega)) ?_
      have ec : crt A = none := by unfold crt; rw [h0]; rfl
      refine e_t (by rw [ec]; rfl) ?_
      exact e_le (e328 σ1 v1) (by omega) (fun _ h => h)
    · have h0 : 0 < A 3 := by omega
      obtain ⟨lo1, lo2⟩ := lst_wo w h0
      have l1 := lst_1 w h0
      refine e_f (fun q => absurd ((nI_leI (a := A 3) (b := 0) (by omega) (by omega)).mp q) (by omega)) ?_
      refine e_i (r_edgeAt v1 h0) ?_
      obtain ⟨σ2, c1, c2⟩ := r_leastWithout (Nf := Nf) v1 (plc_own w (by omega) h0) (by omega)
      have v2 := ST_RD v1 c2
      refine e_i c1 ?_
      by_cases q : lst A (innO A 0) = lst A (inn A)
      · exact e_t (by rw [q]) (e231 σ2 h0 v2)
      · refine e_f (by rw [eq_n (by omega) (by omega)]; exact q) (e_t ?_ (e231 σ2 h0 v2))
        show nI (lst A (innO A 0)) = nI (lst A (inn A)) - nI 1
        rw [nI_sub (by omega)]
        congr 1
        omega
  have e103 : ∀ σ', ST σ' A (B + 12) → EX (fL_isAhead_103 (lCt ()) Nf 107 (prA A) (nI (lst A (inn A))) (nI (balA A 2) - nI (A 2)) (nI (A 2)) σ') 3 (fun r => r.1 = 1 ∧ ST r.2 A (B + 13)) := fun σ' v' => by
    obtain ⟨σ1, a1, a2⟩ := p_print (Nf := Nf) v' (by omega) (by omega)
    have v1 := ST_RD v' a2
    obtain ⟨σ2, n, b1', b2, b3, b4, b5, b6⟩ := o_balance v1 hF
    have v2 := ST_NX b3
    unfold fL_isAhead_103
    refine e_b a1 (e_t (lgc _) (e_b b1' (e_f (fun q => absurd ((nI_ltI (a := n) (b := 0) (by omega) (by omega)).mp q) (by omega)) ?_)))
    refine e_i (r_value v2 (k := 2) (by omega) (by omega)) (e_t ?_ ?_)
    · show nI (mx (ld (balA A)) (balA A 0)) = nI (lst A (inn A))
      rw [mx_lst b4 (balA_fin w), lst_c b5 b6]
    refine e_i (r_value v2 (k := 5) (by omega) (by omega)) (e_t ?_ ?_)
    · show nI (balA A 2) = nI (A 2) + (nI (balA A 2) - nI (A 2))
      rw [nI_sub mv.2.2.1, nI_add]
      congr 1
      have := mv.2.2.1
      omega
    obtain ⟨σ3, c1, c2⟩ := r_ttb v2 hF
    have v3 := ST_RD v2 c2
    refine e_b c1 (e_t ?_ ?_)
    · show nI (balA (balA A) 2) - nI (balA A 2) = 0
      rw [balA_id w, nI_sub (Nat.le_refl _), Nat.sub_self]; rfl
    obtain ⟨σ4, d1, d2⟩ := r_least (Nf := Nf) v3 (by omega)
    refine e_b d1 (e_t ?_ ?_)
    · show nI (lst (balA A) (inn (balA A))) = nI (lst A (inn A))
      rw [lst_c b5 b6]
    obtain ⟨σ5, m, k1, k2, k3⟩ := u_back (Nf := Nf) (NX_RD b3 (RD_tr c2 d2)) (by omega)
    refine e_w k1 (e_f (fun q => absurd ((nI_ltI (a := m) (b := 0) (by omega) (by omega)).mp q) (by omega)) ?_)
    obtain ⟨σ6, f1, f2⟩ := p_print (Nf := Nf) k3 (by omega) (by omega)
    exact e_b f1 (e_t (lgc _) (e179 σ6 (ST_RD k3 f2)))
  -- the first part
  obtain ⟨σ1, a1, a2⟩ := p_print (Nf := Nf) v (by omega) (by omega)
  have v1 := ST_RD v a2
  obtain ⟨σ2, b1', b2⟩ := r_least (Nf := Nf) v1 (by omega)
  have v2 := ST_RD v1 b2
  obtain ⟨σ3, c1, c2⟩ := r_leastWith (Nf := Nf) v2 ha hb hab (by omega)
  have v3 := ST_RD v2 c2
  obtain ⟨σ4, d1, d2⟩ := r_ttb v3 hF
  have v4 := ST_RD v3 d2
  unfold fL_isAhead fL_isAhead_0
  refine e_b a1 (e_b b1' (e_i c1 (e_b d1 ?_)))
  refine e_i (r_value v4 (k := 5) (by omega) (by omega)) ?_
  refine e_f (fun q => absurd ((nI_ltI (a := lst A (innW A a b)) (b := lst A (inn A)) (by omega) (by omega)).mp q) (by omega)) ?_
  refine e_f (fun q => absurd ((nI_ltI (a := lst A (inn A) + 1) (b := lst A (innW A a b)) (by omega) (by omega)).mp (by rw [← nI_add]; exact q)) (by omega)) ?_
  unfold fL_isAhead_53
  obtain ⟨σ5, k1, k2⟩ := o_add (Nf := Nf) v4 ha hb hab h3 (by omega)
  have wB := w.2.2.2.1
  refine e_w k1 (e_f (by decide) (e_f ?_ ?_))
  · exact nI_nx (by omega) (by decide)
  obtain ⟨σ6, f1, f2⟩ := r_least (Nf := Nf) (ST_NX k2) (by omega)
  have n6 := NX_RD k2 f2
  refine e_b f1 (e_t ?_ ?_)
  · show nI (lst (addA A a b) (inn (addA A a b))) = nI (lst A (innW A a b))
    rw [lst_c (A := A) (f := innW A a b) add_0 (inn_add h3)]
  obtain ⟨σ7, h1, h2⟩ := r_leastWithout (Nf := Nf) (ST_NX n6) (add_plc w (by omega) h3 ha hb hab) (by omega)
  refine e_i h1 (e_t ?_ ?_)
  · show nI (lst (addA A a b) (innO (addA A a b) (A 3))) = nI (lst A (inn A))
    rw [lst_c (A := A) (f := inn A) add_0 (inn_addO h3)]
  obtain ⟨σ8, n, m1, m2, m3⟩ := u_back (Nf := Nf) (NX_RD n6 h2) (by omega)
  refine e_w m1 (e_f (fun q => absurd ((nI_ltI (a := n) (b := 0) (by omega) (by omega)).mp q) (by omega)) ?_)
  exact e103 σ8 m3
