/-! ===== densest, least, leastCapacity, density: answered alike ===== -/
theorem IV_lrn {σ τ σ' : cS} {A : Nat → Nat} {Hs : Nat → Nat → Nat} {q c len B : Nat} (hm : MR τ A) (hg : GR σ 0 A) (w : WF A B) (hh : HS σ τ Hs q c B) (ht : TX σ τ len) (t : TB σ' A) (k : σ' 97 6 = nI 1) (o : ∀ c, c ≠ 97 → c ≠ 98 → c ≠ 99 → c ≠ 100 + 1 → σ' c = σ c) (v : Int32) : IV σ' (st2 τ 0 7 v) (B + 100) := ⟨A, Hs, q, c, len, MR_out hm (by omega), GR_keep hg (fun x _ _ => o x (by omega) (by omega) (by omega) (by omega)), WF_up w (by omega), HS_keep hh (by omega) (fun x _ _ => o x (by omega) (by omega) (by omega) (by omega)) (o 105 (by omega) (by omega) (by omega) (by omega)) (st2_nj (by omega)) (st2_nj (by omega)) (st2_out (by omega)), TX_keep ht (o 102 (by omega) (by omega) (by omega) (by omega)) (o (102 + 1 + 1) (by omega) (by omega) (by omega) (by omega)) (st2_nj (by omega)) (st2_out (by omega)), Or.inr ⟨k, t⟩⟩
theorem m_densestOf {τ : cS} {A : Nat → Nat} {B Nf : Nat} {x1 x2 : Int32} {f : Nat → Nat} (h : MR τ A) (w : WF A B) (hf : ∀ s, f s ≤ 41) (hi : ∀ s, s < 4096 → fX7_innerOf (lMt ()) Nf τ 0 (nI s) x1 x2 = some (nI (f s))) (hF : 5000 < Nf) : fX7_densestOf (lMt ()) Nf τ 0 x1 x2 = some (nI (dns f (2 ^ A 0 - 1)).1) := by
  have w2 := w.2.1
  have hpw : 2 ^ A 0 ≤ 4096 := Nat.pow_le_pow_right (by omega) w2 (n := 2)
  have hp1 : 1 ≤ 2 ^ A 0 := Nat.one_le_two_pow
  unfold fX7_densestOf fX7_densestOf_0
  exact m_dns_loop h w hf hi (by omega) (2 ^ A 0 - 1) 0 Nf (by omega) (by omega)
theorem m_leastOf {τ : cS} {A : Nat → Nat} {B Nf : Nat} {x1 x2 : Int32} {f : Nat → Nat} (h : MR τ A) (w : WF A B) (hf : ∀ s, f s ≤ 41) (hi : ∀ s, s < 4096 → fX7_innerOf (lMt ()) Nf τ 0 (nI s) x1 x2 = some (nI (f s))) (hF : 5000 < Nf) : fX7_leastOf (lMt ()) Nf τ 0 x1 x2 = some (nI (rup (f (dns f (2 ^ A 0 - 1)).1) (pct (dns f (2 ^ A 0 - 1)).1))) := by
  have w2 := w.2.1
  have hpw : 2 ^ A 0 ≤ 4096 := Nat.pow_le_pow_right (by omega) w2 (n := 2)
  obtain ⟨b1', b2⟩ := dns_lt w f
  have h1 := pct_pos (s := (dns f (2 ^ A 0 - 1)).1) (by omega) (by omega)
  have h2 := pct_le (dns f (2 ^ A 0 - 1)).1
  have h3 := hf (dns f (2 ^ A 0 - 1)).1
  unfold fX7_leastOf fX7_leastOf_0
  rw [m_densestOf h w hf hi hF, Option.bind_some, m_bits (by omega) (by omega), Option.bind_some, hi _ (by omega), Option.bind_some, nz_n (by omega) (by omega), grd_t, nI_add, n1, nI_sub (by omega), nI_dv (by omega) (by omega) (by omega)]
  rfl
theorem m_inner00 {τ : cS} {A : Nat → Nat} {B Nf : Nat} (h : MR τ A) (w : WF A B) (hF : 5000 < Nf) (v : Int32) : ∀ s, s < 4096 → fX7_innerOf (lMt ()) Nf (st2 τ 0 7 v) 0 (nI s) (-1 : Int32) (0 : Int32) = some (nI (inn A s)) := fun s hs => m_innerOf (MR_out h (by omega)) w hs (by omega)
theorem op_densest {σ τ : cS} {B Nf : Nat} (hf : 5000 < Nf) (x1 x2 x3 : Int32) (h hm0 : Int64) (iv : IV σ τ B) : ∃ r, gL_c14 Nf x1 x2 x3 h σ hm0 τ = some r ∧ PI4 B r := by
  obtain ⟨A, Hs, q, c, len, hm, hg, w, hh, ht, hp⟩ := iv
  obtain ⟨σ', g1, g2, g3, g4⟩ := c_learn (Nf := Nf) w hf hg hp
  unfold gL_c14
  refine bind_x (a := (nI (dns (inn A) (2 ^ A 0 - 1)).1, σ')) ?_ ?_
  · unfold fX6_densest fX6_densest_0
    rw [g1, Option.bind_some, g2.2.2.1]
  refine bind_x (a := (nI (dns (inn A) (2 ^ A 0 - 1)).1, st2 τ 0 7 (nI 0))) ?_ ?_
  · unfold fX7_densest fX7_densest_0
    rw [bnd_e, m_densestOf (MR_out hm (by omega)) w (fun s => Nat.le_trans (inn_le w s) (by omega)) (m_inner00 hm w hf _) hf]
    rfl
  exact grd_x (decide_eq_true rfl) (some_x (IV_lrn hm hg w hh ht g2 g3 (fun c h1 h2 _ h4 => g4 c h1 h2 h4) _))
theorem op_least {σ τ : cS} {B Nf : Nat} (hf : 5000 < Nf) (x1 x2 x3 : Int32) (h hm0 : Int64) (iv : IV σ τ B) : ∃ r, gL_c15 Nf x1 x2 x3 h σ hm0 τ = some r ∧ PI4 B r := by
  obtain ⟨A, Hs, q, c, len, hm, hg, w, hh, ht, hp⟩ := iv
  obtain ⟨σ', g1, g2, g3, g4⟩ := c_learn (Nf := Nf) w hf hg hp
  unfold gL_c15
  refine bind_x (a := (nI (rup (inn A (dns (inn A) (2 ^ A 0 - 1)).1) (pct (dns (inn A) (2 ^ A 0 - 1)).1)), σ')) ?_ ?_
  · unfold fX6_least fX6_least_0
    rw [g1, Option.bind_some, g2.2.2.2]
  refine bind_x (a := (nI (rup (inn A (dns (inn A) (2 ^ A 0 - 1)).1) (pct (dns (inn A) (2 ^ A 0 - 1)).1)), st2 τ 0 7 (nI 0))) ?_ ?_
  · unfold fX7_least fX7_least_0
    rw [bnd_e, m_leastOf (MR_out hm (by omega)) w (fun s => Nat.le_trans (inn_le w s) (by omega)) (m_inner00 hm w hf _) hf]
    rfl
  exact grd_x (decide_eq_true rfl) (some_x (IV_lrn hm hg w hh ht g2 g3 (fun c h1 h2 _ h4 => g4 c h1 h2 h4) _))
theorem op_leastCap {σ τ : cS} {B Nf : Nat} (hf : 5000 < Nf) (x1 x2 x3 : Int32) (h hm0 : Int64) (iv : IV σ τ B) : ∃ r, gL_c21 Nf x1 x2 x3 h σ hm0 τ = some r ∧ PI4 B r := by
  obtain ⟨A, Hs, q, c, len, hm, hg, w, hh, ht, hp⟩ := iv
  obtain ⟨σ', g1, g2, g3, g4⟩ := c_learn (Nf := Nf) w hf hg hp
  unfold gL_c21
  refine bind_x (a := (nI (rup (inn A (dns (inn A) (2 ^ A 0 - 1)).1) (pct (dns (inn A) (2 ^ A 0 - 1)).1)), σ')) ?_ ?_
  · unfold fX6_leastCapacity fX6_leastCapacity_0
    rw [g1, Option.bind_some, g2.2.2.2]
  refine bind_x (a := (nI (rup (inn A (dns (inn A) (2 ^ A 0 - 1)).1) (pct (dns (inn A) (2 ^ A 0 - 1)).1)), st2 τ 0 7 (nI 0))) ?_ ?_
  · unfold fX7_leastCapacity fX7_leastCapacity_0 fX7_least fX7_least_0
    rw [bnd_e, m_leastOf (MR_out hm (by omega)) w (fun s => Nat.le_trans (inn_le w s) (by omega)) (m_inner00 hm w hf _) hf]
    rfl
  exact grd_x (decide_eq_true rfl) (some_x (IV_lrn hm hg w hh ht g2 g3 (fun c h1 h2 _ h4 => g4 c h1 h2 h4) _))
theorem fp0 : ∀ a, a < 41 → ∀ b, b < 13 → b = 0 ∨ (n64b (FP.ddiv (FP.i2d (nI a)) (FP.i2d (nI b))) = true ∧ Op.cmpValue (FP.dcmp (FP.ddiv (FP.i2d (nI a)) (FP.i2d (nI b))) (FP.ddiv (FP.i2d (nI a)) (FP.i2d (nI b)))) .l = 0) := by decide +kernel
theorem op_density {σ τ : cS} {B Nf : Nat} (hf : 5000 < Nf) (x1 x2 x3 : Int32) (h hm0 : Int64) (iv : IV σ τ B) : ∃ r, gL_c22 Nf x1 x2 x3 h σ hm0 τ = some r ∧ PI4 B r := by
  obtain ⟨A, Hs, q, c, len, hm, hg, w, hh, ht, hp⟩ := iv
  obtain ⟨σ', g1, g2, g3, g4⟩ := c_learn (Nf := Nf) w hf hg hp
  have w2 := w.2.1
  have hpw : 2 ^ A 0 ≤ 4096 := Nat.pow_le_pow_right (by omega) w2 (n := 2)
  obtain ⟨b1', b2⟩ := dns_lt w (inn A)
  have h1 := pct_pos (s := (dns (inn A) (2 ^ A 0 - 1)).1) (by omega) (by omega)
  have h2 := pct_le (dns (inn A) (2 ^ A 0 - 1)).1
  have h3 := inn_le w (dns (inn A) (2 ^ A 0 - 1)).1
  obtain ⟨f1, f2⟩ := (fp0 (inn A (dns (inn A) (2 ^ A 0 - 1)).1) (by omega) (pct (dns (inn A) (2 ^ A 0 - 1)).1) (by omega)).resolve_left (by omega)
  unfold gL_c22
  refine bind_x (a := (FP.ddiv (FP.i2d (nI (inn A (dns (inn A) (2 ^ A 0 - 1)).1))) (FP.i2d (nI (pct (dns (inn A) (2 ^ A 0 - 1)).1))), σ')) ?_ ?_
  · unfold fX6_density fX6_density_0
    rw [g1, Option.bind_some, g2.2.2.1, c_bitCount (by omega), Option.bind_some, n1, if_pos ((nI_leI (by omega) (by omega)).mpr h1), c_within LG_0 (GR_keep hg (fun c _ _ => g4 c (by omega) (by omega) (by omega))) w (by omega) (by omega), Option.bind_some, f1, grd_t]
  refine bind_x (a := (FP.ddiv (FP.i2d (nI (inn A (dns (inn A) (2 ^ A 0 - 1)).1))) (FP.i2d (nI (pct (dns (inn A) (2 ^ A 0 - 1)).1))), st2 τ 0 7 (nI 0))) ?_ ?_
  · unfold fX7_density fX7_density_0
    rw [bnd_e, m_densestOf (MR_out hm (by omega)) w (fun s => Nat.le_trans (inn_le w s) (by omega)) (m_inner00 hm w hf _) hf, Option.bind_some, m_inner00 hm w hf _ _ (by omega), Option.bind_some, m_bits (by omega) (by omega), Option.bind_some, f1, grd_t]
    rfl
  exact grd_x (decide_eq_true f2) (some_x (IV_lrn hm hg w hh ht g2 g3 (fun c h1 h2 _ h4 => g4 c h1 h2 h4) _))
