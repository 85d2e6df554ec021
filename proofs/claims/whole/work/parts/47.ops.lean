/-! ===== the orders, one by one: the class answers as the model does ===== -/
theorem inI_n {x : Int32} {a b : Nat} (ha : a < 2 ^ 31) (hb : b < 2 ^ 31) (h : inI x (nI a) (nI b) = true) : ∃ n, a ≤ n ∧ n ≤ b ∧ x = nI n := by
  have h2 := of_decide_eq_true h
  have h0 : ¬ x < 0 := fun q => h2.1 (by
    rw [Int32.lt_iff_toInt_lt] at q ⊢
    rw [nI_toInt ha]
    have : (0 : Int32).toInt = 0 := rfl
    omega)
  obtain ⟨j, hj, rfl⟩ := nI_of h0
  rw [lt_n hj ha, lt_n hb hj] at h2
  exact ⟨j, by omega, by omega, rfl⟩
theorem inI_y {n a b : Nat} (hn : n < 2 ^ 31) (ha : a < 2 ^ 31) (hb : b < 2 ^ 31) (h1 : a ≤ n) (h2 : n ≤ b) : inI (nI n) (nI a) (nI b) = true := by
  exact decide_eq_true ⟨fun q => by rw [lt_n hn ha] at q; omega, fun q => by rw [lt_n hb hn] at q; omega⟩
theorem mref_1 (τ : cS) (b c : Int32) : fX7_refuses τ 0 (nI 1) b c = some (nI 1, st2 τ 0 7 (nI 1)) := by
  unfold fX7_refuses fX7_refuses_0 fX7_refuses_26 fX7_refuses_41
  simp (disch := omega) only [grd_t, bnd_e, n0, n1, n2, n3, n4, n5, n6, n7, n8, n9, n10, n11, n12, n16, n20, n31, n40, n48, n56, n57, n61, n96, n97, n98, n99, n100, n108, n114, n116, n120, n127, n128, n136, n176, n215, n216, n255, n864, n999, n4096, n1000000, inb_n, nI_clamp, le_n, lt_n, eq_n, nI_add, Option.bind_some, Option.bind, reduceIte, st2_ss, isb1]
  rfl
theorem mref_2 (τ : cS) (c : Int32) : fX7_refuses τ 0 (nI 0) (nI 1) c = some (nI 1, st2 τ 0 7 (nI 2)) := by
  unfold fX7_refuses fX7_refuses_0 fX7_refuses_26 fX7_refuses_41
  simp (disch := omega) only [grd_t, bnd_e, n0, n1, n2, n3, n4, n5, n6, n7, n8, n9, n10, n11, n12, n16, n20, n31, n40, n48, n56, n57, n61, n96, n97, n98, n99, n100, n108, n114, n116, n120, n127, n128, n136, n176, n215, n216, n255, n864, n999, n4096, n1000000, inb_n, nI_clamp, le_n, lt_n, eq_n, nI_add, Option.bind_some, Option.bind, reduceIte, st2_ss, isb1]
  rfl
theorem mref_3 (τ : cS) : fX7_refuses τ 0 (nI 0) (nI 0) (nI 1) = some (nI 1, st2 τ 0 7 (nI 3)) := by
  unfold fX7_refuses fX7_refuses_0 fX7_refuses_26 fX7_refuses_41
  simp (disch := omega) only [grd_t, bnd_e, n0, n1, n2, n3, n4, n5, n6, n7, n8, n9, n10, n11, n12, n16, n20, n31, n40, n48, n56, n57, n61, n96, n97, n98, n99, n100, n108, n114, n116, n120, n127, n128, n136, n176, n215, n216, n255, n864, n999, n4096, n1000000, inb_n, nI_clamp, le_n, lt_n, eq_n, nI_add, Option.bind_some, Option.bind, reduceIte, st2_ss, isb1]
  rfl
theorem mref_0 (τ : cS) : fX7_refuses τ 0 (nI 0) (nI 0) (nI 0) = some (nI 0, st2 τ 0 7 (nI 0)) := by
  unfold fX7_refuses fX7_refuses_0 fX7_refuses_26 fX7_refuses_41
  simp (disch := omega) only [grd_t, bnd_e, n0, n1, n2, n3, n4, n5, n6, n7, n8, n9, n10, n11, n12, n16, n20, n31, n40, n48, n56, n57, n61, n96, n97, n98, n99, n100, n108, n114, n116, n120, n127, n128, n136, n176, n215, n216, n255, n864, n999, n4096, n1000000, inb_n, nI_clamp, le_n, lt_n, eq_n, nI_add, Option.bind_some, Option.bind, reduceIte, st2_ss, isb0]
def S4 : Type := Int64 × cS × Int64 × cS
theorem try_ok {Ec : Option (Int32 × Int64 × cS)} {Em : Option (Int32 × cS)} {v : Int32} {σ' τ' : cS} {hm : Int64} {P : Int64 × cS × Int64 × cS → Prop} (ec : Ec = some (nI 0, v.toInt64, σ')) (em : Em = some (v, τ')) (e7 : τ' 0 7 = nI 0) (p : P (v.toInt64, σ', hm, τ')) : ∃ r, Ec.bind (fun r1 => Em.bind (fun r2 => (fX7_thrown r2.2 0).bind (fun r3 => grd (decide (r3 = r1.1)) (if r1.1 = 0 then grd (decide (r1.2.1 = (r2.1).toInt64)) (some (r1.2.1, r1.2.2, hm, r2.2)) else some (r1.2.1, r1.2.2, hm, r2.2))))) = some r ∧ P r := by
  refine bind_x ec ?_
  refine bind_x em ?_
  refine bind_x (a := nI 0) (by show some (τ' 0 7) = _; rw [e7]) ?_
  refine grd_x (decide_eq_true rfl) ?_
  rw [if_pos (show (nI 0 : Int32) = 0 from rfl)]
  exact grd_x (decide_eq_true rfl) (some_x p)
theorem try_no {Ec : Option (Int32 × Int64 × cS)} {Em : Option (Int32 × cS)} {h hm : Int64} {v : Int32} {k : Nat} {σ' τ' : cS} {P : Int64 × cS × Int64 × cS → Prop} (hk : 0 < k) (hk2 : k < 9) (ec : Ec = some (nI k, h, σ')) (em : Em = some (v, τ')) (e7 : τ' 0 7 = nI k) (p : P (h, σ', hm, τ')) : ∃ r, Ec.bind (fun r1 => Em.bind (fun r2 => (fX7_thrown r2.2 0).bind (fun r3 => grd (decide (r3 = r1.1)) (if r1.1 = 0 then grd (decide (r1.2.1 = (r2.1).toInt64)) (some (r1.2.1, r1.2.2, hm, r2.2)) else some (r1.2.1, r1.2.2, hm, r2.2))))) = some r ∧ P r := by
  refine bind_x ec ?_
  refine bind_x em ?_
  refine bind_x (a := nI k) (by show some (τ' 0 7) = _; rw [e7]) ?_
  refine grd_x (decide_eq_true rfl) ?_
  rw [if_neg (show ¬ (nI k : Int32) = 0 from nI_ne0 hk (by omega))]
  exact some_x p
theorem IV_code {σ τ : cS} {B : Nat} (h : IV σ τ B) (v : Int32) : IV σ (st2 τ 0 7 v) (B + 100) := by
  obtain ⟨A, Hs, q, c, len, hm, hg, w, hh, ht, hp⟩ := h
  exact ⟨A, Hs, q, c, len, MR_out hm (by omega), hg, WF_up w (by omega), HS_keep hh (by omega) (fun _ _ _ => rfl) rfl (st2_nj (by omega)) (st2_nj (by omega)) (st2_out (by omega)), TX_keep ht rfl rfl (st2_nj (by omega)) (st2_out (by omega)), hp⟩
abbrev PI4 (B : Nat) : Int64 × cS × Int64 × cS → Prop := fun r => IV r.2.1 r.2.2.2 (B + 100)
theorem inn_zr (n s : Nat) : inn (zrA n) s = 0 := rfl
theorem zr_WF {n B : Nat} (h1 : 2 ≤ n) (h2 : n ≤ 12) : WF (zrA n) B := by
  have e3 : zrA n 3 = 0 := rfl
  refine ⟨h1, h2, Nat.zero_le _, Nat.zero_le _, fun k hk => ?_, fun j k hj hk => ?_, fun v hv => ?_⟩
  · rw [e3] at hk; omega
  · rw [e3] at hk; omega
  · unfold zrA
    rw [if_neg (by omega), if_pos (by omega)]
    omega
/-- the invariant behind a change of the graph that was saved ahead -/
theorem IV_new {σ τ : cS} {A : Nat → Nat} {Hs : Nat → Nat → Nat} {q c len B B' : Nat} (hm : MR τ A) (hg : GR σ 0 A) (w : WF A B') (hh : HS σ τ Hs q c B) (ht : TX σ τ len) (hp : PT σ A) (hB : B ≤ B') : IV σ τ B' := ⟨A, Hs, q, c, len, hm, hg, w, HS_keep hh hB (fun _ _ _ => rfl) rfl rfl rfl rfl, ht, hp⟩
theorem forget_e (σ : cS) : fX3_forget σ 97 = some (st2 σ 97 6 (nI 0)) := rfl
theorem op_begin {σ τ : cS} {B Nf : Nat} (hf : 1000 < Nf) (x1 x2 x3 : Int32) (h hm0 : Int64) (iv : IV σ τ B) : ∃ r, gL_c0 Nf x1 x2 x3 h σ hm0 τ = some r ∧ PI4 B r := by
  have iv0 := iv
  obtain ⟨A, Hs, q, c, len, hm, hg, w, hh, ht, hp⟩ := iv
  unfold gL_c0
  by_cases hb : inI x1 (nI 2) (nI 12) = true
  · obtain ⟨n, h1, h2, rfl⟩ := inI_n (by omega) (by omega) hb
    have hh1 : HS σ (st2 τ 0 7 (nI 0)) Hs q c B := HS_keep hh (Nat.le_refl _) (fun _ _ _ => rfl) rfl (st2_nj (by omega)) (st2_nj (by omega)) (st2_out (by omega))
    obtain ⟨σ1, τ1, k1, k2, k3, k4, ⟨Hs1, q1, c1, k5⟩, k6, k7, k8⟩ := both_save (MR_out hm (by omega)) hg w hh1 (show 216 < Nf by omega)
    obtain ⟨σ2, r1, r2, r3⟩ := c_restart (σ := σ1) (n := n) LG_0 (show 40 < Nf by omega)
    obtain ⟨τ2, s1, s2, s3⟩ := m_begins (τ := τ1) (v := n) (show 300 < Nf by omega)
    have ec : fX6_begin (lCt ()) Nf σ 107 (nI n) = some (.inl (nI (A 3), st2 σ2 97 6 (nI 0))) := by
      unfold fX6_begin fX6_begin_0
      simp (disch := omega) only [grd_t, n0, n1, n2, n3, n4, n5, n6, n7, n8, n9, n10, n11, n12, n16, n20, n31, n40, n48, n56, n57, n61, n96, n97, n98, n99, n100, n108, n114, n116, n120, n127, n128, n136, n176, n215, n216, n255, n864, n999, n4096, n1000000, inb_n, nI_clamp, le_n, lt_n, eq_n, nI_add, nI_mul]
      rw [if_neg (by omega), if_pos (by omega), bnd_e, k1, hg.2.1]
      show (fX0_restart (lCt ()) Nf σ1 0 (nI n)).bind _ = _
      rw [r1]
      rfl
    have em : fX7_begin (lMt ()) Nf τ 0 (nI n) = some (nI (A 3), τ2) := by
      unfold fX7_begin fX7_begin_0
      rw [m_in, n2, n12, hb, Option.bind_some, if_neg (by decide)]
      unfold fX7_begin_16
      rw [show fX7_refuses τ 0 0 0 0 = _ from mref_0 τ]
      simp only [Option.bind_some]
      rw [if_pos (show (nI 0 : Int32) = 0 from rfl), k2]
      simp only [Option.bind_some]
      rw [show τ1 (0 + 1) (3 : Int32).toNatClampNeg = nI (A 3) from k3 3 (by omega), show inb 3 (lMt () (0 + 1)) = true by decide, grd_t, bnd_e, s1]
      rfl
    refine try_ok (v := nI (A 3)) (σ' := st2 σ2 97 6 (nI 0)) (by unfold fL_begin; rw [ec]; rfl) em ?_ ?_
    · rw [s3 0 (by omega), k7 7 (by omega) (by omega), st2_ss]
    · have keep : ∀ x, 15 ≤ x → x < 30 ∨ 90 ≤ x → x ≠ 105 → x ≠ 97 → st2 σ2 97 6 (nI 0) x = σ x := fun x hx hx2 hx3 hx4 => by
        rw [st2_out hx4, r3 x (by omega), k6 x (by omega) hx3]
      show IV (st2 σ2 97 6 (nI 0)) τ2 (B + 100)
      refine IV_new (B := B) s2 ?_ (zr_WF h1 h2) (Hs := Hs1) (q := q1) (c := c1) ?_ (len := len) ?_ (Or.inl st2_ss) (by omega)
      · exact GR_keep r2 (fun x hx hx2 => st2_out (by omega))
      · exact HS_keep k5 (Nat.le_refl _) (fun x hx hx2 => by rw [st2_out (by omega), r3 x (by omega)]) (by rw [st2_out (by omega), r3 105 (by omega)]) (by rw [s3 0 (by omega)]) (by rw [s3 0 (by omega)]) (s3 3 (by omega))
      · refine TX_keep ht (keep 102 (by omega) (by omega) (by omega) (by omega)) (keep (102 + 1 + 1) (by omega) (by omega) (by omega) (by omega)) ?_ ?_
        · rw [s3 0 (by omega), k7 6 (by omega) (by omega), st2_nj (by omega)]
        · rw [s3 4 (by omega), k8 4 (by omega) (by omega), st2_out (by omega)]
  · have ec : fX6_begin (lCt ()) Nf σ 107 x1 = some (.inr (1, σ)) := by
      unfold fX6_begin fX6_begin_0 fX6_begin_11
      by_cases h1 : x1 < 2
      · rw [if_pos h1]
      · rw [if_neg h1]
        have h2 : ¬ x1 ≤ 12 := fun q => hb (decide_eq_true ⟨h1, Int32.not_lt.mpr q⟩)
        rw [if_neg h2]
    have em : fX7_begin (lMt ()) Nf τ 0 x1 = some (nI 0, st2 τ 0 7 (nI 1)) := by
      unfold fX7_begin fX7_begin_0
      have hb2 : inI x1 (nI 2) (nI 12) = false := by simpa using hb
      rw [m_in, n2, n12, hb2, Option.bind_some, if_pos (by decide)]
      unfold fX7_begin_16
      rw [show fX7_refuses τ 0 1 0 0 = _ from mref_1 τ 0 0]
      simp only [Option.bind_some]
      rw [if_neg (by decide)]
      rfl
    exact try_no (k := 1) (by omega) (by omega) (by unfold fL_begin; rw [ec]; rfl) em st2_ss (IV_code iv0 _)
