/-! ===== inner, answered alike ===== -/
theorem set_in {x : Int32} {N : Nat} (hN : N ≤ 12) (hx : ¬ x ≤ 0) (hx2 : x < nI (2 ^ N)) : inI x (nI 1) (nI (2 ^ N - 1)) = true := by
  have hp : 2 ^ N ≤ 4096 := Nat.pow_le_pow_right (by omega) hN (n := 2)
  have h1 : inI x (nI 0) (nI 4096) = true := by
    unfold inI
    rw [Int32.lt_iff_toInt_lt, nI_toInt (by omega)] at hx2
    rw [Int32.le_iff_toInt_le] at hx
    have z : (0 : Int32).toInt = 0 := rfl
    simp only [Int32.lt_iff_toInt_lt, nI_toInt (n := 0) (by omega), nI_toInt (n := 4096) (by omega)]
    have a1 : ¬ x.toInt < ((0 : Nat) : Int) := by omega
    have a2 : ¬ ((4096 : Nat) : Int) < x.toInt := by omega
    simp [a1, a2]
    try omega
  obtain ⟨n, n1, n2, rfl⟩ := inI_n (by omega) (by omega) h1
  refine inI_y (by omega) (by omega) (by omega) ?_ ?_
  · refine Classical.byContradiction fun q => hx ((nI_leI (b := 0) (by omega) (by omega)).mpr (by omega))
  · have := (nI_ltI (by omega) (by omega)).mp hx2
    omega
theorem op_inner {σ τ : cS} {B Nf : Nat} (hf : 1000 < Nf) (x1 x2 x3 : Int32) (h hm0 : Int64) (iv : IV σ τ B) : ∃ r, gL_c13 Nf x1 x2 x3 h σ hm0 τ = some r ∧ PI4 B r := by
  have iv0 := iv
  obtain ⟨A, Hs, q, c, len, hm, hg, w, hh, ht, hp⟩ := iv
  have w2 := w.2.1
  have hpw : 2 ^ A 0 ≤ 4096 := Nat.pow_le_pow_right (by omega) w2 (n := 2)
  have hp1 : 1 ≤ 2 ^ A 0 := Nat.one_le_two_pow
  have sv : ((1 : Int32) <<< (nI (A 0) &&& 31)) = nI (2 ^ A 0) := sh1 _ (by omega)
  have em : fX7_inner (lMt ()) Nf τ 0 x1 = if inI x1 (nI 1) (nI (2 ^ A 0 - 1)) = true then fX7_inner_24 (lMt ()) Nf 0 x1 (nI 0) τ else fX7_inner_24 (lMt ()) Nf 0 x1 (nI 1) τ := by
    unfold fX7_inner fX7_inner_0
    rw [show inb (0 : Int32) (lMt () (0 + 1)) = true from rfl, grd_t, show τ (0 + 1) (0 : Int32).toNatClampNeg = nI (A 0) from hm 0 (by omega), sv, n1, nI_sub hp1, m_in, Option.bind_some, n0]
    cases inI x1 (nI 1) (nI (2 ^ A 0 - 1)) <;> rfl
  unfold gL_c13
  cases h2 : inI x1 (nI 1) (nI (2 ^ A 0 - 1)) with
  | false =>
    rw [h2] at em
    refine try_no (k := 1) (σ' := σ) (h := h) (v := 0) (τ' := st2 τ 0 7 (nI 1)) (by omega) (by omega) ?_ ?_ st2_ss (IV_code iv0 _)
    · unfold fL_inner fX6_inner fX6_inner_0
      rw [hg.1, sv]
      by_cases z1 : x1 ≤ 0
      · rw [if_pos z1]; rfl
      · rw [if_neg z1]
        by_cases z2 : x1 < nI (2 ^ A 0)
        · rw [set_in w2 z1 z2] at h2; cases h2
        · rw [if_neg z2]; rfl
    · rw [em, if_neg (by decide)]
      unfold fX7_inner_24
      rw [n0, mref_1]; rfl
  | true =>
    rw [h2, if_pos rfl] at em
    obtain ⟨n, a1, a2, rfl⟩ := inI_n (by omega) (by omega) h2
    refine try_ok (v := nI (inn A n)) (σ' := σ) (τ' := st2 τ 0 7 (nI 0)) ?_ ?_ st2_ss (IV_code iv0 _)
    · unfold fL_inner fX6_inner fX6_inner_0
      rw [hg.1, sv, if_neg (show ¬ nI n ≤ 0 from fun q => absurd ((nI_leI (a := n) (b := 0) (by omega) (by omega)).mp q) (by omega)), if_pos ((nI_ltI (by omega) (by omega)).mpr (by omega)), c_within LG_0 hg w (by omega) (by omega)]
      rfl
    · rw [em]
      unfold fX7_inner_24
      rw [n0, mref_0]
      simp only [Option.bind_some]
      rw [if_pos trivial, ← n0, m_innerOf (MR_out hm (by omega)) w (by omega) (by omega)]
      rfl
