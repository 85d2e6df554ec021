/-! ===== inner, answered alike ===== -/
theorem set_in {x : Int32} {N : Nat} (hN : N ≤ 12) (hx : ¬ x ≤ 0) (hx2 : x < nI (2 ^ N)) : inI x (nI 1) (nI (2 ^ N - 1)) = true := by
  have hp : 2 ^ N ≤ 4096 := Nat.pow_le_pow_right (by omega) hN (n := 2)
  have h1 : inI x (nI 0) (nI 4096) = true := by
    unfold inI
    rw [Int32.lt_iff_toInt_lt, nI_toInt (by omega)] at hx2
    rw [Int32.le_iff_toInt_le] at hx
    have z : (0 : Int32).toInt = 0 := rfl
    simp only [Int32.lt_iff_toInt_lt, nI_toInt (n := 0) (by omega), nI_toInt (n := 4096) (by omega)]
    have a1 : ¬ x.toInt < ((0 : Nat) : Int) := by omega
    have a2 : ¬ ((4096 : Nat) : Int) < x.toInt := by omega
    simp [a1, a2]
    try omega
  obtain ⟨n, n1, n2, rfl⟩ := inI_n (by omega) (by omega) h1
  refine inI_y (by omega) (by omega) (by omega) ?_ ?_
  · refine Classical.byContradiction fun q => hx ((nI_leI (b := 0) (by omega) (by omega)).mpr (by omega))
  · have := (nI_ltI (by omega) (by omega)).mp hx2
    omega
