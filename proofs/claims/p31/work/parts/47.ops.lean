/-! ===== the orders, one by one: the class answers as the model does ===== -/
theorem inI_n {x : Int32} {a b : Nat} (ha : a < 2 ^ 31) (hb : b < 2 ^ 31) (h : inI x (nI a) (nI b) = true) : ∃ n, a ≤ n ∧ n ≤ b ∧ x = nI n := by
  have h2 := of_decide_eq_true h
  have h0 : ¬ x < 0 := fun q => h2.1 (by
    rw [Int32.lt_iff_toInt_lt] at q ⊢
    rw [nI_toInt ha]
    have : (0 : Int32).toInt = 0 := rfl
    omega)
  obtain ⟨j, hj, rfl⟩ := nI_of h0
  rw [lt_n hj ha, lt_n hb hj] at h2
  exact ⟨j, by omega, by omega, rfl⟩
theorem inI_y {n a b : Nat} (hn : n < 2 ^ 31) (ha : a < 2 ^ 31) (hb : b < 2 ^ 31) (h1 : a ≤ n) (h2 : n ≤ b) : inI (nI n) (nI a) (nI b) = true := by
  exact decide_eq_true ⟨fun q => by rw [lt_n hn ha] at q; omega, fun q => by rw [lt_n hb hn] at q; omega⟩
def S4 : Type := Int64 × cS × Int64 × cS
theorem inn_zr (n s : Nat) : inn (zrA n) s = 0 := rfl
theorem zr_WF {n B : Nat} (h1 : 2 ≤ n) (h2 : n ≤ 12) : WF (zrA n) B := by
  have e3 : zrA n 3 = 0 := rfl
  refine ⟨h1, h2, Nat.zero_le _, Nat.zero_le _, fun k hk => ?_, fun j k hj hk => ?_, fun v hv => ?_⟩
  · rw [e3] at hk; omega
  · rw [e3] at hk; omega
  · unfold zrA
    rw [if_neg (by omega), if_pos (by omega)]
    omega
theorem forget_e (σ : cS) : fX3_forget σ 97 = some (st2 σ 97 6 (nI 0)) := rfl
