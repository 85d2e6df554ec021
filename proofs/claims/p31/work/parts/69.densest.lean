/-! ===== the densest set: the model's search ===== -/
theorem sb_int {a b : Nat} (ha : a < 1000) (hb : b < 1000) : (nI a - nI b).toInt = (a : Int) - (b : Int) := by
  rw [Int32.toInt_sub, nI_toInt (by omega), nI_toInt (by omega)]
  refine Int.bmod_eq_of_le ?_ ?_ <;> omega
theorem sb_pos {a b : Nat} (ha : a < 1000) (hb : b < 1000) : (0 < nI a - nI b) ↔ b < a := by
  rw [Int32.lt_iff_toInt_lt, sb_int ha hb]
  have : (0 : Int32).toInt = 0 := rfl
  omega
theorem sb_0 {a b : Nat} (ha : a < 1000) (hb : b < 1000) : (nI a - nI b = 0) ↔ a = b := by
  rw [← Int32.toInt_inj, sb_int ha hb]
  have : (0 : Int32).toInt = 0 := rfl
  omega
theorem dns_le {f : Nat → Nat} (hf : ∀ s, f s ≤ 41) : ∀ n, (dns f n).2.1 ≤ 41 ∧ (dns f n).2.2 ≤ 12 := by
  intro n
  induction n with
  | zero => exact ⟨Nat.zero_le 41, show 1 ≤ 12 by omega⟩
  | succ n ih =>
    simp only [dns, dst]
    split
    · exact ⟨hf _, pct_le _⟩
    · exact ih
