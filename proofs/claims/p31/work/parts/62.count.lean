/-! ===== counting the nodes of a set: both sides ===== -/
theorem bc0 : ∀ a, a < 64 → ∀ b, b < 64 → fJ6_bitCount_0f7a4 (fun _ _ => 0) (nI (64 * a + b)) = some (nI (pct (64 * a + b))) := by decide +kernel
theorem c_bitCount {σ : cS} {s : Nat} (hs : s < 4096) : fJ6_bitCount_0f7a4 σ (nI s) = some (nI (pct s)) := by
  have h := bc0 (s / 64) (by omega) (s % 64) (Nat.mod_lt _ (by omega))
  rw [show 64 * (s / 64) + s % 64 = s from Nat.div_add_mod s 64] at h
  exact h
theorem lb0 : ∀ a, a < 64 → ∀ b, b < 64 → 64 * a + b = 0 ∨ ((nI (64 * a + b) &&& (nI (64 * a + b) - nI 1)) = nI ((64 * a + b) &&& (64 * a + b - 1)) ∧ pct ((64 * a + b) &&& (64 * a + b - 1)) + 1 = pct (64 * a + b) ∧ ((64 * a + b) &&& (64 * a + b - 1)) < 4096) := by decide +kernel
theorem low_bit {s : Nat} (hs : s < 4096) (h0 : s ≠ 0) : (nI s &&& (nI s - nI 1)) = nI (s &&& (s - 1)) ∧ pct (s &&& (s - 1)) + 1 = pct s ∧ (s &&& (s - 1)) < 4096 := by
  have h := lb0 (s / 64) (by omega) (s % 64) (Nat.mod_lt _ (by omega))
  rw [show 64 * (s / 64) + s % 64 = s from Nat.div_add_mod s 64] at h
  exact h.resolve_left h0
theorem pct_le (s : Nat) : pct s ≤ 12 := cnt_le _ _
theorem pct_0 : pct 0 = 0 := by decide
