/-! ===== counting the nodes of a set: both sides ===== -/
theorem bc0 : ∀ a, a < 64 → ∀ b, b < 64 → fJ6_bitCount_0f7a4 (fun _ _ => 0) (nI (64 * a + b)) = some (nI (pct (64 * a + b))) := by decide +kernel
theorem c_bitCount {σ : cS} {s : Nat} (hs : s < 4096) : fJ6_bitCount_0f7a4 σ (nI s) = some (nI (pct s)) := by
  have h := bc0 (s / 64) (by omega) (s % 64) (Nat.mod_lt _ (by omega))
  rw [show 64 * (s / 64) + s % 64 = s from Nat.div_add_mod s 64] at h
  exact h
theorem lb0 : ∀ a, a < 64 → ∀ b, b < 64 → 64 * a + b = 0 ∨ ((nI (64 * a + b) &&& (nI (64 * a + b) - nI 1)) = nI ((64 * a + b) &&& (64 * a + b - 1)) ∧ pct ((64 * a + b) &&& (64 * a + b - 1)) + 1 = pct (64 * a + b) ∧ ((64 * a + b) &&& (64 * a + b - 1)) < 4096) := by decide +kernel
theorem low_bit {s : Nat} (hs : s < 4096) (h0 : s ≠ 0) : (nI s &&& (nI s - nI 1)) = nI (s &&& (s - 1)) ∧ pct (s &&& (s - 1)) + 1 = pct s ∧ (s &&& (s - 1)) < 4096 := by
  have h := lb0 (s / 64) (by omega) (s % 64) (Nat.mod_lt _ (by omega))
  rw [show 64 * (s / 64) + s % 64 = s from Nat.div_add_mod s 64] at h
  exact h.resolve_left h0
theorem pct_le (s : Nat) : pct s ≤ 12 := cnt_le _ _
theorem pct_0 : pct 0 = 0 := by decide
theorem m_bits_loop {τ : cS} {Nf : Nat} : ∀ (k s c n : Nat), pct s = k → s < 4096 → k < n → fX7_bits_4 Nf τ n (nI c) (nI s) = some (nI (c + k)) := by
  intro k
  induction k with
  | zero =>
    intro s c n h hs hn
    obtain ⟨n, rfl⟩ : ∃ z, n = z + 1 := ⟨n - 1, by omega⟩
    have : s = 0 := Classical.byContradiction fun q => by have := (low_bit hs q).2.1; omega
    subst this
    unfold fX7_bits_4
    rw [if_pos (show nI 0 = 0 from rfl)]; rfl
  | succ k ih =>
    intro s c n h hs hn
    obtain ⟨n, rfl⟩ : ∃ z, n = z + 1 := ⟨n - 1, by omega⟩
    have h0 : s ≠ 0 := by rintro rfl; rw [pct_0] at h; omega
    obtain ⟨l1, l2, l3⟩ := low_bit hs h0
    unfold fX7_bits_4
    rw [if_neg (show ¬ nI s = 0 from fun q => h0 ((nI_eq (b := 0) (by omega) (by omega)).mp q)), n1, l1, nI_add, bnd_e, bnd_e, ih _ (c + 1) n (by omega) l3 (by omega), show c + 1 + k = c + (k + 1) by omega]
theorem m_bits {τ : cS} {s Nf : Nat} (hs : s < 4096) (hf : 20 < Nf) : fX7_bits Nf τ (nI s) = some (nI (pct s)) := by
  have := pct_le s
  unfold fX7_bits fX7_bits_0
  rw [n0, m_bits_loop (pct s) s 0 Nf rfl hs (by omega), Nat.zero_add]
