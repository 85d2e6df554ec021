/-! ===== the densest set: the model's search ===== -/
theorem sb_int {a b : Nat} (ha : a < 1000) (hb : b < 1000) : (nI a - nI b).toInt = (a : Int) - (b : Int) := by
  rw [Int32.toInt_sub, nI_toInt (by omega), nI_toInt (by omega)]
  refine Int.bmod_eq_of_le ?_ ?_ <;> omega
theorem sb_pos {a b : Nat} (ha : a < 1000) (hb : b < 1000) : (0 < nI a - nI b) ↔ b < a := by
  rw [Int32.lt_iff_toInt_lt, sb_int ha hb]
  have : (0 : Int32).toInt = 0 := rfl
  omega
theorem sb_0 {a b : Nat} (ha : a < 1000) (hb : b < 1000) : (nI a - nI b = 0) ↔ a = b := by
  rw [← Int32.toInt_inj, sb_int ha hb]
  have : (0 : Int32).toInt = 0 := rfl
  omega
theorem dns_le {f : Nat → Nat} (hf : ∀ s, f s ≤ 41) : ∀ n, (dns f n).2.1 ≤ 41 ∧ (dns f n).2.2 ≤ 12 := by
  intro n
  induction n with
  | zero => exact ⟨Nat.zero_le 41, show 1 ≤ 12 by omega⟩
  | succ n ih =>
    simp only [dns, dst]
    split
    · exact ⟨hf _, pct_le _⟩
    · exact ih
theorem m_dns_loop {τ : cS} {A : Nat → Nat} {B Nf : Nat} {x1 x2 : Int32} {f : Nat → Nat} (h : MR τ A) (w : WF A B) (hf : ∀ s, f s ≤ 41) (hi : ∀ s, s < 4096 → fX7_innerOf (lMt ()) Nf τ 0 (nI s) x1 x2 = some (nI (f s))) (hF : 20 < Nf) : ∀ (d i n : Nat), i + 1 + d = 2 ^ A 0 → d < n → fX7_densestOf_11 (lMt ()) Nf τ 0 n x1 x2 (nI (dns f i).1) (nI (dns f i).2.1) (nI (dns f i).2.2) (nI (i + 1)) = some (nI (dns f (2 ^ A 0 - 1)).1) := by
  have w2 := w.2.1
  have hpw : 2 ^ A 0 ≤ 4096 := Nat.pow_le_pow_right (by omega) w2 (n := 2)
  have sv : ((1 : Int32) <<< (nI (A 0) &&& 31)) = nI (2 ^ A 0) := sh1 _ (by omega)
  have e0 : τ (0 + 1) (0 : Int32).toNatClampNeg = nI (A 0) := h 0 (by omega)
  have ib : inb (0 : Int32) (lMt () (0 + 1)) = true := rfl
  intro d
  induction d with
  | zero =>
    intro i n h1 hn
    obtain ⟨n, rfl⟩ : ∃ z, n = z + 1 := ⟨n - 1, by omega⟩
    unfold fX7_densestOf_11
    rw [ib, grd_t, e0, sv, if_pos ((nI_leI (by omega) (by omega)).mpr (by omega)), show 2 ^ A 0 - 1 = i by omega]
  | succ d ih =>
    intro i n h1 hn
    obtain ⟨n, rfl⟩ : ∃ z, n = z + 1 := ⟨n - 1, by omega⟩
    have h2 := ih (i + 1) n (by omega) (by omega)
    obtain ⟨d1, d2⟩ := dns_le hf i
    have d3 := hf (i + 1)
    have d4 := pct_le (i + 1)
    have p1 : f (i + 1) * (dns f i).2.2 ≤ 41 * 12 := Nat.mul_le_mul d3 d2
    have p2 : (dns f i).2.1 * pct (i + 1) ≤ 41 * 12 := Nat.mul_le_mul d1 d4
    simp only [dns, dst] at h2
    unfold fX7_densestOf_11
    rw [ib, grd_t, e0, sv, if_neg (fun q => absurd ((nI_leI (by omega) (by omega)).mp q) (by omega)), m_bits (by omega) hF, Option.bind_some, hi _ (by omega), Option.bind_some, nI_mul, nI_mul, bnd_e]
    unfold fX7_densestOf_71 fX7_densestOf_82
    rw [n1, nI_add, bnd_e, bnd_e]
    by_cases c1 : (dns f i).2.1 * pct (i + 1) < f (i + 1) * (dns f i).2.2
    · rw [if_pos ((sb_pos (by omega) (by omega)).mpr c1)]
      rw [if_pos (Or.inl c1)] at h2
      exact h2
    · rw [if_neg (fun q => c1 ((sb_pos (by omega) (by omega)).mp q))]
      by_cases c2 : f (i + 1) * (dns f i).2.2 = (dns f i).2.1 * pct (i + 1)
      · rw [if_pos ((sb_0 (by omega) (by omega)).mpr c2)]
        by_cases c3 : pct (i + 1) ≤ (dns f i).2.2
        · rw [if_pos ((nI_leI (by omega) (by omega)).mpr c3)]
          rw [if_neg (by omega)] at h2
          exact h2
        · rw [if_neg (fun q => c3 ((nI_leI (by omega) (by omega)).mp q))]
          rw [if_pos (Or.inr ⟨c2, by omega⟩)] at h2
          exact h2
      · rw [if_neg (fun q => c2 ((sb_0 (by omega) (by omega)).mp q))]
        rw [if_neg (by omega)] at h2
        exact h2
