/-! the class's search -/
theorem dns_1 (f : Nat → Nat) : ∀ n, 1 ≤ (dns f n).1 ∧ (dns f n).1 ≤ n + 1 := by
  intro n
  induction n with
  | zero => exact ⟨Nat.le_refl 1, Nat.le_refl 1⟩
  | succ n ih =>
    simp only [dns, dst]
    split
    · exact ⟨Nat.le_add_left 1 n, Nat.le_succ _⟩
    · exact ⟨ih.1, Nat.le_trans ih.2 (Nat.le_succ _)⟩
theorem c_dns_loop {σ : cS} {A : Nat → Nat} {B Nf : Nat} {x1 x2 : Int32} {f : Nat → Nat} (h3 : σ 97 3 = nI (2 ^ A 0)) (w : WF A B) (hf : ∀ s, f s ≤ 41) (hi : ∀ s, s < 2 ^ A 0 → fX3_innerWith (lCt ()) σ 97 (nI s) x1 x2 = some (nI (f s))) : ∀ (d i n : Nat), i + 1 + d = 2 ^ A 0 → d < n → fX3_densestWith_11 (lCt ()) Nf σ 97 n x1 x2 (nI (dns f i).1) (nI (dns f i).2.1) (nI (dns f i).2.2) (nI (i + 1)) = some (nI (dns f (2 ^ A 0 - 1)).1) := by
  have w2 := w.2.1
  have hpw : 2 ^ A 0 ≤ 4096 := Nat.pow_le_pow_right (by omega) w2 (n := 2)
  intro d
  induction d with
  | zero =>
    intro i n h1 hn
    obtain ⟨n, rfl⟩ : ∃ z, n = z + 1 := ⟨n - 1, by omega⟩
    unfold fX3_densestWith_11
    rw [h3, if_pos ((nI_leI (by omega) (by omega)).mpr (by omega)), show 2 ^ A 0 - 1 = i by omega]
  | succ d ih =>
    intro i n h1 hn
    obtain ⟨n, rfl⟩ : ∃ z, n = z + 1 := ⟨n - 1, by omega⟩
    have h2 := ih (i + 1) n (by omega) (by omega)
    obtain ⟨d1, d2⟩ := dns_le hf i
    have d3 := hf (i + 1)
    have d5 := dns_1 f i
    have d4 := pct_le (i + 1)
    have p1 : f (i + 1) * (dns f i).2.2 ≤ 41 * 12 := Nat.mul_le_mul d3 d2
    have p2 : (dns f i).2.1 * pct (i + 1) ≤ 41 * 12 := Nat.mul_le_mul d1 d4
    simp only [dns, dst] at h2
    unfold fX3_densestWith_11
    rw [h3, if_neg (fun q => absurd ((nI_leI (by omega) (by omega)).mp q) (by omega)), hi _ (by omega), Option.bind_some, c_bitCount (by omega), Option.bind_some, nI_mul, nI_mul, bnd_e, if_neg (show ¬ nI (dns f i).1 = 0 from fun q => absurd ((nI_eq (b := 0) (by omega) (by omega)).mp q) (by omega))]
    unfold fX3_densestWith_71 fX3_densestWith_82
    rw [n1, nI_add, bnd_e, bnd_e]
    by_cases c1 : (dns f i).2.1 * pct (i + 1) < f (i + 1) * (dns f i).2.2
    · rw [if_pos ((sb_pos (by omega) (by omega)).mpr c1)]
      rw [if_pos (Or.inl c1)] at h2
      exact h2
    · rw [if_neg (fun q => c1 ((sb_pos (by omega) (by omega)).mp q))]
      by_cases c2 : f (i + 1) * (dns f i).2.2 = (dns f i).2.1 * pct (i + 1)
      · rw [if_pos ((sb_0 (by omega) (by omega)).mpr c2)]
        by_cases c3 : pct (i + 1) ≤ (dns f i).2.2
        · rw [if_pos ((nI_leI (by omega) (by omega)).mpr c3)]
          rw [if_neg (by omega)] at h2
          exact h2
        · rw [if_neg (fun q => c3 ((nI_leI (by omega) (by omega)).mp q))]
          rw [if_pos (Or.inr ⟨c2, by omega⟩)] at h2
          exact h2
      · rw [if_neg (fun q => c2 ((sb_0 (by omega) (by omega)).mp q))]
        rw [if_neg (by omega)] at h2
        exact h2
