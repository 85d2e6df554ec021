/-! ===== the table of all sets: sums over a set's nodes ===== -/
def sm (W : Nat → Nat) (s : Nat) : Nat → Nat
  | 0 => 0
  | n + 1 => sm W s n + (if s.testBit n = true then W n else 0)
theorem sm_ext {W : Nat → Nat} {s t n : Nat} (h : ∀ v, v < n → s.testBit v = t.testBit v) : sm W s n = sm W t n := by
  induction n with
  | zero => rfl
  | succ n ih => simp only [sm]; rw [ih (fun v hv => h v (by omega)), h n (by omega)]
theorem sm_W {W V : Nat → Nat} {s n : Nat} (h : ∀ v, v < n → W v = V v) : sm W s n = sm V s n := by
  induction n with
  | zero => rfl
  | succ n ih => simp only [sm]; rw [ih (fun v hv => h v (by omega)), h n (by omega)]
theorem sm_0 (s n : Nat) : sm (fun _ => 0) s n = 0 := by
  induction n with
  | zero => rfl
  | succ n ih => simp only [sm]; rw [ih]; split <;> rfl
theorem sm_add (W V : Nat → Nat) (s n : Nat) : sm (fun u => W u + V u) s n = sm W s n + sm V s n := by
  induction n with
  | zero => rfl
  | succ n ih => simp only [sm]; rw [ih]; split <;> omega
theorem sm_one (b s n : Nat) : sm (fun u => if u = b then 1 else 0) s n = if b < n ∧ s.testBit b = true then 1 else 0 := by
  induction n with
  | zero => simp only [sm]; rw [if_neg (by omega)]
  | succ n ih =>
    simp only [sm]
    rw [ih]
    by_cases e : n = b
    · subst e
      rw [if_neg (by omega), if_pos rfl]
      by_cases e2 : s.testBit n = true
      · rw [if_pos e2, if_pos ⟨by omega, e2⟩]
      · rw [if_neg e2, if_neg (fun q => e2 q.2)]
    · rw [if_neg e]
      by_cases e2 : b < n ∧ s.testBit b = true
      · rw [if_pos e2, if_pos (show b < n + 1 ∧ s.testBit b = true from ⟨by omega, e2.2⟩)]; split <;> rfl
      · rw [if_neg e2, if_neg (show ¬ (b < n + 1 ∧ s.testBit b = true) from fun q => e2 ⟨by omega, q.2⟩)]; split <;> rfl
theorem tb_hi {s n : Nat} (hs : s < 2 ^ n) (v : Nat) : (2 ^ n + s).testBit v = if v = n then true else s.testBit v := by
  by_cases e : v = n
  · subst e
    rw [if_pos rfl, Nat.testBit_two_pow_add_eq, Nat.testBit_lt_two_pow hs]; rfl
  · rw [if_neg e]
    by_cases e2 : v < n
    · exact Nat.testBit_two_pow_add_gt e2 s
    · have h1 : 2 ^ (n + 1) ≤ 2 ^ v := Nat.pow_le_pow_right (by omega) (by omega)
      have h2 : 2 ^ (n + 1) = 2 ^ n + 2 ^ n := by rw [Nat.pow_succ]; omega
      rw [Nat.testBit_lt_two_pow (show 2 ^ n + s < 2 ^ v by omega), Nat.testBit_lt_two_pow (show s < 2 ^ v by omega)]
def jnP (A : Nat → Nat) (v u k : Nat) : Bool := (A (56 + k) == v && A (96 + k) == u) || (A (96 + k) == v && A (56 + k) == u)
theorem jn_step {A : Nat → Nat} {s v k : Nat} (hs : s < 2 ^ v) (hne : A (56 + k) ≠ A (96 + k)) : b1 (inP A (2 ^ v + s) k) = b1 (inP A s k) + sm (fun u => b1 (jnP A v u k)) s v := by
  have e0 : s.testBit v = false := Nat.testBit_lt_two_pow hs
  unfold inP
  rw [tb_hi hs, tb_hi hs]
  by_cases e1 : A (56 + k) = v
  · have e2 : A (96 + k) ≠ v := fun q => hne (e1.trans q.symm)
    rw [if_pos e1, if_neg e2, e1, e0, Bool.true_and, Bool.false_and]
    rw [sm_W (V := fun u => if u = A (96 + k) then 1 else 0) (fun u hu => by
      unfold b1 jnP
      by_cases q : u = A (96 + k)
      · rw [if_pos q, if_pos (by simp [e1, q])]
      · rw [if_neg q, if_neg (by simp [e1, e2, Ne.symm q])]), sm_one]
    unfold b1
    by_cases q : s.testBit (A (96 + k)) = true
    · have hlt : A (96 + k) < v := by
        refine Classical.byContradiction fun z => ?_
        have h1 : 2 ^ v ≤ 2 ^ A (96 + k) := Nat.pow_le_pow_right (by omega) (by omega)
        rw [Nat.testBit_lt_two_pow (show s < 2 ^ A (96 + k) by omega)] at q
        cases q
      rw [if_pos q, if_pos (show A (96 + k) < v ∧ s.testBit (A (96 + k)) = true from ⟨hlt, q⟩)]; rfl
    · rw [if_neg q, if_neg (show ¬ (A (96 + k) < v ∧ s.testBit (A (96 + k)) = true) from fun z => q z.2)]; rfl
  · by_cases e2 : A (96 + k) = v
    · rw [if_neg e1, if_pos e2, e2, e0, Bool.and_true, Bool.and_false]
      rw [sm_W (V := fun u => if u = A (56 + k) then 1 else 0) (fun u hu => by
        unfold b1 jnP
        by_cases q : u = A (56 + k)
        · rw [if_pos q, if_pos (by simp [e2, q])]
        · rw [if_neg q, if_neg (by simp [e1, e2, Ne.symm q])]), sm_one]
      unfold b1
      by_cases q : s.testBit (A (56 + k)) = true
      · have hlt : A (56 + k) < v := by
          refine Classical.byContradiction fun z => ?_
          have h1 : 2 ^ v ≤ 2 ^ A (56 + k) := Nat.pow_le_pow_right (by omega) (by omega)
          rw [Nat.testBit_lt_two_pow (show s < 2 ^ A (56 + k) by omega)] at q
          cases q
        rw [if_pos q, if_pos (show A (56 + k) < v ∧ s.testBit (A (56 + k)) = true from ⟨hlt, q⟩)]; rfl
      · rw [if_neg q, if_neg (show ¬ (A (56 + k) < v ∧ s.testBit (A (56 + k)) = true) from fun z => q z.2)]; rfl
    · rw [if_neg e1, if_neg e2, sm_W (V := fun _ => 0) (fun u hu => by
        unfold b1 jnP
        rw [if_neg (by simp [e1, e2])]), sm_0]; rfl
theorem inn_hi {A : Nat → Nat} {s v m : Nat} (hs : s < 2 ^ v) (hne : ∀ k, k < m → A (56 + k) ≠ A (96 + k)) : cnt (inP A (2 ^ v + s)) m = cnt (inP A s) m + sm (fun u => cnt (jnP A v u) m) s v := by
  induction m with
  | zero => simp only [cnt]; rw [sm_0]
  | succ m ih =>
    have h1 := ih (fun k hk => hne k (by omega))
    have h2 := jn_step hs (hne m (by omega))
    simp only [cnt]
    rw [sm_add, h1]
    unfold b1 at h2
    omega
/-! what the class writes -/
theorem c_sums_in {k0 k2 Nf fr wr : Nat} {x3 x5 x6 : Int32} {self : Int32 → Int32 → Int32 → Int32 → cS → Option cS} {f : Nat → Int32} (hN : lCt () k0 = 4096) (hfr : fr + 2 * wr ≤ 4096) : ∀ (d j n : Nat) (σ : cS), j + d = wr → d < n → (∀ b, fr + wr + j ≤ b → b < fr + 2 * wr → f b = σ k0 (b - wr) + x6) → fX3_writeSums_45 (lCt ()) Nf k0 k2 self n (nI fr) x3 (nI wr) x5 x6 (nI j) σ = self (nI fr) x3 (nI (wr * 2)) (x5 + 1) (rowF σ k0 (fr + wr + j) (fr + 2 * wr) f) := by
  intro d
  induction d with
  | zero =>
    intro j n σ h1 hn hf
    obtain ⟨n, rfl⟩ : ∃ z, n = z + 1 := ⟨n - 1, by omega⟩
    unfold fX3_writeSums_45 fX3_writeSums_88
    rw [if_pos ((nI_leI (by omega) (by omega)).mpr (by omega)), n2, nI_mul, bnd_e, bnd_e, show fr + wr + j = fr + 2 * wr by omega, rowF_nil]
  | succ d ih =>
    intro j n σ h1 hn hf
    obtain ⟨n, rfl⟩ : ∃ z, n = z + 1 := ⟨n - 1, by omega⟩
    unfold fX3_writeSums_45
    rw [hN, ofNat_n, nI_add, nI_add, nI_add, if_neg (fun q => absurd ((nI_leI (by omega) (by omega)).mp q) (by omega)), if_neg (fun q => absurd ((nI_leI (by omega) (by omega)).mp q) (by omega)), inb_n (by omega) (by omega), grd_t, inb_n (by omega) (by omega), grd_t, nI_clamp (by omega), nI_clamp (by omega), n1, nI_add, bnd_e, bnd_e]
    have e : σ k0 (fr + j) + x6 = f (fr + wr + j) := by
      rw [hf (fr + wr + j) (by omega) (by omega), show fr + wr + j - wr = fr + j by omega]
    rw [e, ih (j + 1) n _ (by omega) (by omega) (fun b hb hb2 => by rw [st2_nj (by omega)]; exact hf b (by omega) hb2), show fr + wr + (j + 1) = fr + wr + j + 1 by omega, rowF_st _ _ _ _ f (by omega)]
    rfl
theorem c_sums_out {k0 k2 Nf fr nd : Nat} {W : Nat → Nat} (hk : k2 + 1 ≠ k0) (hN : lCt () k0 = 4096) (hM : lCt () (k2 + 1) = 12) (hnd : nd ≤ 12) (hfr : fr + 2 ^ nd ≤ 4096) (hF : 5000 < Nf) : ∀ (d i n : Nat) (σ : cS), i + d = nd → d < n → (∀ v, v < 12 → σ (k2 + 1) v = nI (W v)) → (∀ s, s < 2 ^ i → σ k0 (fr + s) = nI (sm W s i)) → ∃ σ', fX3_writeSums_21 (lCt ()) Nf k0 k2 n (nI fr) (nI nd) (nI (2 ^ i)) (nI i) σ = some σ' ∧ (∀ s, s < 2 ^ nd → σ' k0 (fr + s) = nI (sm W s nd)) ∧ (∀ c, c ≠ k0 → σ' c = σ c) ∧ ∀ b, b < fr → σ' k0 b = σ k0 b := by
  intro d
  induction d with
  | zero =>
    intro i n σ h1 hn hW hs
    obtain ⟨n, rfl⟩ : ∃ z, n = z + 1 := ⟨n - 1, by omega⟩
    unfold fX3_writeSums_21 fX3_writeSums_100
    rw [if_pos ((nI_leI (by omega) (by omega)).mpr (by omega))]
    have e : i = nd := by omega
    subst e
    exact some_x ⟨hs, fun _ _ => rfl, fun _ _ => rfl⟩
  | succ d ih =>
    intro i n σ h1 hn hW hs
    obtain ⟨n, rfl⟩ : ∃ z, n = z + 1 := ⟨n - 1, by omega⟩
    have hp : 2 ^ (i + 1) ≤ 2 ^ nd := Nat.pow_le_pow_right (by omega) (by omega)
    have hp2 : 2 ^ (i + 1) = 2 * 2 ^ i := by rw [Nat.pow_succ, Nat.mul_comm]
    have hp1 : 1 ≤ 2 ^ i := Nat.one_le_two_pow
    unfold fX3_writeSums_21
    rw [if_neg (fun q => absurd ((nI_leI (by omega) (by omega)).mp q) (by omega)), n12, if_neg (fun q => absurd ((nI_leI (by omega) (by omega)).mp q) (by omega)), row_get hM (by omega) (by omega), Option.bind_some, hW i (by omega), n0]
    rw [c_sums_in (f := fun b => σ k0 (b - 2 ^ i) + nI (W i)) hN (by omega) (2 ^ i) 0 Nf σ (by omega) (by omega) (fun b _ _ => rfl)]
    rw [show 2 ^ i * 2 = 2 ^ (i + 1) by omega, n1, nI_add]
    generalize q1 : rowF σ k0 (fr + 2 ^ i + 0) (fr + 2 * 2 ^ i) (fun b => σ k0 (b - 2 ^ i) + nI (W i)) = s1
    have o1 : ∀ c, c ≠ k0 → s1 c = σ c := fun c hc => by rw [← q1]; funext b; exact rowF_nk hc
    have lo : ∀ b, b < fr + 2 ^ i → s1 k0 b = σ k0 b := fun b hb => by
      rw [← q1]; unfold rowF; rw [if_neg (by omega)]
    obtain ⟨σ', g1, g2, g3, g4⟩ := ih (i + 1) n s1 (by omega) (by omega) (fun v hv => by rw [o1 _ hk]; exact hW v hv) (fun s h => by
      simp only [sm]
      by_cases e : s < 2 ^ i
      · rw [lo _ (by omega), hs s e, Nat.testBit_lt_two_pow e, if_neg (by decide)]; rfl
      · obtain ⟨t, rfl⟩ : ∃ t, s = 2 ^ i + t := ⟨s - 2 ^ i, by omega⟩
        have ht : t < 2 ^ i := by omega
        rw [tb_hi ht, if_pos rfl, if_pos rfl, sm_ext (W := W) (s := 2 ^ i + t) (t := t) (n := i) (fun v hv => by rw [tb_hi ht, if_neg (by omega)]), ← nI_add, ← hs t ht, ← q1, rowF_in (by omega) (by omega)]
        congr 2
        omega)
    exact ⟨σ', g1, g2, fun c hc => by rw [g3 c hc, o1 c hc], fun b hb => by rw [g4 b hb, lo b (by omega)]⟩
theorem c_sums {k0 k2 Nf fr nd : Nat} {W : Nat → Nat} {σ : cS} (hk : k2 + 1 ≠ k0) (hN : lCt () k0 = 4096) (hM : lCt () (k2 + 1) = 12) (hnd : nd ≤ 12) (hfr : fr + 2 ^ nd ≤ 4096) (hF : 5000 < Nf) (hW : ∀ v, v < 12 → σ (k2 + 1) v = nI (W v)) : ∃ σ', fX3_writeSums (lCt ()) Nf σ k0 k2 (nI fr) (nI nd) = some σ' ∧ (∀ s, s < 2 ^ nd → σ' k0 (fr + s) = nI (sm W s nd)) ∧ (∀ c, c ≠ k0 → σ' c = σ c) ∧ ∀ b, b < fr → σ' k0 b = σ k0 b := by
  have hp1 : 1 ≤ 2 ^ nd := Nat.one_le_two_pow
  unfold fX3_writeSums fX3_writeSums_0
  rw [hN, ofNat_n, n0, if_neg (fun q => absurd ((nI_ltI (by omega) (by omega)).mp q) (by omega)), if_pos ((nI_ltI (by omega) (by omega)).mpr (by omega)), inb_n (by omega) (by omega), grd_t, nI_clamp (by omega), bnd_e, n1]
  generalize q1 : st2 σ k0 fr (nI 0) = s1
  obtain ⟨σ', g1, g2, g3, g4⟩ := c_sums_out (W := W) hk hN hM hnd hfr hF nd 0 Nf s1 (by omega) (by omega) (fun v hv => by rw [← q1, st2_nk hk]; exact hW v hv) (fun s h => by
    have : s = 0 := by omega
    subst this
    rw [← q1]; exact st2_ss)
  exact ⟨σ', g1, g2, fun c hc => by rw [g3 c hc, ← q1, st2_out hc], fun b hb => by rw [g4 b hb, ← q1, st2_nj (by omega)]⟩
