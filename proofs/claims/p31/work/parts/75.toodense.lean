/-! ===== tooDense, answered alike ===== -/
def tds (g h : Nat → Nat) : Nat → Int32 × Nat
  | 0 => ((-1 : Int32), 0)
  | n + 1 => if h (n + 1) + (tds g h n).2 < g (n + 1) then (nI (n + 1), g (n + 1) - h (n + 1)) else tds g h n
theorem tds_le {g h : Nat → Nat} (hg : ∀ s, g s ≤ 40) : ∀ n, (tds g h n).2 ≤ 40 := by
  intro n
  induction n with
  | zero => exact Nat.zero_le _
  | succ n ih =>
    rw [tds]
    split
    · exact Nat.le_trans (Nat.sub_le _ _) (hg _)
    · exact ih
theorem sb_le {a b m : Nat} (ha : a < 1000) (hb : b < 1000) (hm : m < 1000) : (nI a - nI b ≤ nI m) ↔ a ≤ b + m := by
  rw [Int32.le_iff_toInt_le, sb_int ha hb, nI_toInt (by omega)]
  omega
theorem sm_le {W : Nat → Nat} {s n : Nat} (h : ∀ v, v < n → W v ≤ 40) : sm W s n ≤ 40 * n := by
  induction n with
  | zero => exact Nat.le_refl _
  | succ n ih =>
    have h1 := ih (fun v hv => h v (by omega))
    have h2 := h n (by omega)
    simp only [sm]
    split <;> omega
def cps (A : Nat → Nat) (s : Nat) : Nat := sm (fun v => A (4 + v)) s (A 0)
theorem cps_le {A : Nat → Nat} {B : Nat} (w : WF A B) (s : Nat) : cps A s ≤ 480 := by
  have w2 := w.2.1
  have := sm_le (W := fun v => A (4 + v)) (s := s) (n := A 0) (fun v hv => w.2.2.2.2.2.2 v (by omega))
  unfold cps
  omega
theorem c_full_loop {σ : cS} {A : Nat → Nat} {B Nf : Nat} {g h : Nat → Nat} (h3 : σ 97 3 = nI (2 ^ A 0)) (w : WF A B) (hg : ∀ s, s < 2 ^ A 0 → σ (97 + 1) s = nI (g s)) (hh : ∀ s, s < 2 ^ A 0 → σ (97 + 2) s = nI (h s)) (lg : ∀ s, g s ≤ 40) (lh : ∀ s, h s ≤ 480) : ∀ (d i n : Nat), i + 1 + d = 2 ^ A 0 → d < n → fX3_mostOverfull_18 (lCt ()) Nf 97 13 n (tds g h i).1 (nI (tds g h i).2) (nI (i + 1)) σ = some ((tds g h (2 ^ A 0 - 1)).1, σ) := by
  have w2 := w.2.1
  have hpw : 2 ^ A 0 ≤ 4096 := Nat.pow_le_pow_right (by omega) w2 (n := 2)
  intro d
  induction d with
  | zero =>
    intro i n h1 hn
    obtain ⟨n, rfl⟩ : ∃ z, n = z + 1 := ⟨n - 1, by omega⟩
    unfold fX3_mostOverfull_18 fX3_mostOverfull_84
    rw [h3, if_pos ((nI_leI (by omega) (by omega)).mpr (by omega)), show 2 ^ A 0 - 1 = i by omega]
  | succ d ih =>
    intro i n h1 hn
    obtain ⟨n, rfl⟩ : ∃ z, n = z + 1 := ⟨n - 1, by omega⟩
    have h2 := ih (i + 1) n (by omega) (by omega)
    have t1 := tds_le (h := h) lg i
    have t2 := lg (i + 1)
    have t3 := lh (i + 1)
    unfold fX3_mostOverfull_18
    rw [h3, if_neg (fun q => absurd ((nI_leI (by omega) (by omega)).mp q) (by omega)), lt98, show lCt () (97 + 2) = 4096 from rfl, ofNat_n, if_neg (fun q => absurd ((nI_leI (by omega) (by omega)).mp q) (by omega)), if_neg (fun q => absurd ((nI_leI (by omega) (by omega)).mp q) (by omega)), inb_n (by omega) (by omega), grd_t, grd_t, nI_clamp (by omega), hg (i + 1) (by omega), hh (i + 1) (by omega), bnd_e]
    unfold fX3_mostOverfull_78
    rw [n1, nI_add, bnd_e, bnd_e]
    rw [tds] at h2
    by_cases e : h (i + 1) + (tds g h i).2 < g (i + 1)
    · rw [if_neg (fun q => absurd ((sb_le (by omega) (by omega) (by omega)).mp q) (by omega)), nI_sub (by omega)]
      rw [if_pos e] at h2
      exact h2
    · rw [if_pos ((sb_le (by omega) (by omega) (by omega)).mpr (by omega))]
      rw [if_neg e] at h2
      exact h2
theorem sb_sb (x : Int32) (p q : Nat) : x - nI p - nI q = x - nI (p + q) := by
  rw [← nI_add]
  simp only [Int32.sub_eq_add_neg, Int32.neg_add, Int32.add_assoc]
