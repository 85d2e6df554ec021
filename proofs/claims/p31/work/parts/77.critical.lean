/-! ===== critical, answered alike: what the densest set is ===== -/
theorem dns_max {f : Nat → Nat} : ∀ n, n < 4096 → (dns f n).2.2 = pct (dns f n).1 ∧ 1 ≤ (dns f n).2.2 ∧ (1 ≤ n → (dns f n).2.1 = f (dns f n).1) ∧ ∀ s, 1 ≤ s → s ≤ n → f s * (dns f n).2.2 ≤ (dns f n).2.1 * pct s := by
  intro n
  induction n with
  | zero => exact fun _ => ⟨show 1 = pct 1 by decide, Nat.le_refl 1, fun h => absurd h (by omega), fun s h1 h2 => absurd h1 (by omega)⟩
  | succ n ih =>
    intro hn
    obtain ⟨i1, i2, i3, i4⟩ := ih (by omega)
    have hp1 := pct_pos hn (by omega)
    rw [dns, dst]
    by_cases c : (dns f n).2.1 * pct (n + 1) < f (n + 1) * (dns f n).2.2 ∨ (f (n + 1) * (dns f n).2.2 = (dns f n).2.1 * pct (n + 1) ∧ (dns f n).2.2 < pct (n + 1))
    · rw [if_pos c]
      refine ⟨rfl, hp1, fun _ => rfl, fun s h1 h2 => ?_⟩
      show f s * pct (n + 1) ≤ f (n + 1) * pct s
      by_cases e : s = n + 1
      · subst e; exact Nat.le_refl _
      · have i := i4 s h1 (by omega)
        have c' : (dns f n).2.1 * pct (n + 1) ≤ f (n + 1) * (dns f n).2.2 := by
          rcases c with c | c
          · exact Nat.le_of_lt c
          · exact Nat.le_of_eq c.1.symm
        refine Nat.le_of_mul_le_mul_right (c := (dns f n).2.2) ?_ i2
        calc f s * pct (n + 1) * (dns f n).2.2 = f s * (dns f n).2.2 * pct (n + 1) := Nat.mul_right_comm ..
          _ ≤ (dns f n).2.1 * pct s * pct (n + 1) := Nat.mul_le_mul_right _ i
          _ = (dns f n).2.1 * pct (n + 1) * pct s := Nat.mul_right_comm ..
          _ ≤ f (n + 1) * (dns f n).2.2 * pct s := Nat.mul_le_mul_right _ c'
          _ = f (n + 1) * pct s * (dns f n).2.2 := Nat.mul_right_comm ..
    · rw [if_neg c]
      refine ⟨i1, i2, fun _ => ?_, fun s h1 h2 => ?_⟩
      · by_cases e : n = 0
        · subst e
          have p1 : pct 1 = 1 := by decide
          have c' : ¬ (0 * pct 1 < f 1 * 1 ∨ (f 1 * 1 = 0 * pct 1 ∧ 1 < pct 1)) := c
          rw [p1] at c'
          show 0 = f 1
          omega
        · exact i3 (by omega)
      · by_cases e : s = n + 1
        · subst e
          refine Classical.byContradiction fun q => c (Or.inl (by omega))
        · exact i4 s h1 (by omega)
theorem rup_le {a b l : Nat} (hb : 1 ≤ b) : rup a b ≤ l ↔ a ≤ l * b := by
  unfold rup
  rw [← Nat.lt_succ_iff, Nat.div_lt_iff_lt_mul (by omega), Nat.succ_mul]
  omega
def lst (A : Nat → Nat) (f : Nat → Nat) : Nat := rup (f (dns f (2 ^ A 0 - 1)).1) (pct (dns f (2 ^ A 0 - 1)).1)
theorem lst_le {A : Nat → Nat} {B l : Nat} (w : WF A B) (f : Nat → Nat) : lst A f ≤ l ↔ ∀ s, 1 ≤ s → s < 2 ^ A 0 → f s ≤ l * pct s := by
  have w1 := w.1
  have w2 := w.2.1
  have hpw : 2 ^ A 0 ≤ 4096 := Nat.pow_le_pow_right (by omega) w2 (n := 2)
  have hp4 : 2 ^ 2 ≤ 2 ^ A 0 := Nat.pow_le_pow_right (by omega) w1
  obtain ⟨b1', b2⟩ := dns_lt w f
  obtain ⟨i1, i2, i3, i4⟩ := dns_max (f := f) (2 ^ A 0 - 1) (by omega)
  rw [i1] at i2
  unfold lst
  rw [rup_le i2]
  constructor
  · intro h s h1 h2
    have i := i4 s h1 (by omega)
    rw [i3 (by omega), i1] at i
    refine Nat.le_of_mul_le_mul_right (c := pct (dns f (2 ^ A 0 - 1)).1) ?_ i2
    calc f s * pct (dns f (2 ^ A 0 - 1)).1 ≤ f (dns f (2 ^ A 0 - 1)).1 * pct s := i
      _ ≤ l * pct (dns f (2 ^ A 0 - 1)).1 * pct s := Nat.mul_le_mul_right _ h
      _ = l * pct s * pct (dns f (2 ^ A 0 - 1)).1 := Nat.mul_right_comm ..
  · intro h
    exact h _ b1' b2
theorem lst_b {A : Nat → Nat} {f : Nat → Nat} (hf : ∀ s, f s ≤ 41) : lst A f ≤ 60 := by
  have h1 := hf (dns f (2 ^ A 0 - 1)).1
  have h2 := pct_le (dns f (2 ^ A 0 - 1)).1
  unfold lst rup
  exact Nat.le_trans (Nat.div_le_self _ _) (by omega)
theorem lst_1 {A : Nat → Nat} {B : Nat} (w : WF A B) (h0 : 0 < A 3) : 1 ≤ lst A (inn A) := by
  refine Classical.byContradiction fun q => ?_
  have w2 := w.2.1
  have wk := w.2.2.2.2.1 0 h0
  have h := (lst_le (l := 0) w (inn A)).mp (by omega) (2 ^ A (56 + 0) ||| 2 ^ A (96 + 0)) (pair_pos _ _) (Nat.or_lt_two_pow (Nat.pow_lt_pow_right (by omega) wk.1) (Nat.pow_lt_pow_right (by omega) wk.2.1))
  have h2 : 1 ≤ inn A (2 ^ A (56 + 0) ||| 2 ^ A (96 + 0)) := cnt_pos h0 (by
    simp [Nat.testBit_or, Nat.testBit_two_pow])
  omega
def cmn (g : Nat → Nat) (l : Nat) : Nat → Nat → Nat → Nat
  | 0, _, c => c
  | d + 1, i, c => if l * pct i + 1 < g i then 0 else if g i = l * pct i + 1 then cmn g l d (i + 1) (c &&& i) else cmn g l d (i + 1) c
theorem cmn_lt {g : Nat → Nat} {l : Nat} : ∀ (d i c : Nat), c < 4096 → cmn g l d i c < 4096 := by
  intro d
  induction d with
  | zero => intro i c h; exact h
  | succ d ih =>
    intro i c h
    rw [cmn]
    split
    · omega
    · split
      · exact ih _ _ (Nat.lt_of_le_of_lt Nat.and_le_left h)
      · exact ih _ _ h
theorem cmn_in {g : Nat → Nat} {l a b : Nat} : ∀ (d i c : Nat), (((cmn g l d i c).testBit a && (cmn g l d i c).testBit b) = true) ↔ ((c.testBit a && c.testBit b) = true ∧ ∀ s, i ≤ s → s < i + d → g s ≤ l * pct s + b1 (s.testBit a && s.testBit b)) := by
  intro d
  induction d with
  | zero => intro i c; exact ⟨fun h => ⟨h, fun s h1 h2 => absurd h1 (by omega)⟩, fun h => h.1⟩
  | succ d ih =>
    intro i c
    rw [cmn]
    by_cases c1 : l * pct i + 1 < g i
    · rw [if_pos c1]
      constructor
      · intro h
        simp at h
      · intro h
        have h1 := h.2 i (Nat.le_refl _) (by omega)
        have h2 := b1_le (i.testBit a && i.testBit b)
        omega
    · rw [if_neg c1]
      by_cases c2 : g i = l * pct i + 1
      · rw [if_pos c2, ih (i + 1) (c &&& i)]
        have e : ((c &&& i).testBit a && (c &&& i).testBit b) = ((c.testBit a && c.testBit b) && (i.testBit a && i.testBit b)) := by
          rw [Nat.testBit_and, Nat.testBit_and]
          cases c.testBit a <;> cases c.testBit b <;> cases i.testBit a <;> cases i.testBit b <;> rfl
        rw [e, Bool.and_eq_true]
        constructor
        · rintro ⟨⟨h1, h2⟩, h3⟩
          refine ⟨h1, fun s s1 s2 => ?_⟩
          by_cases z : s = i
          · subst z
            rw [h2, c2]
            exact Nat.le_refl _
          · exact h3 s (by omega) (by omega)
        · rintro ⟨h1, h3⟩
          refine ⟨⟨h1, ?_⟩, fun s s1 s2 => h3 s (by omega) (by omega)⟩
          have h4 := h3 i (Nat.le_refl _) (by omega)
          rw [c2] at h4
          cases z : (i.testBit a && i.testBit b) with
          | true => rfl
          | false =>
            rw [z] at h4
            have : b1 false = 0 := rfl
            omega
      · rw [if_neg c2, ih (i + 1) c]
        constructor
        · rintro ⟨h1, h3⟩
          refine ⟨h1, fun s s1 s2 => ?_⟩
          by_cases z : s = i
          · subst z
            omega
          · exact h3 s (by omega) (by omega)
        · rintro ⟨h1, h3⟩
          exact ⟨h1, fun s s1 s2 => h3 s (by omega) (by omega)⟩
theorem c_cmn_loop {σ : cS} {A : Nat → Nat} {B Nf l : Nat} {g : Nat → Nat} (h3 : σ 97 3 = nI (2 ^ A 0)) (h5 : σ 97 5 = nI (l + 1)) (w : WF A B) (hg : ∀ s, s < 2 ^ A 0 → σ (97 + 1) s = nI (g s)) (lg : ∀ s, g s ≤ 40) (hl : l ≤ 60) : ∀ (d i n c : Nat), i + d = 2 ^ A 0 → d < n → fX3_commonOfForcing_9 (lCt ()) Nf σ 97 n (nI c) (nI i) = some (nI (cmn g l d i c)) := by
  have w2 := w.2.1
  have hpw : 2 ^ A 0 ≤ 4096 := Nat.pow_le_pow_right (by omega) w2 (n := 2)
  intro d
  induction d with
  | zero =>
    intro i n c h1 hn
    obtain ⟨n, rfl⟩ : ∃ z, n = z + 1 := ⟨n - 1, by omega⟩
    unfold fX3_commonOfForcing_9 fX3_commonOfForcing_67
    rw [h3, if_pos ((nI_leI (by omega) (by omega)).mpr (by omega))]
    rfl
  | succ d ih =>
    intro i n c h1 hn
    obtain ⟨n, rfl⟩ : ∃ z, n = z + 1 := ⟨n - 1, by omega⟩
    have t2 := lg i
    have t3 := pct_le i
    have t4 : l * pct i ≤ 60 * 12 := Nat.mul_le_mul hl t3
    unfold fX3_commonOfForcing_9 fX3_commonOfForcing_61
    rw [h3, if_neg (fun q => absurd ((nI_leI (by omega) (by omega)).mp q) (by omega)), lt98, ofNat_n, if_neg (fun q => absurd ((nI_leI (by omega) (by omega)).mp q) (by omega)), inb_n (by omega) (by omega), grd_t, nI_clamp (by omega), hg i (by omega), c_bitCount (by omega), Option.bind_some, h5, nI_pred, nI_mul, bnd_e, n1, nI_add, nI_and]
    have sb1 : (nI (g i) - nI (l * pct i) = nI 1) ↔ g i = l * pct i + 1 := by
      rw [← Int32.toInt_inj, sb_int (by omega) (by omega), nI_toInt (by omega)]
      omega
    rw [cmn]
    by_cases c1 : l * pct i + 1 < g i
    · rw [if_neg (fun q => absurd ((sb_le (by omega) (by omega) (by omega)).mp q) (by omega)), if_pos c1]
      rfl
    · rw [if_pos ((sb_le (by omega) (by omega) (by omega)).mpr (by omega)), if_neg c1]
      by_cases c2 : g i = l * pct i + 1
      · rw [if_pos (sb1.mpr c2), if_pos c2]
        exact ih (i + 1) n (c &&& i) (by omega) (by omega)
      · rw [if_neg (fun q => c2 (sb1.mp q)), if_neg c2]
        exact ih (i + 1) n c (by omega) (by omega)
theorem c_cmn_tot {σ : cS} {A : Nat → Nat} {B Nf : Nat} (h3 : σ 97 3 = nI (2 ^ A 0)) (w : WF A B) : ∀ (d i n : Nat) (x1 : Int32), i + d = 2 ^ A 0 → d < n → ∃ r, fX3_commonOfForcing_9 (lCt ()) Nf σ 97 n x1 (nI i) = some r := by
  have w2 := w.2.1
  have hpw : 2 ^ A 0 ≤ 4096 := Nat.pow_le_pow_right (by omega) w2 (n := 2)
  intro d
  induction d with
  | zero =>
    intro i n x1 h1 hn
    obtain ⟨n, rfl⟩ : ∃ z, n = z + 1 := ⟨n - 1, by omega⟩
    unfold fX3_commonOfForcing_9 fX3_commonOfForcing_67
    rw [h3, if_pos ((nI_leI (by omega) (by omega)).mpr (by omega))]
    exact ⟨_, rfl⟩
  | succ d ih =>
    intro i n x1 h1 hn
    obtain ⟨n, rfl⟩ : ∃ z, n = z + 1 := ⟨n - 1, by omega⟩
    unfold fX3_commonOfForcing_9 fX3_commonOfForcing_61
    rw [h3, if_neg (fun q => absurd ((nI_leI (by omega) (by omega)).mp q) (by omega)), lt98, ofNat_n, if_neg (fun q => absurd ((nI_leI (by omega) (by omega)).mp q) (by omega)), inb_n (by omega) (by omega), grd_t, c_bitCount (by omega), Option.bind_some, bnd_e, n1, nI_add, bnd_e, bnd_e, bnd_e]
    split
    · split
      · exact ih (i + 1) n _ (by omega) (by omega)
      · exact ih (i + 1) n _ (by omega) (by omega)
    · exact ⟨_, rfl⟩
theorem c_firstSlot {σ : cS} {A : Nat → Nat} {B c Nf : Nat} (hg : GR σ 0 A) (w : WF A B) (hc : c < 4096) : ∀ (d i n : Nat), i + d = A 3 → d < n → fX0_firstSlotWithin_2 (lCt ()) Nf σ 0 n (nI c) (nI i) = some (plI (fnd (inP A c) i d)) := by
  have w2 := w.2.1
  have w3 := w.2.2.1
  intro d
  induction d with
  | zero =>
    intro i n h1 hn
    obtain ⟨n, rfl⟩ : ∃ z, n = z + 1 := ⟨n - 1, by omega⟩
    unfold fX0_firstSlotWithin_2
    rw [hg.2.1, if_pos ((nI_leI (by omega) (by omega)).mpr (by omega))]
    rfl
  | succ d ih =>
    intro i n h1 hn
    obtain ⟨n, rfl⟩ : ∃ z, n = z + 1 := ⟨n - 1, by omega⟩
    have wk := w.2.2.2.2.1 i (by omega)
    unfold fX0_firstSlotWithin_2
    rw [hg.2.1, if_neg (fun q => absurd ((nI_leI (by omega) (by omega)).mp q) (by omega)), c_endsOf LG_0 hg w (by omega), Option.bind_some, show nI i + (1 : Int32) = nI (i + 1) from nI_add i 1, bnd_e, ih (i + 1) n (by omega) (by omega)]
    simp only [fnd]
    by_cases e : inP A c i = true
    · rw [if_pos ((within_1 hc (by omega) (by omega)).mpr e), if_pos e]; rfl
    · rw [if_neg (fun q => e ((within_1 hc (by omega) (by omega)).mp q)), if_neg e]
def nbI (A : Nat → Nat) (o : Option Nat) : Int32 := match o with
  | some k => nI (A (16 + k))
  | none => -1
theorem fnd_ext {p q : Nat → Bool} : ∀ (d i : Nat), (∀ k, i ≤ k → k < i + d → p k = q k) → fnd p i d = fnd q i d := by
  intro d
  induction d with
  | zero => intro i _; rfl
  | succ d ih =>
    intro i h
    simp only [fnd]
    rw [h i (by omega) (by omega), ih (i + 1) (fun k h1 h2 => h k (by omega) (by omega))]
/-- an edge lies within the common part just if the least load falls without it -/
theorem crit_eq {A : Nat → Nat} {B k : Nat} (w : WF A B) (hk : k < A 3) : inP A (cmn (inn A) (lst A (inn A) - 1) (2 ^ A 0 - 1) 1 (2 ^ A 0 - 1)) k = decide (lst A (innO A k) < lst A (inn A)) := by
  have w2 := w.2.1
  have hp1 : 1 ≤ 2 ^ A 0 := Nat.one_le_two_pow
  have h1 := lst_1 w (by omega)
  have wk := w.2.2.2.2.1 k hk
  have tb : ∀ v, v < A 0 → (2 ^ A 0 - 1).testBit v = true := fun v hv => by
    rw [Nat.testBit_two_pow_sub_one]; exact decide_eq_true hv
  refine Bool.eq_iff_iff.mpr ?_
  rw [decide_eq_true_eq]
  show (((cmn (inn A) (lst A (inn A) - 1) (2 ^ A 0 - 1) 1 (2 ^ A 0 - 1)).testBit (A (56 + k)) && (cmn (inn A) (lst A (inn A) - 1) (2 ^ A 0 - 1) 1 (2 ^ A 0 - 1)).testBit (A (96 + k))) = true) ↔ _
  rw [cmn_in, tb _ wk.1, tb _ wk.2.1]
  have e : lst A (innO A k) < lst A (inn A) ↔ lst A (innO A k) ≤ lst A (inn A) - 1 := by omega
  rw [e, lst_le w]
  constructor
  · rintro ⟨-, h⟩ s s1 s2
    have y := innO_e hk s
    have z := h s s1 (by omega)
    unfold inP at y
    omega
  · intro h
    refine ⟨rfl, fun s s1 s2 => ?_⟩
    have y := innO_e hk s
    have z := h s s1 (by omega)
    unfold inP at y
    omega
