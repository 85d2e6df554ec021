/-! ===== leastWith, leastWithout, answered alike ===== -/
theorem pair_in {s a b : Nat} (hs : s < 4096) (ha : a < 12) (hb : b < 12) : ((nI (2 ^ a ||| 2 ^ b) &&& (nI s ^^^ (-1 : Int32))) = 0) ↔ (s.testBit a && s.testBit b) = true := by
  rw [← nI_or, or_0, dn1 hs ha, dn1 hs hb, Bool.and_eq_true]
theorem pair_lt {a b : Nat} (ha : a < 12) (hb : b < 12) : 2 ^ a ||| 2 ^ b < 4096 := Nat.or_lt_two_pow (n := 12) (Nat.pow_lt_pow_right (by omega) ha) (Nat.pow_lt_pow_right (by omega) hb)
theorem pair_pos (a b : Nat) : 1 ≤ 2 ^ a ||| 2 ^ b := Nat.le_trans Nat.one_le_two_pow Nat.left_le_or
theorem pair_m {s a b : Nat} (hs : s < 4096) (ha : a < 12) (hb : b < 12) : ((nI s &&& nI (2 ^ a ||| 2 ^ b)) = nI (2 ^ a ||| 2 ^ b)) ↔ (s.testBit a && s.testBit b) = true := by
  have h1 := pair_lt ha hb
  have h2 : s &&& (2 ^ a ||| 2 ^ b) ≤ s := Nat.and_le_left
  rw [nI_and, nI_eq (by omega) (by omega), Bool.and_eq_true]
  constructor
  · intro q
    have q1 := congrArg (fun x => Nat.testBit x a) q
    have q2 := congrArg (fun x => Nat.testBit x b) q
    simp [Nat.testBit_and, Nat.testBit_or, Nat.testBit_two_pow] at q1 q2
    exact ⟨q1, q2⟩
  · rintro ⟨q1, q2⟩
    refine Nat.eq_of_testBit_eq fun i => ?_
    rw [Nat.testBit_and, Nat.testBit_or, Nat.testBit_two_pow, Nat.testBit_two_pow]
    by_cases e1 : a = i
    · subst e1; simp [q1]
    · by_cases e2 : b = i
      · subst e2; simp [q2]
      · simp [e1, e2]
theorem c_innerW {σ : cS} {A : Nat → Nat} {s a b : Nat} (hs : s < 4096) (ha : a < 12) (hb : b < 12) (hi : σ 98 s = nI (inn A s)) (x : Int32) : fX3_innerWith (lCt ()) σ 97 (nI s) (nI (2 ^ a ||| 2 ^ b)) x = some (if (s.testBit a && s.testBit b) = true then nI (inn A s) + x else nI (inn A s)) := by
  unfold fX3_innerWith fX3_innerWith_0 fX3_innerWith_40
  rw [lt98, ofNat_n, n0, if_neg (fun q => absurd ((nI_ltI (by omega) (by omega)).mp q) (by omega)), if_pos ((nI_ltI (by omega) (by omega)).mpr (by omega)), inb_n hs (by omega), grd_t, grd_t, nI_clamp (by omega), show σ (97 + 1) s = nI (inn A s) from hi, ← n0]
  by_cases e : (s.testBit a && s.testBit b) = true
  · rw [if_pos ((pair_in hs ha hb).mpr e), if_pos e]
  · rw [if_neg (fun q => e ((pair_in hs ha hb).mp q)), if_neg e]
/-- inner edges with one edge more; with one edge less -/
def innW (A : Nat → Nat) (a b s : Nat) : Nat := b1 (s.testBit a && s.testBit b) + inn A s
def innO (A : Nat → Nat) (k s : Nat) : Nat := cnt (fun j => !decide (j = k) && inP A s j) (A 3)
theorem b1_le (b : Bool) : b1 b ≤ 1 := by cases b <;> decide
theorem innW_le {A : Nat → Nat} {B : Nat} (w : WF A B) (a b s : Nat) : innW A a b s ≤ 41 := by
  have h1 := inn_le w s
  have h2 := b1_le (s.testBit a && s.testBit b)
  unfold innW
  omega
theorem innO_le {A : Nat → Nat} {B : Nat} (w : WF A B) (k s : Nat) : innO A k s ≤ 41 := Nat.le_trans (cnt_le _ _) (Nat.le_trans w.2.2.1 (by omega))
theorem innO_e {A : Nat → Nat} {k : Nat} (hk : k < A 3) (s : Nat) : innO A k s + b1 (inP A s k) = inn A s := by
  have h := cnt_upd (p := inP A s) (q := fun j => !decide (j = k) && inP A s j) (k := k) (A 3) hk (fun j _ hn => by simp [hn])
  have z : b1 (!decide (k = k) && inP A s k) = 0 := by simp [b1]
  rw [z] at h
  exact h
theorem c_leastW {σ : cS} {A : Nat → Nat} {B Nf : Nat} {x1 x2 : Int32} {f : Nat → Nat} (t : TB σ A) (w : WF A B) (hf : ∀ s, f s ≤ 41) (hi : ∀ s, s < 2 ^ A 0 → fX3_innerWith (lCt ()) σ 97 (nI s) x1 x2 = some (nI (f s))) (hF : 5000 < Nf) : fX3_leastLoadWith (lCt ()) Nf σ 97 x1 x2 = some (nI (rup (f (dns f (2 ^ A 0 - 1)).1) (pct (dns f (2 ^ A 0 - 1)).1))) := by
  have w2 := w.2.1
  have hpw : 2 ^ A 0 ≤ 4096 := Nat.pow_le_pow_right (by omega) w2 (n := 2)
  obtain ⟨b1', b2⟩ := dns_lt w f
  unfold fX3_leastLoadWith fX3_leastLoadWith_0
  rw [c_densestWith t.1 w hf hi hF, Option.bind_some, c_rounded (f := f) (Nf := Nf) (by omega) (by omega) (hf _) (hi _ b2)]
  rfl
