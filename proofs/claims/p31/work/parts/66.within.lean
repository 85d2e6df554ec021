/-! ===== inner edges of a set: both sides ===== -/
theorem dn0 : ∀ a, a < 64 → ∀ b, b < 64 → ∀ v, v < 12 → decide ((nI (2 ^ v) &&& (nI (64 * a + b) ^^^ (-1 : Int32))) = 0) = (64 * a + b).testBit v := by decide +kernel
theorem dn1 {s v : Nat} (hs : s < 4096) (hv : v < 12) : ((nI (2 ^ v) &&& (nI s ^^^ (-1 : Int32))) = 0) ↔ s.testBit v = true := by
  have h := dn0 (s / 64) (by omega) (s % 64) (Nat.mod_lt _ (by omega)) v hv
  rw [show 64 * (s / 64) + s % 64 = s from Nat.div_add_mod s 64] at h
  rw [← h]
  exact decide_eq_true_iff.symm
theorem or_0 (x y z : Int32) : ((x ||| y) &&& z = 0) ↔ (x &&& z = 0 ∧ y &&& z = 0) := by
  rw [← Int32.toBitVec_inj, ← Int32.toBitVec_inj, ← Int32.toBitVec_inj]
  show ((x.toBitVec ||| y.toBitVec) &&& z.toBitVec = 0#32) ↔ (x.toBitVec &&& z.toBitVec = 0#32 ∧ y.toBitVec &&& z.toBitVec = 0#32)
  constructor
  · intro q
    constructor
    · refine BitVec.eq_of_getLsbD_eq fun i hi => ?_
      have := congrArg (fun b : BitVec 32 => b.getLsbD i) q
      simp only [BitVec.getLsbD_and, BitVec.getLsbD_or, BitVec.getLsbD_zero] at this ⊢
      cases e1 : x.toBitVec.getLsbD i <;> cases e2 : z.toBitVec.getLsbD i <;> simp_all
    · refine BitVec.eq_of_getLsbD_eq fun i hi => ?_
      have := congrArg (fun b : BitVec 32 => b.getLsbD i) q
      simp only [BitVec.getLsbD_and, BitVec.getLsbD_or, BitVec.getLsbD_zero] at this ⊢
      cases e1 : y.toBitVec.getLsbD i <;> cases e2 : z.toBitVec.getLsbD i <;> simp_all
  · rintro ⟨q1, q2⟩
    refine BitVec.eq_of_getLsbD_eq fun i hi => ?_
    have t1 := congrArg (fun b : BitVec 32 => b.getLsbD i) q1
    have t2 := congrArg (fun b : BitVec 32 => b.getLsbD i) q2
    simp only [BitVec.getLsbD_and, BitVec.getLsbD_or, BitVec.getLsbD_zero] at t1 t2 ⊢
    cases e1 : x.toBitVec.getLsbD i <;> cases e2 : y.toBitVec.getLsbD i <;> cases e3 : z.toBitVec.getLsbD i <;> simp_all
def inP (A : Nat → Nat) (s : Nat) : Nat → Bool := fun k => s.testBit (A (56 + k)) && s.testBit (A (96 + k))
theorem within_1 {A : Nat → Nat} {s k : Nat} (hs : s < 4096) (ha : A (56 + k) < 12) (hb : A (96 + k) < 12) : ((nI (2 ^ A (56 + k) ||| 2 ^ A (96 + k)) &&& (nI s ^^^ (-1 : Int32))) = 0) ↔ inP A s k = true := by
  rw [← nI_or, or_0, dn1 hs ha, dn1 hs hb]
  unfold inP
  rw [Bool.and_eq_true]
theorem c_within_loop {σ : cS} {g : Nat} {A : Nat → Nat} {B s Nf : Nat} (hL : LG g) (hg : GR σ g A) (w : WF A B) (hs : s < 4096) : ∀ (d i n : Nat), i + d = A 3 → d < n → fX0_edgesWithin_4 (lCt ()) Nf σ g n (nI s) (nI (cnt (inP A s) i)) (nI i) = some (nI (cnt (inP A s) (A 3))) := by
  have w2 := w.2.1
  have w3 := w.2.2.1
  intro d
  induction d with
  | zero =>
    intro i n h1 hn
    obtain ⟨n, rfl⟩ : ∃ z, n = z + 1 := ⟨n - 1, by omega⟩
    unfold fX0_edgesWithin_4
    rw [hg.2.1, if_pos ((nI_leI (by omega) (by omega)).mpr (by omega)), show i = A 3 by omega]
  | succ d ih =>
    intro i n h1 hn
    obtain ⟨n, rfl⟩ : ∃ z, n = z + 1 := ⟨n - 1, by omega⟩
    have wk := w.2.2.2.2.1 i (by omega)
    have h2 := ih (i + 1) n (by omega) (by omega)
    simp only [cnt] at h2
    unfold fX0_edgesWithin_4
    rw [hg.2.1, if_neg (fun q => absurd ((nI_leI (by omega) (by omega)).mp q) (by omega)), c_endsOf hL hg w (by omega), Option.bind_some]
    unfold fX0_edgesWithin_27
    by_cases e : inP A s i = true
    · rw [if_pos ((within_1 hs (by omega) (by omega)).mpr e), n1, nI_add, bnd_e, nI_add, bnd_e]
      rw [if_pos e] at h2
      exact h2
    · rw [if_neg (fun q => e ((within_1 hs (by omega) (by omega)).mp q)), n1, nI_add, bnd_e]
      rw [if_neg e] at h2
      exact h2
theorem c_within {σ : cS} {g : Nat} {A : Nat → Nat} {B s Nf : Nat} (hL : LG g) (hg : GR σ g A) (w : WF A B) (hs : s < 4096) (hf : 40 < Nf) : fX0_edgesWithin (lCt ()) Nf σ g (nI s) = some (nI (inn A s)) := by
  have w3 := w.2.2.1
  unfold fX0_edgesWithin fX0_edgesWithin_0
  rw [n0]
  exact c_within_loop hL hg w hs (A 3) 0 Nf (by omega) (by omega)
