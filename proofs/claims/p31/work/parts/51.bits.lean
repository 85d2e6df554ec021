/-! ===== bits ===== -/
theorem nI_and (a b : Nat) : nI a &&& nI b = nI (a &&& b) := by
  refine Int32.toBitVec_inj.mp ?_
  show BitVec.ofNat 32 a &&& BitVec.ofNat 32 b = BitVec.ofNat 32 (a &&& b)
  exact BitVec.ofNat_and.symm
theorem nI_or (a b : Nat) : nI a ||| nI b = nI (a ||| b) := by
  refine Int32.toBitVec_inj.mp ?_
  show BitVec.ofNat 32 a ||| BitVec.ofNat 32 b = BitVec.ofNat 32 (a ||| b)
  exact BitVec.ofNat_or.symm
theorem sh1 : ∀ v, v < 31 → (nI 1 <<< (nI v &&& nI 31)) = nI (2 ^ v) := by decide +kernel
theorem shr0 : ∀ a, a < 64 → ∀ b, b < 64 → ∀ v, v < 12 → ((nI (64 * a + b) >>> (nI v &&& nI 31)) &&& nI 1) = nI (if (64 * a + b).testBit v = true then 1 else 0) := by decide +kernel
theorem shr {s v : Nat} (hs : s < 4096) (hv : v < 12) : ((nI s >>> (nI v &&& nI 31)) &&& nI 1) = nI (if s.testBit v = true then 1 else 0) := by
  have h := shr0 (s / 64) (by omega) (s % 64) (Nat.mod_lt _ (by omega)) v hv
  rw [show 64 * (s / 64) + s % 64 = s from Nat.div_add_mod s 64] at h
  exact h
theorem and0 : ∀ a, a < 64 → ∀ b, b < 64 → ∀ v, v < 12 → decide ((64 * a + b) &&& 2 ^ v = 0) = !(64 * a + b).testBit v := by decide +kernel
theorem and_bit {s v : Nat} (hs : s < 4096) (hv : v < 12) : (s &&& 2 ^ v = 0) ↔ s.testBit v = false := by
  have h := and0 (s / 64) (by omega) (s % 64) (Nat.mod_lt _ (by omega)) v hv
  rw [show 64 * (s / 64) + s % 64 = s from Nat.div_add_mod s 64] at h
  constructor
  · intro q
    rw [decide_eq_true q] at h
    cases e : s.testBit v
    · rfl
    · rw [e] at h; cases h
  · intro q
    rw [q] at h
    exact of_decide_eq_true h
theorem or_bit (s v u : Nat) : (s ||| 2 ^ v).testBit u = (s.testBit u || decide (v = u)) := by
  rw [Nat.testBit_or, Nat.testBit_two_pow]
theorem or_lt {s v : Nat} (hs : s < 4096) (hv : v < 12) : s ||| 2 ^ v < 4096 := Nat.or_lt_two_pow (n := 12) hs (Nat.pow_lt_pow_right (by omega) hv)
/-! ===== going through the nodes, by the queue ===== -/
abbrev bst : Type := Nat × (Nat → Nat) × (Nat → Nat) × Nat
def bv (A : Nat → Nat) (u k : Nat) (s : bst) : bst := if hd A k = u ∧ s.2.2.2.testBit (ot A k) = false then (s.1 + 1, up s.2.1 s.1 (ot A k), up s.2.2.1 (ot A k) k, s.2.2.2 ||| 2 ^ (ot A k)) else s
def bin (A : Nat → Nat) (u : Nat) : Nat → Nat → bst → bst
  | _, 0, s => s
  | k, d + 1, s => bin A u (k + 1) d (bv A u k s)
def bout (A : Nat → Nat) : Nat → Nat → bst → bst
  | 0, _, s => s
  | f + 1, p, s => if p < s.1 then bout A f (p + 1) (bin A (s.2.1 p) 0 (A 3) s) else s
def b0 (s : Nat) : bst := (1, fun _ => s, fun _ => 0, 2 ^ s)
def bfs (A : Nat → Nat) (s : Nat) : bst := bout A 13 0 (b0 s)
/-- what holds all the way -/
def BI (A : Nat → Nat) (s : Nat) (t : bst) : Prop := 1 ≤ t.1 ∧ t.2.1 0 = s ∧ t.2.2.2 < 4096 ∧ cnt (fun v => t.2.2.2.testBit v) 12 = t.1 ∧ (∀ i, i < t.1 → t.2.1 i < A 0 ∧ t.2.2.2.testBit (t.2.1 i) = true) ∧ (∀ v, v < 12 → t.2.2.2.testBit v = true → ∃ i, i < t.1 ∧ t.2.1 i = v) ∧ (∀ i j, i < j → j < t.1 → t.2.1 i ≠ t.2.1 j) ∧ ∀ i, 1 ≤ i → i < t.1 → t.2.2.1 (t.2.1 i) < A 3 ∧ ot A (t.2.2.1 (t.2.1 i)) = t.2.1 i ∧ ∃ p, p < i ∧ hd A (t.2.2.1 (t.2.1 i)) = t.2.1 p
theorem BI_n {A : Nat → Nat} {s : Nat} {t : bst} (h : BI A s t) : t.1 ≤ 12 := by
  rw [← h.2.2.2.1]; exact cnt_le _ _
theorem BI_0 {A : Nat → Nat} {B s : Nat} (w : WF A B) (hs : s < A 0) : BI A s (b0 s) := by
  have w2 := w.2.1
  refine ⟨Nat.le_refl _, rfl, Nat.pow_lt_pow_right (a := 2) (n := 12) (by omega) (by omega), ?_, fun i hi => ⟨hs, ?_⟩, fun v hv h => ⟨0, by show 0 < 1; omega, ?_⟩, fun i j hij hj => ?_, fun i h1 h2 => ?_⟩
  · have : ∀ s, s < 12 → cnt (fun v => (2 ^ s).testBit v) 12 = 1 := by decide +kernel
    exact this s (by omega)
  · show (2 ^ s).testBit s = true
    rw [Nat.testBit_two_pow]; simp
  · have h' : (2 ^ s).testBit v = true := h
    rw [Nat.testBit_two_pow] at h'
    exact of_decide_eq_true h'
  · have : j < 1 := hj
    omega
  · have : i < 1 := h2
    omega
theorem BI_v {A : Nat → Nat} {B s u k p : Nat} {t : bst} (w : WF A B) (h : BI A s t) (hk : k < A 3) (hp : p < t.1) (hu : t.2.1 p = u) : BI A s (bv A u k t) := by
  have w2 := w.2.1
  have ho := ot_lt w hk
  unfold bv
  by_cases e : hd A k = u ∧ t.2.2.2.testBit (ot A k) = false
  · rw [if_pos e]
    obtain ⟨h1, h2, h3, h4, h5, h6, h7, h8⟩ := h
    obtain ⟨e1, e2⟩ := e
    have hne : ∀ i, i < t.1 → t.2.1 i ≠ ot A k := fun i hi q => by
      have := (h5 i hi).2
      rw [q, e2] at this
      cases this
    refine ⟨by show 1 ≤ t.1 + 1; omega, ?_, or_lt h3 (by omega), ?_, fun i hi => ?_, fun v hv hv2 => ?_, fun i j hij hj => ?_, fun i hi1 hi2 => ?_⟩
    · show up t.2.1 t.1 (ot A k) 0 = s
      rw [up_o (by omega)]; exact h2
    · show cnt (fun v => (t.2.2.2 ||| 2 ^ ot A k).testBit v) 12 = t.1 + 1
      have q := cnt_upd (p := fun v => t.2.2.2.testBit v) (q := fun v => (t.2.2.2 ||| 2 ^ ot A k).testBit v) (k := ot A k) 12 (by omega) (fun j hj hn => by
        simp only [or_bit, decide_eq_false (Ne.symm hn), Bool.or_false])
      simp only [or_bit, e2, decide_eq_true, Bool.false_or, b1, h4] at q
      simp at q
      simp only [or_bit]
      exact q
    · have hi' : i < t.1 + 1 := hi
      show up t.2.1 t.1 (ot A k) i < A 0 ∧ (t.2.2.2 ||| 2 ^ ot A k).testBit (up t.2.1 t.1 (ot A k) i) = true
      by_cases e3 : i = t.1
      · subst e3; rw [up_s, or_bit]; exact ⟨ho, by simp⟩
      · rw [up_o e3, or_bit, (h5 i (by omega)).2]; exact ⟨(h5 i (by omega)).1, rfl⟩
    · have hv3 : (t.2.2.2 ||| 2 ^ ot A k).testBit v = true := hv2
      rw [or_bit] at hv3
      by_cases e3 : ot A k = v
      · exact ⟨t.1, by show t.1 < t.1 + 1; omega, by show up t.2.1 t.1 (ot A k) t.1 = v; rw [up_s]; exact e3⟩
      · rw [decide_eq_false e3, Bool.or_false] at hv3
        obtain ⟨i, hi, hq⟩ := h6 v hv hv3
        exact ⟨i, by show i < t.1 + 1; omega, by show up t.2.1 t.1 (ot A k) i = v; rw [up_o (by omega)]; exact hq⟩
    · have hj' : j < t.1 + 1 := hj
      show up t.2.1 t.1 (ot A k) i ≠ up t.2.1 t.1 (ot A k) j
      rw [up_o (by omega)]
      by_cases e3 : j = t.1
      · subst e3; rw [up_s]; exact hne i hij
      · rw [up_o e3]; exact h7 i j hij (by omega)
    · have hi' : i < t.1 + 1 := hi2
      show up t.2.2.1 (ot A k) k (up t.2.1 t.1 (ot A k) i) < A 3 ∧ ot A (up t.2.2.1 (ot A k) k (up t.2.1 t.1 (ot A k) i)) = up t.2.1 t.1 (ot A k) i ∧ ∃ p, p < i ∧ hd A (up t.2.2.1 (ot A k) k (up t.2.1 t.1 (ot A k) i)) = up t.2.1 t.1 (ot A k) p
      by_cases e3 : i = t.1
      · subst e3
        rw [up_s, up_s]
        exact ⟨hk, rfl, p, hp, by rw [up_o (by omega), hu]; exact e1⟩
      · rw [up_o e3, up_o (hne i (by omega))]
        obtain ⟨z1, z2, p2, z3, z4⟩ := h8 i hi1 (by omega)
        exact ⟨z1, z2, p2, z3, by rw [up_o (by omega)]; exact z4⟩
  · rw [if_neg e]; exact h
/-- a step keeps what is there -/
theorem bv_keep {A : Nat → Nat} {u k : Nat} {t : bst} : t.1 ≤ (bv A u k t).1 ∧ ∀ i, i < t.1 → (bv A u k t).2.1 i = t.2.1 i := by
  unfold bv
  split
  · exact ⟨Nat.le_succ _, fun i hi => up_o (by omega)⟩
  · exact ⟨Nat.le_refl _, fun _ _ => rfl⟩
theorem bin_keep {A : Nat → Nat} {u : Nat} : ∀ (d k : Nat) (t : bst), t.1 ≤ (bin A u k d t).1 ∧ ∀ i, i < t.1 → (bin A u k d t).2.1 i = t.2.1 i := by
  intro d
  induction d with
  | zero => intro k t; exact ⟨Nat.le_refl _, fun _ _ => rfl⟩
  | succ d ih =>
    intro k t
    obtain ⟨h1, h2⟩ := bv_keep (A := A) (u := u) (k := k) (t := t)
    obtain ⟨h3, h4⟩ := ih (k + 1) (bv A u k t)
    exact ⟨Nat.le_trans h1 h3, fun i hi => (h4 i (Nat.lt_of_lt_of_le hi h1)).trans (h2 i hi)⟩
theorem BI_in {A : Nat → Nat} {B s u p : Nat} (w : WF A B) : ∀ (d k : Nat) (t : bst), k + d = A 3 → BI A s t → p < t.1 → t.2.1 p = u → BI A s (bin A u k d t) := by
  intro d
  induction d with
  | zero => intro k t h1 h hp hu; exact h
  | succ d ih =>
    intro k t h1 h hp hu
    obtain ⟨g1, g2⟩ := bv_keep (A := A) (u := u) (k := k) (t := t)
    exact ih (k + 1) (bv A u k t) (by omega) (BI_v w h (by omega) hp hu) (Nat.lt_of_lt_of_le hp g1) ((g2 p hp).trans hu)
theorem BI_out {A : Nat → Nat} {B s : Nat} (w : WF A B) : ∀ (f p : Nat) (t : bst), BI A s t → BI A s (bout A f p t) := by
  intro f
  induction f with
  | zero => intro p t h; exact h
  | succ f ih =>
    intro p t h
    simp only [bout]
    by_cases e : p < t.1
    · rw [if_pos e]
      exact ih (p + 1) _ (BI_in w (A 3) 0 t (by omega) h e rfl)
    · rw [if_neg e]; exact h
theorem BI_bfs {A : Nat → Nat} {B s : Nat} (w : WF A B) (hs : s < A 0) : BI A s (bfs A s) := BI_out w 13 0 _ (BI_0 w hs)
