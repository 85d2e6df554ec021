/-! ===== the abstract row: what the orders make of it ===== -/
def b1 (b : Bool) : Nat := if b = true then 1 else 0
theorem cnt_upd {p q : Nat → Bool} {k : Nat} : ∀ (n : Nat), k < n → (∀ j, j < n → j ≠ k → q j = p j) → cnt q n + b1 (p k) = cnt p n + b1 (q k) := by
  intro n
  induction n with
  | zero => intro h; omega
  | succ n ih =>
    intro hk h
    simp only [cnt]
    by_cases e : k = n
    · subst e
      rw [cnt_ext (p := q) (q := p) (fun j hj => h j (by omega) (by omega))]
      unfold b1
      omega
    · have := ih (by omega) (fun j hj hn => h j (by omega) hn)
      rw [h n (by omega) (Ne.symm e)]
      omega
theorem cnt_pos {p : Nat → Bool} {k n : Nat} (hk : k < n) (h : p k = true) : 1 ≤ cnt p n := by
  induction n with
  | zero => omega
  | succ n ih =>
    simp only [cnt]
    by_cases e : k = n
    · subst e; rw [if_pos h]; omega
    · have := ih (by omega); omega
theorem cnt_gap {f : Nat → Bool} {g : Nat → Bool} {p : Nat} : ∀ (n : Nat), p ≤ n → (∀ j, j < n → g j = if j < p then f j else f (j + 1)) → cnt g n + b1 (f p) = cnt f (n + 1) := by
  intro n
  induction n with
  | zero =>
    intro hp h
    have : p = 0 := by omega
    subst this
    simp only [cnt, b1]
  | succ n ih =>
    intro hp h
    by_cases e : p = n + 1
    · subst e
      rw [cnt_ext (p := g) (q := f) (fun j hj => by rw [h j hj, if_pos hj])]
      simp only [cnt, b1]
    · have h1 := ih (by omega) (fun j hj => h j (by omega))
      have h2 := h n (by omega)
      rw [if_neg (by omega)] at h2
      show cnt g n + (if g n = true then 1 else 0) + b1 (f p) = cnt f (n + 1) + (if f (n + 1) = true then 1 else 0)
      rw [h2]
      omega
theorem hd_trn {A : Nat → Nat} {B k j : Nat} (w : WF A B) (hk : k < A 3) (hj : j < A 3) : hd (trnA A k) j = if j = k then ot A k else hd A j := by
  have w3 := w.2.2.1
  have wk := w.2.2.2.2.1 k hk
  unfold hd ot trnA
  rw [up_o (show 56 + j ≠ 2 by omega), up_o (show 56 + j ≠ 176 + k by omega), up_o (show 56 + j ≠ 136 + k by omega), up_o (show 96 + j ≠ 2 by omega), up_o (show 96 + j ≠ 176 + k by omega), up_o (show 96 + j ≠ 136 + k by omega), up_o (show 136 + j ≠ 2 by omega), up_o (show 136 + j ≠ 176 + k by omega)]
  by_cases e : j = k
  · subst e
    rw [up_s, if_pos rfl]
    by_cases e2 : A (136 + j) = 0
    · rw [if_neg (by omega), if_pos e2]
    · rw [if_pos (by omega), if_neg e2]
  · rw [up_o (by omega), if_neg e]
theorem trn_o {A : Nat → Nat} {k j : Nat} (h1 : j ≠ 136 + k) (h2 : j ≠ 176 + k) (h3 : j ≠ 2) : trnA A k j = A j := by
  unfold trnA; rw [up_o h3, up_o h2, up_o h1]
theorem ot_trn {A : Nat → Nat} {B k j : Nat} (w : WF A B) (hk : k < A 3) (hj : j < A 3) : ot (trnA A k) j = if j = k then hd A k else ot A j := by
  have w3 := w.2.2.1
  have wk := w.2.2.2.2.1 k hk
  unfold hd ot trnA
  rw [up_o (show 56 + j ≠ 2 by omega), up_o (show 56 + j ≠ 176 + k by omega), up_o (show 56 + j ≠ 136 + k by omega), up_o (show 96 + j ≠ 2 by omega), up_o (show 96 + j ≠ 176 + k by omega), up_o (show 96 + j ≠ 136 + k by omega), up_o (show 136 + j ≠ 2 by omega), up_o (show 136 + j ≠ 176 + k by omega)]
  by_cases e : j = k
  · subst e
    rw [up_s, if_pos rfl]
    by_cases e2 : A (136 + j) = 0
    · rw [if_neg (by omega), if_pos e2]
    · rw [if_pos (by omega), if_neg e2]
  · rw [up_o (by omega), if_neg e]
theorem ld_trn {A : Nat → Nat} {B k : Nat} (w : WF A B) (hk : k < A 3) (v : Nat) : ld (trnA A k) v + b1 (hd A k == v) = ld A v + b1 (ot A k == v) := by
  have w3 := w.2.2.1
  unfold ld
  rw [trn_o (by omega) (by omega) (by omega)]
  have h := cnt_upd (p := fun j => hd A j == v) (q := fun j => hd (trnA A k) j == v) (k := k) (A 3) hk (fun j hj hn => by simp only [hd_trn w hk hj, if_neg hn])
  simp only [hd_trn w hk hk, if_pos] at h
  exact h
theorem trn_WF {A : Nat → Nat} {B k : Nat} (w : WF A B) (hk : k < A 3) : WF (trnA A k) B := by
  obtain ⟨w1, w2, w3, w4, w5, w6, w7⟩ := w
  refine ⟨?_, ?_, ?_, ?_, ?_, ?_, ?_⟩
  · rw [trn_o (by omega) (by omega) (by omega)]; exact w1
  · rw [trn_o (by omega) (by omega) (by omega)]; exact w2
  · rw [trn_o (by omega) (by omega) (by omega)]; exact w3
  · rw [trn_o (by omega) (by omega) (by omega)]; exact w4
  · intro j hj
    rw [trn_o (by omega) (by omega) (by omega)] at hj
    rw [trn_o (j := 56 + j) (by omega) (by omega) (by omega), trn_o (j := 0) (by omega) (by omega) (by omega), trn_o (j := 96 + j) (by omega) (by omega) (by omega), trn_o (j := 16 + j) (by omega) (by omega) (by omega), trn_o (j := 1) (by omega) (by omega) (by omega)]
    have h := w5 j hj
    refine ⟨h.1, h.2.1, h.2.2.1, ?_, h.2.2.2.2⟩
    unfold trnA
    rw [up_o (by omega), up_o (by omega)]
    by_cases e : j = k
    · subst e; rw [up_s]; omega
    · rw [up_o (by omega)]; exact h.2.2.2.1
  · intro i j hij hj
    rw [trn_o (by omega) (by omega) (by omega)] at hj
    rw [trn_o (by omega) (by omega) (by omega), trn_o (by omega) (by omega) (by omega)]
    exact w6 i j hij hj
  · intro v hv
    rw [trn_o (by omega) (by omega) (by omega)]
    exact w7 v hv
theorem add_o {A : Nat → Nat} {a b j : Nat} (h1 : j ≠ 16 + A 3) (h2 : j ≠ 56 + A 3) (h3 : j ≠ 96 + A 3) (h4 : j ≠ 136 + A 3) (h5 : j ≠ 176 + A 3) (h6 : j ≠ 3) (h7 : j ≠ 1) : addA A a b j = A j := by
  unfold addA; rw [up_o h7, up_o h6, up_o h5, up_o h4, pre_o h1 h2 h3]
theorem add_3 {A : Nat → Nat} {a b : Nat} : addA A a b 3 = A 3 + 1 := by
  unfold addA; rw [up_o (by omega), up_s]
theorem add_1 {A : Nat → Nat} {a b : Nat} : addA A a b 1 = A 1 + 1 := by
  unfold addA; rw [up_s]
def newH (A : Nat → Nat) (a b : Nat) : Nat := if ld A b < ld A a then b else a
theorem hd_add {A : Nat → Nat} {a b j : Nat} (h3 : A 3 < 40) (hj : j ≤ A 3) : hd (addA A a b) j = if j = A 3 then newH A a b else hd A j := by
  by_cases e : j = A 3
  · subst e
    rw [if_pos rfl]
    unfold hd addA newH
    rw [up_o (show 56 + A 3 ≠ 1 by omega), up_o (show 56 + A 3 ≠ 3 by omega), up_o (show 56 + A 3 ≠ 176 + A 3 by omega), up_o (show 56 + A 3 ≠ 136 + A 3 by omega), up_o (show 96 + A 3 ≠ 1 by omega), up_o (show 96 + A 3 ≠ 3 by omega), up_o (show 96 + A 3 ≠ 176 + A 3 by omega), up_o (show 96 + A 3 ≠ 136 + A 3 by omega), up_o (show 136 + A 3 ≠ 1 by omega), up_o (show 136 + A 3 ≠ 3 by omega), up_o (show 136 + A 3 ≠ 176 + A 3 by omega), up_s]
    unfold preA
    rw [up_s, up_o (show 56 + A 3 ≠ 96 + A 3 by omega), up_s]
    by_cases e2 : ld A b < ld A a
    · rw [if_pos e2, if_neg (by omega), if_pos e2]
    · rw [if_neg e2, if_pos rfl, if_neg e2]
  · rw [if_neg e]
    unfold hd
    rw [add_o (by omega) (by omega) (by omega) (by omega) (by omega) (by omega) (by omega), add_o (by omega) (by omega) (by omega) (by omega) (by omega) (by omega) (by omega), add_o (by omega) (by omega) (by omega) (by omega) (by omega) (by omega) (by omega)]
theorem ld_add {A : Nat → Nat} {a b : Nat} (h3 : A 3 < 40) (v : Nat) : ld (addA A a b) v = ld A v + b1 (newH A a b == v) := by
  unfold ld
  rw [add_3]
  simp only [cnt]
  rw [cnt_ext (p := fun k => hd (addA A a b) k == v) (q := fun k => hd A k == v) (fun k hk => by simp only [hd_add h3 (Nat.le_of_lt hk), if_neg (Nat.ne_of_lt hk)])]
  simp only [hd_add h3 (Nat.le_refl _), if_pos]
  rfl
theorem add_WF {A : Nat → Nat} {B a b : Nat} (w : WF A B) (h3 : A 3 < 40) (ha : a < A 0) (hb : b < A 0) (hab : a ≠ b) : WF (addA A a b) (B + 1) := by
  obtain ⟨w1, w2, w3, w4, w5, w6, w7⟩ := w
  have g : ∀ j, (j = 0 ∨ (4 ≤ j ∧ j < 16)) → addA A a b j = A j := fun j hj => add_o (by omega) (by omega) (by omega) (by omega) (by omega) (by omega) (by omega)
  have num : ∀ k, k ≤ A 3 → addA A a b (16 + k) = if k = A 3 then A 1 else A (16 + k) := fun k hk => by
    by_cases e : k = A 3
    · subst e
      rw [if_pos rfl]
      unfold addA preA
      rw [up_o (by omega), up_o (by omega), up_o (by omega), up_o (by omega), up_o (by omega), up_o (by omega), up_s]
    · rw [if_neg e, add_o (by omega) (by omega) (by omega) (by omega) (by omega) (by omega) (by omega)]
  refine ⟨?_, ?_, ?_, ?_, ?_, ?_, ?_⟩
  · rw [g 0 (by omega)]; exact w1
  · rw [g 0 (by omega)]; exact w2
  · rw [add_3]; omega
  · rw [add_1]; omega
  · intro k hk
    rw [add_3] at hk
    rw [g 0 (by omega), add_1, num k (by omega)]
    by_cases e : k = A 3
    · subst e
      rw [if_pos rfl]
      have e1 : addA A a b (56 + A 3) = a := by
        unfold addA preA
        rw [up_o (by omega), up_o (by omega), up_o (by omega), up_o (by omega), up_o (by omega), up_s]
      have e2 : addA A a b (96 + A 3) = b := by
        unfold addA preA
        rw [up_o (by omega), up_o (by omega), up_o (by omega), up_o (by omega), up_s]
      have e3 : addA A a b (136 + A 3) ≤ 1 := by
        unfold addA
        rw [up_o (by omega), up_o (by omega), up_o (by omega), up_s]
        split <;> omega
      rw [e1, e2]
      exact ⟨ha, hb, hab, e3, by omega⟩
    · rw [if_neg e]
      have h := w5 k (by omega)
      rw [add_o (j := 56 + k) (by omega) (by omega) (by omega) (by omega) (by omega) (by omega) (by omega), add_o (j := 96 + k) (by omega) (by omega) (by omega) (by omega) (by omega) (by omega) (by omega), add_o (j := 136 + k) (by omega) (by omega) (by omega) (by omega) (by omega) (by omega) (by omega)]
      exact ⟨h.1, h.2.1, h.2.2.1, h.2.2.2.1, by omega⟩
  · intro i j hij hj
    rw [add_3] at hj
    rw [num i (by omega), num j (by omega), if_neg (by omega)]
    by_cases e : j = A 3
    · rw [if_pos e]
      exact (w5 i (by omega)).2.2.2.2
    · rw [if_neg e]
      exact w6 i j hij (by omega)
  · intro v hv
    rw [g (4 + v) (by omega)]
    exact w7 v hv
def shA (A : Nat → Nat) (lo hi : Nat) : Nat → Nat := fun j => if 16 ≤ j ∧ j < 216 ∧ lo ≤ (j - 16) % 40 ∧ (j - 16) % 40 < hi then A (j + 1) else A j
def remA (A : Nat → Nat) (p : Nat) : Nat → Nat := up (shA A p (A 3 - 1)) 3 (A 3 - 1)
theorem rem_3 {A : Nat → Nat} {p : Nat} : remA A p 3 = A 3 - 1 := up_s
theorem rem_lo {A : Nat → Nat} {p j : Nat} (h : j ≠ 3) (hj : j < 16) : remA A p j = A j := by
  unfold remA shA
  rw [up_o h, if_neg (by omega)]
theorem rem_bl {A : Nat → Nat} {p c k : Nat} (hc : c = 16 ∨ c = 56 ∨ c = 96 ∨ c = 136 ∨ c = 176) (hk : k < A 3 - 1) (h3 : A 3 ≤ 40) : remA A p (c + k) = if k < p then A (c + k) else A (c + (k + 1)) := by
  unfold remA shA
  rw [up_o (by omega)]
  have e : (c + k - 16) % 40 = k := by omega
  rw [e]
  by_cases h : k < p
  · rw [if_neg (by omega), if_pos h]
  · rw [if_pos (by omega), if_neg h]; rfl
theorem hd_rem {A : Nat → Nat} {p k : Nat} (hk : k < A 3 - 1) (h3 : A 3 ≤ 40) : hd (remA A p) k = if k < p then hd A k else hd A (k + 1) := by
  unfold hd
  rw [rem_bl (by omega) hk h3, rem_bl (by omega) hk h3, rem_bl (by omega) hk h3]
  by_cases h : k < p
  · rw [if_pos h, if_pos h, if_pos h, if_pos h]
  · rw [if_neg h, if_neg h, if_neg h, if_neg h]
theorem ld_rem {A : Nat → Nat} {p : Nat} (hp : p < A 3) (h3 : A 3 ≤ 40) (v : Nat) : ld (remA A p) v + b1 (hd A p == v) = ld A v := by
  unfold ld
  rw [rem_3]
  have h := cnt_gap (f := fun k => hd A k == v) (g := fun k => hd (remA A p) k == v) (p := p) (A 3 - 1) (by omega) (fun j hj => by
    simp only [hd_rem hj h3]
    split <;> rfl)
  rw [show A 3 - 1 + 1 = A 3 by omega] at h
  exact h
theorem rem_WF {A : Nat → Nat} {B p : Nat} (w : WF A B) (hp : p < A 3) : WF (remA A p) B := by
  obtain ⟨w1, w2, w3, w4, w5, w6, w7⟩ := w
  refine ⟨?_, ?_, ?_, ?_, ?_, ?_, ?_⟩
  · rw [rem_lo (by omega) (by omega)]; exact w1
  · rw [rem_lo (by omega) (by omega)]; exact w2
  · rw [rem_3]; omega
  · rw [rem_lo (by omega) (by omega)]; exact w4
  · intro k hk
    rw [rem_3] at hk
    rw [rem_lo (j := 0) (by omega) (by omega), rem_lo (j := 1) (by omega) (by omega), rem_bl (by omega) hk w3, rem_bl (by omega) hk w3, rem_bl (by omega) hk w3, rem_bl (by omega) hk w3]
    by_cases h : k < p
    · rw [if_pos h, if_pos h, if_pos h, if_pos h]; exact w5 k (by omega)
    · rw [if_neg h, if_neg h, if_neg h, if_neg h]; exact w5 (k + 1) (by omega)
  · intro i j hij hj
    rw [rem_3] at hj
    rw [rem_bl (by omega) (by omega) w3, rem_bl (by omega) hj w3]
    by_cases h : i < p
    · rw [if_pos h]
      by_cases h2 : j < p
      · rw [if_pos h2]; exact w6 i j hij (by omega)
      · rw [if_neg h2]; exact w6 i (j + 1) (by omega) (by omega)
    · rw [if_neg h, if_neg (by omega)]; exact w6 (i + 1) (j + 1) (by omega) (by omega)
  · intro v hv
    rw [rem_lo (by omega) (by omega)]
    exact w7 v hv
