/-! ===== balanced: the greatest load is the least capacity ===== -/
theorem fnd_no {p : Nat → Bool} : ∀ (d i : Nat), fnd p i d = none → ∀ k, i ≤ k → k < i + d → p k = false := by
  intro d
  induction d with
  | zero => intro i _ k h1 h2; omega
  | succ d ih =>
    intro i h k h1 h2
    simp only [fnd] at h
    by_cases e : p i = true
    · rw [if_pos e] at h; cases h
    · rw [if_neg e] at h
      by_cases e2 : k = i
      · subst e2; exact Bool.eq_false_iff.mpr e
      · exact ih (i + 1) h k (by omega) (by omega)
theorem bv_vis {A : Nat → Nat} {u k v : Nat} {t : bst} (h : t.2.2.2.testBit v = true) : (bv A u k t).2.2.2.testBit v = true := by
  unfold bv
  split
  · show (t.2.2.2 ||| 2 ^ ot A k).testBit v = true
    rw [or_bit, h]; rfl
  · exact h
theorem bin_vis {A : Nat → Nat} {u v : Nat} : ∀ (d k : Nat) (t : bst), t.2.2.2.testBit v = true → (bin A u k d t).2.2.2.testBit v = true := by
  intro d
  induction d with
  | zero => intro k t h; exact h
  | succ d ih => intro k t h; exact ih (k + 1) _ (bv_vis h)
theorem bin_all {A : Nat → Nat} {u : Nat} : ∀ (d k : Nat) (t : bst), ∀ j, k ≤ j → j < k + d → hd A j = u → (bin A u k d t).2.2.2.testBit (ot A j) = true := by
  intro d
  induction d with
  | zero => intro k t j h1 h2; omega
  | succ d ih =>
    intro k t j h1 h2 h3
    by_cases e : j = k
    · subst e
      refine bin_vis d _ _ ?_
      unfold bv
      by_cases q : t.2.2.2.testBit (ot A j) = false
      · rw [if_pos ⟨h3, q⟩]
        show (t.2.2.2 ||| 2 ^ ot A j).testBit (ot A j) = true
        rw [or_bit, decide_eq_true rfl, Bool.or_true]
      · rw [if_neg (fun z => q z.2)]
        exact Bool.not_eq_false _ |>.mp q
    · exact ih (k + 1) _ j (by omega) (by omega) h3
theorem bout_all {A : Nat → Nat} {B s : Nat} (w : WF A B) : ∀ (f p : Nat) (t : bst), BI A s t → 13 ≤ f + p → (∀ i, i < p → i < t.1 → ∀ k, k < A 3 → hd A k = t.2.1 i → t.2.2.2.testBit (ot A k) = true) → ∀ i, i < (bout A f p t).1 → ∀ k, k < A 3 → hd A k = (bout A f p t).2.1 i → (bout A f p t).2.2.2.testBit (ot A k) = true := by
  intro f
  induction f with
  | zero =>
    intro p t b h1 h2 i hi
    have := BI_n b
    have hi' : i < t.1 := hi
    exact h2 i (by omega) hi'
  | succ f ih =>
    intro p t b h1 h2
    simp only [bout]
    by_cases e : p < t.1
    · rw [if_pos e]
      obtain ⟨k1, k2⟩ := bin_keep (A := A) (u := t.2.1 p) (A 3) 0 t
      refine ih (p + 1) _ (BI_in w (A 3) 0 t (by omega) b e rfl) (by omega) (fun i hi hi2 k hk hh => ?_)
      rw [k2 i (by omega)] at hh
      by_cases e2 : i = p
      · subst e2
        exact bin_all (A 3) 0 t k (by omega) (by omega) hh
      · exact bin_vis (A 3) 0 t (h2 i (by omega) (by omega) k hk hh)
    · rw [if_neg e]
      intro i hi
      exact h2 i (by omega) hi
theorem bfs_all {A : Nat → Nat} {B s k : Nat} (w : WF A B) (hs : s < A 0) (hk : k < A 3) (h : seen A s (hd A k)) : seen A s (ot A k) := by
  have w2 := w.2.1
  have hh := hd_lt w hk
  obtain ⟨i, h1, h2⟩ := seen_i w hs (by omega) h
  exact bout_all w 13 0 (b0 s) (BI_0 w hs) (by omega) (fun i hi => absurd hi (by omega)) i h1 k hk h2.symm
theorem mx_at {f : Nat → Nat} : ∀ n, 0 < mx f n → ∃ k, k < n ∧ f k = mx f n := by
  intro n
  induction n with
  | zero => intro h; exact absurd h (Nat.lt_irrefl 0)
  | succ n ih =>
    intro h
    simp only [mx] at h ⊢
    by_cases e : mx f n < f n
    · rw [if_pos e]; exact ⟨n, by omega, rfl⟩
    · rw [if_neg e] at h ⊢
      obtain ⟨k, h1, h2⟩ := ih h
      exact ⟨k, by omega, h2⟩
theorem sm_low {W : Nat → Nat} {S m s : Nat} (hs : S.testBit s = true) (h1 : m + 1 ≤ W s) (h : ∀ v, S.testBit v = true → m ≤ W v) : ∀ n, m * cnt (fun v => S.testBit v) n + (if s < n then 1 else 0) ≤ sm W S n := by
  intro n
  induction n with
  | zero => rw [if_neg (by omega)]; exact Nat.le_refl _
  | succ n ih =>
    show m * (cnt (fun v => S.testBit v) n + (if S.testBit n = true then 1 else 0)) + _ ≤ sm W S n + (if S.testBit n = true then W n else 0)
    by_cases e : S.testBit n = true
    · have h2 := h n e
      rw [if_pos e, if_pos e, Nat.mul_succ]
      by_cases e2 : s = n
      · subst e2
        rw [if_neg (by omega)] at ih
        rw [if_pos (by omega)]
        omega
      · by_cases e3 : s < n
        · rw [if_pos e3] at ih; rw [if_pos (by omega)]; omega
        · rw [if_neg e3] at ih; rw [if_neg (by omega)]; omega
    · have e2 : s ≠ n := fun q => e (q ▸ hs)
      rw [if_neg e, if_neg e, Nat.add_zero, Nat.add_zero]
      by_cases e3 : s < n
      · rw [if_pos e3] at ih; rw [if_pos (by omega)]; exact ih
      · rw [if_neg e3] at ih; rw [if_neg (by omega)]; exact ih
/-- no node with the greatest load can be relieved: the greatest load is the least capacity -/
theorem mx_lst {A : Nat → Nat} {B : Nat} (w : WF A B) (h : fnd (rdP A) 0 (A 0) = none) : mx (ld A) (A 0) = lst A (inn A) := by
  have w2 := w.2.1
  have hpw : 2 ^ A 0 ≤ 4096 := Nat.pow_le_pow_right (by omega) w2 (n := 2)
  refine Nat.le_antisymm ?_ (lst_mx w)
  by_cases z : mx (ld A) (A 0) = 0
  · omega
  obtain ⟨s, hs, e⟩ := mx_at (f := ld A) (A 0) (by omega)
  have r := fnd_no (A 0) 0 h s (by omega) (by omega)
  unfold rdP at r
  rw [decide_eq_true e, Bool.true_and] at r
  have r' : rel A s = none := Option.not_isSome_iff_eq_none.mp (by rw [r]; decide)
  have b := BI_bfs w hs
  have lo : ∀ v, (bfs A s).2.2.2.testBit v = true → v < A 0 ∧ ld A s ≤ ld A v + 1 := by
    intro v hv
    have v12 : v < 12 := by
      refine Classical.byContradiction fun q => ?_
      have := Nat.testBit_lt_two_pow (x := (bfs A s).2.2.2) (i := v) (Nat.lt_of_lt_of_le (m := 2 ^ 12) b.2.2.1 (Nat.pow_le_pow_right (by omega) (by omega)))
      rw [this] at hv; cases hv
    obtain ⟨i, i1, i2⟩ := b.2.2.2.2.2.1 v v12 hv
    refine ⟨by rw [← i2]; exact (b.2.2.2.2.1 i i1).1, ?_⟩
    by_cases i0 : i = 0
    · subst i0
      rw [b.2.1] at i2
      rw [i2]; omega
    · have := fnd_no _ _ r' i (by omega) (by omega)
      have := of_decide_eq_false this
      rw [i2] at this
      omega
  have hS : (bfs A s).2.2.2 < 2 ^ A 0 := by
    refine Nat.lt_pow_two_of_testBit _ (fun i hi => ?_)
    refine Bool.eq_false_iff.mpr (fun q => ?_)
    have := (lo i q).1
    omega
  have ss : (bfs A s).2.2.2.testBit s = true := seen_s w hs
  have eqi : inn A (bfs A s).2.2.2 = sm (ld A) (bfs A s).2.2.2 (A 0) := by
    rw [show sm (ld A) (bfs A s).2.2.2 (A 0) = cnt (fun k => (bfs A s).2.2.2.testBit (hd A k)) (A 3) from sm_cnt (A 3) (fun k hk => hd_lt w hk)]
    refine cnt_ext (fun k hk => ?_)
    have c := bfs_all w hs hk
    unfold seen hd ot at c
    unfold hd
    by_cases q : A (136 + k) = 0
    · rw [if_pos q, if_pos q] at c
      rw [if_pos q]
      by_cases q2 : (bfs A s).2.2.2.testBit (A (56 + k)) = true
      · rw [q2, c q2]; rfl
      · rw [Bool.not_eq_true _ |>.mp q2]; rfl
    · rw [if_neg q, if_neg q] at c
      rw [if_neg q]
      by_cases q2 : (bfs A s).2.2.2.testBit (A (96 + k)) = true
      · rw [q2, c q2]; rfl
      · rw [Bool.not_eq_true _ |>.mp q2, Bool.and_false]
  have low := sm_low (W := ld A) (m := ld A s - 1) ss (by omega) (fun v hv => by have := (lo v hv).2; omega) (A 0)
  rw [if_pos hs, ← eqi, ← pct_N hS w2] at low
  refine Classical.byContradiction fun q => ?_
  have := (lst_le (l := ld A s - 1) w (inn A)).mp (by omega) (bfs A s).2.2.2 (by
    refine Nat.pos_of_ne_zero (fun z2 => ?_)
    rw [z2, Nat.zero_testBit] at ss; cases ss) hS
  omega
theorem bal_id {A : Nat → Nat} (h : fnd (rdP A) 0 (A 0) = none) : ∀ (m c : Nat), bal m A c = (c, A) := by
  intro m
  cases m with
  | zero => intro c; rfl
  | succ m => intro c; simp only [bal]; rw [h]
theorem lst_c {A A' : Nat → Nat} {f g : Nat → Nat} (h : A' 0 = A 0) (e : ∀ s, g s = f s) : lst A' g = lst A f := by
  obtain rfl : g = f := funext e
  unfold lst
  rw [h]
theorem balA_fin {A : Nat → Nat} {B : Nat} (w : WF A B) : fnd (rdP (balA A)) 0 (balA A 0) = none := bal_done 19200 A 0 (sq_le w) w
theorem balA_id {A : Nat → Nat} {B : Nat} (w : WF A B) : balA (balA A) = balA A := by
  have := bal_id (balA_fin w) 19200 0
  show (bal 19200 (balA A) 0).2 = _
  rw [this]
