/-! ===== the model's row, by natural numbers ===== -/
def up (A : Nat → Nat) (i v : Nat) : Nat → Nat := fun j => if j = i then v else A j
theorem up_s {A : Nat → Nat} {i v : Nat} : up A i v i = v := if_pos rfl
theorem up_o {A : Nat → Nat} {i v j : Nat} (h : j ≠ i) : up A i v j = A j := if_neg h
def hd (A : Nat → Nat) (k : Nat) : Nat := if A (136 + k) = 0 then A (56 + k) else A (96 + k)
def ot (A : Nat → Nat) (k : Nat) : Nat := if A (136 + k) = 0 then A (96 + k) else A (56 + k)
def cnt (p : Nat → Bool) : Nat → Nat
  | 0 => 0
  | n + 1 => cnt p n + (if p n = true then 1 else 0)
theorem cnt_le (p : Nat → Bool) (n : Nat) : cnt p n ≤ n := by
  induction n with
  | zero => exact Nat.le_refl _
  | succ n ih => simp only [cnt]; split <;> omega
theorem cnt_ext {p q : Nat → Bool} {n : Nat} (h : ∀ k, k < n → p k = q k) : cnt p n = cnt q n := by
  induction n with
  | zero => rfl
  | succ n ih => simp only [cnt]; rw [ih (fun k hk => h k (by omega)), h n (by omega)]
def ld (A : Nat → Nat) (v : Nat) : Nat := cnt (fun k => hd A k == v) (A 3)
def fnd (p : Nat → Bool) : Nat → Nat → Option Nat
  | _, 0 => none
  | i, d + 1 => if p i = true then some i else fnd p (i + 1) d
def plI (o : Option Nat) : Int32 := match o with
  | some k => nI k
  | none => -1
def WF (A : Nat → Nat) (B : Nat) : Prop := 2 ≤ A 0 ∧ A 0 ≤ 12 ∧ A 3 ≤ 40 ∧ A 1 ≤ B ∧ (∀ k, k < A 3 → A (56 + k) < A 0 ∧ A (96 + k) < A 0 ∧ A (56 + k) ≠ A (96 + k) ∧ A (136 + k) ≤ 1 ∧ A (16 + k) < A 1) ∧ (∀ j k, j < k → k < A 3 → A (16 + j) < A (16 + k)) ∧ ∀ v, v < 12 → A (4 + v) ≤ 40
theorem isb0 : isb (nI 0) = true := by decide
theorem isb1 : isb (nI 1) = true := by decide
def bI (b : Bool) : Int32 := if b = true then nI 1 else nI 0
theorem bI_isb (b : Bool) : isb (bI b) = true := by cases b <;> decide
theorem bI_0 (b : Bool) : (bI b = nI 0) = (b = false) := by cases b <;> simp [bI, nI] <;> decide
/-- a number from one to another one -/
def inI (x lo hi : Int32) : Bool := decide (¬ x < lo ∧ ¬ hi < x)
/-- the code of the first refusal -/
def rfc (a b c : Bool) : Nat := if a = true then 1 else if b = true then 2 else if c = true then 3 else 0
theorem hd_lt {A : Nat → Nat} {B k : Nat} (w : WF A B) (hk : k < A 3) : hd A k < A 0 := by
  have := w.2.2.2.2.1 k hk
  unfold hd; split <;> omega
theorem ot_lt {A : Nat → Nat} {B k : Nat} (w : WF A B) (hk : k < A 3) : ot A k < A 0 := by
  have := w.2.2.2.2.1 k hk
  unfold ot; split <;> omega
theorem ld_le {A : Nat → Nat} {B : Nat} (w : WF A B) (v : Nat) : ld A v ≤ 40 := Nat.le_trans (cnt_le _ _) w.2.2.1
def plc (A : Nat → Nat) (x : Int32) : Option Nat := fnd (fun k => decide (nI (A (16 + k)) = x)) 0 (A 3)
theorem fnd_some {p : Nat → Bool} : ∀ (d i k : Nat), fnd p i d = some k → i ≤ k ∧ k < i + d ∧ p k = true := by
  intro d
  induction d with
  | zero => intro i k h; cases h
  | succ d ih =>
    intro i k h
    simp only [fnd] at h
    by_cases e : p i = true
    · rw [if_pos e] at h
      cases h
      exact ⟨Nat.le_refl _, by omega, e⟩
    · rw [if_neg e] at h
      obtain ⟨h1, h2, h3⟩ := ih (i + 1) k h
      exact ⟨by omega, by omega, h3⟩
theorem plc_lt {A : Nat → Nat} {x : Int32} {k : Nat} (h : plc A x = some k) : k < A 3 := by
  have := fnd_some _ _ _ h
  omega
theorem plI_ge {A : Nat → Nat} {B : Nat} (w : WF A B) (x : Int32) : (0 ≤ plI (plc A x)) = ((plc A x).isSome = true) := by
  have w3 := w.2.2.1
  cases e : plc A x with
  | none => simp [plI]
  | some k =>
    have := plc_lt e
    simp only [plI, Option.isSome_some, eq_self_iff_true, n0]
    simp (disch := omega) only [le_n, Nat.zero_le]
