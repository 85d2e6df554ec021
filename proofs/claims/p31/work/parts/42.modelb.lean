def trnA (A : Nat → Nat) (k : Nat) : Nat → Nat := up (up (up A (136 + k) (1 - A (136 + k))) (176 + k) (A (176 + k) + 1)) 2 (A 2 + 1)
def preA (A : Nat → Nat) (a b : Nat) : Nat → Nat := up (up (up A (16 + A 3) (A 1)) (56 + A 3) a) (96 + A 3) b
def addA (A : Nat → Nat) (a b : Nat) : Nat → Nat := up (up (up (up (preA A a b) (136 + A 3) (if ld A b < ld A a then 1 else 0)) (176 + A 3) 0) 3 (A 3 + 1)) 1 (A 1 + 1)
theorem pre_o {A : Nat → Nat} {a b j : Nat} (h1 : j ≠ 16 + A 3) (h2 : j ≠ 56 + A 3) (h3 : j ≠ 96 + A 3) : preA A a b j = A j := by
  unfold preA; rw [up_o h3, up_o h2, up_o h1]
theorem pre_hd {A : Nat → Nat} {a b k : Nat} (h3 : A 3 < 40) (hk : k < A 3) : hd (preA A a b) k = hd A k := by
  unfold hd; rw [pre_o (by omega) (by omega) (by omega), pre_o (by omega) (by omega) (by omega), pre_o (by omega) (by omega) (by omega)]
theorem pre_ld {A : Nat → Nat} {a b v : Nat} (h3 : A 3 < 40) : ld (preA A a b) v = ld A v := by
  unfold ld
  rw [pre_o (by omega) (by omega) (by omega)]
  exact cnt_ext (fun k hk => by rw [pre_hd h3 hk])
theorem pre_WF {A : Nat → Nat} {B a b : Nat} (w : WF A B) (h3 : A 3 < 40) : WF (preA A a b) B := by
  obtain ⟨w1, w2, w3, w4, w5, w6, w7⟩ := w
  refine ⟨?_, ?_, ?_, ?_, ?_, ?_, ?_⟩
  · rw [pre_o (by omega) (by omega) (by omega)]; exact w1
  · rw [pre_o (by omega) (by omega) (by omega)]; exact w2
  · rw [pre_o (by omega) (by omega) (by omega)]; exact w3
  · rw [pre_o (by omega) (by omega) (by omega)]; exact w4
  · intro k hk
    rw [pre_o (by omega) (by omega) (by omega)] at hk
    rw [pre_o (by omega) (by omega) (by omega), pre_o (by omega) (by omega) (by omega), pre_o (by omega) (by omega) (by omega), pre_o (by omega) (by omega) (by omega), pre_o (by omega) (by omega) (by omega), pre_o (by omega) (by omega) (by omega)]
    exact w5 k hk
  · intro j k hj hk
    rw [pre_o (by omega) (by omega) (by omega)] at hk
    rw [pre_o (by omega) (by omega) (by omega), pre_o (by omega) (by omega) (by omega)]
    exact w6 j k hj hk
  · intro v hv
    rw [pre_o (by omega) (by omega) (by omega)]
    exact w7 v hv
def zrA (n : Nat) : Nat → Nat := fun j => if j = 0 then n else if 4 ≤ j ∧ j < 16 then 3 else 0
