/-! ===== the whole layout of the class, behind its constructor ===== -/
def kTt (_ : Unit) : Nat → Nat := fun i => match i with
  | 0 => 5
  | 1 => 4
  | 2 => 8
  | 3 => 4
  | 4 => 8
  | 5 => 4
  | 6 => 8
  | 7 => 3
  | 8 => 8
  | 9 => 8
  | 10 => 4
  | 11 => 8
  | 12 => 2
  | 13 => 4
  | 14 => 8
  | 15 => 1
  | 16 => 9
  | 17 => 6
  | 18 => 10
  | _ => 8
def lTt (_ : Unit) : Nat → Nat := fun i => match i with
  | 8 => 4096
  | 9 => 4096
  | 14 => 100
  | _ => 12
def kCt (_ : Unit) : Nat → Nat := fun i => if i < 90 then kGt () (i % 15) else kTt () (i - 90)
def lCt (_ : Unit) : Nat → Nat := fun i => if i < 90 then lGt () (i % 15) else lTt () (i - 90)
abbrev Gc (D : va_G) (cI cG cL : ClassId) (a : Nat → Nat) : Lay := (D, 109, a, kCt (), lCt (), cI, cG, cL)
set_option maxHeartbeats 4000000 in
set_option maxRecDepth 100000 in
theorem isEHc (D : va_G) (cI cG cL : ClassId) (a : Nat → Nat) : isEH (Gc D cI cG cL a) 107 := by
  refine ⟨⟨Nat.le_of_ble_eq_true rfl, rfl⟩, ⟨⟨Nat.le_of_ble_eq_true rfl, rfl⟩, ⟨⟨Nat.le_of_ble_eq_true rfl, rfl⟩, ⟨Nat.le_of_ble_eq_true rfl, rfl⟩⟩, ⟨⟨Nat.le_of_ble_eq_true rfl, rfl⟩, ⟨Nat.le_of_ble_eq_true rfl, rfl⟩⟩, ⟨⟨Nat.le_of_ble_eq_true rfl, rfl⟩, ⟨Nat.le_of_ble_eq_true rfl, rfl⟩⟩, ⟨⟨Nat.le_of_ble_eq_true rfl, rfl⟩, ⟨Nat.le_of_ble_eq_true rfl, rfl⟩⟩, ⟨⟨Nat.le_of_ble_eq_true rfl, rfl⟩, ⟨Nat.le_of_ble_eq_true rfl, rfl⟩⟩, ⟨⟨Nat.le_of_ble_eq_true rfl, rfl⟩, ⟨Nat.le_of_ble_eq_true rfl, rfl⟩⟩, ⟨⟨Nat.le_of_ble_eq_true rfl, rfl⟩, ⟨Nat.le_of_ble_eq_true rfl, rfl⟩⟩⟩, ⟨⟨Nat.le_of_ble_eq_true rfl, rfl⟩, ⟨⟨Nat.le_of_ble_eq_true rfl, rfl⟩, ⟨Nat.le_of_ble_eq_true rfl, rfl⟩⟩, ⟨⟨Nat.le_of_ble_eq_true rfl, rfl⟩, ⟨Nat.le_of_ble_eq_true rfl, rfl⟩⟩, ⟨⟨Nat.le_of_ble_eq_true rfl, rfl⟩, ⟨Nat.le_of_ble_eq_true rfl, rfl⟩⟩, ⟨⟨Nat.le_of_ble_eq_true rfl, rfl⟩, ⟨Nat.le_of_ble_eq_true rfl, rfl⟩⟩, ⟨⟨Nat.le_of_ble_eq_true rfl, rfl⟩, ⟨Nat.le_of_ble_eq_true rfl, rfl⟩⟩, ⟨⟨Nat.le_of_ble_eq_true rfl, rfl⟩, ⟨Nat.le_of_ble_eq_true rfl, rfl⟩⟩, ⟨⟨Nat.le_of_ble_eq_true rfl, rfl⟩, ⟨Nat.le_of_ble_eq_true rfl, rfl⟩⟩⟩, ⟨⟨Nat.le_of_ble_eq_true rfl, rfl⟩, ⟨⟨Nat.le_of_ble_eq_true rfl, rfl⟩, ⟨Nat.le_of_ble_eq_true rfl, rfl⟩⟩, ⟨⟨Nat.le_of_ble_eq_true rfl, rfl⟩, ⟨Nat.le_of_ble_eq_true rfl, rfl⟩⟩, ⟨⟨Nat.le_of_ble_eq_true rfl, rfl⟩, ⟨Nat.le_of_ble_eq_true rfl, rfl⟩⟩⟩, ⟨⟨Nat.le_of_ble_eq_true rfl, rfl⟩, ⟨Nat.le_of_ble_eq_true rfl, rfl⟩, ⟨Nat.le_of_ble_eq_true rfl, rfl⟩, ⟨⟨Nat.le_of_ble_eq_true rfl, rfl⟩, ⟨Nat.le_of_ble_eq_true rfl, rfl⟩⟩⟩, ⟨⟨Nat.le_of_ble_eq_true rfl, rfl⟩, ⟨⟨Nat.le_of_ble_eq_true rfl, rfl⟩, ⟨Nat.le_of_ble_eq_true rfl, rfl⟩⟩⟩, ⟨⟨Nat.le_of_ble_eq_true rfl, rfl⟩, ⟨Nat.le_of_ble_eq_true rfl, rfl⟩, fun i hi => ?_⟩⟩
  rcases (show i = 0 ∨ i = 1 ∨ i = 2 ∨ i = 3 by omega) with rfl | rfl | rfl | rfl
  · exact ⟨⟨Nat.le_of_ble_eq_true rfl, rfl⟩, ⟨⟨Nat.le_of_ble_eq_true rfl, rfl⟩, ⟨Nat.le_of_ble_eq_true rfl, rfl⟩⟩, ⟨⟨Nat.le_of_ble_eq_true rfl, rfl⟩, ⟨Nat.le_of_ble_eq_true rfl, rfl⟩⟩, ⟨⟨Nat.le_of_ble_eq_true rfl, rfl⟩, ⟨Nat.le_of_ble_eq_true rfl, rfl⟩⟩, ⟨⟨Nat.le_of_ble_eq_true rfl, rfl⟩, ⟨Nat.le_of_ble_eq_true rfl, rfl⟩⟩, ⟨⟨Nat.le_of_ble_eq_true rfl, rfl⟩, ⟨Nat.le_of_ble_eq_true rfl, rfl⟩⟩, ⟨⟨Nat.le_of_ble_eq_true rfl, rfl⟩, ⟨Nat.le_of_ble_eq_true rfl, rfl⟩⟩, ⟨⟨Nat.le_of_ble_eq_true rfl, rfl⟩, ⟨Nat.le_of_ble_eq_true rfl, rfl⟩⟩⟩
  · exact ⟨⟨Nat.le_of_ble_eq_true rfl, rfl⟩, ⟨⟨Nat.le_of_ble_eq_true rfl, rfl⟩, ⟨Nat.le_of_ble_eq_true rfl, rfl⟩⟩, ⟨⟨Nat.le_of_ble_eq_true rfl, rfl⟩, ⟨Nat.le_of_ble_eq_true rfl, rfl⟩⟩, ⟨⟨Nat.le_of_ble_eq_true rfl, rfl⟩, ⟨Nat.le_of_ble_eq_true rfl, rfl⟩⟩, ⟨⟨Nat.le_of_ble_eq_true rfl, rfl⟩, ⟨Nat.le_of_ble_eq_true rfl, rfl⟩⟩, ⟨⟨Nat.le_of_ble_eq_true rfl, rfl⟩, ⟨Nat.le_of_ble_eq_true rfl, rfl⟩⟩, ⟨⟨Nat.le_of_ble_eq_true rfl, rfl⟩, ⟨Nat.le_of_ble_eq_true rfl, rfl⟩⟩, ⟨⟨Nat.le_of_ble_eq_true rfl, rfl⟩, ⟨Nat.le_of_ble_eq_true rfl, rfl⟩⟩⟩
  · exact ⟨⟨Nat.le_of_ble_eq_true rfl, rfl⟩, ⟨⟨Nat.le_of_ble_eq_true rfl, rfl⟩, ⟨Nat.le_of_ble_eq_true rfl, rfl⟩⟩, ⟨⟨Nat.le_of_ble_eq_true rfl, rfl⟩, ⟨Nat.le_of_ble_eq_true rfl, rfl⟩⟩, ⟨⟨Nat.le_of_ble_eq_true rfl, rfl⟩, ⟨Nat.le_of_ble_eq_true rfl, rfl⟩⟩, ⟨⟨Nat.le_of_ble_eq_true rfl, rfl⟩, ⟨Nat.le_of_ble_eq_true rfl, rfl⟩⟩, ⟨⟨Nat.le_of_ble_eq_true rfl, rfl⟩, ⟨Nat.le_of_ble_eq_true rfl, rfl⟩⟩, ⟨⟨Nat.le_of_ble_eq_true rfl, rfl⟩, ⟨Nat.le_of_ble_eq_true rfl, rfl⟩⟩, ⟨⟨Nat.le_of_ble_eq_true rfl, rfl⟩, ⟨Nat.le_of_ble_eq_true rfl, rfl⟩⟩⟩
  · exact ⟨⟨Nat.le_of_ble_eq_true rfl, rfl⟩, ⟨⟨Nat.le_of_ble_eq_true rfl, rfl⟩, ⟨Nat.le_of_ble_eq_true rfl, rfl⟩⟩, ⟨⟨Nat.le_of_ble_eq_true rfl, rfl⟩, ⟨Nat.le_of_ble_eq_true rfl, rfl⟩⟩, ⟨⟨Nat.le_of_ble_eq_true rfl, rfl⟩, ⟨Nat.le_of_ble_eq_true rfl, rfl⟩⟩, ⟨⟨Nat.le_of_ble_eq_true rfl, rfl⟩, ⟨Nat.le_of_ble_eq_true rfl, rfl⟩⟩, ⟨⟨Nat.le_of_ble_eq_true rfl, rfl⟩, ⟨Nat.le_of_ble_eq_true rfl, rfl⟩⟩, ⟨⟨Nat.le_of_ble_eq_true rfl, rfl⟩, ⟨Nat.le_of_ble_eq_true rfl, rfl⟩⟩, ⟨⟨Nat.le_of_ble_eq_true rfl, rfl⟩, ⟨Nat.le_of_ble_eq_true rfl, rfl⟩⟩⟩
set_option maxHeartbeats 4000000 in
set_option maxRecDepth 100000 in
theorem kGt_in (j : Nat) : kGt () j ≠ 7 ∧ kGt () j ≤ 9 := by
  unfold kGt
  split <;> exact ⟨by decide, by decide⟩
set_option maxHeartbeats 4000000 in
set_option maxRecDepth 100000 in
theorem kTt_in (j : Nat) (h : j ≠ 18) : kTt () j ≠ 7 ∧ kTt () j ≤ 9 := by
  unfold kTt
  split <;> first | exact ⟨by decide, by decide⟩ | exact absurd rfl h
set_option maxHeartbeats 4000000 in
set_option maxRecDepth 100000 in
theorem isOutc (D : va_G) (cI cG cL : ClassId) (a : Nat → Nat) : isOut (Gc D cI cG cL a) 108 := by
  refine ⟨⟨Nat.le_of_ble_eq_true rfl, rfl⟩, fun i hi => ?_⟩
  show kCt () i ≠ 7 ∧ kCt () i ≤ 9
  unfold kCt
  by_cases h : i < 90
  · rw [if_pos h]; exact kGt_in _
  · rw [if_neg h]; exact kTt_in _ (by omega)
def σI : cS := fun k j => if k < 90 then gI (k % 15) j else (if k = 102 then (if j = 3 then -1 else 0) else 0)
def pC (k : Nat) : Nat := if k < 30 then k + 1 else if k < 90 then k + 18 else if k < 107 then k - 59 else if k = 107 then 0 else 115
def aC (a : Nat → Nat) (o : Nat) : Nat → Nat := fun k => if k < 30 then a (k + 1) else if k < 90 then a (k + 18) else if k < 107 then a (k - 59) else if k = 107 then a 0 else o
def wL (D : va_G) (cI cG cL : ClassId) (a b : Nat → Nat) (o : Nat) : va_W := w6 D cI cG cL a ++ w7 D cI cG cL b ++ [(o, .inl (cL, 1, .inr (.inl (fun _ => 0))))]
set_option maxHeartbeats 4000000 in
set_option maxRecDepth 100000 in
theorem wc_0 (D : va_G) (cI cG cL : ClassId) (a b : Nat → Nat) (o : Nat) : (wL D cI cG cL a b o)[pC 0]? = some (la (Gc D cI cG cL (aC a o)) 0, ce (Gc D cI cG cL (aC a o)) 0 σI 0) := rfl
set_option maxHeartbeats 4000000 in
set_option maxRecDepth 100000 in
theorem wc_1 (D : va_G) (cI cG cL : ClassId) (a b : Nat → Nat) (o : Nat) : (wL D cI cG cL a b o)[pC 1]? = some (la (Gc D cI cG cL (aC a o)) 1, ce (Gc D cI cG cL (aC a o)) 0 σI 1) := rfl
set_option maxHeartbeats 4000000 in
set_option maxRecDepth 100000 in
theorem wc_2 (D : va_G) (cI cG cL : ClassId) (a b : Nat → Nat) (o : Nat) : (wL D cI cG cL a b o)[pC 2]? = some (la (Gc D cI cG cL (aC a o)) 2, ce (Gc D cI cG cL (aC a o)) 0 σI 2) := rfl
set_option maxHeartbeats 4000000 in
set_option maxRecDepth 100000 in
theorem wc_3 (D : va_G) (cI cG cL : ClassId) (a b : Nat → Nat) (o : Nat) : (wL D cI cG cL a b o)[pC 3]? = some (la (Gc D cI cG cL (aC a o)) 3, ce (Gc D cI cG cL (aC a o)) 0 σI 3) := rfl
set_option maxHeartbeats 4000000 in
set_option maxRecDepth 100000 in
theorem wc_4 (D : va_G) (cI cG cL : ClassId) (a b : Nat → Nat) (o : Nat) : (wL D cI cG cL a b o)[pC 4]? = some (la (Gc D cI cG cL (aC a o)) 4, ce (Gc D cI cG cL (aC a o)) 0 σI 4) := rfl
set_option maxHeartbeats 4000000 in
set_option maxRecDepth 100000 in
theorem wc_5 (D : va_G) (cI cG cL : ClassId) (a b : Nat → Nat) (o : Nat) : (wL D cI cG cL a b o)[pC 5]? = some (la (Gc D cI cG cL (aC a o)) 5, ce (Gc D cI cG cL (aC a o)) 0 σI 5) := rfl
set_option maxHeartbeats 4000000 in
set_option maxRecDepth 100000 in
theorem wc_6 (D : va_G) (cI cG cL : ClassId) (a b : Nat → Nat) (o : Nat) : (wL D cI cG cL a b o)[pC 6]? = some (la (Gc D cI cG cL (aC a o)) 6, ce (Gc D cI cG cL (aC a o)) 0 σI 6) := rfl
set_option maxHeartbeats 4000000 in
set_option maxRecDepth 100000 in
theorem wc_7 (D : va_G) (cI cG cL : ClassId) (a b : Nat → Nat) (o : Nat) : (wL D cI cG cL a b o)[pC 7]? = some (la (Gc D cI cG cL (aC a o)) 7, ce (Gc D cI cG cL (aC a o)) 0 σI 7) := rfl
set_option maxHeartbeats 4000000 in
set_option maxRecDepth 100000 in
theorem wc_8 (D : va_G) (cI cG cL : ClassId) (a b : Nat → Nat) (o : Nat) : (wL D cI cG cL a b o)[pC 8]? = some (la (Gc D cI cG cL (aC a o)) 8, ce (Gc D cI cG cL (aC a o)) 0 σI 8) := rfl
set_option maxHeartbeats 4000000 in
set_option maxRecDepth 100000 in
theorem wc_9 (D : va_G) (cI cG cL : ClassId) (a b : Nat → Nat) (o : Nat) : (wL D cI cG cL a b o)[pC 9]? = some (la (Gc D cI cG cL (aC a o)) 9, ce (Gc D cI cG cL (aC a o)) 0 σI 9) := rfl
set_option maxHeartbeats 4000000 in
set_option maxRecDepth 100000 in
theorem wc_10 (D : va_G) (cI cG cL : ClassId) (a b : Nat → Nat) (o : Nat) : (wL D cI cG cL a b o)[pC 10]? = some (la (Gc D cI cG cL (aC a o)) 10, ce (Gc D cI cG cL (aC a o)) 0 σI 10) := rfl
set_option maxHeartbeats 4000000 in
set_option maxRecDepth 100000 in
theorem wc_11 (D : va_G) (cI cG cL : ClassId) (a b : Nat → Nat) (o : Nat) : (wL D cI cG cL a b o)[pC 11]? = some (la (Gc D cI cG cL (aC a o)) 11, ce (Gc D cI cG cL (aC a o)) 0 σI 11) := rfl
set_option maxHeartbeats 4000000 in
set_option maxRecDepth 100000 in
theorem wc_12 (D : va_G) (cI cG cL : ClassId) (a b : Nat → Nat) (o : Nat) : (wL D cI cG cL a b o)[pC 12]? = some (la (Gc D cI cG cL (aC a o)) 12, ce (Gc D cI cG cL (aC a o)) 0 σI 12) := rfl
set_option maxHeartbeats 4000000 in
set_option maxRecDepth 100000 in
theorem wc_13 (D : va_G) (cI cG cL : ClassId) (a b : Nat → Nat) (o : Nat) : (wL D cI cG cL a b o)[pC 13]? = some (la (Gc D cI cG cL (aC a o)) 13, ce (Gc D cI cG cL (aC a o)) 0 σI 13) := rfl
set_option maxHeartbeats 4000000 in
set_option maxRecDepth 100000 in
theorem wc_14 (D : va_G) (cI cG cL : ClassId) (a b : Nat → Nat) (o : Nat) : (wL D cI cG cL a b o)[pC 14]? = some (la (Gc D cI cG cL (aC a o)) 14, ce (Gc D cI cG cL (aC a o)) 0 σI 14) := rfl
set_option maxHeartbeats 4000000 in
set_option maxRecDepth 100000 in
theorem wc_15 (D : va_G) (cI cG cL : ClassId) (a b : Nat → Nat) (o : Nat) : (wL D cI cG cL a b o)[pC 15]? = some (la (Gc D cI cG cL (aC a o)) 15, ce (Gc D cI cG cL (aC a o)) 0 σI 15) := rfl
set_option maxHeartbeats 4000000 in
set_option maxRecDepth 100000 in
theorem wc_16 (D : va_G) (cI cG cL : ClassId) (a b : Nat → Nat) (o : Nat) : (wL D cI cG cL a b o)[pC 16]? = some (la (Gc D cI cG cL (aC a o)) 16, ce (Gc D cI cG cL (aC a o)) 0 σI 16) := rfl
set_option maxHeartbeats 4000000 in
set_option maxRecDepth 100000 in
theorem wc_17 (D : va_G) (cI cG cL : ClassId) (a b : Nat → Nat) (o : Nat) : (wL D cI cG cL a b o)[pC 17]? = some (la (Gc D cI cG cL (aC a o)) 17, ce (Gc D cI cG cL (aC a o)) 0 σI 17) := rfl
set_option maxHeartbeats 4000000 in
set_option maxRecDepth 100000 in
theorem wc_18 (D : va_G) (cI cG cL : ClassId) (a b : Nat → Nat) (o : Nat) : (wL D cI cG cL a b o)[pC 18]? = some (la (Gc D cI cG cL (aC a o)) 18, ce (Gc D cI cG cL (aC a o)) 0 σI 18) := rfl
set_option maxHeartbeats 4000000 in
set_option maxRecDepth 100000 in
theorem wc_19 (D : va_G) (cI cG cL : ClassId) (a b : Nat → Nat) (o : Nat) : (wL D cI cG cL a b o)[pC 19]? = some (la (Gc D cI cG cL (aC a o)) 19, ce (Gc D cI cG cL (aC a o)) 0 σI 19) := rfl
set_option maxHeartbeats 4000000 in
set_option maxRecDepth 100000 in
theorem wc_20 (D : va_G) (cI cG cL : ClassId) (a b : Nat → Nat) (o : Nat) : (wL D cI cG cL a b o)[pC 20]? = some (la (Gc D cI cG cL (aC a o)) 20, ce (Gc D cI cG cL (aC a o)) 0 σI 20) := rfl
set_option maxHeartbeats 4000000 in
set_option maxRecDepth 100000 in
theorem wc_21 (D : va_G) (cI cG cL : ClassId) (a b : Nat → Nat) (o : Nat) : (wL D cI cG cL a b o)[pC 21]? = some (la (Gc D cI cG cL (aC a o)) 21, ce (Gc D cI cG cL (aC a o)) 0 σI 21) := rfl
set_option maxHeartbeats 4000000 in
set_option maxRecDepth 100000 in
theorem wc_22 (D : va_G) (cI cG cL : ClassId) (a b : Nat → Nat) (o : Nat) : (wL D cI cG cL a b o)[pC 22]? = some (la (Gc D cI cG cL (aC a o)) 22, ce (Gc D cI cG cL (aC a o)) 0 σI 22) := rfl
set_option maxHeartbeats 4000000 in
set_option maxRecDepth 100000 in
theorem wc_23 (D : va_G) (cI cG cL : ClassId) (a b : Nat → Nat) (o : Nat) : (wL D cI cG cL a b o)[pC 23]? = some (la (Gc D cI cG cL (aC a o)) 23, ce (Gc D cI cG cL (aC a o)) 0 σI 23) := rfl
set_option maxHeartbeats 4000000 in
set_option maxRecDepth 100000 in
theorem wc_24 (D : va_G) (cI cG cL : ClassId) (a b : Nat → Nat) (o : Nat) : (wL D cI cG cL a b o)[pC 24]? = some (la (Gc D cI cG cL (aC a o)) 24, ce (Gc D cI cG cL (aC a o)) 0 σI 24) := rfl
set_option maxHeartbeats 4000000 in
set_option maxRecDepth 100000 in
theorem wc_25 (D : va_G) (cI cG cL : ClassId) (a b : Nat → Nat) (o : Nat) : (wL D cI cG cL a b o)[pC 25]? = some (la (Gc D cI cG cL (aC a o)) 25, ce (Gc D cI cG cL (aC a o)) 0 σI 25) := rfl
set_option maxHeartbeats 4000000 in
set_option maxRecDepth 100000 in
theorem wc_26 (D : va_G) (cI cG cL : ClassId) (a b : Nat → Nat) (o : Nat) : (wL D cI cG cL a b o)[pC 26]? = some (la (Gc D cI cG cL (aC a o)) 26, ce (Gc D cI cG cL (aC a o)) 0 σI 26) := rfl
set_option maxHeartbeats 4000000 in
set_option maxRecDepth 100000 in
theorem wc_27 (D : va_G) (cI cG cL : ClassId) (a b : Nat → Nat) (o : Nat) : (wL D cI cG cL a b o)[pC 27]? = some (la (Gc D cI cG cL (aC a o)) 27, ce (Gc D cI cG cL (aC a o)) 0 σI 27) := rfl
set_option maxHeartbeats 4000000 in
set_option maxRecDepth 100000 in
theorem wc_28 (D : va_G) (cI cG cL : ClassId) (a b : Nat → Nat) (o : Nat) : (wL D cI cG cL a b o)[pC 28]? = some (la (Gc D cI cG cL (aC a o)) 28, ce (Gc D cI cG cL (aC a o)) 0 σI 28) := rfl
set_option maxHeartbeats 4000000 in
set_option maxRecDepth 100000 in
theorem wc_29 (D : va_G) (cI cG cL : ClassId) (a b : Nat → Nat) (o : Nat) : (wL D cI cG cL a b o)[pC 29]? = some (la (Gc D cI cG cL (aC a o)) 29, ce (Gc D cI cG cL (aC a o)) 0 σI 29) := rfl
set_option maxHeartbeats 4000000 in
set_option maxRecDepth 100000 in
theorem wc_30 (D : va_G) (cI cG cL : ClassId) (a b : Nat → Nat) (o : Nat) : (wL D cI cG cL a b o)[pC 30]? = some (la (Gc D cI cG cL (aC a o)) 30, ce (Gc D cI cG cL (aC a o)) 0 σI 30) := rfl
set_option maxHeartbeats 4000000 in
set_option maxRecDepth 100000 in
theorem wc_31 (D : va_G) (cI cG cL : ClassId) (a b : Nat → Nat) (o : Nat) : (wL D cI cG cL a b o)[pC 31]? = some (la (Gc D cI cG cL (aC a o)) 31, ce (Gc D cI cG cL (aC a o)) 0 σI 31) := rfl
set_option maxHeartbeats 4000000 in
set_option maxRecDepth 100000 in
theorem wc_32 (D : va_G) (cI cG cL : ClassId) (a b : Nat → Nat) (o : Nat) : (wL D cI cG cL a b o)[pC 32]? = some (la (Gc D cI cG cL (aC a o)) 32, ce (Gc D cI cG cL (aC a o)) 0 σI 32) := rfl
set_option maxHeartbeats 4000000 in
set_option maxRecDepth 100000 in
theorem wc_33 (D : va_G) (cI cG cL : ClassId) (a b : Nat → Nat) (o : Nat) : (wL D cI cG cL a b o)[pC 33]? = some (la (Gc D cI cG cL (aC a o)) 33, ce (Gc D cI cG cL (aC a o)) 0 σI 33) := rfl
set_option maxHeartbeats 4000000 in
set_option maxRecDepth 100000 in
theorem wc_34 (D : va_G) (cI cG cL : ClassId) (a b : Nat → Nat) (o : Nat) : (wL D cI cG cL a b o)[pC 34]? = some (la (Gc D cI cG cL (aC a o)) 34, ce (Gc D cI cG cL (aC a o)) 0 σI 34) := rfl
set_option maxHeartbeats 4000000 in
set_option maxRecDepth 100000 in
theorem wc_35 (D : va_G) (cI cG cL : ClassId) (a b : Nat → Nat) (o : Nat) : (wL D cI cG cL a b o)[pC 35]? = some (la (Gc D cI cG cL (aC a o)) 35, ce (Gc D cI cG cL (aC a o)) 0 σI 35) := rfl
set_option maxHeartbeats 4000000 in
set_option maxRecDepth 100000 in
theorem wc_36 (D : va_G) (cI cG cL : ClassId) (a b : Nat → Nat) (o : Nat) : (wL D cI cG cL a b o)[pC 36]? = some (la (Gc D cI cG cL (aC a o)) 36, ce (Gc D cI cG cL (aC a o)) 0 σI 36) := rfl
set_option maxHeartbeats 4000000 in
set_option maxRecDepth 100000 in
theorem wc_37 (D : va_G) (cI cG cL : ClassId) (a b : Nat → Nat) (o : Nat) : (wL D cI cG cL a b o)[pC 37]? = some (la (Gc D cI cG cL (aC a o)) 37, ce (Gc D cI cG cL (aC a o)) 0 σI 37) := rfl
set_option maxHeartbeats 4000000 in
set_option maxRecDepth 100000 in
theorem wc_38 (D : va_G) (cI cG cL : ClassId) (a b : Nat → Nat) (o : Nat) : (wL D cI cG cL a b o)[pC 38]? = some (la (Gc D cI cG cL (aC a o)) 38, ce (Gc D cI cG cL (aC a o)) 0 σI 38) := rfl
set_option maxHeartbeats 4000000 in
set_option maxRecDepth 100000 in
theorem wc_39 (D : va_G) (cI cG cL : ClassId) (a b : Nat → Nat) (o : Nat) : (wL D cI cG cL a b o)[pC 39]? = some (la (Gc D cI cG cL (aC a o)) 39, ce (Gc D cI cG cL (aC a o)) 0 σI 39) := rfl
set_option maxHeartbeats 4000000 in
set_option maxRecDepth 100000 in
theorem wc_40 (D : va_G) (cI cG cL : ClassId) (a b : Nat → Nat) (o : Nat) : (wL D cI cG cL a b o)[pC 40]? = some (la (Gc D cI cG cL (aC a o)) 40, ce (Gc D cI cG cL (aC a o)) 0 σI 40) := rfl
set_option maxHeartbeats 4000000 in
set_option maxRecDepth 100000 in
theorem wc_41 (D : va_G) (cI cG cL : ClassId) (a b : Nat → Nat) (o : Nat) : (wL D cI cG cL a b o)[pC 41]? = some (la (Gc D cI cG cL (aC a o)) 41, ce (Gc D cI cG cL (aC a o)) 0 σI 41) := rfl
set_option maxHeartbeats 4000000 in
set_option maxRecDepth 100000 in
theorem wc_42 (D : va_G) (cI cG cL : ClassId) (a b : Nat → Nat) (o : Nat) : (wL D cI cG cL a b o)[pC 42]? = some (la (Gc D cI cG cL (aC a o)) 42, ce (Gc D cI cG cL (aC a o)) 0 σI 42) := rfl
set_option maxHeartbeats 4000000 in
set_option maxRecDepth 100000 in
theorem wc_43 (D : va_G) (cI cG cL : ClassId) (a b : Nat → Nat) (o : Nat) : (wL D cI cG cL a b o)[pC 43]? = some (la (Gc D cI cG cL (aC a o)) 43, ce (Gc D cI cG cL (aC a o)) 0 σI 43) := rfl
set_option maxHeartbeats 4000000 in
set_option maxRecDepth 100000 in
theorem wc_44 (D : va_G) (cI cG cL : ClassId) (a b : Nat → Nat) (o : Nat) : (wL D cI cG cL a b o)[pC 44]? = some (la (Gc D cI cG cL (aC a o)) 44, ce (Gc D cI cG cL (aC a o)) 0 σI 44) := rfl
set_option maxHeartbeats 4000000 in
set_option maxRecDepth 100000 in
theorem wc_45 (D : va_G) (cI cG cL : ClassId) (a b : Nat → Nat) (o : Nat) : (wL D cI cG cL a b o)[pC 45]? = some (la (Gc D cI cG cL (aC a o)) 45, ce (Gc D cI cG cL (aC a o)) 0 σI 45) := rfl
set_option maxHeartbeats 4000000 in
set_option maxRecDepth 100000 in
theorem wc_46 (D : va_G) (cI cG cL : ClassId) (a b : Nat → Nat) (o : Nat) : (wL D cI cG cL a b o)[pC 46]? = some (la (Gc D cI cG cL (aC a o)) 46, ce (Gc D cI cG cL (aC a o)) 0 σI 46) := rfl
set_option maxHeartbeats 4000000 in
set_option maxRecDepth 100000 in
theorem wc_47 (D : va_G) (cI cG cL : ClassId) (a b : Nat → Nat) (o : Nat) : (wL D cI cG cL a b o)[pC 47]? = some (la (Gc D cI cG cL (aC a o)) 47, ce (Gc D cI cG cL (aC a o)) 0 σI 47) := rfl
set_option maxHeartbeats 4000000 in
set_option maxRecDepth 100000 in
theorem wc_48 (D : va_G) (cI cG cL : ClassId) (a b : Nat → Nat) (o : Nat) : (wL D cI cG cL a b o)[pC 48]? = some (la (Gc D cI cG cL (aC a o)) 48, ce (Gc D cI cG cL (aC a o)) 0 σI 48) := rfl
set_option maxHeartbeats 4000000 in
set_option maxRecDepth 100000 in
theorem wc_49 (D : va_G) (cI cG cL : ClassId) (a b : Nat → Nat) (o : Nat) : (wL D cI cG cL a b o)[pC 49]? = some (la (Gc D cI cG cL (aC a o)) 49, ce (Gc D cI cG cL (aC a o)) 0 σI 49) := rfl
set_option maxHeartbeats 4000000 in
set_option maxRecDepth 100000 in
theorem wc_50 (D : va_G) (cI cG cL : ClassId) (a b : Nat → Nat) (o : Nat) : (wL D cI cG cL a b o)[pC 50]? = some (la (Gc D cI cG cL (aC a o)) 50, ce (Gc D cI cG cL (aC a o)) 0 σI 50) := rfl
set_option maxHeartbeats 4000000 in
set_option maxRecDepth 100000 in
theorem wc_51 (D : va_G) (cI cG cL : ClassId) (a b : Nat → Nat) (o : Nat) : (wL D cI cG cL a b o)[pC 51]? = some (la (Gc D cI cG cL (aC a o)) 51, ce (Gc D cI cG cL (aC a o)) 0 σI 51) := rfl
set_option maxHeartbeats 4000000 in
set_option maxRecDepth 100000 in
theorem wc_52 (D : va_G) (cI cG cL : ClassId) (a b : Nat → Nat) (o : Nat) : (wL D cI cG cL a b o)[pC 52]? = some (la (Gc D cI cG cL (aC a o)) 52, ce (Gc D cI cG cL (aC a o)) 0 σI 52) := rfl
set_option maxHeartbeats 4000000 in
set_option maxRecDepth 100000 in
theorem wc_53 (D : va_G) (cI cG cL : ClassId) (a b : Nat → Nat) (o : Nat) : (wL D cI cG cL a b o)[pC 53]? = some (la (Gc D cI cG cL (aC a o)) 53, ce (Gc D cI cG cL (aC a o)) 0 σI 53) := rfl
set_option maxHeartbeats 4000000 in
set_option maxRecDepth 100000 in
theorem wc_54 (D : va_G) (cI cG cL : ClassId) (a b : Nat → Nat) (o : Nat) : (wL D cI cG cL a b o)[pC 54]? = some (la (Gc D cI cG cL (aC a o)) 54, ce (Gc D cI cG cL (aC a o)) 0 σI 54) := rfl
set_option maxHeartbeats 4000000 in
set_option maxRecDepth 100000 in
theorem wc_55 (D : va_G) (cI cG cL : ClassId) (a b : Nat → Nat) (o : Nat) : (wL D cI cG cL a b o)[pC 55]? = some (la (Gc D cI cG cL (aC a o)) 55, ce (Gc D cI cG cL (aC a o)) 0 σI 55) := rfl
set_option maxHeartbeats 4000000 in
set_option maxRecDepth 100000 in
theorem wc_56 (D : va_G) (cI cG cL : ClassId) (a b : Nat → Nat) (o : Nat) : (wL D cI cG cL a b o)[pC 56]? = some (la (Gc D cI cG cL (aC a o)) 56, ce (Gc D cI cG cL (aC a o)) 0 σI 56) := rfl
set_option maxHeartbeats 4000000 in
set_option maxRecDepth 100000 in
theorem wc_57 (D : va_G) (cI cG cL : ClassId) (a b : Nat → Nat) (o : Nat) : (wL D cI cG cL a b o)[pC 57]? = some (la (Gc D cI cG cL (aC a o)) 57, ce (Gc D cI cG cL (aC a o)) 0 σI 57) := rfl
set_option maxHeartbeats 4000000 in
set_option maxRecDepth 100000 in
theorem wc_58 (D : va_G) (cI cG cL : ClassId) (a b : Nat → Nat) (o : Nat) : (wL D cI cG cL a b o)[pC 58]? = some (la (Gc D cI cG cL (aC a o)) 58, ce (Gc D cI cG cL (aC a o)) 0 σI 58) := rfl
set_option maxHeartbeats 4000000 in
set_option maxRecDepth 100000 in
theorem wc_59 (D : va_G) (cI cG cL : ClassId) (a b : Nat → Nat) (o : Nat) : (wL D cI cG cL a b o)[pC 59]? = some (la (Gc D cI cG cL (aC a o)) 59, ce (Gc D cI cG cL (aC a o)) 0 σI 59) := rfl
set_option maxHeartbeats 4000000 in
set_option maxRecDepth 100000 in
theorem wc_60 (D : va_G) (cI cG cL : ClassId) (a b : Nat → Nat) (o : Nat) : (wL D cI cG cL a b o)[pC 60]? = some (la (Gc D cI cG cL (aC a o)) 60, ce (Gc D cI cG cL (aC a o)) 0 σI 60) := rfl
set_option maxHeartbeats 4000000 in
set_option maxRecDepth 100000 in
theorem wc_61 (D : va_G) (cI cG cL : ClassId) (a b : Nat → Nat) (o : Nat) : (wL D cI cG cL a b o)[pC 61]? = some (la (Gc D cI cG cL (aC a o)) 61, ce (Gc D cI cG cL (aC a o)) 0 σI 61) := rfl
set_option maxHeartbeats 4000000 in
set_option maxRecDepth 100000 in
theorem wc_62 (D : va_G) (cI cG cL : ClassId) (a b : Nat → Nat) (o : Nat) : (wL D cI cG cL a b o)[pC 62]? = some (la (Gc D cI cG cL (aC a o)) 62, ce (Gc D cI cG cL (aC a o)) 0 σI 62) := rfl
set_option maxHeartbeats 4000000 in
set_option maxRecDepth 100000 in
theorem wc_63 (D : va_G) (cI cG cL : ClassId) (a b : Nat → Nat) (o : Nat) : (wL D cI cG cL a b o)[pC 63]? = some (la (Gc D cI cG cL (aC a o)) 63, ce (Gc D cI cG cL (aC a o)) 0 σI 63) := rfl
set_option maxHeartbeats 4000000 in
set_option maxRecDepth 100000 in
theorem wc_64 (D : va_G) (cI cG cL : ClassId) (a b : Nat → Nat) (o : Nat) : (wL D cI cG cL a b o)[pC 64]? = some (la (Gc D cI cG cL (aC a o)) 64, ce (Gc D cI cG cL (aC a o)) 0 σI 64) := rfl
set_option maxHeartbeats 4000000 in
set_option maxRecDepth 100000 in
theorem wc_65 (D : va_G) (cI cG cL : ClassId) (a b : Nat → Nat) (o : Nat) : (wL D cI cG cL a b o)[pC 65]? = some (la (Gc D cI cG cL (aC a o)) 65, ce (Gc D cI cG cL (aC a o)) 0 σI 65) := rfl
set_option maxHeartbeats 4000000 in
set_option maxRecDepth 100000 in
theorem wc_66 (D : va_G) (cI cG cL : ClassId) (a b : Nat → Nat) (o : Nat) : (wL D cI cG cL a b o)[pC 66]? = some (la (Gc D cI cG cL (aC a o)) 66, ce (Gc D cI cG cL (aC a o)) 0 σI 66) := rfl
set_option maxHeartbeats 4000000 in
set_option maxRecDepth 100000 in
theorem wc_67 (D : va_G) (cI cG cL : ClassId) (a b : Nat → Nat) (o : Nat) : (wL D cI cG cL a b o)[pC 67]? = some (la (Gc D cI cG cL (aC a o)) 67, ce (Gc D cI cG cL (aC a o)) 0 σI 67) := rfl
set_option maxHeartbeats 4000000 in
set_option maxRecDepth 100000 in
theorem wc_68 (D : va_G) (cI cG cL : ClassId) (a b : Nat → Nat) (o : Nat) : (wL D cI cG cL a b o)[pC 68]? = some (la (Gc D cI cG cL (aC a o)) 68, ce (Gc D cI cG cL (aC a o)) 0 σI 68) := rfl
set_option maxHeartbeats 4000000 in
set_option maxRecDepth 100000 in
theorem wc_69 (D : va_G) (cI cG cL : ClassId) (a b : Nat → Nat) (o : Nat) : (wL D cI cG cL a b o)[pC 69]? = some (la (Gc D cI cG cL (aC a o)) 69, ce (Gc D cI cG cL (aC a o)) 0 σI 69) := rfl
set_option maxHeartbeats 4000000 in
set_option maxRecDepth 100000 in
theorem wc_70 (D : va_G) (cI cG cL : ClassId) (a b : Nat → Nat) (o : Nat) : (wL D cI cG cL a b o)[pC 70]? = some (la (Gc D cI cG cL (aC a o)) 70, ce (Gc D cI cG cL (aC a o)) 0 σI 70) := rfl
set_option maxHeartbeats 4000000 in
set_option maxRecDepth 100000 in
theorem wc_71 (D : va_G) (cI cG cL : ClassId) (a b : Nat → Nat) (o : Nat) : (wL D cI cG cL a b o)[pC 71]? = some (la (Gc D cI cG cL (aC a o)) 71, ce (Gc D cI cG cL (aC a o)) 0 σI 71) := rfl
set_option maxHeartbeats 4000000 in
set_option maxRecDepth 100000 in
theorem wc_72 (D : va_G) (cI cG cL : ClassId) (a b : Nat → Nat) (o : Nat) : (wL D cI cG cL a b o)[pC 72]? = some (la (Gc D cI cG cL (aC a o)) 72, ce (Gc D cI cG cL (aC a o)) 0 σI 72) := rfl
set_option maxHeartbeats 4000000 in
set_option maxRecDepth 100000 in
theorem wc_73 (D : va_G) (cI cG cL : ClassId) (a b : Nat → Nat) (o : Nat) : (wL D cI cG cL a b o)[pC 73]? = some (la (Gc D cI cG cL (aC a o)) 73, ce (Gc D cI cG cL (aC a o)) 0 σI 73) := rfl
set_option maxHeartbeats 4000000 in
set_option maxRecDepth 100000 in
theorem wc_74 (D : va_G) (cI cG cL : ClassId) (a b : Nat → Nat) (o : Nat) : (wL D cI cG cL a b o)[pC 74]? = some (la (Gc D cI cG cL (aC a o)) 74, ce (Gc D cI cG cL (aC a o)) 0 σI 74) := rfl
set_option maxHeartbeats 4000000 in
set_option maxRecDepth 100000 in
theorem wc_75 (D : va_G) (cI cG cL : ClassId) (a b : Nat → Nat) (o : Nat) : (wL D cI cG cL a b o)[pC 75]? = some (la (Gc D cI cG cL (aC a o)) 75, ce (Gc D cI cG cL (aC a o)) 0 σI 75) := rfl
set_option maxHeartbeats 4000000 in
set_option maxRecDepth 100000 in
theorem wc_76 (D : va_G) (cI cG cL : ClassId) (a b : Nat → Nat) (o : Nat) : (wL D cI cG cL a b o)[pC 76]? = some (la (Gc D cI cG cL (aC a o)) 76, ce (Gc D cI cG cL (aC a o)) 0 σI 76) := rfl
set_option maxHeartbeats 4000000 in
set_option maxRecDepth 100000 in
theorem wc_77 (D : va_G) (cI cG cL : ClassId) (a b : Nat → Nat) (o : Nat) : (wL D cI cG cL a b o)[pC 77]? = some (la (Gc D cI cG cL (aC a o)) 77, ce (Gc D cI cG cL (aC a o)) 0 σI 77) := rfl
set_option maxHeartbeats 4000000 in
set_option maxRecDepth 100000 in
theorem wc_78 (D : va_G) (cI cG cL : ClassId) (a b : Nat → Nat) (o : Nat) : (wL D cI cG cL a b o)[pC 78]? = some (la (Gc D cI cG cL (aC a o)) 78, ce (Gc D cI cG cL (aC a o)) 0 σI 78) := rfl
set_option maxHeartbeats 4000000 in
set_option maxRecDepth 100000 in
theorem wc_79 (D : va_G) (cI cG cL : ClassId) (a b : Nat → Nat) (o : Nat) : (wL D cI cG cL a b o)[pC 79]? = some (la (Gc D cI cG cL (aC a o)) 79, ce (Gc D cI cG cL (aC a o)) 0 σI 79) := rfl
set_option maxHeartbeats 4000000 in
set_option maxRecDepth 100000 in
theorem wc_80 (D : va_G) (cI cG cL : ClassId) (a b : Nat → Nat) (o : Nat) : (wL D cI cG cL a b o)[pC 80]? = some (la (Gc D cI cG cL (aC a o)) 80, ce (Gc D cI cG cL (aC a o)) 0 σI 80) := rfl
set_option maxHeartbeats 4000000 in
set_option maxRecDepth 100000 in
theorem wc_81 (D : va_G) (cI cG cL : ClassId) (a b : Nat → Nat) (o : Nat) : (wL D cI cG cL a b o)[pC 81]? = some (la (Gc D cI cG cL (aC a o)) 81, ce (Gc D cI cG cL (aC a o)) 0 σI 81) := rfl
set_option maxHeartbeats 4000000 in
set_option maxRecDepth 100000 in
theorem wc_82 (D : va_G) (cI cG cL : ClassId) (a b : Nat → Nat) (o : Nat) : (wL D cI cG cL a b o)[pC 82]? = some (la (Gc D cI cG cL (aC a o)) 82, ce (Gc D cI cG cL (aC a o)) 0 σI 82) := rfl
set_option maxHeartbeats 4000000 in
set_option maxRecDepth 100000 in
theorem wc_83 (D : va_G) (cI cG cL : ClassId) (a b : Nat → Nat) (o : Nat) : (wL D cI cG cL a b o)[pC 83]? = some (la (Gc D cI cG cL (aC a o)) 83, ce (Gc D cI cG cL (aC a o)) 0 σI 83) := rfl
set_option maxHeartbeats 4000000 in
set_option maxRecDepth 100000 in
theorem wc_84 (D : va_G) (cI cG cL : ClassId) (a b : Nat → Nat) (o : Nat) : (wL D cI cG cL a b o)[pC 84]? = some (la (Gc D cI cG cL (aC a o)) 84, ce (Gc D cI cG cL (aC a o)) 0 σI 84) := rfl
set_option maxHeartbeats 4000000 in
set_option maxRecDepth 100000 in
theorem wc_85 (D : va_G) (cI cG cL : ClassId) (a b : Nat → Nat) (o : Nat) : (wL D cI cG cL a b o)[pC 85]? = some (la (Gc D cI cG cL (aC a o)) 85, ce (Gc D cI cG cL (aC a o)) 0 σI 85) := rfl
set_option maxHeartbeats 4000000 in
set_option maxRecDepth 100000 in
theorem wc_86 (D : va_G) (cI cG cL : ClassId) (a b : Nat → Nat) (o : Nat) : (wL D cI cG cL a b o)[pC 86]? = some (la (Gc D cI cG cL (aC a o)) 86, ce (Gc D cI cG cL (aC a o)) 0 σI 86) := rfl
set_option maxHeartbeats 4000000 in
set_option maxRecDepth 100000 in
theorem wc_87 (D : va_G) (cI cG cL : ClassId) (a b : Nat → Nat) (o : Nat) : (wL D cI cG cL a b o)[pC 87]? = some (la (Gc D cI cG cL (aC a o)) 87, ce (Gc D cI cG cL (aC a o)) 0 σI 87) := rfl
set_option maxHeartbeats 4000000 in
set_option maxRecDepth 100000 in
theorem wc_88 (D : va_G) (cI cG cL : ClassId) (a b : Nat → Nat) (o : Nat) : (wL D cI cG cL a b o)[pC 88]? = some (la (Gc D cI cG cL (aC a o)) 88, ce (Gc D cI cG cL (aC a o)) 0 σI 88) := rfl
set_option maxHeartbeats 4000000 in
set_option maxRecDepth 100000 in
theorem wc_89 (D : va_G) (cI cG cL : ClassId) (a b : Nat → Nat) (o : Nat) : (wL D cI cG cL a b o)[pC 89]? = some (la (Gc D cI cG cL (aC a o)) 89, ce (Gc D cI cG cL (aC a o)) 0 σI 89) := rfl
set_option maxHeartbeats 4000000 in
set_option maxRecDepth 100000 in
theorem wc_90 (D : va_G) (cI cG cL : ClassId) (a b : Nat → Nat) (o : Nat) : (wL D cI cG cL a b o)[pC 90]? = some (la (Gc D cI cG cL (aC a o)) 90, ce (Gc D cI cG cL (aC a o)) 0 σI 90) := rfl
set_option maxHeartbeats 4000000 in
set_option maxRecDepth 100000 in
theorem wc_91 (D : va_G) (cI cG cL : ClassId) (a b : Nat → Nat) (o : Nat) : (wL D cI cG cL a b o)[pC 91]? = some (la (Gc D cI cG cL (aC a o)) 91, ce (Gc D cI cG cL (aC a o)) 0 σI 91) := rfl
set_option maxHeartbeats 4000000 in
set_option maxRecDepth 100000 in
theorem wc_92 (D : va_G) (cI cG cL : ClassId) (a b : Nat → Nat) (o : Nat) : (wL D cI cG cL a b o)[pC 92]? = some (la (Gc D cI cG cL (aC a o)) 92, ce (Gc D cI cG cL (aC a o)) 0 σI 92) := rfl
set_option maxHeartbeats 4000000 in
set_option maxRecDepth 100000 in
theorem wc_93 (D : va_G) (cI cG cL : ClassId) (a b : Nat → Nat) (o : Nat) : (wL D cI cG cL a b o)[pC 93]? = some (la (Gc D cI cG cL (aC a o)) 93, ce (Gc D cI cG cL (aC a o)) 0 σI 93) := rfl
set_option maxHeartbeats 4000000 in
set_option maxRecDepth 100000 in
theorem wc_94 (D : va_G) (cI cG cL : ClassId) (a b : Nat → Nat) (o : Nat) : (wL D cI cG cL a b o)[pC 94]? = some (la (Gc D cI cG cL (aC a o)) 94, ce (Gc D cI cG cL (aC a o)) 0 σI 94) := rfl
set_option maxHeartbeats 4000000 in
set_option maxRecDepth 100000 in
theorem wc_95 (D : va_G) (cI cG cL : ClassId) (a b : Nat → Nat) (o : Nat) : (wL D cI cG cL a b o)[pC 95]? = some (la (Gc D cI cG cL (aC a o)) 95, ce (Gc D cI cG cL (aC a o)) 0 σI 95) := rfl
set_option maxHeartbeats 4000000 in
set_option maxRecDepth 100000 in
theorem wc_96 (D : va_G) (cI cG cL : ClassId) (a b : Nat → Nat) (o : Nat) : (wL D cI cG cL a b o)[pC 96]? = some (la (Gc D cI cG cL (aC a o)) 96, ce (Gc D cI cG cL (aC a o)) 0 σI 96) := rfl
set_option maxHeartbeats 4000000 in
set_option maxRecDepth 100000 in
theorem wc_97 (D : va_G) (cI cG cL : ClassId) (a b : Nat → Nat) (o : Nat) : (wL D cI cG cL a b o)[pC 97]? = some (la (Gc D cI cG cL (aC a o)) 97, ce (Gc D cI cG cL (aC a o)) 0 σI 97) := rfl
set_option maxHeartbeats 4000000 in
set_option maxRecDepth 100000 in
theorem wc_98 (D : va_G) (cI cG cL : ClassId) (a b : Nat → Nat) (o : Nat) : (wL D cI cG cL a b o)[pC 98]? = some (la (Gc D cI cG cL (aC a o)) 98, ce (Gc D cI cG cL (aC a o)) 0 σI 98) := rfl
set_option maxHeartbeats 4000000 in
set_option maxRecDepth 100000 in
theorem wc_99 (D : va_G) (cI cG cL : ClassId) (a b : Nat → Nat) (o : Nat) : (wL D cI cG cL a b o)[pC 99]? = some (la (Gc D cI cG cL (aC a o)) 99, ce (Gc D cI cG cL (aC a o)) 0 σI 99) := rfl
set_option maxHeartbeats 4000000 in
set_option maxRecDepth 100000 in
theorem wc_100 (D : va_G) (cI cG cL : ClassId) (a b : Nat → Nat) (o : Nat) : (wL D cI cG cL a b o)[pC 100]? = some (la (Gc D cI cG cL (aC a o)) 100, ce (Gc D cI cG cL (aC a o)) 0 σI 100) := rfl
set_option maxHeartbeats 4000000 in
set_option maxRecDepth 100000 in
theorem wc_101 (D : va_G) (cI cG cL : ClassId) (a b : Nat → Nat) (o : Nat) : (wL D cI cG cL a b o)[pC 101]? = some (la (Gc D cI cG cL (aC a o)) 101, ce (Gc D cI cG cL (aC a o)) 0 σI 101) := rfl
set_option maxHeartbeats 4000000 in
set_option maxRecDepth 100000 in
theorem wc_102 (D : va_G) (cI cG cL : ClassId) (a b : Nat → Nat) (o : Nat) : (wL D cI cG cL a b o)[pC 102]? = some (la (Gc D cI cG cL (aC a o)) 102, ce (Gc D cI cG cL (aC a o)) 0 σI 102) := rfl
set_option maxHeartbeats 4000000 in
set_option maxRecDepth 100000 in
theorem wc_103 (D : va_G) (cI cG cL : ClassId) (a b : Nat → Nat) (o : Nat) : (wL D cI cG cL a b o)[pC 103]? = some (la (Gc D cI cG cL (aC a o)) 103, ce (Gc D cI cG cL (aC a o)) 0 σI 103) := rfl
set_option maxHeartbeats 4000000 in
set_option maxRecDepth 100000 in
theorem wc_104 (D : va_G) (cI cG cL : ClassId) (a b : Nat → Nat) (o : Nat) : (wL D cI cG cL a b o)[pC 104]? = some (la (Gc D cI cG cL (aC a o)) 104, ce (Gc D cI cG cL (aC a o)) 0 σI 104) := rfl
set_option maxHeartbeats 4000000 in
set_option maxRecDepth 100000 in
theorem wc_105 (D : va_G) (cI cG cL : ClassId) (a b : Nat → Nat) (o : Nat) : (wL D cI cG cL a b o)[pC 105]? = some (la (Gc D cI cG cL (aC a o)) 105, ce (Gc D cI cG cL (aC a o)) 0 σI 105) := rfl
set_option maxHeartbeats 4000000 in
set_option maxRecDepth 100000 in
theorem wc_107 (D : va_G) (cI cG cL : ClassId) (a b : Nat → Nat) (o : Nat) : (wL D cI cG cL a b o)[pC 107]? = some (la (Gc D cI cG cL (aC a o)) 107, ce (Gc D cI cG cL (aC a o)) 0 σI 107) := rfl
set_option maxHeartbeats 4000000 in
set_option maxRecDepth 100000 in
theorem wc_108 (D : va_G) (cI cG cL : ClassId) (a b : Nat → Nat) (o : Nat) : (wL D cI cG cL a b o)[pC 108]? = some (la (Gc D cI cG cL (aC a o)) 108, ce (Gc D cI cG cL (aC a o)) 0 σI 108) := rfl
set_option maxHeartbeats 4000000 in
set_option maxRecDepth 100000 in
theorem wc_106 (D : va_G) (cI cG cL : ClassId) (a b : Nat → Nat) (o : Nat) : (wL D cI cG cL a b o)[47]? = some (a 47, .inl (cG, 4, .inr (.inr (.inr (.inr (va_up (va_up (va_up (va_up (fun _ => none) 0 (some (a 48))) 1 (some (a 63))) 2 (some (a 78))) 3 (some (a 93)))))))) := rfl
set_option maxHeartbeats 4000000 in
set_option maxRecDepth 100000 in
theorem wc_m (D : va_G) (cI cG cL : ClassId) (a b : Nat → Nat) (o : Nat) (k : Nat) (hk : k < 7) : (wL D cI cG cL a b o)[108 + k]? = some (la (Mm D cI cG cL b) k, ce (Mm D cI cG cL b) 0 mI k) := by
  rcases (show k = 0 ∨ k = 1 ∨ k = 2 ∨ k = 3 ∨ k = 4 ∨ k = 5 ∨ k = 6 by omega) with rfl | rfl | rfl | rfl | rfl | rfl | rfl <;> rfl
set_option maxHeartbeats 4000000 in
set_option maxRecDepth 100000 in
theorem wc_all (D : va_G) (cI cG cL : ClassId) (a b : Nat → Nat) (o : Nat) (k : Nat) (hk : k < 109) (h6 : k ≠ 106) : (wL D cI cG cL a b o)[pC k]? = some (la (Gc D cI cG cL (aC a o)) k, ce (Gc D cI cG cL (aC a o)) 0 σI k) := by
  match k, hk, h6 with
  | 0, _, _ => exact wc_0 D cI cG cL a b o
  | 1, _, _ => exact wc_1 D cI cG cL a b o
  | 2, _, _ => exact wc_2 D cI cG cL a b o
  | 3, _, _ => exact wc_3 D cI cG cL a b o
  | 4, _, _ => exact wc_4 D cI cG cL a b o
  | 5, _, _ => exact wc_5 D cI cG cL a b o
  | 6, _, _ => exact wc_6 D cI cG cL a b o
  | 7, _, _ => exact wc_7 D cI cG cL a b o
  | 8, _, _ => exact wc_8 D cI cG cL a b o
  | 9, _, _ => exact wc_9 D cI cG cL a b o
  | 10, _, _ => exact wc_10 D cI cG cL a b o
  | 11, _, _ => exact wc_11 D cI cG cL a b o
  | 12, _, _ => exact wc_12 D cI cG cL a b o
  | 13, _, _ => exact wc_13 D cI cG cL a b o
  | 14, _, _ => exact wc_14 D cI cG cL a b o
  | 15, _, _ => exact wc_15 D cI cG cL a b o
  | 16, _, _ => exact wc_16 D cI cG cL a b o
  | 17, _, _ => exact wc_17 D cI cG cL a b o
  | 18, _, _ => exact wc_18 D cI cG cL a b o
  | 19, _, _ => exact wc_19 D cI cG cL a b o
  | 20, _, _ => exact wc_20 D cI cG cL a b o
  | 21, _, _ => exact wc_21 D cI cG cL a b o
  | 22, _, _ => exact wc_22 D cI cG cL a b o
  | 23, _, _ => exact wc_23 D cI cG cL a b o
  | 24, _, _ => exact wc_24 D cI cG cL a b o
  | 25, _, _ => exact wc_25 D cI cG cL a b o
  | 26, _, _ => exact wc_26 D cI cG cL a b o
  | 27, _, _ => exact wc_27 D cI cG cL a b o
  | 28, _, _ => exact wc_28 D cI cG cL a b o
  | 29, _, _ => exact wc_29 D cI cG cL a b o
  | 30, _, _ => exact wc_30 D cI cG cL a b o
  | 31, _, _ => exact wc_31 D cI cG cL a b o
  | 32, _, _ => exact wc_32 D cI cG cL a b o
  | 33, _, _ => exact wc_33 D cI cG cL a b o
  | 34, _, _ => exact wc_34 D cI cG cL a b o
  | 35, _, _ => exact wc_35 D cI cG cL a b o
  | 36, _, _ => exact wc_36 D cI cG cL a b o
  | 37, _, _ => exact wc_37 D cI cG cL a b o
  | 38, _, _ => exact wc_38 D cI cG cL a b o
  | 39, _, _ => exact wc_39 D cI cG cL a b o
  | 40, _, _ => exact wc_40 D cI cG cL a b o
  | 41, _, _ => exact wc_41 D cI cG cL a b o
  | 42, _, _ => exact wc_42 D cI cG cL a b o
  | 43, _, _ => exact wc_43 D cI cG cL a b o
  | 44, _, _ => exact wc_44 D cI cG cL a b o
  | 45, _, _ => exact wc_45 D cI cG cL a b o
  | 46, _, _ => exact wc_46 D cI cG cL a b o
  | 47, _, _ => exact wc_47 D cI cG cL a b o
  | 48, _, _ => exact wc_48 D cI cG cL a b o
  | 49, _, _ => exact wc_49 D cI cG cL a b o
  | 50, _, _ => exact wc_50 D cI cG cL a b o
  | 51, _, _ => exact wc_51 D cI cG cL a b o
  | 52, _, _ => exact wc_52 D cI cG cL a b o
  | 53, _, _ => exact wc_53 D cI cG cL a b o
  | 54, _, _ => exact wc_54 D cI cG cL a b o
  | 55, _, _ => exact wc_55 D cI cG cL a b o
  | 56, _, _ => exact wc_56 D cI cG cL a b o
  | 57, _, _ => exact wc_57 D cI cG cL a b o
  | 58, _, _ => exact wc_58 D cI cG cL a b o
  | 59, _, _ => exact wc_59 D cI cG cL a b o
  | 60, _, _ => exact wc_60 D cI cG cL a b o
  | 61, _, _ => exact wc_61 D cI cG cL a b o
  | 62, _, _ => exact wc_62 D cI cG cL a b o
  | 63, _, _ => exact wc_63 D cI cG cL a b o
  | 64, _, _ => exact wc_64 D cI cG cL a b o
  | 65, _, _ => exact wc_65 D cI cG cL a b o
  | 66, _, _ => exact wc_66 D cI cG cL a b o
  | 67, _, _ => exact wc_67 D cI cG cL a b o
  | 68, _, _ => exact wc_68 D cI cG cL a b o
  | 69, _, _ => exact wc_69 D cI cG cL a b o
  | 70, _, _ => exact wc_70 D cI cG cL a b o
  | 71, _, _ => exact wc_71 D cI cG cL a b o
  | 72, _, _ => exact wc_72 D cI cG cL a b o
  | 73, _, _ => exact wc_73 D cI cG cL a b o
  | 74, _, _ => exact wc_74 D cI cG cL a b o
  | 75, _, _ => exact wc_75 D cI cG cL a b o
  | 76, _, _ => exact wc_76 D cI cG cL a b o
  | 77, _, _ => exact wc_77 D cI cG cL a b o
  | 78, _, _ => exact wc_78 D cI cG cL a b o
  | 79, _, _ => exact wc_79 D cI cG cL a b o
  | 80, _, _ => exact wc_80 D cI cG cL a b o
  | 81, _, _ => exact wc_81 D cI cG cL a b o
  | 82, _, _ => exact wc_82 D cI cG cL a b o
  | 83, _, _ => exact wc_83 D cI cG cL a b o
  | 84, _, _ => exact wc_84 D cI cG cL a b o
  | 85, _, _ => exact wc_85 D cI cG cL a b o
  | 86, _, _ => exact wc_86 D cI cG cL a b o
  | 87, _, _ => exact wc_87 D cI cG cL a b o
  | 88, _, _ => exact wc_88 D cI cG cL a b o
  | 89, _, _ => exact wc_89 D cI cG cL a b o
  | 90, _, _ => exact wc_90 D cI cG cL a b o
  | 91, _, _ => exact wc_91 D cI cG cL a b o
  | 92, _, _ => exact wc_92 D cI cG cL a b o
  | 93, _, _ => exact wc_93 D cI cG cL a b o
  | 94, _, _ => exact wc_94 D cI cG cL a b o
  | 95, _, _ => exact wc_95 D cI cG cL a b o
  | 96, _, _ => exact wc_96 D cI cG cL a b o
  | 97, _, _ => exact wc_97 D cI cG cL a b o
  | 98, _, _ => exact wc_98 D cI cG cL a b o
  | 99, _, _ => exact wc_99 D cI cG cL a b o
  | 100, _, _ => exact wc_100 D cI cG cL a b o
  | 101, _, _ => exact wc_101 D cI cG cL a b o
  | 102, _, _ => exact wc_102 D cI cG cL a b o
  | 103, _, _ => exact wc_103 D cI cG cL a b o
  | 104, _, _ => exact wc_104 D cI cG cL a b o
  | 105, _, _ => exact wc_105 D cI cG cL a b o
  | 106, _, h => exact absurd rfl h
  | 107, _, _ => exact wc_107 D cI cG cL a b o
  | 108, _, _ => exact wc_108 D cI cG cL a b o
  | n + 109, h, _ => exact absurd h (by omega)
set_option maxHeartbeats 4000000 in
set_option maxRecDepth 100000 in
theorem wc_ad (D : va_G) (cI cG cL : ClassId) (a b : Nat → Nat) (o : Nat) (k : Nat) (hk : k < 109) : ∃ e, (wL D cI cG cL a b o)[pC k]? = some (la (Gc D cI cG cL (aC a o)) k, e) := by
  by_cases h : k = 106
  · subst h; exact ⟨_, wc_106 D cI cG cL a b o⟩
  · exact ⟨_, wc_all D cI cG cL a b o k hk h⟩
set_option maxHeartbeats 4000000 in
set_option maxRecDepth 100000 in
theorem pC_inj {i j : Nat} (hi : i < 109) (hj : j < 109) (e : pC i = pC j) : i = j := by
  unfold pC at e
  (repeat' split at e) <;> omega
set_option maxHeartbeats 4000000 in
set_option maxRecDepth 100000 in
theorem pC_lt {i : Nat} (hi : i < 109) : pC i < 108 ∨ pC i = 115 := by
  unfold pC
  split
  · omega
  · split
    · omega
    · split
      · omega
      · split <;> omega
set_option maxHeartbeats 4000000 in
set_option maxRecDepth 100000 in
theorem full_P {D : va_G} {cI cG cL : ClassId} {a b : Nat → Nat} {o : Nat} {H : Heap} (hP : va_P D vwCl (wL D cI cG cL a b o) H) : va_P D vwCl (wd (Gc D cI cG cL (aC a o)) 0 σI ++ wd (Mm D cI cG cL b) 0 mI) H := by
  refine va_P.app ?_ ?_
  · intro k q hq
    obtain ⟨hk, rfl⟩ := fw_of hq
    by_cases h : k = 106
    · subst h
      have h1 : H[a 47]? = some (vp_cell _ _) := hP 47 _ (wc_106 D cI cG cL a b o)
      show H[a 47]? = some (vp_cell _ _)
      rw [h1]
      refine congrArg some (arrV_ext (c := cG) (n := 4) (f := fun j => va_rf ((va_up (va_up (va_up (va_up (fun _ => none) 0 (some (a 48))) 1 (some (a 63))) 2 (some (a 78))) 3 (some (a 93))) j)) (g := fun j => va_rf (some (la (Gc D cI cG cL (aC a o)) (30 + 15 * j)))) (fun j hj => ?_))
      rcases (show j = 0 ∨ j = 1 ∨ j = 2 ∨ j = 3 by omega) with rfl | rfl | rfl | rfl <;> rfl
    · exact hP _ _ (wc_all D cI cG cL a b o k hk h)
  · intro k q hq
    obtain ⟨hk, rfl⟩ := fw_of hq
    exact hP _ _ (wc_m D cI cG cL a b o k hk)
set_option maxHeartbeats 4000000 in
set_option maxRecDepth 100000 in
theorem full_D {D : va_G} {cI cG cL : ClassId} {a b : Nat → Nat} {o : Nat} {A : Nat → Prop} (hD : va_D A (wL D cI cG cL a b o)) : va_D A (wd (Gc D cI cG cL (aC a o)) 0 σI ++ wd (Mm D cI cG cL b) 0 mI) := by
  refine va_D.app ⟨fun i j p q hi hj e => ?_, fun k q hq => ?_⟩ ⟨fun i j p q hi hj e => ?_, fun k q hq => ?_⟩ (fun i j p q hi hj e => ?_)
  · obtain ⟨h1, rfl⟩ := fw_of hi
    obtain ⟨h2, rfl⟩ := fw_of hj
    obtain ⟨e1, w1⟩ := wc_ad D cI cG cL a b o i h1
    obtain ⟨e2, w2⟩ := wc_ad D cI cG cL a b o j h2
    exact pC_inj h1 h2 (hD.1 _ _ _ _ w1 w2 e)
  · obtain ⟨h1, rfl⟩ := fw_of hq
    obtain ⟨e1, w1⟩ := wc_ad D cI cG cL a b o k h1
    have h9 := hD.2 _ _ w1
    exact h9
  · obtain ⟨h1, rfl⟩ := fw_of hi
    obtain ⟨h2, rfl⟩ := fw_of hj
    have := hD.1 _ _ _ _ (wc_m D cI cG cL a b o i h1) (wc_m D cI cG cL a b o j h2) e
    omega
  · obtain ⟨h1, rfl⟩ := fw_of hq
    exact hD.2 _ _ (wc_m D cI cG cL a b o k h1)
  · obtain ⟨h1, rfl⟩ := fw_of hi
    obtain ⟨h2, rfl⟩ := fw_of hj
    obtain ⟨e1, w1⟩ := wc_ad D cI cG cL a b o i h1
    have h3 := hD.1 _ _ _ _ w1 (wc_m D cI cG cL a b o j h2) e
    have h4 := pC_lt h1
    have h5 : j < 7 := h2
    omega
