/-! ===== the whole layout of the class, behind its constructor ===== -/
def kTt (_ : Unit) : Nat → Nat := fun i => match i with
  | 0 => 5
  | 1 => 4
  | 2 => 8
  | 3 => 4
  | 4 => 8
  | 5 => 4
  | 6 => 8
  | 7 => 3
  | 8 => 8
  | 9 => 8
  | 10 => 4
  | 11 => 8
  | 12 => 2
  | 13 => 4
  | 14 => 8
  | 15 => 1
  | 16 => 9
  | 17 => 6
  | _ => 8
def lTt (_ : Unit) : Nat → Nat := fun i => match i with
  | 8 => 4096
  | 9 => 4096
  | 14 => 100
  | _ => 12
def kCt (_ : Unit) : Nat → Nat := fun i => if i < 90 then kGt () (i % 15) else kTt () (i - 90)
def lCt (_ : Unit) : Nat → Nat := fun i => if i < 90 then lGt () (i % 15) else lTt () (i - 90)
abbrev Gc (D : va_G) (cI cG cL : ClassId) (a : Nat → Nat) : Lay := (D, 108, a, kCt (), lCt (), cI, cG, cL)
set_option maxHeartbeats 4000000 in
set_option maxRecDepth 100000 in
theorem isEHc (D : va_G) (cI cG cL : ClassId) (a : Nat → Nat) : isEH (Gc D cI cG cL a) 107 := by
  refine ⟨⟨Nat.le_of_ble_eq_true rfl, rfl⟩, ⟨⟨Nat.le_of_ble_eq_true rfl, rfl⟩, ⟨⟨Nat.le_of_ble_eq_true rfl, rfl⟩, ⟨Nat.le_of_ble_eq_true rfl, rfl⟩⟩, ⟨⟨Nat.le_of_ble_eq_true rfl, rfl⟩, ⟨Nat.le_of_ble_eq_true rfl, rfl⟩⟩, ⟨⟨Nat.le_of_ble_eq_true rfl, rfl⟩, ⟨Nat.le_of_ble_eq_true rfl, rfl⟩⟩, ⟨⟨Nat.le_of_ble_eq_true rfl, rfl⟩, ⟨Nat.le_of_ble_eq_true rfl, rfl⟩⟩, ⟨⟨Nat.le_of_ble_eq_true rfl, rfl⟩, ⟨Nat.le_of_ble_eq_true rfl, rfl⟩⟩, ⟨⟨Nat.le_of_ble_eq_true rfl, rfl⟩, ⟨Nat.le_of_ble_eq_true rfl, rfl⟩⟩, ⟨⟨Nat.le_of_ble_eq_true rfl, rfl⟩, ⟨Nat.le_of_ble_eq_true rfl, rfl⟩⟩⟩, ⟨⟨Nat.le_of_ble_eq_true rfl, rfl⟩, ⟨⟨Nat.le_of_ble_eq_true rfl, rfl⟩, ⟨Nat.le_of_ble_eq_true rfl, rfl⟩⟩, ⟨⟨Nat.le_of_ble_eq_true rfl, rfl⟩, ⟨Nat.le_of_ble_eq_true rfl, rfl⟩⟩, ⟨⟨Nat.le_of_ble_eq_true rfl, rfl⟩, ⟨Nat.le_of_ble_eq_true rfl, rfl⟩⟩, ⟨⟨Nat.le_of_ble_eq_true rfl, rfl⟩, ⟨Nat.le_of_ble_eq_true rfl, rfl⟩⟩, ⟨⟨Nat.le_of_ble_eq_true rfl, rfl⟩, ⟨Nat.le_of_ble_eq_true rfl, rfl⟩⟩, ⟨⟨Nat.le_of_ble_eq_true rfl, rfl⟩, ⟨Nat.le_of_ble_eq_true rfl, rfl⟩⟩, ⟨⟨Nat.le_of_ble_eq_true rfl, rfl⟩, ⟨Nat.le_of_ble_eq_true rfl, rfl⟩⟩⟩, ⟨⟨Nat.le_of_ble_eq_true rfl, rfl⟩, ⟨⟨Nat.le_of_ble_eq_true rfl, rfl⟩, ⟨Nat.le_of_ble_eq_true rfl, rfl⟩⟩, ⟨⟨Nat.le_of_ble_eq_true rfl, rfl⟩, ⟨Nat.le_of_ble_eq_true rfl, rfl⟩⟩, ⟨⟨Nat.le_of_ble_eq_true rfl, rfl⟩, ⟨Nat.le_of_ble_eq_true rfl, rfl⟩⟩⟩, ⟨⟨Nat.le_of_ble_eq_true rfl, rfl⟩, ⟨Nat.le_of_ble_eq_true rfl, rfl⟩, ⟨Nat.le_of_ble_eq_true rfl, rfl⟩, ⟨⟨Nat.le_of_ble_eq_true rfl, rfl⟩, ⟨Nat.le_of_ble_eq_true rfl, rfl⟩⟩⟩, ⟨⟨Nat.le_of_ble_eq_true rfl, rfl⟩, ⟨⟨Nat.le_of_ble_eq_true rfl, rfl⟩, ⟨Nat.le_of_ble_eq_true rfl, rfl⟩⟩⟩, ⟨⟨Nat.le_of_ble_eq_true rfl, rfl⟩, ⟨Nat.le_of_ble_eq_true rfl, rfl⟩, fun i hi => ?_⟩⟩
  rcases (show i = 0 ∨ i = 1 ∨ i = 2 ∨ i = 3 by omega) with rfl | rfl | rfl | rfl
  · exact ⟨⟨Nat.le_of_ble_eq_true rfl, rfl⟩, ⟨⟨Nat.le_of_ble_eq_true rfl, rfl⟩, ⟨Nat.le_of_ble_eq_true rfl, rfl⟩⟩, ⟨⟨Nat.le_of_ble_eq_true rfl, rfl⟩, ⟨Nat.le_of_ble_eq_true rfl, rfl⟩⟩, ⟨⟨Nat.le_of_ble_eq_true rfl, rfl⟩, ⟨Nat.le_of_ble_eq_true rfl, rfl⟩⟩, ⟨⟨Nat.le_of_ble_eq_true rfl, rfl⟩, ⟨Nat.le_of_ble_eq_true rfl, rfl⟩⟩, ⟨⟨Nat.le_of_ble_eq_true rfl, rfl⟩, ⟨Nat.le_of_ble_eq_true rfl, rfl⟩⟩, ⟨⟨Nat.le_of_ble_eq_true rfl, rfl⟩, ⟨Nat.le_of_ble_eq_true rfl, rfl⟩⟩, ⟨⟨Nat.le_of_ble_eq_true rfl, rfl⟩, ⟨Nat.le_of_ble_eq_true rfl, rfl⟩⟩⟩
  · exact ⟨⟨Nat.le_of_ble_eq_true rfl, rfl⟩, ⟨⟨Nat.le_of_ble_eq_true rfl, rfl⟩, ⟨Nat.le_of_ble_eq_true rfl, rfl⟩⟩, ⟨⟨Nat.le_of_ble_eq_true rfl, rfl⟩, ⟨Nat.le_of_ble_eq_true rfl, rfl⟩⟩, ⟨⟨Nat.le_of_ble_eq_true rfl, rfl⟩, ⟨Nat.le_of_ble_eq_true rfl, rfl⟩⟩, ⟨⟨Nat.le_of_ble_eq_true rfl, rfl⟩, ⟨Nat.le_of_ble_eq_true rfl, rfl⟩⟩, ⟨⟨Nat.le_of_ble_eq_true rfl, rfl⟩, ⟨Nat.le_of_ble_eq_true rfl, rfl⟩⟩, ⟨⟨Nat.le_of_ble_eq_true rfl, rfl⟩, ⟨Nat.le_of_ble_eq_true rfl, rfl⟩⟩, ⟨⟨Nat.le_of_ble_eq_true rfl, rfl⟩, ⟨Nat.le_of_ble_eq_true rfl, rfl⟩⟩⟩
  · exact ⟨⟨Nat.le_of_ble_eq_true rfl, rfl⟩, ⟨⟨Nat.le_of_ble_eq_true rfl, rfl⟩, ⟨Nat.le_of_ble_eq_true rfl, rfl⟩⟩, ⟨⟨Nat.le_of_ble_eq_true rfl, rfl⟩, ⟨Nat.le_of_ble_eq_true rfl, rfl⟩⟩, ⟨⟨Nat.le_of_ble_eq_true rfl, rfl⟩, ⟨Nat.le_of_ble_eq_true rfl, rfl⟩⟩, ⟨⟨Nat.le_of_ble_eq_true rfl, rfl⟩, ⟨Nat.le_of_ble_eq_true rfl, rfl⟩⟩, ⟨⟨Nat.le_of_ble_eq_true rfl, rfl⟩, ⟨Nat.le_of_ble_eq_true rfl, rfl⟩⟩, ⟨⟨Nat.le_of_ble_eq_true rfl, rfl⟩, ⟨Nat.le_of_ble_eq_true rfl, rfl⟩⟩, ⟨⟨Nat.le_of_ble_eq_true rfl, rfl⟩, ⟨Nat.le_of_ble_eq_true rfl, rfl⟩⟩⟩
  · exact ⟨⟨Nat.le_of_ble_eq_true rfl, rfl⟩, ⟨⟨Nat.le_of_ble_eq_true rfl, rfl⟩, ⟨Nat.le_of_ble_eq_true rfl, rfl⟩⟩, ⟨⟨Nat.le_of_ble_eq_true rfl, rfl⟩, ⟨Nat.le_of_ble_eq_true rfl, rfl⟩⟩, ⟨⟨Nat.le_of_ble_eq_true rfl, rfl⟩, ⟨Nat.le_of_ble_eq_true rfl, rfl⟩⟩, ⟨⟨Nat.le_of_ble_eq_true rfl, rfl⟩, ⟨Nat.le_of_ble_eq_true rfl, rfl⟩⟩, ⟨⟨Nat.le_of_ble_eq_true rfl, rfl⟩, ⟨Nat.le_of_ble_eq_true rfl, rfl⟩⟩, ⟨⟨Nat.le_of_ble_eq_true rfl, rfl⟩, ⟨Nat.le_of_ble_eq_true rfl, rfl⟩⟩, ⟨⟨Nat.le_of_ble_eq_true rfl, rfl⟩, ⟨Nat.le_of_ble_eq_true rfl, rfl⟩⟩⟩
def σI : cS := fun k j => if k < 90 then gI (k % 15) j else (if k = 102 then (if j = 3 then -1 else 0) else 0)
def pC (k : Nat) : Nat := if k < 30 then k + 1 else if k < 90 then k + 18 else if k < 107 then k - 59 else 0
def aC (a : Nat → Nat) : Nat → Nat := fun k => if k < 30 then a (k + 1) else if k < 90 then a (k + 18) else if k < 107 then a (k - 59) else a 0
abbrev wL (D : va_G) (cI cG cL : ClassId) (a : Nat → Nat) : va_W := w6 D cI cG cL a
set_option maxHeartbeats 4000000 in
set_option maxRecDepth 100000 in
theorem wc_0 (D : va_G) (cI cG cL : ClassId) (a : Nat → Nat) : (wL D cI cG cL a)[pC 0]? = some (la (Gc D cI cG cL (aC a)) 0, ce (Gc D cI cG cL (aC a)) 0 σI 0) := rfl
set_option maxHeartbeats 4000000 in
set_option maxRecDepth 100000 in
theorem wc_1 (D : va_G) (cI cG cL : ClassId) (a : Nat → Nat) : (wL D cI cG cL a)[pC 1]? = some (la (Gc D cI cG cL (aC a)) 1, ce (Gc D cI cG cL (aC a)) 0 σI 1) := rfl
set_option maxHeartbeats 4000000 in
set_option maxRecDepth 100000 in
theorem wc_2 (D : va_G) (cI cG cL : ClassId) (a : Nat → Nat) : (wL D cI cG cL a)[pC 2]? = some (la (Gc D cI cG cL (aC a)) 2, ce (Gc D cI cG cL (aC a)) 0 σI 2) := rfl
set_option maxHeartbeats 4000000 in
set_option maxRecDepth 100000 in
theorem wc_3 (D : va_G) (cI cG cL : ClassId) (a : Nat → Nat) : (wL D cI cG cL a)[pC 3]? = some (la (Gc D cI cG cL (aC a)) 3, ce (Gc D cI cG cL (aC a)) 0 σI 3) := rfl
set_option maxHeartbeats 4000000 in
set_option maxRecDepth 100000 in
theorem wc_4 (D : va_G) (cI cG cL : ClassId) (a : Nat → Nat) : (wL D cI cG cL a)[pC 4]? = some (la (Gc D cI cG cL (aC a)) 4, ce (Gc D cI cG cL (aC a)) 0 σI 4) := rfl
set_option maxHeartbeats 4000000 in
set_option maxRecDepth 100000 in
theorem wc_5 (D : va_G) (cI cG cL : ClassId) (a : Nat → Nat) : (wL D cI cG cL a)[pC 5]? = some (la (Gc D cI cG cL (aC a)) 5, ce (Gc D cI cG cL (aC a)) 0 σI 5) := rfl
set_option maxHeartbeats 4000000 in
set_option maxRecDepth 100000 in
theorem wc_6 (D : va_G) (cI cG cL : ClassId) (a : Nat → Nat) : (wL D cI cG cL a)[pC 6]? = some (la (Gc D cI cG cL (aC a)) 6, ce (Gc D cI cG cL (aC a)) 0 σI 6) := rfl
set_option maxHeartbeats 4000000 in
set_option maxRecDepth 100000 in
theorem wc_7 (D : va_G) (cI cG cL : ClassId) (a : Nat → Nat) : (wL D cI cG cL a)[pC 7]? = some (la (Gc D cI cG cL (aC a)) 7, ce (Gc D cI cG cL (aC a)) 0 σI 7) := rfl
set_option maxHeartbeats 4000000 in
set_option maxRecDepth 100000 in
theorem wc_8 (D : va_G) (cI cG cL : ClassId) (a : Nat → Nat) : (wL D cI cG cL a)[pC 8]? = some (la (Gc D cI cG cL (aC a)) 8, ce (Gc D cI cG cL (aC a)) 0 σI 8) := rfl
set_option maxHeartbeats 4000000 in
set_option maxRecDepth 100000 in
theorem wc_9 (D : va_G) (cI cG cL : ClassId) (a : Nat → Nat) : (wL D cI cG cL a)[pC 9]? = some (la (Gc D cI cG cL (aC a)) 9, ce (Gc D cI cG cL (aC a)) 0 σI 9) := rfl
set_option maxHeartbeats 4000000 in
set_option maxRecDepth 100000 in
theorem wc_10 (D : va_G) (cI cG cL : ClassId) (a : Nat → Nat) : (wL D cI cG cL a)[pC 10]? = some (la (Gc D cI cG cL (aC a)) 10, ce (Gc D cI cG cL (aC a)) 0 σI 10) := rfl
set_option maxHeartbeats 4000000 in
set_option maxRecDepth 100000 in
theorem wc_11 (D : va_G) (cI cG cL : ClassId) (a : Nat → Nat) : (wL D cI cG cL a)[pC 11]? = some (la (Gc D cI cG cL (aC a)) 11, ce (Gc D cI cG cL (aC a)) 0 σI 11) := rfl
set_option maxHeartbeats 4000000 in
set_option maxRecDepth 100000 in
theorem wc_12 (D : va_G) (cI cG cL : ClassId) (a : Nat → Nat) : (wL D cI cG cL a)[pC 12]? = some (la (Gc D cI cG cL (aC a)) 12, ce (Gc D cI cG cL (aC a)) 0 σI 12) := rfl
set_option maxHeartbeats 4000000 in
set_option maxRecDepth 100000 in
theorem wc_13 (D : va_G) (cI cG cL : ClassId) (a : Nat → Nat) : (wL D cI cG cL a)[pC 13]? = some (la (Gc D cI cG cL (aC a)) 13, ce (Gc D cI cG cL (aC a)) 0 σI 13) := rfl
set_option maxHeartbeats 4000000 in
set_option maxRecDepth 100000 in
theorem wc_14 (D : va_G) (cI cG cL : ClassId) (a : Nat → Nat) : (wL D cI cG cL a)[pC 14]? = some (la (Gc D cI cG cL (aC a)) 14, ce (Gc D cI cG cL (aC a)) 0 σI 14) := rfl
set_option maxHeartbeats 4000000 in
set_option maxRecDepth 100000 in
theorem wc_15 (D : va_G) (cI cG cL : ClassId) (a : Nat → Nat) : (wL D cI cG cL a)[pC 15]? = some (la (Gc D cI cG cL (aC a)) 15, ce (Gc D cI cG cL (aC a)) 0 σI 15) := rfl
set_option maxHeartbeats 4000000 in
set_option maxRecDepth 100000 in
theorem wc_16 (D : va_G) (cI cG cL : ClassId) (a : Nat → Nat) : (wL D cI cG cL a)[pC 16]? = some (la (Gc D cI cG cL (aC a)) 16, ce (Gc D cI cG cL (aC a)) 0 σI 16) := rfl
set_option maxHeartbeats 4000000 in
set_option maxRecDepth 100000 in
theorem wc_17 (D : va_G) (cI cG cL : ClassId) (a : Nat → Nat) : (wL D cI cG cL a)[pC 17]? = some (la (Gc D cI cG cL (aC a)) 17, ce (Gc D cI cG cL (aC a)) 0 σI 17) := rfl
set_option maxHeartbeats 4000000 in
set_option maxRecDepth 100000 in
theorem wc_18 (D : va_G) (cI cG cL : ClassId) (a : Nat → Nat) : (wL D cI cG cL a)[pC 18]? = some (la (Gc D cI cG cL (aC a)) 18, ce (Gc D cI cG cL (aC a)) 0 σI 18) := rfl
set_option maxHeartbeats 4000000 in
set_option maxRecDepth 100000 in
theorem wc_19 (D : va_G) (cI cG cL : ClassId) (a : Nat → Nat) : (wL D cI cG cL a)[pC 19]? = some (la (Gc D cI cG cL (aC a)) 19, ce (Gc D cI cG cL (aC a)) 0 σI 19) := rfl
set_option maxHeartbeats 4000000 in
set_option maxRecDepth 100000 in
theorem wc_20 (D : va_G) (cI cG cL : ClassId) (a : Nat → Nat) : (wL D cI cG cL a)[pC 20]? = some (la (Gc D cI cG cL (aC a)) 20, ce (Gc D cI cG cL (aC a)) 0 σI 20) := rfl
set_option maxHeartbeats 4000000 in
set_option maxRecDepth 100000 in
theorem wc_21 (D : va_G) (cI cG cL : ClassId) (a : Nat → Nat) : (wL D cI cG cL a)[pC 21]? = some (la (Gc D cI cG cL (aC a)) 21, ce (Gc D cI cG cL (aC a)) 0 σI 21) := rfl
set_option maxHeartbeats 4000000 in
set_option maxRecDepth 100000 in
theorem wc_22 (D : va_G) (cI cG cL : ClassId) (a : Nat → Nat) : (wL D cI cG cL a)[pC 22]? = some (la (Gc D cI cG cL (aC a)) 22, ce (Gc D cI cG cL (aC a)) 0 σI 22) := rfl
set_option maxHeartbeats 4000000 in
set_option maxRecDepth 100000 in
theorem wc_23 (D : va_G) (cI cG cL : ClassId) (a : Nat → Nat) : (wL D cI cG cL a)[pC 23]? = some (la (Gc D cI cG cL (aC a)) 23, ce (Gc D cI cG cL (aC a)) 0 σI 23) := rfl
set_option maxHeartbeats 4000000 in
set_option maxRecDepth 100000 in
theorem wc_24 (D : va_G) (cI cG cL : ClassId) (a : Nat → Nat) : (wL D cI cG cL a)[pC 24]? = some (la (Gc D cI cG cL (aC a)) 24, ce (Gc D cI cG cL (aC a)) 0 σI 24) := rfl
set_option maxHeartbeats 4000000 in
set_option maxRecDepth 100000 in
theorem wc_25 (D : va_G) (cI cG cL : ClassId) (a : Nat → Nat) : (wL D cI cG cL a)[pC 25]? = some (la (Gc D cI cG cL (aC a)) 25, ce (Gc D cI cG cL (aC a)) 0 σI 25) := rfl
set_option maxHeartbeats 4000000 in
set_option maxRecDepth 100000 in
theorem wc_26 (D : va_G) (cI cG cL : ClassId) (a : Nat → Nat) : (wL D cI cG cL a)[pC 26]? = some (la (Gc D cI cG cL (aC a)) 26, ce (Gc D cI cG cL (aC a)) 0 σI 26) := rfl
set_option maxHeartbeats 4000000 in
set_option maxRecDepth 100000 in
theorem wc_27 (D : va_G) (cI cG cL : ClassId) (a : Nat → Nat) : (wL D cI cG cL a)[pC 27]? = some (la (Gc D cI cG cL (aC a)) 27, ce (Gc D cI cG cL (aC a)) 0 σI 27) := rfl
set_option maxHeartbeats 4000000 in
set_option maxRecDepth 100000 in
theorem wc_28 (D : va_G) (cI cG cL : ClassId) (a : Nat → Nat) : (wL D cI cG cL a)[pC 28]? = some (la (Gc D cI cG cL (aC a)) 28, ce (Gc D cI cG cL (aC a)) 0 σI 28) := rfl
set_option maxHeartbeats 4000000 in
set_option maxRecDepth 100000 in
theorem wc_29 (D : va_G) (cI cG cL : ClassId) (a : Nat → Nat) : (wL D cI cG cL a)[pC 29]? = some (la (Gc D cI cG cL (aC a)) 29, ce (Gc D cI cG cL (aC a)) 0 σI 29) := rfl
set_option maxHeartbeats 4000000 in
set_option maxRecDepth 100000 in
theorem wc_30 (D : va_G) (cI cG cL : ClassId) (a : Nat → Nat) : (wL D cI cG cL a)[pC 30]? = some (la (Gc D cI cG cL (aC a)) 30, ce (Gc D cI cG cL (aC a)) 0 σI 30) := rfl
set_option maxHeartbeats 4000000 in
set_option maxRecDepth 100000 in
theorem wc_31 (D : va_G) (cI cG cL : ClassId) (a : Nat → Nat) : (wL D cI cG cL a)[pC 31]? = some (la (Gc D cI cG cL (aC a)) 31, ce (Gc D cI cG cL (aC a)) 0 σI 31) := rfl
set_option maxHeartbeats 4000000 in
set_option maxRecDepth 100000 in
theorem wc_32 (D : va_G) (cI cG cL : ClassId) (a : Nat → Nat) : (wL D cI cG cL a)[pC 32]? = some (la (Gc D cI cG cL (aC a)) 32, ce (Gc D cI cG cL (aC a)) 0 σI 32) := rfl
set_option maxHeartbeats 4000000 in
set_option maxRecDepth 100000 in
theorem wc_33 (D : va_G) (cI cG cL : ClassId) (a : Nat → Nat) : (wL D cI cG cL a)[pC 33]? = some (la (Gc D cI cG cL (aC a)) 33, ce (Gc D cI cG cL (aC a)) 0 σI 33) := rfl
set_option maxHeartbeats 4000000 in
set_option maxRecDepth 100000 in
theorem wc_34 (D : va_G) (cI cG cL : ClassId) (a : Nat → Nat) : (wL D cI cG cL a)[pC 34]? = some (la (Gc D cI cG cL (aC a)) 34, ce (Gc D cI cG cL (aC a)) 0 σI 34) := rfl
set_option maxHeartbeats 4000000 in
set_option maxRecDepth 100000 in
theorem wc_35 (D : va_G) (cI cG cL : ClassId) (a : Nat → Nat) : (wL D cI cG cL a)[pC 35]? = some (la (Gc D cI cG cL (aC a)) 35, ce (Gc D cI cG cL (aC a)) 0 σI 35) := rfl
set_option maxHeartbeats 4000000 in
set_option maxRecDepth 100000 in
theorem wc_36 (D : va_G) (cI cG cL : ClassId) (a : Nat → Nat) : (wL D cI cG cL a)[pC 36]? = some (la (Gc D cI cG cL (aC a)) 36, ce (Gc D cI cG cL (aC a)) 0 σI 36) := rfl
set_option maxHeartbeats 4000000 in
set_option maxRecDepth 100000 in
theorem wc_37 (D : va_G) (cI cG cL : ClassId) (a : Nat → Nat) : (wL D cI cG cL a)[pC 37]? = some (la (Gc D cI cG cL (aC a)) 37, ce (Gc D cI cG cL (aC a)) 0 σI 37) := rfl
set_option maxHeartbeats 4000000 in
set_option maxRecDepth 100000 in
theorem wc_38 (D : va_G) (cI cG cL : ClassId) (a : Nat → Nat) : (wL D cI cG cL a)[pC 38]? = some (la (Gc D cI cG cL (aC a)) 38, ce (Gc D cI cG cL (aC a)) 0 σI 38) := rfl
set_option maxHeartbeats 4000000 in
set_option maxRecDepth 100000 in
theorem wc_39 (D : va_G) (cI cG cL : ClassId) (a : Nat → Nat) : (wL D cI cG cL a)[pC 39]? = some (la (Gc D cI cG cL (aC a)) 39, ce (Gc D cI cG cL (aC a)) 0 σI 39) := rfl
set_option maxHeartbeats 4000000 in
set_option maxRecDepth 100000 in
theorem wc_40 (D : va_G) (cI cG cL : ClassId) (a : Nat → Nat) : (wL D cI cG cL a)[pC 40]? = some (la (Gc D cI cG cL (aC a)) 40, ce (Gc D cI cG cL (aC a)) 0 σI 40) := rfl
set_option maxHeartbeats 4000000 in
set_option maxRecDepth 100000 in
theorem wc_41 (D : va_G) (cI cG cL : ClassId) (a : Nat → Nat) : (wL D cI cG cL a)[pC 41]? = some (la (Gc D cI cG cL (aC a)) 41, ce (Gc D cI cG cL (aC a)) 0 σI 41) := rfl
set_option maxHeartbeats 4000000 in
set_option maxRecDepth 100000 in
theorem wc_42 (D : va_G) (cI cG cL : ClassId) (a : Nat → Nat) : (wL D cI cG cL a)[pC 42]? = some (la (Gc D cI cG cL (aC a)) 42, ce (Gc D cI cG cL (aC a)) 0 σI 42) := rfl
set_option maxHeartbeats 4000000 in
set_option maxRecDepth 100000 in
theorem wc_43 (D : va_G) (cI cG cL : ClassId) (a : Nat → Nat) : (wL D cI cG cL a)[pC 43]? = some (la (Gc D cI cG cL (aC a)) 43, ce (Gc D cI cG cL (aC a)) 0 σI 43) := rfl
set_option maxHeartbeats 4000000 in
set_option maxRecDepth 100000 in
theorem wc_44 (D : va_G) (cI cG cL : ClassId) (a : Nat → Nat) : (wL D cI cG cL a)[pC 44]? = some (la (Gc D cI cG cL (aC a)) 44, ce (Gc D cI cG cL (aC a)) 0 σI 44) := rfl
set_option maxHeartbeats 4000000 in
set_option maxRecDepth 100000 in
theorem wc_45 (D : va_G) (cI cG cL : ClassId) (a : Nat → Nat) : (wL D cI cG cL a)[pC 45]? = some (la (Gc D cI cG cL (aC a)) 45, ce (Gc D cI cG cL (aC a)) 0 σI 45) := rfl
set_option maxHeartbeats 4000000 in
set_option maxRecDepth 100000 in
theorem wc_46 (D : va_G) (cI cG cL : ClassId) (a : Nat → Nat) : (wL D cI cG cL a)[pC 46]? = some (la (Gc D cI cG cL (aC a)) 46, ce (Gc D cI cG cL (aC a)) 0 σI 46) := rfl
set_option maxHeartbeats 4000000 in
set_option maxRecDepth 100000 in
theorem wc_47 (D : va_G) (cI cG cL : ClassId) (a : Nat → Nat) : (wL D cI cG cL a)[pC 47]? = some (la (Gc D cI cG cL (aC a)) 47, ce (Gc D cI cG cL (aC a)) 0 σI 47) := rfl
set_option maxHeartbeats 4000000 in
set_option maxRecDepth 100000 in
theorem wc_48 (D : va_G) (cI cG cL : ClassId) (a : Nat → Nat) : (wL D cI cG cL a)[pC 48]? = some (la (Gc D cI cG cL (aC a)) 48, ce (Gc D cI cG cL (aC a)) 0 σI 48) := rfl
set_option maxHeartbeats 4000000 in
set_option maxRecDepth 100000 in
theorem wc_49 (D : va_G) (cI cG cL : ClassId) (a : Nat → Nat) : (wL D cI cG cL a)[pC 49]? = some (la (Gc D cI cG cL (aC a)) 49, ce (Gc D cI cG cL (aC a)) 0 σI 49) := rfl
set_option maxHeartbeats 4000000 in
set_option maxRecDepth 100000 in
theorem wc_50 (D : va_G) (cI cG cL : ClassId) (a : Nat → Nat) : (wL D cI cG cL a)[pC 50]? = some (la (Gc D cI cG cL (aC a)) 50, ce (Gc D cI cG cL (aC a)) 0 σI 50) := rfl
set_option maxHeartbeats 4000000 in
set_option maxRecDepth 100000 in
theorem wc_51 (D : va_G) (cI cG cL : ClassId) (a : Nat → Nat) : (wL D cI cG cL a)[pC 51]? = some (la (Gc D cI cG cL (aC a)) 51, ce (Gc D cI cG cL (aC a)) 0 σI 51) := rfl
set_option maxHeartbeats 4000000 in
set_option maxRecDepth 100000 in
theorem wc_52 (D : va_G) (cI cG cL : ClassId) (a : Nat → Nat) : (wL D cI cG cL a)[pC 52]? = some (la (Gc D cI cG cL (aC a)) 52, ce (Gc D cI cG cL (aC a)) 0 σI 52) := rfl
set_option maxHeartbeats 4000000 in
set_option maxRecDepth 100000 in
theorem wc_53 (D : va_G) (cI cG cL : ClassId) (a : Nat → Nat) : (wL D cI cG cL a)[pC 53]? = some (la (Gc D cI cG cL (aC a)) 53, ce (Gc D cI cG cL (aC a)) 0 σI 53) := rfl
set_option maxHeartbeats 4000000 in
set_option maxRecDepth 100000 in
theorem wc_54 (D : va_G) (cI cG cL : ClassId) (a : Nat → Nat) : (wL D cI cG cL a)[pC 54]? = some (la (Gc D cI cG cL (aC a)) 54, ce (Gc D cI cG cL (aC a)) 0 σI 54) := rfl
set_option maxHeartbeats 4000000 in
set_option maxRecDepth 100000 in
theorem wc_55 (D : va_G) (cI cG cL : ClassId) (a : Nat → Nat) : (wL D cI cG cL a)[pC 55]? = some (la (Gc D cI cG cL (aC a)) 55, ce (Gc D cI cG cL (aC a)) 0 σI 55) := rfl
set_option maxHeartbeats 4000000 in
set_option maxRecDepth 100000 in
theorem wc_56 (D : va_G) (cI cG cL : ClassId) (a : Nat → Nat) : (wL D cI cG cL a)[pC 56]? = some (la (Gc D cI cG cL (aC a)) 56, ce (Gc D cI cG cL (aC a)) 0 σI 56) := rfl
set_option maxHeartbeats 4000000 in
set_option maxRecDepth 100000 in
theorem wc_57 (D : va_G) (cI cG cL : ClassId) (a : Nat → Nat) : (wL D cI cG cL a)[pC 57]? = some (la (Gc D cI cG cL (aC a)) 57, ce (Gc D cI cG cL (aC a)) 0 σI 57) := rfl
set_option maxHeartbeats 4000000 in
set_option maxRecDepth 100000 in
theorem wc_58 (D : va_G) (cI cG cL : ClassId) (a : Nat → Nat) : (wL D cI cG cL a)[pC 58]? = some (la (Gc D cI cG cL (aC a)) 58, ce (Gc D cI cG cL (aC a)) 0 σI 58) := rfl
set_option maxHeartbeats 4000000 in
set_option maxRecDepth 100000 in
theorem wc_59 (D : va_G) (cI cG cL : ClassId) (a : Nat → Nat) : (wL D cI cG cL a)[pC 59]? = some (la (Gc D cI cG cL (aC a)) 59, ce (Gc D cI cG cL (aC a)) 0 σI 59) := rfl
set_option maxHeartbeats 4000000 in
set_option maxRecDepth 100000 in
theorem wc_60 (D : va_G) (cI cG cL : ClassId) (a : Nat → Nat) : (wL D cI cG cL a)[pC 60]? = some (la (Gc D cI cG cL (aC a)) 60, ce (Gc D cI cG cL (aC a)) 0 σI 60) := rfl
set_option maxHeartbeats 4000000 in
set_option maxRecDepth 100000 in
theorem wc_61 (D : va_G) (cI cG cL : ClassId) (a : Nat → Nat) : (wL D cI cG cL a)[pC 61]? = some (la (Gc D cI cG cL (aC a)) 61, ce (Gc D cI cG cL (aC a)) 0 σI 61) := rfl
set_option maxHeartbeats 4000000 in
set_option maxRecDepth 100000 in
theorem wc_62 (D : va_G) (cI cG cL : ClassId) (a : Nat → Nat) : (wL D cI cG cL a)[pC 62]? = some (la (Gc D cI cG cL (aC a)) 62, ce (Gc D cI cG cL (aC a)) 0 σI 62) := rfl
set_option maxHeartbeats 4000000 in
set_option maxRecDepth 100000 in
theorem wc_63 (D : va_G) (cI cG cL : ClassId) (a : Nat → Nat) : (wL D cI cG cL a)[pC 63]? = some (la (Gc D cI cG cL (aC a)) 63, ce (Gc D cI cG cL (aC a)) 0 σI 63) := rfl
set_option maxHeartbeats 4000000 in
set_option maxRecDepth 100000 in
theorem wc_64 (D : va_G) (cI cG cL : ClassId) (a : Nat → Nat) : (wL D cI cG cL a)[pC 64]? = some (la (Gc D cI cG cL (aC a)) 64, ce (Gc D cI cG cL (aC a)) 0 σI 64) := rfl
set_option maxHeartbeats 4000000 in
set_option maxRecDepth 100000 in
theorem wc_65 (D : va_G) (cI cG cL : ClassId) (a : Nat → Nat) : (wL D cI cG cL a)[pC 65]? = some (la (Gc D cI cG cL (aC a)) 65, ce (Gc D cI cG cL (aC a)) 0 σI 65) := rfl
set_option maxHeartbeats 4000000 in
set_option maxRecDepth 100000 in
theorem wc_66 (D : va_G) (cI cG cL : ClassId) (a : Nat → Nat) : (wL D cI cG cL a)[pC 66]? = some (la (Gc D cI cG cL (aC a)) 66, ce (Gc D cI cG cL (aC a)) 0 σI 66) := rfl
set_option maxHeartbeats 4000000 in
set_option maxRecDepth 100000 in
theorem wc_67 (D : va_G) (cI cG cL : ClassId) (a : Nat → Nat) : (wL D cI cG cL a)[pC 67]? = some (la (Gc D cI cG cL (aC a)) 67, ce (Gc D cI cG cL (aC a)) 0 σI 67) := rfl
set_option maxHeartbeats 4000000 in
set_option maxRecDepth 100000 in
theorem wc_68 (D : va_G) (cI cG cL : ClassId) (a : Nat → Nat) : (wL D cI cG cL a)[pC 68]? = some (la (Gc D cI cG cL (aC a)) 68, ce (Gc D cI cG cL (aC a)) 0 σI 68) := rfl
set_option maxHeartbeats 4000000 in
set_option maxRecDepth 100000 in
theorem wc_69 (D : va_G) (cI cG cL : ClassId) (a : Nat → Nat) : (wL D cI cG cL a)[pC 69]? = some (la (Gc D cI cG cL (aC a)) 69, ce (Gc D cI cG cL (aC a)) 0 σI 69) := rfl
set_option maxHeartbeats 4000000 in
set_option maxRecDepth 100000 in
theorem wc_70 (D : va_G) (cI cG cL : ClassId) (a : Nat → Nat) : (wL D cI cG cL a)[pC 70]? = some (la (Gc D cI cG cL (aC a)) 70, ce (Gc D cI cG cL (aC a)) 0 σI 70) := rfl
set_option maxHeartbeats 4000000 in
set_option maxRecDepth 100000 in
theorem wc_71 (D : va_G) (cI cG cL : ClassId) (a : Nat → Nat) : (wL D cI cG cL a)[pC 71]? = some (la (Gc D cI cG cL (aC a)) 71, ce (Gc D cI cG cL (aC a)) 0 σI 71) := rfl
set_option maxHeartbeats 4000000 in
set_option maxRecDepth 100000 in
theorem wc_72 (D : va_G) (cI cG cL : ClassId) (a : Nat → Nat) : (wL D cI cG cL a)[pC 72]? = some (la (Gc D cI cG cL (aC a)) 72, ce (Gc D cI cG cL (aC a)) 0 σI 72) := rfl
set_option maxHeartbeats 4000000 in
set_option maxRecDepth 100000 in
theorem wc_73 (D : va_G) (cI cG cL : ClassId) (a : Nat → Nat) : (wL D cI cG cL a)[pC 73]? = some (la (Gc D cI cG cL (aC a)) 73, ce (Gc D cI cG cL (aC a)) 0 σI 73) := rfl
set_option maxHeartbeats 4000000 in
set_option maxRecDepth 100000 in
theorem wc_74 (D : va_G) (cI cG cL : ClassId) (a : Nat → Nat) : (wL D cI cG cL a)[pC 74]? = some (la (Gc D cI cG cL (aC a)) 74, ce (Gc D cI cG cL (aC a)) 0 σI 74) := rfl
set_option maxHeartbeats 4000000 in
set_option maxRecDepth 100000 in
theorem wc_75 (D : va_G) (cI cG cL : ClassId) (a : Nat → Nat) : (wL D cI cG cL a)[pC 75]? = some (la (Gc D cI cG cL (aC a)) 75, ce (Gc D cI cG cL (aC a)) 0 σI 75) := rfl
set_option maxHeartbeats 4000000 in
set_option maxRecDepth 100000 in
theorem wc_76 (D : va_G) (cI cG cL : ClassId) (a : Nat → Nat) : (wL D cI cG cL a)[pC 76]? = some (la (Gc D cI cG cL (aC a)) 76, ce (Gc D cI cG cL (aC a)) 0 σI 76) := rfl
set_option maxHeartbeats 4000000 in
set_option maxRecDepth 100000 in
theorem wc_77 (D : va_G) (cI cG cL : ClassId) (a : Nat → Nat) : (wL D cI cG cL a)[pC 77]? = some (la (Gc D cI cG cL (aC a)) 77, ce (Gc D cI cG cL (aC a)) 0 σI 77) := rfl
set_option maxHeartbeats 4000000 in
set_option maxRecDepth 100000 in
theorem wc_78 (D : va_G) (cI cG cL : ClassId) (a : Nat → Nat) : (wL D cI cG cL a)[pC 78]? = some (la (Gc D cI cG cL (aC a)) 78, ce (Gc D cI cG cL (aC a)) 0 σI 78) := rfl
set_option maxHeartbeats 4000000 in
set_option maxRecDepth 100000 in
theorem wc_79 (D : va_G) (cI cG cL : ClassId) (a : Nat → Nat) : (wL D cI cG cL a)[pC 79]? = some (la (Gc D cI cG cL (aC a)) 79, ce (Gc D cI cG cL (aC a)) 0 σI 79) := rfl
set_option maxHeartbeats 4000000 in
set_option maxRecDepth 100000 in
theorem wc_80 (D : va_G) (cI cG cL : ClassId) (a : Nat → Nat) : (wL D cI cG cL a)[pC 80]? = some (la (Gc D cI cG cL (aC a)) 80, ce (Gc D cI cG cL (aC a)) 0 σI 80) := rfl
set_option maxHeartbeats 4000000 in
set_option maxRecDepth 100000 in
theorem wc_81 (D : va_G) (cI cG cL : ClassId) (a : Nat → Nat) : (wL D cI cG cL a)[pC 81]? = some (la (Gc D cI cG cL (aC a)) 81, ce (Gc D cI cG cL (aC a)) 0 σI 81) := rfl
set_option maxHeartbeats 4000000 in
set_option maxRecDepth 100000 in
theorem wc_82 (D : va_G) (cI cG cL : ClassId) (a : Nat → Nat) : (wL D cI cG cL a)[pC 82]? = some (la (Gc D cI cG cL (aC a)) 82, ce (Gc D cI cG cL (aC a)) 0 σI 82) := rfl
set_option maxHeartbeats 4000000 in
set_option maxRecDepth 100000 in
theorem wc_83 (D : va_G) (cI cG cL : ClassId) (a : Nat → Nat) : (wL D cI cG cL a)[pC 83]? = some (la (Gc D cI cG cL (aC a)) 83, ce (Gc D cI cG cL (aC a)) 0 σI 83) := rfl
set_option maxHeartbeats 4000000 in
set_option maxRecDepth 100000 in
theorem wc_84 (D : va_G) (cI cG cL : ClassId) (a : Nat → Nat) : (wL D cI cG cL a)[pC 84]? = some (la (Gc D cI cG cL (aC a)) 84, ce (Gc D cI cG cL (aC a)) 0 σI 84) := rfl
set_option maxHeartbeats 4000000 in
set_option maxRecDepth 100000 in
theorem wc_85 (D : va_G) (cI cG cL : ClassId) (a : Nat → Nat) : (wL D cI cG cL a)[pC 85]? = some (la (Gc D cI cG cL (aC a)) 85, ce (Gc D cI cG cL (aC a)) 0 σI 85) := rfl
set_option maxHeartbeats 4000000 in
set_option maxRecDepth 100000 in
theorem wc_86 (D : va_G) (cI cG cL : ClassId) (a : Nat → Nat) : (wL D cI cG cL a)[pC 86]? = some (la (Gc D cI cG cL (aC a)) 86, ce (Gc D cI cG cL (aC a)) 0 σI 86) := rfl
set_option maxHeartbeats 4000000 in
set_option maxRecDepth 100000 in
theorem wc_87 (D : va_G) (cI cG cL : ClassId) (a : Nat → Nat) : (wL D cI cG cL a)[pC 87]? = some (la (Gc D cI cG cL (aC a)) 87, ce (Gc D cI cG cL (aC a)) 0 σI 87) := rfl
set_option maxHeartbeats 4000000 in
set_option maxRecDepth 100000 in
theorem wc_88 (D : va_G) (cI cG cL : ClassId) (a : Nat → Nat) : (wL D cI cG cL a)[pC 88]? = some (la (Gc D cI cG cL (aC a)) 88, ce (Gc D cI cG cL (aC a)) 0 σI 88) := rfl
set_option maxHeartbeats 4000000 in
set_option maxRecDepth 100000 in
theorem wc_89 (D : va_G) (cI cG cL : ClassId) (a : Nat → Nat) : (wL D cI cG cL a)[pC 89]? = some (la (Gc D cI cG cL (aC a)) 89, ce (Gc D cI cG cL (aC a)) 0 σI 89) := rfl
set_option maxHeartbeats 4000000 in
set_option maxRecDepth 100000 in
theorem wc_90 (D : va_G) (cI cG cL : ClassId) (a : Nat → Nat) : (wL D cI cG cL a)[pC 90]? = some (la (Gc D cI cG cL (aC a)) 90, ce (Gc D cI cG cL (aC a)) 0 σI 90) := rfl
set_option maxHeartbeats 4000000 in
set_option maxRecDepth 100000 in
theorem wc_91 (D : va_G) (cI cG cL : ClassId) (a : Nat → Nat) : (wL D cI cG cL a)[pC 91]? = some (la (Gc D cI cG cL (aC a)) 91, ce (Gc D cI cG cL (aC a)) 0 σI 91) := rfl
set_option maxHeartbeats 4000000 in
set_option maxRecDepth 100000 in
theorem wc_92 (D : va_G) (cI cG cL : ClassId) (a : Nat → Nat) : (wL D cI cG cL a)[pC 92]? = some (la (Gc D cI cG cL (aC a)) 92, ce (Gc D cI cG cL (aC a)) 0 σI 92) := rfl
set_option maxHeartbeats 4000000 in
set_option maxRecDepth 100000 in
theorem wc_93 (D : va_G) (cI cG cL : ClassId) (a : Nat → Nat) : (wL D cI cG cL a)[pC 93]? = some (la (Gc D cI cG cL (aC a)) 93, ce (Gc D cI cG cL (aC a)) 0 σI 93) := rfl
set_option maxHeartbeats 4000000 in
set_option maxRecDepth 100000 in
theorem wc_94 (D : va_G) (cI cG cL : ClassId) (a : Nat → Nat) : (wL D cI cG cL a)[pC 94]? = some (la (Gc D cI cG cL (aC a)) 94, ce (Gc D cI cG cL (aC a)) 0 σI 94) := rfl
set_option maxHeartbeats 4000000 in
set_option maxRecDepth 100000 in
theorem wc_95 (D : va_G) (cI cG cL : ClassId) (a : Nat → Nat) : (wL D cI cG cL a)[pC 95]? = some (la (Gc D cI cG cL (aC a)) 95, ce (Gc D cI cG cL (aC a)) 0 σI 95) := rfl
set_option maxHeartbeats 4000000 in
set_option maxRecDepth 100000 in
theorem wc_96 (D : va_G) (cI cG cL : ClassId) (a : Nat → Nat) : (wL D cI cG cL a)[pC 96]? = some (la (Gc D cI cG cL (aC a)) 96, ce (Gc D cI cG cL (aC a)) 0 σI 96) := rfl
set_option maxHeartbeats 4000000 in
set_option maxRecDepth 100000 in
theorem wc_97 (D : va_G) (cI cG cL : ClassId) (a : Nat → Nat) : (wL D cI cG cL a)[pC 97]? = some (la (Gc D cI cG cL (aC a)) 97, ce (Gc D cI cG cL (aC a)) 0 σI 97) := rfl
set_option maxHeartbeats 4000000 in
set_option maxRecDepth 100000 in
theorem wc_98 (D : va_G) (cI cG cL : ClassId) (a : Nat → Nat) : (wL D cI cG cL a)[pC 98]? = some (la (Gc D cI cG cL (aC a)) 98, ce (Gc D cI cG cL (aC a)) 0 σI 98) := rfl
set_option maxHeartbeats 4000000 in
set_option maxRecDepth 100000 in
theorem wc_99 (D : va_G) (cI cG cL : ClassId) (a : Nat → Nat) : (wL D cI cG cL a)[pC 99]? = some (la (Gc D cI cG cL (aC a)) 99, ce (Gc D cI cG cL (aC a)) 0 σI 99) := rfl
set_option maxHeartbeats 4000000 in
set_option maxRecDepth 100000 in
theorem wc_100 (D : va_G) (cI cG cL : ClassId) (a : Nat → Nat) : (wL D cI cG cL a)[pC 100]? = some (la (Gc D cI cG cL (aC a)) 100, ce (Gc D cI cG cL (aC a)) 0 σI 100) := rfl
set_option maxHeartbeats 4000000 in
set_option maxRecDepth 100000 in
theorem wc_101 (D : va_G) (cI cG cL : ClassId) (a : Nat → Nat) : (wL D cI cG cL a)[pC 101]? = some (la (Gc D cI cG cL (aC a)) 101, ce (Gc D cI cG cL (aC a)) 0 σI 101) := rfl
set_option maxHeartbeats 4000000 in
set_option maxRecDepth 100000 in
theorem wc_102 (D : va_G) (cI cG cL : ClassId) (a : Nat → Nat) : (wL D cI cG cL a)[pC 102]? = some (la (Gc D cI cG cL (aC a)) 102, ce (Gc D cI cG cL (aC a)) 0 σI 102) := rfl
set_option maxHeartbeats 4000000 in
set_option maxRecDepth 100000 in
theorem wc_103 (D : va_G) (cI cG cL : ClassId) (a : Nat → Nat) : (wL D cI cG cL a)[pC 103]? = some (la (Gc D cI cG cL (aC a)) 103, ce (Gc D cI cG cL (aC a)) 0 σI 103) := rfl
set_option maxHeartbeats 4000000 in
set_option maxRecDepth 100000 in
theorem wc_104 (D : va_G) (cI cG cL : ClassId) (a : Nat → Nat) : (wL D cI cG cL a)[pC 104]? = some (la (Gc D cI cG cL (aC a)) 104, ce (Gc D cI cG cL (aC a)) 0 σI 104) := rfl
set_option maxHeartbeats 4000000 in
set_option maxRecDepth 100000 in
theorem wc_105 (D : va_G) (cI cG cL : ClassId) (a : Nat → Nat) : (wL D cI cG cL a)[pC 105]? = some (la (Gc D cI cG cL (aC a)) 105, ce (Gc D cI cG cL (aC a)) 0 σI 105) := rfl
set_option maxHeartbeats 4000000 in
set_option maxRecDepth 100000 in
theorem wc_107 (D : va_G) (cI cG cL : ClassId) (a : Nat → Nat) : (wL D cI cG cL a)[pC 107]? = some (la (Gc D cI cG cL (aC a)) 107, ce (Gc D cI cG cL (aC a)) 0 σI 107) := rfl
set_option maxHeartbeats 4000000 in
set_option maxRecDepth 100000 in
theorem wc_106 (D : va_G) (cI cG cL : ClassId) (a : Nat → Nat) : (wL D cI cG cL a)[47]? = some (a 47, .inl (cG, 4, .inr (.inr (.inr (.inr (va_up (va_up (va_up (va_up (fun _ => none) 0 (some (a 48))) 1 (some (a 63))) 2 (some (a 78))) 3 (some (a 93)))))))) := rfl
set_option maxHeartbeats 4000000 in
set_option maxRecDepth 100000 in
theorem wc_all (D : va_G) (cI cG cL : ClassId) (a : Nat → Nat) (k : Nat) (hk : k < 108) (h6 : k ≠ 106) : (wL D cI cG cL a)[pC k]? = some (la (Gc D cI cG cL (aC a)) k, ce (Gc D cI cG cL (aC a)) 0 σI k) := by
  match k, hk, h6 with
  | 0, _, _ => exact wc_0 D cI cG cL a
  | 1, _, _ => exact wc_1 D cI cG cL a
  | 2, _, _ => exact wc_2 D cI cG cL a
  | 3, _, _ => exact wc_3 D cI cG cL a
  | 4, _, _ => exact wc_4 D cI cG cL a
  | 5, _, _ => exact wc_5 D cI cG cL a
  | 6, _, _ => exact wc_6 D cI cG cL a
  | 7, _, _ => exact wc_7 D cI cG cL a
  | 8, _, _ => exact wc_8 D cI cG cL a
  | 9, _, _ => exact wc_9 D cI cG cL a
  | 10, _, _ => exact wc_10 D cI cG cL a
  | 11, _, _ => exact wc_11 D cI cG cL a
  | 12, _, _ => exact wc_12 D cI cG cL a
  | 13, _, _ => exact wc_13 D cI cG cL a
  | 14, _, _ => exact wc_14 D cI cG cL a
  | 15, _, _ => exact wc_15 D cI cG cL a
  | 16, _, _ => exact wc_16 D cI cG cL a
  | 17, _, _ => exact wc_17 D cI cG cL a
  | 18, _, _ => exact wc_18 D cI cG cL a
  | 19, _, _ => exact wc_19 D cI cG cL a
  | 20, _, _ => exact wc_20 D cI cG cL a
  | 21, _, _ => exact wc_21 D cI cG cL a
  | 22, _, _ => exact wc_22 D cI cG cL a
  | 23, _, _ => exact wc_23 D cI cG cL a
  | 24, _, _ => exact wc_24 D cI cG cL a
  | 25, _, _ => exact wc_25 D cI cG cL a
  | 26, _, _ => exact wc_26 D cI cG cL a
  | 27, _, _ => exact wc_27 D cI cG cL a
  | 28, _, _ => exact wc_28 D cI cG cL a
  | 29, _, _ => exact wc_29 D cI cG cL a
  | 30, _, _ => exact wc_30 D cI cG cL a
  | 31, _, _ => exact wc_31 D cI cG cL a
  | 32, _, _ => exact wc_32 D cI cG cL a
  | 33, _, _ => exact wc_33 D cI cG cL a
  | 34, _, _ => exact wc_34 D cI cG cL a
  | 35, _, _ => exact wc_35 D cI cG cL a
  | 36, _, _ => exact wc_36 D cI cG cL a
  | 37, _, _ => exact wc_37 D cI cG cL a
  | 38, _, _ => exact wc_38 D cI cG cL a
  | 39, _, _ => exact wc_39 D cI cG cL a
  | 40, _, _ => exact wc_40 D cI cG cL a
  | 41, _, _ => exact wc_41 D cI cG cL a
  | 42, _, _ => exact wc_42 D cI cG cL a
  | 43, _, _ => exact wc_43 D cI cG cL a
  | 44, _, _ => exact wc_44 D cI cG cL a
  | 45, _, _ => exact wc_45 D cI cG cL a
  | 46, _, _ => exact wc_46 D cI cG cL a
  | 47, _, _ => exact wc_47 D cI cG cL a
  | 48, _, _ => exact wc_48 D cI cG cL a
  | 49, _, _ => exact wc_49 D cI cG cL a
  | 50, _, _ => exact wc_50 D cI cG cL a
  | 51, _, _ => exact wc_51 D cI cG cL a
  | 52, _, _ => exact wc_52 D cI cG cL a
  | 53, _, _ => exact wc_53 D cI cG cL a
  | 54, _, _ => exact wc_54 D cI cG cL a
  | 55, _, _ => exact wc_55 D cI cG cL a
  | 56, _, _ => exact wc_56 D cI cG cL a
  | 57, _, _ => exact wc_57 D cI cG cL a
  | 58, _, _ => exact wc_58 D cI cG cL a
  | 59, _, _ => exact wc_59 D cI cG cL a
  | 60, _, _ => exact wc_60 D cI cG cL a
  | 61, _, _ => exact wc_61 D cI cG cL a
  | 62, _, _ => exact wc_62 D cI cG cL a
  | 63, _, _ => exact wc_63 D cI cG cL a
  | 64, _, _ => exact wc_64 D cI cG cL a
  | 65, _, _ => exact wc_65 D cI cG cL a
  | 66, _, _ => exact wc_66 D cI cG cL a
  | 67, _, _ => exact wc_67 D cI cG cL a
  | 68, _, _ => exact wc_68 D cI cG cL a
  | 69, _, _ => exact wc_69 D cI cG cL a
  | 70, _, _ => exact wc_70 D cI cG cL a
  | 71, _, _ => exact wc_71 D cI cG cL a
  | 72, _, _ => exact wc_72 D cI cG cL a
  | 73, _, _ => exact wc_73 D cI cG cL a
  | 74, _, _ => exact wc_74 D cI cG cL a
  | 75, _, _ => exact wc_75 D cI cG cL a
  | 76, _, _ => exact wc_76 D cI cG cL a
  | 77, _, _ => exact wc_77 D cI cG cL a
  | 78, _, _ => exact wc_78 D cI cG cL a
  | 79, _, _ => exact wc_79 D cI cG cL a
  | 80, _, _ => exact wc_80 D cI cG cL a
  | 81, _, _ => exact wc_81 D cI cG cL a
  | 82, _, _ => exact wc_82 D cI cG cL a
  | 83, _, _ => exact wc_83 D cI cG cL a
  | 84, _, _ => exact wc_84 D cI cG cL a
  | 85, _, _ => exact wc_85 D cI cG cL a
  | 86, _, _ => exact wc_86 D cI cG cL a
  | 87, _, _ => exact wc_87 D cI cG cL a
  | 88, _, _ => exact wc_88 D cI cG cL a
  | 89, _, _ => exact wc_89 D cI cG cL a
  | 90, _, _ => exact wc_90 D cI cG cL a
  | 91, _, _ => exact wc_91 D cI cG cL a
  | 92, _, _ => exact wc_92 D cI cG cL a
  | 93, _, _ => exact wc_93 D cI cG cL a
  | 94, _, _ => exact wc_94 D cI cG cL a
  | 95, _, _ => exact wc_95 D cI cG cL a
  | 96, _, _ => exact wc_96 D cI cG cL a
  | 97, _, _ => exact wc_97 D cI cG cL a
  | 98, _, _ => exact wc_98 D cI cG cL a
  | 99, _, _ => exact wc_99 D cI cG cL a
  | 100, _, _ => exact wc_100 D cI cG cL a
  | 101, _, _ => exact wc_101 D cI cG cL a
  | 102, _, _ => exact wc_102 D cI cG cL a
  | 103, _, _ => exact wc_103 D cI cG cL a
  | 104, _, _ => exact wc_104 D cI cG cL a
  | 105, _, _ => exact wc_105 D cI cG cL a
  | 106, _, h => exact absurd rfl h
  | 107, _, _ => exact wc_107 D cI cG cL a
  | n + 108, h, _ => exact absurd h (by omega)
set_option maxHeartbeats 4000000 in
set_option maxRecDepth 100000 in
theorem wc_ad (D : va_G) (cI cG cL : ClassId) (a : Nat → Nat) (k : Nat) (hk : k < 108) : ∃ e, (wL D cI cG cL a)[pC k]? = some (la (Gc D cI cG cL (aC a)) k, e) := by
  by_cases h : k = 106
  · subst h; exact ⟨_, wc_106 D cI cG cL a⟩
  · exact ⟨_, wc_all D cI cG cL a k hk h⟩
set_option maxHeartbeats 4000000 in
set_option maxRecDepth 100000 in
theorem pC_inj {i j : Nat} (hi : i < 108) (hj : j < 108) (e : pC i = pC j) : i = j := by
  unfold pC at e
  (repeat' split at e) <;> omega
set_option maxHeartbeats 4000000 in
set_option maxRecDepth 100000 in
theorem arrV_ext {c : ClassId} {n : Nat} {f g : Nat → Value} (h : ∀ j, j < n → f j = g j) : arrV c n f = arrV c n g := by
  unfold arrV
  congr 1
  congr 1
  funext j
  exact h j.val j.isLt
set_option maxHeartbeats 4000000 in
set_option maxRecDepth 100000 in
theorem full_P {D : va_G} {cI cG cL : ClassId} {a : Nat → Nat} {H : Heap} (hP : va_P D vwCl (wL D cI cG cL a) H) : va_P D vwCl (wd (Gc D cI cG cL (aC a)) 0 σI) H := by
  intro k q hq
  obtain ⟨hk, rfl⟩ := fw_of hq
  by_cases h : k = 106
  · subst h
    have h1 : H[a 47]? = some (vp_cell _ _) := hP 47 _ (wc_106 D cI cG cL a)
    show H[a 47]? = some (vp_cell _ _)
    rw [h1]
    refine congrArg some (arrV_ext (c := cG) (n := 4) (f := fun j => va_rf ((va_up (va_up (va_up (va_up (fun _ => none) 0 (some (a 48))) 1 (some (a 63))) 2 (some (a 78))) 3 (some (a 93))) j)) (g := fun j => va_rf (some (la (Gc D cI cG cL (aC a)) (30 + 15 * j)))) (fun j hj => ?_))
    rcases (show j = 0 ∨ j = 1 ∨ j = 2 ∨ j = 3 by omega) with rfl | rfl | rfl | rfl <;> rfl
  · exact hP _ _ (wc_all D cI cG cL a k hk h)
set_option maxHeartbeats 4000000 in
set_option maxRecDepth 100000 in
theorem full_D {D : va_G} {cI cG cL : ClassId} {a : Nat → Nat} {A : Nat → Prop} (hD : va_D A (wL D cI cG cL a)) : va_D A (wd (Gc D cI cG cL (aC a)) 0 σI) := by
  refine ⟨fun i j p q hi hj e => ?_, fun k q hq => ?_⟩
  · obtain ⟨h1, rfl⟩ := fw_of hi
    obtain ⟨h2, rfl⟩ := fw_of hj
    obtain ⟨e1, w1⟩ := wc_ad D cI cG cL a i h1
    obtain ⟨e2, w2⟩ := wc_ad D cI cG cL a j h2
    exact pC_inj h1 h2 (hD.1 _ _ _ _ w1 w2 e)
  · obtain ⟨h1, rfl⟩ := fw_of hq
    obtain ⟨e1, w1⟩ := wc_ad D cI cG cL a k h1
    have h9 := hD.2 _ _ w1
    exact h9
