def isN (A : Nat → Nat) (x : Int32) : Bool := inI x (nI 0) (nI (A 0 - 1))
theorem isN_n {A : Nat → Nat} {B : Nat} {x : Int32} (w : WF A B) (h : isN A x = true) : ∃ n, n < A 0 ∧ x = nI n := by
  have w1 := w.1
  have w2 := w.2.1
  obtain ⟨n, h1, h2, e⟩ := inI_n (by omega) (by omega) h
  exact ⟨n, by omega, e⟩
theorem chk_y {σ : cS} {A : Nat → Nat} {B : Nat} {x : Int32} (hg : GR σ 0 A) (w : WF A B) (h : isN A x = true) : fX6_checkNode σ 107 x = some (.inl ()) := by
  unfold fX6_checkNode fX6_checkNode_0
  rw [c_hasNode hg w x, show inI x (nI 0) (nI (A 0 - 1)) = true from h, Option.bind_some, if_neg (by decide)]
theorem chk_n {σ : cS} {A : Nat → Nat} {B : Nat} {x : Int32} (hg : GR σ 0 A) (w : WF A B) (h : isN A x = false) : fX6_checkNode σ 107 x = some (.inr 3) := by
  unfold fX6_checkNode fX6_checkNode_0
  rw [c_hasNode hg w x, show inI x (nI 0) (nI (A 0 - 1)) = false from h, Option.bind_some, if_pos (by decide)]
/-- what the model refuses at adding -/
def rAdd (A : Nat → Nat) (x1 x2 : Int32) : Nat := if isN A x1 = true ∧ isN A x2 = true then (if x1 = x2 then 2 else if A 3 = 40 then 3 else 0) else 1
/-- an edge by its number: what the class's check and the model's refusal say -/
theorem chs_y {σ : cS} {A : Nat → Nat} {B p Nf : Nat} {x : Int32} (hg : GR σ 0 A) (w : WF A B) (hf : 40 < Nf) (h : plc A x = some p) : fX6_checkedSlot (lCt ()) Nf σ 107 x = some (.inl (nI p)) := by
  have hp := plc_lt h
  have w3 := w.2.2.1
  unfold fX6_checkedSlot fX6_checkedSlot_0
  rw [c_slotOf LG_0 hg w hf, h, Option.bind_some]
  show (if nI p = -1 then _ else some (Sum.inl (nI p))) = _
  rw [if_neg]
  intro z
  have : (nI p).toInt = (-1 : Int32).toInt := by rw [z]
  rw [nI_toInt (by omega)] at this
  have e : (-1 : Int32).toInt = -1 := by decide
  omega
theorem chs_n {σ : cS} {A : Nat → Nat} {B Nf : Nat} {x : Int32} (hg : GR σ 0 A) (w : WF A B) (hf : 40 < Nf) (h : plc A x = none) : fX6_checkedSlot (lCt ()) Nf σ 107 x = some (.inr 4) := by
  unfold fX6_checkedSlot fX6_checkedSlot_0
  rw [c_slotOf LG_0 hg w hf, h, Option.bind_some]
  rfl
