/-! ===== an edge on a path ===== -/
theorem nI_ne1 {k : Nat} (hk : k < 2 ^ 31) : ¬ nI k = (-1 : Int32) := fun z => by
  have h : (nI k).toInt = (-1 : Int32).toInt := by rw [z]
  rw [nI_toInt hk] at h
  have e : (-1 : Int32).toInt = -1 := by decide
  omega
