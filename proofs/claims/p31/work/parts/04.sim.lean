/-! ===== the plain judgement: a frame of the machine against a pure computation ===== -/
abbrev cS : Type := Nat → Nat → Int32
def st2 (σ : cS) (k j : Nat) (v : Int32) : cS := fun a b => if a = k then (if b = j then v else σ a b) else σ a b
def inb (i : Int32) (n : Nat) : Bool := decide (¬ (i < 0 ∨ n ≤ i.toNatClampNeg))
def isb (v : Int32) : Bool := decide (v = 0 ∨ v = 1)
def nz (v : Int32) : Bool := decide (¬ v = 0)
def grd {ρ : Type} (b : Bool) (E : Option ρ) : Option ρ := if b = true then E else none
def bnd {α β : Type} (x : α) (f : α → β) : β := f x
/-- a layout: what the kinds of cells are, how long the rows are, where they lie -/
abbrev Lay : Type := va_G × Nat × (Nat → Nat) × (Nat → Nat) × (Nat → Nat) × ClassId × ClassId × ClassId
abbrev lD (G : Lay) : va_G := G.1
abbrev gN (G : Lay) : Nat := G.2.1
abbrev la (G : Lay) : Nat → Nat := G.2.2.1
abbrev lk (G : Lay) : Nat → Nat := G.2.2.2.1
abbrev ll (G : Lay) : Nat → Nat := G.2.2.2.2.1
abbrev lcI (G : Lay) : ClassId := G.2.2.2.2.2.1
abbrev lcG (G : Lay) : ClassId := G.2.2.2.2.2.2.1
abbrev lcL (G : Lay) : ClassId := G.2.2.2.2.2.2.2
abbrev ltys (G : Lay) : List (ClassId × FieldType) := [(lcI G, .int), (lcG G, .object "EdgeHolders$Graph")]
def ce (G : Lay) (h : Int64) (σ : cS) (k : Nat) : va_E := match lk G k with
  | 0 => .inr (0, [.ref (la G (k + 1)), .ref (la G (k + 3)), .ref (la G (k + 5)), .ref (la G (k + 7)), .ref (la G (k + 9)), .ref (la G (k + 11)), .ref (la G (k + 13)), .int (σ k 7), .int (σ k 8), .int (σ k 9), .int (σ k 10)])
  | 1 => .inr (1, [.ref (la G (k + 1)), .int (σ k 1), .int (σ k 2)])
  | 2 => .inr (2, [.ref (la G (k + 1)), .int (σ k 1), .int (σ k 2), .int (σ k 3), .int (σ k 4), .int (σ k 5), .int (σ k 6), .int (σ k 7)])
  | 3 => .inr (3, [.ref (la G (k + 1)), .ref (la G (k + 2)), .ref (la G (k + 3)), .int (σ k 3), .int (σ k 4), .int (σ k 5), .int (σ k 6)])
  | 4 => .inr (4, [.ref (la G (k + 1))])
  | 5 => .inr (5, [.ref (la G (k + 1)), .ref (la G (k + 3)), .ref (la G (k + 5)), .int (σ k 3), .int (σ k 4), .int (σ k 5)])
  | 6 => .inr (6, [.ref (la G 0), .ref (la G 15), .ref (la G 90), .ref (la G 97), .ref (la G 102), .ref (la G 105)])
  | 7 => .inr (7, [.ref (la G (k + 1)), .ref (la G (k + 2)), .ref (la G (k + 3)), .ref (la G (k + 4)), .int (σ k 4), .int (σ k 5), .int (σ k 6), .int (σ k 7), .ref (la G (k + 5)), .ref (la G (k + 6)), .int (σ k 10), .int (σ k 11), .int (σ k 12), .int (σ k 13), .int (σ k 14), .int (σ k 15), .int (σ k 16), .long h])
  | 8 => .inl (lcI G, ll G k, .inl (σ k))
  | 9 => .inl (lcG G, 4, .inr (.inr (.inr (.inr (fun i => some (la G (30 + 15 * i)))))))
  | _ => .inl (lcL G, 1, .inr (.inl (fun _ => h)))
def fw (G : Lay) (f : Nat → va_E) : va_W := (List.range (gN G)).map (fun k => (la G k, f k))
abbrev wd (G : Lay) (h : Int64) (σ : cS) : va_W := fw G (ce G h σ)
theorem fw_get {G : Lay} {f : Nat → va_E} {k : Nat} (h : k < gN G) : (fw G f)[k]? = some (la G k, f k) := by
  unfold fw
  rw [List.getElem?_map, List.getElem?_range h]
  rfl
theorem fw_out {G : Lay} {f : Nat → va_E} {k : Nat} (h : gN G ≤ k) : (fw G f)[k]? = none := by
  unfold fw
  rw [List.getElem?_eq_none]
  simpa using h
theorem fw_of {G : Lay} {f : Nat → va_E} {k : Nat} {q : Nat × va_E} (h : (fw G f)[k]? = some q) : k < gN G ∧ q = (la G k, f k) := by
  rcases Nat.lt_or_ge k (gN G) with z | z
  · rw [fw_get z] at h
    exact ⟨z, (Option.some.inj h).symm⟩
  · rw [fw_out z] at h
    cases h
theorem fw_set {G : Lay} {f : Nat → va_E} {k : Nat} {e : va_E} (hk : k < gN G) : (fw G f).set k (la G k, e) = fw G (fun i => if i = k then e else f i) := by
  apply List.ext_getElem?
  intro i
  rcases Nat.lt_or_ge i (gN G) with z | z
  · rw [fw_get z]
    by_cases q : i = k
    · subst q
      rw [List.getElem?_set_self (by simpa [fw] using hk), if_pos rfl]
    · rw [List.getElem?_set_ne (Ne.symm q), fw_get z, if_neg q]
  · rw [fw_out z, List.getElem?_eq_none]
    simpa [fw] using z
def FA (G : Lay) : Nat → Prop := fun q => ∃ k, k < gN G ∧ q = la G k
def Inj (G : Lay) : Prop := ∀ i j, i < gN G → j < gN G → la G i = la G j → i = j
theorem fw_D {G : Lay} (hi : Inj G) (f : Nat → va_E) : va_D (FA G) (fw G f) := by
  refine ⟨fun i j p q h1 h2 e => ?_, fun k q h => ?_⟩
  · obtain ⟨z1, rfl⟩ := fw_of h1
    obtain ⟨z2, rfl⟩ := fw_of h2
    exact hi i j z1 z2 e
  · obtain ⟨z1, rfl⟩ := fw_of h
    exact ⟨k, z1, rfl⟩
theorem fw_DA {G : Lay} {A : Nat → Prop} (hi : Inj G) (hA : ∀ q, FA G q → A q) (f : Nat → va_E) : va_D A (fw G f) := (fw_D hi f).weaken (fun k q _ hq => hA q.1 hq)
/-- a cell of a kind -/
def Ob (G : Lay) (k c : Nat) : Prop := k < gN G ∧ lk G k = c
def isRow (G : Lay) (k : Nat) : Prop := Ob G k 4 ∧ Ob G (k + 1) 8
def isGraph (G : Lay) (k : Nat) : Prop := Ob G k 0 ∧ isRow G (k + 1) ∧ isRow G (k + 3) ∧ isRow G (k + 5) ∧ isRow G (k + 7) ∧ isRow G (k + 9) ∧ isRow G (k + 11) ∧ isRow G (k + 13)
def isHist (G : Lay) (k : Nat) : Prop := Ob G k 1 ∧ Ob G (k + 1) 9 ∧ ∀ i, i < 4 → isGraph G (30 + 15 * i)
def isText (G : Lay) (k : Nat) : Prop := Ob G k 2 ∧ isRow G (k + 1)
def isParts (G : Lay) (k : Nat) : Prop := Ob G k 3 ∧ Ob G (k + 1) 8 ∧ Ob G (k + 2) 8 ∧ isRow G (k + 3)
def isSearch (G : Lay) (k : Nat) : Prop := Ob G k 5 ∧ isRow G (k + 1) ∧ isRow G (k + 3) ∧ isRow G (k + 5)
def isEH (G : Lay) (k : Nat) : Prop := Ob G k 6 ∧ isGraph G 0 ∧ isGraph G 15 ∧ isSearch G 90 ∧ isParts G 97 ∧ isText G 102 ∧ isHist G 105
def isMod (G : Lay) (k : Nat) : Prop := Ob G k 7 ∧ Ob G (k + 1) 8 ∧ Ob G (k + 2) 8 ∧ Ob G (k + 3) 8 ∧ Ob G (k + 4) 8 ∧ Ob G (k + 5) 8 ∧ Ob G (k + 6) 8 ∧ (∀ i, lk G i = 7 → i = k) ∧ ∀ i, lk G i ≤ 9
theorem ce0 {G : Lay} {k : Nat} (o : Ob G k 0) (h : Int64) (σ : cS) : ce G h σ k = .inr (0, [.ref (la G (k + 1)), .ref (la G (k + 3)), .ref (la G (k + 5)), .ref (la G (k + 7)), .ref (la G (k + 9)), .ref (la G (k + 11)), .ref (la G (k + 13)), .int (σ k 7), .int (σ k 8), .int (σ k 9), .int (σ k 10)]) := by unfold ce; rw [o.2]; rfl
theorem ce1 {G : Lay} {k : Nat} (o : Ob G k 1) (h : Int64) (σ : cS) : ce G h σ k = .inr (1, [.ref (la G (k + 1)), .int (σ k 1), .int (σ k 2)]) := by unfold ce; rw [o.2]; rfl
theorem ce2 {G : Lay} {k : Nat} (o : Ob G k 2) (h : Int64) (σ : cS) : ce G h σ k = .inr (2, [.ref (la G (k + 1)), .int (σ k 1), .int (σ k 2), .int (σ k 3), .int (σ k 4), .int (σ k 5), .int (σ k 6), .int (σ k 7)]) := by unfold ce; rw [o.2]; rfl
theorem ce3 {G : Lay} {k : Nat} (o : Ob G k 3) (h : Int64) (σ : cS) : ce G h σ k = .inr (3, [.ref (la G (k + 1)), .ref (la G (k + 2)), .ref (la G (k + 3)), .int (σ k 3), .int (σ k 4), .int (σ k 5), .int (σ k 6)]) := by unfold ce; rw [o.2]; rfl
theorem ce4 {G : Lay} {k : Nat} (o : Ob G k 4) (h : Int64) (σ : cS) : ce G h σ k = .inr (4, [.ref (la G (k + 1))]) := by unfold ce; rw [o.2]; rfl
theorem ce5 {G : Lay} {k : Nat} (o : Ob G k 5) (h : Int64) (σ : cS) : ce G h σ k = .inr (5, [.ref (la G (k + 1)), .ref (la G (k + 3)), .ref (la G (k + 5)), .int (σ k 3), .int (σ k 4), .int (σ k 5)]) := by unfold ce; rw [o.2]; rfl
theorem ce6 {G : Lay} {k : Nat} (o : Ob G k 6) (h : Int64) (σ : cS) : ce G h σ k = .inr (6, [.ref (la G 0), .ref (la G 15), .ref (la G 90), .ref (la G 97), .ref (la G 102), .ref (la G 105)]) := by unfold ce; rw [o.2]; rfl
theorem ce7 {G : Lay} {k : Nat} (o : Ob G k 7) (h : Int64) (σ : cS) : ce G h σ k = .inr (7, [.ref (la G (k + 1)), .ref (la G (k + 2)), .ref (la G (k + 3)), .ref (la G (k + 4)), .int (σ k 4), .int (σ k 5), .int (σ k 6), .int (σ k 7), .ref (la G (k + 5)), .ref (la G (k + 6)), .int (σ k 10), .int (σ k 11), .int (σ k 12), .int (σ k 13), .int (σ k 14), .int (σ k 15), .int (σ k 16), .long h]) := by unfold ce; rw [o.2]; rfl
theorem ce8 {G : Lay} {k : Nat} (o : Ob G k 8) (h : Int64) (σ : cS) : ce G h σ k = .inl (lcI G, ll G k, .inl (σ k)) := by unfold ce; rw [o.2]; rfl
theorem ce9 {G : Lay} {k : Nat} (o : Ob G k 9) (h : Int64) (σ : cS) : ce G h σ k = .inl (lcG G, 4, .inr (.inr (.inr (.inr (fun i => some (la G (30 + 15 * i))))))) := by unfold ce; rw [o.2]; rfl
theorem ce10 {G : Lay} {k : Nat} (o : Ob G k 10) (h : Int64) (σ : cS) : ce G h σ k = .inl (lcL G, 1, .inr (.inl (fun _ => h))) := by unfold ce; rw [o.2]; rfl
theorem st2_eq {σ : cS} {k j a b : Nat} {v : Int32} : st2 σ k j v a b = if a = k ∧ b = j then v else σ a b := by
  unfold st2
  by_cases h1 : a = k <;> by_cases h2 : b = j <;> simp [h1, h2]
theorem st2_out {σ : cS} {k j a : Nat} {v : Int32} (h : a ≠ k) : st2 σ k j v a = σ a := by
  funext b
  simp [st2, h]
theorem ce_out {G : Lay} {h : Int64} {σ τ : cS} {i : Nat} (e : σ i = τ i) : ce G h σ i = ce G h τ i := by
  unfold ce
  rw [e]
theorem ce_put {G : Lay} {h : Int64} {σ : cS} {k j : Nat} {v : Int32} {x : va_E} (hx : x = ce G h (st2 σ k j v) k) : (fun i => if i = k then x else ce G h σ i) = ce G h (st2 σ k j v) := by
  funext i
  by_cases q : i = k
  · subst q
    rw [if_pos rfl, hx]
  · rw [if_neg q]
    exact ce_out (st2_out q).symm
theorem cp0 {G : Lay} {k : Nat} (o : Ob G k 0) (h : Int64) (σ : cS) (v : Int32) (j : Nat) (hj : 7 ≤ j ∧ j < 11) : (.inr (0, ([.ref (la G (k + 1)), .ref (la G (k + 3)), .ref (la G (k + 5)), .ref (la G (k + 7)), .ref (la G (k + 9)), .ref (la G (k + 11)), .ref (la G (k + 13)), .int (σ k 7), .int (σ k 8), .int (σ k 9), .int (σ k 10)] : List Value).set j (.int v)) : va_E) = ce G h (st2 σ k j v) k := by
  rw [ce0 o]
  rcases (show j = 7 ∨ j = 8 ∨ j = 9 ∨ j = 10 by omega) with rfl | rfl | rfl | rfl <;> simp [st2]
theorem cp1 {G : Lay} {k : Nat} (o : Ob G k 1) (h : Int64) (σ : cS) (v : Int32) (j : Nat) (hj : 1 ≤ j ∧ j < 3) : (.inr (1, ([.ref (la G (k + 1)), .int (σ k 1), .int (σ k 2)] : List Value).set j (.int v)) : va_E) = ce G h (st2 σ k j v) k := by
  rw [ce1 o]
  rcases (show j = 1 ∨ j = 2 by omega) with rfl | rfl <;> simp [st2]
theorem cp2 {G : Lay} {k : Nat} (o : Ob G k 2) (h : Int64) (σ : cS) (v : Int32) (j : Nat) (hj : 1 ≤ j ∧ j < 8) : (.inr (2, ([.ref (la G (k + 1)), .int (σ k 1), .int (σ k 2), .int (σ k 3), .int (σ k 4), .int (σ k 5), .int (σ k 6), .int (σ k 7)] : List Value).set j (.int v)) : va_E) = ce G h (st2 σ k j v) k := by
  rw [ce2 o]
  rcases (show j = 1 ∨ j = 2 ∨ j = 3 ∨ j = 4 ∨ j = 5 ∨ j = 6 ∨ j = 7 by omega) with rfl | rfl | rfl | rfl | rfl | rfl | rfl <;> simp [st2]
theorem cp3 {G : Lay} {k : Nat} (o : Ob G k 3) (h : Int64) (σ : cS) (v : Int32) (j : Nat) (hj : 3 ≤ j ∧ j < 7) : (.inr (3, ([.ref (la G (k + 1)), .ref (la G (k + 2)), .ref (la G (k + 3)), .int (σ k 3), .int (σ k 4), .int (σ k 5), .int (σ k 6)] : List Value).set j (.int v)) : va_E) = ce G h (st2 σ k j v) k := by
  rw [ce3 o]
  rcases (show j = 3 ∨ j = 4 ∨ j = 5 ∨ j = 6 by omega) with rfl | rfl | rfl | rfl <;> simp [st2]
theorem cp5 {G : Lay} {k : Nat} (o : Ob G k 5) (h : Int64) (σ : cS) (v : Int32) (j : Nat) (hj : 3 ≤ j ∧ j < 6) : (.inr (5, ([.ref (la G (k + 1)), .ref (la G (k + 3)), .ref (la G (k + 5)), .int (σ k 3), .int (σ k 4), .int (σ k 5)] : List Value).set j (.int v)) : va_E) = ce G h (st2 σ k j v) k := by
  rw [ce5 o]
  rcases (show j = 3 ∨ j = 4 ∨ j = 5 by omega) with rfl | rfl | rfl <;> simp [st2]
theorem cp7 {G : Lay} {k : Nat} (o : Ob G k 7) (h : Int64) (σ : cS) (v : Int32) (j : Nat) (hj : (4 ≤ j ∧ j < 8) ∨ (10 ≤ j ∧ j < 17)) : (.inr (7, ([.ref (la G (k + 1)), .ref (la G (k + 2)), .ref (la G (k + 3)), .ref (la G (k + 4)), .int (σ k 4), .int (σ k 5), .int (σ k 6), .int (σ k 7), .ref (la G (k + 5)), .ref (la G (k + 6)), .int (σ k 10), .int (σ k 11), .int (σ k 12), .int (σ k 13), .int (σ k 14), .int (σ k 15), .int (σ k 16), .long h] : List Value).set j (.int v)) : va_E) = ce G h (st2 σ k j v) k := by
  rw [ce7 o]
  rcases (show j = 4 ∨ j = 5 ∨ j = 6 ∨ j = 7 ∨ j = 10 ∨ j = 11 ∨ j = 12 ∨ j = 13 ∨ j = 14 ∨ j = 15 ∨ j = 16 by omega) with rfl | rfl | rfl | rfl | rfl | rfl | rfl | rfl | rfl | rfl | rfl <;> simp [st2]
theorem cp8 {G : Lay} {k : Nat} (o : Ob G k 8) (h : Int64) (σ : cS) (v : Int32) (j : Nat) : (.inl (lcI G, ll G k, .inl (upd (σ k) j v)) : va_E) = ce G h (st2 σ k j v) k := by
  rw [ce8 o]
  congr 4
  funext b
  simp [upd, st2]
/-- the words of the nest: links of one class to another's private members -/
def nstW : List Cond := [Cond.fieldLinkNest RX6 166 "EdgeHolders$Graph" "numbers" "LEdgeHolders$Row;" "EdgeHolders", Cond.fieldLinkNest RX6 149 "EdgeHolders$Graph" "firsts" "LEdgeHolders$Row;" "EdgeHolders", Cond.fieldLinkNest RX6 152 "EdgeHolders$Graph" "seconds" "LEdgeHolders$Row;" "EdgeHolders", Cond.fieldLinkNest RX5 49 "EdgeHolders$Graph" "holders" "LEdgeHolders$Row;" "EdgeHolders", Cond.fieldLinkNest RX6 155 "EdgeHolders$Graph" "holders" "LEdgeHolders$Row;" "EdgeHolders", Cond.fieldLinkNest RX6 158 "EdgeHolders$Graph" "turnings" "LEdgeHolders$Row;" "EdgeHolders", Cond.fieldLinkNest RX5 66 "EdgeHolders$Graph" "loads" "LEdgeHolders$Row;" "EdgeHolders", Cond.fieldLinkNest RX6 130 "EdgeHolders$Graph" "loads" "LEdgeHolders$Row;" "EdgeHolders", Cond.fieldLinkNest RX6 118 "EdgeHolders$Graph" "capacities" "LEdgeHolders$Row;" "EdgeHolders", Cond.fieldLinkNest RX3 35 "EdgeHolders$Graph" "nodes" "I" "EdgeHolders", Cond.fieldLinkNest RX5 88 "EdgeHolders$Graph" "nodes" "I" "EdgeHolders", Cond.fieldLinkNest RX6 169 "EdgeHolders$Graph" "nodes" "I" "EdgeHolders", Cond.fieldLinkNest RX6 54 "EdgeHolders$Graph" "edges" "I" "EdgeHolders", Cond.fieldLinkNest RX5 44 "EdgeHolders$Graph" "edges" "I" "EdgeHolders", Cond.fieldLinkNest RX6 185 "EdgeHolders$Graph" "nextNumber" "I" "EdgeHolders", Cond.fieldLinkNest RX6 182 "EdgeHolders$Graph" "turned" "I" "EdgeHolders", Cond.fieldLinkNest RX6 144 "EdgeHolders$Search" "visited" "I" "EdgeHolders", Cond.fieldLinkNest RX6 207 "EdgeHolders$PartTable" "densestPart" "I" "EdgeHolders", Cond.fieldLinkNest RX6 210 "EdgeHolders$PartTable" "leastLoad" "I" "EdgeHolders", Cond.fieldLinkNest RX6 233 "EdgeHolders$OrderText" "length" "I" "EdgeHolders", Cond.fieldLinkNest RX6 306 "EdgeHolders$OrderText" "kind" "I" "EdgeHolders", Cond.fieldLinkNest RX6 309 "EdgeHolders$OrderText" "firstNode" "I" "EdgeHolders", Cond.fieldLinkNest RX6 312 "EdgeHolders$OrderText" "secondNode" "I" "EdgeHolders", Cond.fieldLinkNest RX6 319 "EdgeHolders$OrderText" "number" "I" "EdgeHolders", Cond.fieldLinkNest RX6 256 "EdgeHolders$History" "saved" "I" "EdgeHolders", Cond.methodLinkNest RX6 21 ⟨"EdgeHolders$Search", "<init>", "()V"⟩ "EdgeHolders", Cond.methodLinkNest RX6 28 ⟨"EdgeHolders$PartTable", "<init>", "()V"⟩ "EdgeHolders", Cond.methodLinkNest RX6 35 ⟨"EdgeHolders$OrderText", "<init>", "()V"⟩ "EdgeHolders"]
def isNst : Cond → Bool
  | .fieldLinkNest _ _ _ _ _ _ => true
  | .methodLinkNest _ _ _ _ => true
  | _ => false
theorem nstW_ok : nstW.all isNst = true := by decide +kernel
theorem isNst_of {w : Cond} (h : isNst w = true) : (∃ a i b n d g, w = .fieldLinkNest a i b n d g) ∨ ∃ a i y g, w = .methodLinkNest a i y g := by
  cases w <;> first | exact Or.inl ⟨_, _, _, _, _, _, rfl⟩ | exact Or.inr ⟨_, _, _, _, rfl⟩ | cases h
def NW (U : State) : Prop := (∀ w ∈ nstW, va_Nw w U) ∧ va_AO "EdgeHolders$Graph" U
theorem NW_warm {s U : State} (hW : s.WarmedH U.vm) (h : NW s) : NW U := ⟨fun w hw => by
  rcases isNst_of (List.all_eq_true.mp nstW_ok w hw) with ⟨a, i, b, n, d, g, rfl⟩ | ⟨a, i, y, g, rfl⟩
  · exact va_Nw.warmF hW (h.1 _ hw)
  · exact va_Nw.warmM hW (h.1 _ hw), h.2.moved hW.alike⟩
theorem nst_tab {w : Cond} (hw : w ∈ nstW) : w.onTables = true := by
  rcases isNst_of (List.all_eq_true.mp nstW_ok w hw) with ⟨a, i, b, n, d, g, rfl⟩ | ⟨a, i, y, g, rfl⟩ <;> rfl
theorem NW_same {u U : State} (hv : U.vm = u.vm) (h : NW u) : NW U := ⟨fun w hw => va_Nw.same (nst_tab hw) hv.symm (h.1 w hw), h.2.moved (by rw [hv]; exact Vm.Alike.refl _)⟩
/-- the machine's standing things -/
abbrev MCx : Type := Program × Launch × Env × Room × State × MethodId × Array Value × List Frame × Method × Code × (Nat → Prop) × Nat
abbrev kp (K : MCx) : Program := K.1
abbrev kl (K : MCx) : Launch := K.2.1
abbrev ke (K : MCx) : Env := K.2.2.1
abbrev kR (K : MCx) : Room := K.2.2.2.1
abbrev ks (K : MCx) : State := K.2.2.2.2.1
abbrev km (K : MCx) : MethodId := K.2.2.2.2.2.1
abbrev ka (K : MCx) : Array Value := K.2.2.2.2.2.2.1
abbrev kb (K : MCx) : List Frame := K.2.2.2.2.2.2.2.1
abbrev kme (K : MCx) : Method := K.2.2.2.2.2.2.2.2.1
abbrev kc (K : MCx) : Code := K.2.2.2.2.2.2.2.2.2.1
/-- which cells may be written; how many were made -/
abbrev kA (K : MCx) : Nat → Prop := K.2.2.2.2.2.2.2.2.2.2.1
abbrev ku (K : MCx) : Nat := K.2.2.2.2.2.2.2.2.2.2.2
abbrev kad (K : MCx) (n : Nat) : MCx := (kp K, kl K, ke K, kR K, ks K, km K, ka K, kb K, kme K, kc K, kA K, ku K + n)
def Cx (K : MCx) (G : Lay) (own : String) (cc : ByteArray) (nL : Nat) (ret : Option FieldType) (rf rl : Nat) : Prop :=
  (kp K).tables.exec = Jvm.exec ∧ (kc K).code = cc ∧ (kc K).maxLocals = nL ∧ (ks K).vm.findClass own = some (km K).cls ∧ (∀ w ∈ wsL_law, w.before (ka K) (ks K) = true) ∧ va_K (lD G) vwCl (ltys G) (ks K) ∧ (kme K).locks = false ∧ Inj G ∧ (kme K).sig.returnType = ret ∧ (kR K).frames = rf ∧ (kR K).locals = rl ∧ NW (ks K) ∧ (∀ q, FA G q → kA K q) ∧ ku K ≤ (kR K).cells ∧ 12 * ku K ≤ (kR K).slots
abbrev WK (K : MCx) (H : Heap) (locs : List Loc) (Q : State → Prop) (g : JFrame) : Prop := W (kp K) (kl K) (ke K) (kR K) (ks K) (km K) (ka K) (kb K) (kme K) (kc K) H locs (ku K) (12 * ku K) Q g
def Sm (K : MCx) (G : Lay) {ρ : Type} (P : ρ → Prop) (Q : ρ → State → Prop) (nL pc : Nat) (lv : List (Nat × Value)) (st : List Value) (h : Int64) (σ : cS) (E : Option ρ) : Prop :=
  ∀ r, E = some r → P r → ∀ (H : Heap) (locs : List Loc) (ls : Array Slot), va_P (lD G) vwCl (wd G h σ) H → va_S (kA K) (ks K).heap H locs → lv_has ls nL lv → WK K H locs (Q r) (F0 (km K) pc ls st)
