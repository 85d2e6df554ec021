/-! ===== reading an order: what is read, and the class's way ===== -/
def stp (s : Nat ⊕ Nat) (f : Nat → Nat ⊕ Nat) : Nat ⊕ Nat := match s with
  | .inl p => f p
  | .inr e => .inr e
def tk (T : Nat → Nat) (len lo hi p : Nat) : Nat ⊕ Nat := if p < len ∧ lo ≤ T p ∧ T p ≤ hi then .inl (p + 1) else .inr p
def dgt (T : Nat → Nat) (len p : Nat) : Bool := decide (p < len ∧ 48 ≤ T p ∧ T p ≤ 57)
def nml (T : Nat → Nat) (len : Nat) : Nat → Nat → Nat → Nat × Nat
  | 0, p, v => (p, v)
  | d + 1, p, v => if dgt T len p = true then nml T len d (p + 1) (v * 10 + T p - 48) else (p, v)
def nmb (T : Nat → Nat) (len m g p : Nat) : Nat ⊕ Nat := if (nml T len m p 0).1 = p ∨ dgt T len (nml T len m p 0).1 = true then .inr (nml T len m p 0).1 else if g < (nml T len m p 0).2 then .inr p else .inl (nml T len m p 0).1
def oS (T : Nat → Nat) (len p : Nat) : Nat ⊕ Nat := if T p = 43 then stp (stp (tk T len 97 108 (p + 1)) (tk T len 97 108)) (tk T len 59 59) else if T p = 45 then stp (nmb T len 3 999 (p + 1)) (tk T len 59 59) else if T p = 98 then tk T len 59 59 (p + 1) else if T p = 99 then stp (stp (stp (tk T len 97 108 (p + 1)) (tk T len 61 61)) (nmb T len 2 40)) (tk T len 59 59) else if T p = 114 then stp (tk T len 97 108 (p + 1)) (tk T len 59 59) else if T p = 116 then stp (nmb T len 3 999 (p + 1)) (tk T len 59 59) else .inr p
def plB (s : Nat ⊕ Nat) : Int32 := match s with
  | .inl _ => nI 1
  | .inr _ => nI 0
theorem stp_l {s : Nat ⊕ Nat} {f : Nat → Nat ⊕ Nat} {q : Nat} (h : stp s f = .inl q) : ∃ p, s = .inl p ∧ f p = .inl q := by
  cases s with
  | inl p => exact ⟨p, rfl, h⟩
  | inr e => cases h
theorem tk_l {T : Nat → Nat} {len lo hi p q : Nat} (h : tk T len lo hi p = .inl q) : q = p + 1 ∧ p < len ∧ lo ≤ T p ∧ T p ≤ hi := by
  unfold tk at h
  by_cases e : p < len ∧ lo ≤ T p ∧ T p ≤ hi
  · rw [if_pos e] at h; cases h; exact ⟨rfl, e⟩
  · rw [if_neg e] at h; cases h
theorem nml_p {T : Nat → Nat} {len : Nat} : ∀ (d p v : Nat), p ≤ len → p ≤ (nml T len d p v).1 ∧ (nml T len d p v).1 ≤ len := by
  intro d
  induction d with
  | zero => intro p v h; exact ⟨Nat.le_refl _, h⟩
  | succ d ih =>
    intro p v h
    rw [nml]
    by_cases e : dgt T len p = true
    · rw [if_pos e]
      have e' := of_decide_eq_true e
      have := ih (p + 1) (v * 10 + T p - 48) (by omega)
      omega
    · rw [if_neg e]; exact ⟨Nat.le_refl _, h⟩
theorem nml_v {T : Nat → Nat} {len : Nat} : ∀ (d p v : Nat), (nml T len d p v).2 < (v + 1) * 10 ^ d := by
  intro d
  induction d with
  | zero => intro p v; show v < (v + 1) * 1; omega
  | succ d ih =>
    intro p v
    have h10 : 1 ≤ 10 ^ d := Nat.one_le_pow _ _ (by omega)
    rw [nml, Nat.pow_succ, Nat.mul_comm (10 ^ d) 10, ← Nat.mul_assoc]
    by_cases e : dgt T len p = true
    · rw [if_pos e]
      have e' := of_decide_eq_true e
      exact Nat.lt_of_lt_of_le (ih (p + 1) (v * 10 + T p - 48)) (Nat.mul_le_mul_right _ (by omega))
    · rw [if_neg e]
      have : (v + 1) * 10 * 1 ≤ (v + 1) * 10 * 10 ^ d := Nat.mul_le_mul_left _ h10
      show v < _
      omega
/-! the class -/
def TC (σ : cS) (T : Nat → Nat) (len : Nat) : Prop := len ≤ 100 ∧ σ 102 1 = nI len ∧ ∀ i, i < len → T i ≤ 127 ∧ σ (102 + 1 + 1) i = nI (T i)
def SC (σ : cS) (s : Nat ⊕ Nat) : Prop := match s with
  | .inl p => σ 102 2 = nI p ∧ σ 102 3 = (-1 : Int32) ∧ p ≤ 100
  | .inr e => e ≤ 100 ∧ σ 102 3 = nI e ∧ ∃ q, q ≤ 100 ∧ σ 102 2 = nI q
def FF (σ σ' : cS) : Prop := (∀ c, c ≠ 102 → σ' c = σ c) ∧ ∀ j, j ≠ 2 → j ≠ 3 → σ' 102 j = σ 102 j
theorem FF_rf {σ : cS} : FF σ σ := ⟨fun _ _ => rfl, fun _ _ _ => rfl⟩
theorem FF_tr {σ σ' σ'' : cS} (h : FF σ σ') (h' : FF σ' σ'') : FF σ σ'' := ⟨fun c hc => (h'.1 c hc).trans (h.1 c hc), fun j h1 h2 => (h'.2 j h1 h2).trans (h.2 j h1 h2)⟩
theorem FF_2 (σ : cS) (v : Int32) : FF σ (st2 σ 102 2 v) := ⟨fun c hc => st2_out hc, fun j h1 _ => st2_nj h1⟩
theorem FF_3 (σ : cS) (v : Int32) : FF σ (st2 σ 102 3 v) := ⟨fun c hc => st2_out hc, fun j _ h2 => st2_nj h2⟩
theorem TC_FF {σ σ' : cS} {T : Nat → Nat} {len : Nat} (t : TC σ T len) (f : FF σ σ') : TC σ' T len := ⟨t.1, by rw [f.2 1 (by omega) (by omega)]; exact t.2.1, fun i hi => ⟨(t.2.2 i hi).1, by rw [f.1 _ (by omega)]; exact (t.2.2 i hi).2⟩⟩
theorem TC_st {σ : cS} {T : Nat → Nat} {len j : Nat} (t : TC σ T len) (hj : j ≠ 1) (v : Int32) : TC (st2 σ 102 j v) T len := ⟨t.1, by rw [st2_nj (by omega)]; exact t.2.1, fun i hi => ⟨(t.2.2 i hi).1, by rw [st2_out (by omega)]; exact (t.2.2 i hi).2⟩⟩
theorem SC_st {σ : cS} {s : Nat ⊕ Nat} {j : Nat} (h : SC σ s) (h2 : j ≠ 2) (h3 : j ≠ 3) (v : Int32) : SC (st2 σ 102 j v) s := by
  cases s with
  | inl p => exact ⟨by rw [st2_nj (by omega)]; exact h.1, by rw [st2_nj (by omega)]; exact h.2.1, h.2.2⟩
  | inr e =>
    obtain ⟨a, b, q, c, d⟩ := h
    exact ⟨a, by rw [st2_nj (by omega)]; exact b, q, c, by rw [st2_nj (by omega)]; exact d⟩
def cu (T : Nat → Nat) (len p : Nat) : Int32 := if p < len then nI (T p) else (-1 : Int32)
theorem c_cur {σ : cS} {T : Nat → Nat} {len p : Nat} (t : TC σ T len) (h : σ 102 2 = nI p) (hp : p ≤ 100) : fX2_current (lCt ()) σ 102 = some (cu T len p) := by
  obtain ⟨t1, t2, t3⟩ := t
  unfold fX2_current fX2_current_0 fX2_current_26 cu
  rw [t2, h]
  by_cases e : p < len
  · rw [if_neg (fun q => absurd ((nI_leI (by omega) (by omega)).mp q) (by omega)), row_get (show lCt () (102 + 1 + 1) = 100 from rfl) (by omega) (by omega), Option.bind_some, (t3 p e).2, if_pos e]
  · rw [if_pos ((nI_leI (by omega) (by omega)).mpr (by omega)), if_neg e]
theorem cu_eq {T : Nat → Nat} {len p c : Nat} (hT : ∀ i, i < len → T i ≤ 127) (hc : c < 1000) : (cu T len p = nI c) ↔ (p < len ∧ c ≤ T p ∧ T p ≤ c) := by
  unfold cu
  by_cases e : p < len
  · have := hT p e
    rw [if_pos e, nI_eq (by omega) (by omega)]
    omega
  · rw [if_neg e]
    exact ⟨fun q => absurd q.symm (nI_ne1 (by omega)), fun q => absurd q.1 e⟩
theorem TC_T {σ : cS} {T : Nat → Nat} {len : Nat} (t : TC σ T len) : ∀ i, i < len → T i ≤ 127 := fun i hi => (t.2.2 i hi).1
theorem c_dig {σ : cS} {T : Nat → Nat} {len p : Nat} (t : TC σ T len) (h : σ 102 2 = nI p) (hp : p ≤ 100) : fX2_isAtDigit (lCt ()) σ 102 = some (bI (dgt T len p)) := by
  have hT := TC_T t
  unfold fX2_isAtDigit fX2_isAtDigit_0 fX2_isAtDigit_22 fX2_isAtDigit_23
  rw [c_cur t h hp, Option.bind_some, Option.bind_some]
  unfold dgt cu
  by_cases e : p < len
  · have h1 := hT p e
    rw [if_pos e, n48, n57]
    by_cases e1 : T p < 48
    · rw [if_pos ((nI_ltI (by omega) (by omega)).mpr e1), decide_eq_false (by omega)]; rfl
    · rw [if_neg (fun q => e1 ((nI_ltI (by omega) (by omega)).mp q))]
      by_cases e2 : 57 < T p
      · rw [if_pos ((nI_ltI (by omega) (by omega)).mpr e2), decide_eq_false (by omega)]; rfl
      · rw [if_neg (fun q => e2 ((nI_ltI (by omega) (by omega)).mp q)), decide_eq_true (by omega)]; rfl
  · rw [if_neg e, if_pos (show (-1 : Int32) < 48 by decide), decide_eq_false (by omega)]; rfl
theorem c_note_g {σ : cS} {x : Int32} (h : σ 102 3 = (-1 : Int32)) : fX2_noteWrong σ 102 x = some (st2 σ 102 3 x) := by
  unfold fX2_noteWrong fX2_noteWrong_0 fX2_noteWrong_13
  rw [if_pos h]; rfl
theorem c_note_w {σ : cS} {x : Int32} {e : Nat} (h : σ 102 3 = nI e) (he : e ≤ 100) : fX2_noteWrong σ 102 x = some σ := by
  unfold fX2_noteWrong fX2_noteWrong_0 fX2_noteWrong_13
  rw [h, if_neg (nI_ne1 (by omega))]
theorem SC_note {σ : cS} {p e : Nat} (h : SC σ (.inl p)) (he : e ≤ 100) : SC (st2 σ 102 3 (nI e)) (.inr e) := ⟨he, st2_ss, p, h.2.2, by rw [st2_nj (by omega)]; exact h.1⟩
theorem SC_go {σ : cS} {p : Nat} (h : SC σ (.inl p)) (hp : p < 100) : SC (st2 σ 102 2 (nI (p + 1))) (.inl (p + 1)) := ⟨st2_ss, by rw [st2_nj (by omega)]; exact h.2.1, by omega⟩
theorem c_sign {σ : cS} {T : Nat → Nat} {len c : Nat} {s : Nat ⊕ Nat} (t : TC σ T len) (h : SC σ s) (hc : c < 1000) : ∃ σ', fX2_readSign (lCt ()) σ 102 (nI c) = some σ' ∧ SC σ' (stp s (tk T len c c)) ∧ FF σ σ' := by
  have hT := TC_T t
  have t1 := t.1
  unfold fX2_readSign fX2_readSign_0 fX2_readSign_29 fX2_readSign_37
  cases s with
  | inl p =>
    have h' := h
    obtain ⟨h1, h2, h3⟩ := h'
    rw [if_pos h2, c_cur t h1 h3, Option.bind_some]
    show ∃ σ', _ ∧ SC σ' (tk T len c c p) ∧ _
    unfold tk
    by_cases e : p < len ∧ c ≤ T p ∧ T p ≤ c
    · rw [if_pos ((cu_eq hT hc).mpr e), if_pos e, h1, n1, nI_add]
      exact ⟨_, rfl, SC_go h (by omega), FF_2 _ _⟩
    · rw [if_neg (fun q => e ((cu_eq hT hc).mp q)), if_neg e, c_note_g h2, h1]
      exact ⟨_, rfl, SC_note h h3, FF_3 _ _⟩
  | inr e =>
    obtain ⟨h1, h2, h3⟩ := h
    rw [if_neg (by rw [h2]; exact nI_ne1 (by omega)), c_note_w h2 h1]
    exact ⟨_, rfl, ⟨h1, h2, h3⟩, FF_rf⟩
theorem sb_neg {a b : Nat} (ha : a < 1000) (hb : b < 1000) : (nI a - nI b < 0) ↔ a < b := by
  rw [Int32.lt_iff_toInt_lt, sb_int ha hb]
  have : (0 : Int32).toInt = 0 := rfl
  omega
theorem sb_ge {a b m : Nat} (ha : a < 1000) (hb : b < 1000) (hm : m < 1000) : (nI m ≤ nI a - nI b) ↔ b + m ≤ a := by
  rw [Int32.le_iff_toInt_le, sb_int ha hb, nI_toInt (by omega)]
  omega
theorem c_nodeR {σ : cS} {T : Nat → Nat} {len : Nat} {s : Nat ⊕ Nat} (t : TC σ T len) (h : SC σ s) : ∃ r, fX2_readNode (lCt ()) σ 102 = some r ∧ SC r.2 (stp s (tk T len 97 108)) ∧ FF σ r.2 ∧ ∀ p q, s = .inl p → tk T len 97 108 p = .inl q → r.1 = nI (T p - 97) := by
  have hT := TC_T t
  have t1 := t.1
  unfold fX2_readNode fX2_readNode_0 fX2_readNode_38
  cases s with
  | inl p =>
    have h' := h
    obtain ⟨h1, h2, h3⟩ := h'
    rw [c_cur t h1 h3, Option.bind_some, bnd_e, if_pos h2, c_note_g h2, h1]
    show ∃ r : Int32 × cS, _ ∧ SC r.2 (tk T len 97 108 p) ∧ _
    have no : ¬ (p < len ∧ 97 ≤ T p ∧ T p ≤ 108) → SC (st2 σ 102 3 (nI p)) (tk T len 97 108 p) ∧ FF σ (st2 σ 102 3 (nI p)) ∧ ∀ p_1 q, (Sum.inl p : Nat ⊕ Nat) = .inl p_1 → tk T len 97 108 p_1 = .inl q → (-1 : Int32) = nI (T p_1 - 97) := fun e => by
      refine ⟨?_, FF_3 _ _, fun p1 q z z2 => ?_⟩
      · unfold tk; rw [if_neg e]; exact SC_note h h3
      · cases z
        exact absurd (tk_l z2).2 e
    unfold cu
    by_cases e : p < len
    · have h4 := hT p e
      rw [if_pos e, n97, n12]
      by_cases e1 : T p < 97
      · rw [if_pos ((sb_neg (by omega) (by omega)).mpr e1)]
        exact ⟨_, rfl, no (by omega)⟩
      · rw [if_neg (fun q => e1 ((sb_neg (by omega) (by omega)).mp q))]
        by_cases e2 : 108 < T p
        · rw [if_pos ((sb_ge (by omega) (by omega) (by omega)).mpr (by omega))]
          exact ⟨_, rfl, no (by omega)⟩
        · rw [if_neg (fun q => e2 (by have := (sb_ge (by omega) (by omega) (by omega)).mp q; omega)), n1, nI_add, bnd_e, nI_sub (by omega)]
          refine ⟨_, rfl, ?_, FF_2 _ _, fun p1 q z z2 => ?_⟩
          · unfold tk; rw [if_pos ⟨e, by omega, by omega⟩]; exact SC_go h (by omega)
          · cases z; rfl
    · rw [if_neg e, if_pos (show (-1 : Int32) - 97 < 0 by decide)]
      exact ⟨_, rfl, no (by omega)⟩
  | inr e =>
    obtain ⟨h1, h2, q, h3, h4⟩ := h
    rw [c_cur t h4 h3, Option.bind_some, bnd_e, if_neg (by rw [h2]; exact nI_ne1 (by omega)), c_note_w h2 h1]
    exact ⟨_, rfl, ⟨h1, h2, q, h3, h4⟩, FF_rf, fun p q z => by cases z⟩
