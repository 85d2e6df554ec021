/-! ===== carrying out the text: looking for an error, then the orders one by one ===== -/
theorem nmb_l {T : Nat → Nat} {len m g p q : Nat} (h : nmb T len m g p = .inl q) : q = (nml T len m p 0).1 ∧ (nml T len m p 0).2 ≤ g := by
  unfold nmb at h
  by_cases e : (nml T len m p 0).1 = p ∨ dgt T len (nml T len m p 0).1 = true
  · rw [if_pos e] at h; cases h
  · rw [if_neg e] at h
    by_cases e2 : g < (nml T len m p 0).2
    · rw [if_pos e2] at h; cases h
    · rw [if_neg e2] at h; cases h; exact ⟨rfl, by omega⟩
theorem oS_l {T : Nat → Nat} {len p q : Nat} (hp : p < len) (h : oS T len p = .inl q) : p + 2 ≤ q ∧ q ≤ len := by
  unfold oS at h
  by_cases c1 : T p = 43
  · rw [if_pos c1] at h
    obtain ⟨a, h1, h2⟩ := stp_l h
    obtain ⟨b, h3, h4⟩ := stp_l h1
    have := tk_l h2; have := tk_l h3; have := tk_l h4
    omega
  rw [if_neg c1] at h
  by_cases c2 : T p = 45
  · rw [if_pos c2] at h
    obtain ⟨a, h1, h2⟩ := stp_l h
    have := tk_l h2; have := nmb_l h1; have := nml_p (T := T) (len := len) 3 (p + 1) 0 (by omega)
    omega
  rw [if_neg c2] at h
  by_cases c3 : T p = 98
  · rw [if_pos c3] at h
    have := tk_l h
    omega
  rw [if_neg c3] at h
  by_cases c4 : T p = 99
  · rw [if_pos c4] at h
    obtain ⟨a, h1, h2⟩ := stp_l h
    obtain ⟨b, h3, h4⟩ := stp_l h1
    obtain ⟨c, h5, h6⟩ := stp_l h3
    have := tk_l h2; have := tk_l h5; have := tk_l h6; have := nmb_l h4; have := nml_p (T := T) (len := len) 2 b 0 (by omega)
    omega
  rw [if_neg c4] at h
  by_cases c5 : T p = 114
  · rw [if_pos c5] at h
    obtain ⟨a, h1, h2⟩ := stp_l h
    have := tk_l h2; have := tk_l h1
    omega
  rw [if_neg c5] at h
  by_cases c6 : T p = 116
  · rw [if_pos c6] at h
    obtain ⟨a, h1, h2⟩ := stp_l h
    have := tk_l h2; have := nmb_l h1; have := nml_p (T := T) (len := len) 3 (p + 1) 0 (by omega)
    omega
  rw [if_neg c6] at h
  cases h
def scn (T : Nat → Nat) (len : Nat) : Nat → Nat → Option Nat
  | 0, _ => none
  | d + 1, p => if p < len then (match oS T len p with | .inl q => scn T len d q | .inr e => some e) else none
theorem scn_end {T : Nat → Nat} {len d p : Nat} (h : ¬ p < len) : scn T len d p = none := by
  cases d with
  | zero => rfl
  | succ d => rw [scn, if_neg h]
theorem TC_FT {σ σ' : cS} {T : Nat → Nat} {len : Nat} (t : TC σ T len) (f : FT σ σ') : TC σ' T len := ⟨t.1, by rw [f.2]; exact t.2.1, fun i hi => ⟨(t.2.2 i hi).1, by rw [f.1 _ (by omega)]; exact (t.2.2 i hi).2⟩⟩
theorem TM_FY {τ τ' : cS} {T : Nat → Nat} {len : Nat} (t : TM τ T len) (f : FY τ τ') : TM τ' T len := ⟨t.1, by rw [f.2 6 (by omega)]; exact t.2.1, fun i hi => ⟨(t.2.2 i hi).1, by rw [f.1 _ (by omega)]; exact (t.2.2 i hi).2⟩⟩
theorem FT_rf {σ : cS} : FT σ σ := ⟨fun _ _ => rfl, rfl⟩
theorem FY_rf {τ : cS} : FY τ τ := ⟨fun _ _ => rfl, fun _ _ => rfl⟩
theorem c_readEnd {σ : cS} {T : Nat → Nat} {len p Nf : Nat} (t : TC σ T len) (h : SC σ (.inl p)) (hp : ¬ p < len) : fX2_readOrder (lCt ()) Nf σ 102 = some (nI 0, σ) := by
  have t1 := t.1
  have h3 := h.2.2
  unfold fX2_readOrder fX2_readOrder_0
  rw [h.1, t.2.1, if_neg (fun q => hp ((nI_ltI (by omega) (by omega)).mp q))]
  rfl
theorem c_find {T : Nat → Nat} {len Nf : Nat} (hF : 5000 < Nf) : ∀ (d p k n : Nat) (σ : cS), len ≤ p + d → d + 2 < n → 2 * k ≤ p → p ≤ len → TC σ T len → SC σ (.inl p) → ∃ σ', fX2_findSyntaxError_8 (lCt ()) Nf 102 n (nI 1) (nI k) σ = some (plI (scn T len d p), σ') ∧ FT σ σ' ∧ ∀ e, scn T len d p = some e → e ≤ 100 := by
  have stop : ∀ n k σ, k ≤ 100 → fX2_findSyntaxError_8 (lCt ()) Nf 102 (n + 1) (nI 0) (nI k) σ = some (σ 102 3, σ) := fun n k σ hk => by
    unfold fX2_findSyntaxError_8 fX2_findSyntaxError_29
    rw [if_pos (show nI 0 = (0 : Int32) from rfl)]
    split <;> rfl
  intro d
  induction d with
  | zero =>
    intro p k n σ h1 hn hk hp t h
    obtain ⟨n, rfl⟩ : ∃ z, n = z + 2 := ⟨n - 2, by omega⟩
    have t1 := t.1
    refine ⟨σ, ?_, FT_rf, fun e z => by cases z⟩
    unfold fX2_findSyntaxError_8
    rw [show (100 : Int32) = nI 100 from rfl, if_neg (fun q => absurd ((nI_leI (by omega) (by omega)).mp q) (by omega)), if_neg (show ¬ nI 1 = (0 : Int32) by decide), c_readEnd t h (by omega), Option.bind_some]
    show bnd (nI k + (1 : Int32)) (fun t2 => fX2_findSyntaxError_8 (lCt ()) Nf 102 (n + 1) (nI 0) t2 σ) = _
    rw [n1, nI_add, bnd_e, stop _ _ _ (by omega), h.2.1]
    rfl
  | succ d ih =>
    intro p k n σ h1 hn hk hp t h
    obtain ⟨n, rfl⟩ : ∃ z, n = z + 2 := ⟨n - 2, by omega⟩
    have t1 := t.1
    by_cases e : p < len
    · obtain ⟨σ1, k1, k2, k3, k4, k5⟩ := c_readO (Nf := Nf) t h e hF
      have e0 : fX2_findSyntaxError_8 (lCt ()) Nf 102 (n + 2) (nI 1) (nI k) σ = fX2_findSyntaxError_8 (lCt ()) Nf 102 (n + 1) (plB (oS T len p)) (nI (k + 1)) σ1 := by
        conv => lhs; unfold fX2_findSyntaxError_8
        rw [show (100 : Int32) = nI 100 from rfl, if_neg (fun q => absurd ((nI_leI (by omega) (by omega)).mp q) (by omega)), if_neg (show ¬ nI 1 = (0 : Int32) by decide), k1, Option.bind_some]
        show bnd (nI k + (1 : Int32)) (fun t2 => fX2_findSyntaxError_8 (lCt ()) Nf 102 (n + 1) (plB (oS T len p)) t2 σ1) = _
        rw [n1, nI_add, bnd_e]
      rw [scn, if_pos e]
      cases c : oS T len p with
      | inl q =>
        have hq := oS_l e c
        rw [c] at k2 e0
        obtain ⟨σ', a1, a2, a3⟩ := ih q (k + 1) (n + 1) σ1 (by omega) (by omega) (by omega) hq.2 (TC_FT t k3) k2
        exact ⟨σ', e0.trans a1, FT_tr k3 a2, a3⟩
      | inr q =>
        rw [c] at k2 e0
        refine ⟨σ1, ?_, k3, fun e z => by cases z; exact k2.1⟩
        rw [e0, show plB (.inr q) = nI 0 from rfl, stop _ _ _ (by omega), k2.2.1]
        rfl
    · rw [scn_end e]
      refine ⟨σ, ?_, FT_rf, fun e z => by cases z⟩
      unfold fX2_findSyntaxError_8
      rw [show (100 : Int32) = nI 100 from rfl, if_neg (fun q => absurd ((nI_leI (by omega) (by omega)).mp q) (by omega)), if_neg (show ¬ nI 1 = (0 : Int32) by decide), c_readEnd t h e, Option.bind_some]
      show bnd (nI k + (1 : Int32)) (fun t2 => fX2_findSyntaxError_8 (lCt ()) Nf 102 (n + 1) (nI 0) t2 σ) = _
      rw [n1, nI_add, bnd_e, stop _ _ _ (by omega), h.2.1]
      rfl
theorem m_find {T : Nat → Nat} {len Nf : Nat} (hF : 5000 < Nf) : ∀ (d p n : Nat) (τ : cS), len ≤ p + d → d + 2 < n → p ≤ len → TM τ T len → SM τ (.inl p) → match scn T len d p with
    | some e => ∃ τ', fX7_carryOut_10 (lMt ()) Nf 0 n τ = some ((-10 : Int32) - nI e, τ') ∧ FY τ τ'
    | none => ∃ τ', fX7_carryOut_10 (lMt ()) Nf 0 n τ = Option.bind (fX7_save (lMt ()) Nf τ' 0) (fun r1 => bnd (st2 r1 0 12 (0 : Int32)) (fun σ2 => fX7_carryOut_49 (lMt ()) Nf 0 Nf (0 : Int32) (1 : Int32) σ2)) ∧ FY τ τ' := by
  have fin : ∀ p n τ, TM τ T len → SM τ (.inl p) → ¬ p < len → p ≤ len → ∃ τ', fX7_carryOut_10 (lMt ()) Nf 0 (n + 1) τ = Option.bind (fX7_save (lMt ()) Nf τ' 0) (fun r1 => bnd (st2 r1 0 12 (0 : Int32)) (fun σ2 => fX7_carryOut_49 (lMt ()) Nf 0 Nf (0 : Int32) (1 : Int32) σ2)) ∧ FY τ τ' := fun p n τ t h e hp => by
    have t1 := t.1
    refine ⟨τ, ?_, FY_rf⟩
    conv => lhs; unfold fX7_carryOut_10
    rw [h.1, t.2.1, if_pos ((nI_leI (by omega) (by omega)).mpr (by omega))]
  intro d
  induction d with
  | zero =>
    intro p n τ h1 hn hp t h
    obtain ⟨n, rfl⟩ : ∃ z, n = z + 1 := ⟨n - 1, by omega⟩
    exact fin p n τ t h (by omega) hp
  | succ d ih =>
    intro p n τ h1 hn hp t h
    obtain ⟨n, rfl⟩ : ∃ z, n = z + 1 := ⟨n - 1, by omega⟩
    have t1 := t.1
    by_cases e : p < len
    · obtain ⟨τ1, k1, k2, k3, k4, k5⟩ := m_readO (Nf := Nf) t h e hF
      have e0 : fX7_carryOut_10 (lMt ()) Nf 0 (n + 1) τ = if plB (oS T len p) = 0 then some ((-10 : Int32) - τ1 0 13, τ1) else fX7_carryOut_10 (lMt ()) Nf 0 n τ1 := by
        conv => lhs; unfold fX7_carryOut_10
        rw [h.1, t.2.1, if_neg (fun q => absurd ((nI_leI (by omega) (by omega)).mp q) (by omega)), k1, Option.bind_some]
      rw [scn, if_pos e]
      cases c : oS T len p with
      | inl q =>
        have hq := oS_l e c
        rw [c] at k2 e0
        rw [if_neg (show ¬ plB (.inl q) = (0 : Int32) by show ¬ nI 1 = (0 : Int32); decide)] at e0
        have := ih q n τ1 (by omega) (by omega) hq.2 (TM_FY t k3) k2
        simp only []
        cases c2 : scn T len d q with
        | some e =>
          rw [c2] at this
          obtain ⟨τ', a1, a2⟩ := this
          exact ⟨τ', e0.trans a1, FY_tr k3 a2⟩
        | none =>
          rw [c2] at this
          obtain ⟨τ', a1, a2⟩ := this
          exact ⟨τ', e0.trans a1, FY_tr k3 a2⟩
      | inr q =>
        rw [c] at k2 e0
        rw [if_pos (show plB (.inr q) = (0 : Int32) from rfl), show τ1 0 13 = nI q from k2] at e0
        exact ⟨τ1, e0, k3⟩
    · rw [scn_end e]
      exact fin p n τ t h e hp
/-- one order, whichever it is -/
theorem both_one {σ τ : cS} {A T : Nat → Nat} {len p q B Nf : Nat} (hm : MR τ A) (hg : GR σ 0 A) (w : WF A B) (hB : B < 2 ^ 30) (hf : 300000 < Nf) (hp : p < len) (ho : oS T len p = .inl q) (c4 : σ 102 4 = nI (T p)) (cv : CV σ T len p) (m14 : τ 0 14 = nI (T p)) (mv : MV τ T len p) : BD σ τ B Nf := by
  obtain ⟨v1, v2, v3, v4⟩ := cv
  obtain ⟨u1, u2, u3, u4⟩ := mv
  unfold oS at ho
  by_cases c1 : T p = 43
  · rw [if_pos c1] at ho
    obtain ⟨a, h1, h2⟩ := stp_l ho
    obtain ⟨b, h3, h4⟩ := stp_l h1
    have y1 := tk_l h3
    have y2 := tk_l h4
    rw [y1.1] at y2
    rw [c1] at c4 m14
    exact d_add hm hg w hB hf c4 (v1 c1).1 (v1 c1).2 m14 (u1 c1).1 (u1 c1).2 (by omega) (by have : T (p + 2) ≤ 108 := y2.2.2.2; omega)
  rw [if_neg c1] at ho
  by_cases c2 : T p = 45
  · have z := v2 (Or.inl c2)
    have z2 := u2 (Or.inl c2)
    rw [c2] at c4 m14
    exact d_edge hm hg w hf (Or.inl rfl) c4 z m14 z2
  rw [if_neg c2] at ho
  by_cases c3 : T p = 98
  · rw [c3] at c4 m14
    exact d_bal hm hg w hf c4 m14
  rw [if_neg c3] at ho
  by_cases c4' : T p = 99
  · rw [if_pos c4'] at ho
    obtain ⟨a, h1, h2⟩ := stp_l ho
    obtain ⟨b, h3, h4⟩ := stp_l h1
    obtain ⟨c, h5, h6⟩ := stp_l h3
    have y1 := tk_l h5
    have y2 := tk_l h6
    have y3 := nmb_l h4
    rw [y2.1, y1.1] at y3
    rw [c4'] at c4 m14
    exact d_cap hm hg w hf c4 (v3 c4').1 (v3 c4').2 m14 (u3 c4').1 (u3 c4').2 (by omega) y3.2
  rw [if_neg c4'] at ho
  by_cases c5 : T p = 114
  · rw [if_pos c5] at ho
    obtain ⟨a, h1, h2⟩ := stp_l ho
    have y1 := tk_l h1
    rw [c5] at c4 m14
    exact d_rel hm hg w hf c4 (v4 c5) m14 (u4 c5) (by omega)
  rw [if_neg c5] at ho
  by_cases c6 : T p = 116
  · have z := v2 (Or.inr c6)
    have z2 := u2 (Or.inr c6)
    rw [c6] at c4 m14
    exact d_edge hm hg w hf (Or.inr rfl) c4 z m14 z2
  rw [if_neg c6] at ho
  cases ho
def FU (σ σ' : cS) : Prop := (∀ c, 15 ≤ c → (c < 90 ∨ 97 ≤ c) → c ≠ 102 → σ' c = σ c) ∧ σ' 102 1 = σ 102 1
def FV (τ τ' : cS) : Prop := (∀ c, c ≠ 0 → c ≠ 1 → c ≠ 5 → c ≠ 6 → τ' c = τ c) ∧ ∀ j, j ≤ 6 → τ' 0 j = τ 0 j
theorem FU_rf {σ : cS} : FU σ σ := ⟨fun _ _ _ _ => rfl, rfl⟩
theorem FV_rf {τ : cS} : FV τ τ := ⟨fun _ _ _ _ _ => rfl, fun _ _ => rfl⟩
theorem FU_tr {σ σ' σ'' : cS} (h : FU σ σ') (h' : FU σ' σ'') : FU σ σ'' := ⟨fun c h1 h2 h3 => (h'.1 c h1 h2 h3).trans (h.1 c h1 h2 h3), h'.2.trans h.2⟩
theorem FV_tr {τ τ' τ'' : cS} (h : FV τ τ') (h' : FV τ' τ'') : FV τ τ'' := ⟨fun c h1 h2 h3 h4 => (h'.1 c h1 h2 h3 h4).trans (h.1 c h1 h2 h3 h4), fun j hj => (h'.2 j hj).trans (h.2 j hj)⟩
theorem FU_FT {σ σ' : cS} (h : FT σ σ') : FU σ σ' := ⟨fun c _ _ h3 => h.1 c h3, h.2⟩
theorem FU_FO {σ σ' : cS} (h : FO σ σ') : FU σ σ' := ⟨fun c h1 h2 _ => h c h1 h2, by rw [h 102 (by omega) (by omega)]⟩
theorem FV_FY {τ τ' : cS} (h : FY τ τ') : FV τ τ' := ⟨fun c h1 _ _ _ => h.1 c h1, fun j hj => h.2 j (by omega)⟩
theorem FV_FD {τ τ' : cS} (h : FD τ τ') : FV τ τ' := ⟨h.1, fun j hj => h.2 j (by omega) (by omega) (by omega)⟩
theorem FV_st (τ : cS) {j : Nat} (hj : 6 < j) (v : Int32) : FV τ (st2 τ 0 j v) := ⟨fun c h _ _ _ => st2_out h, fun i hi => st2_nj (by omega)⟩
theorem both_run {T : Nat → Nat} {len B Nf : Nat} (hB : B + 100 < 2 ^ 30) (hf : 300000 < Nf) : ∀ (d p k n n' : Nat) (σ τ : cS) (A : Nat → Nat), len ≤ p + d → scn T len d p = none → 2 * k ≤ p → p ≤ len → d + 2 < n → d + 2 < n' → TC σ T len → SC σ (.inl p) → TM τ T len → SM τ (.inl p) → MR τ A → GR σ 0 A → WF A (B + k) → ∃ (c : Int32) (σ' τ' : cS) (A' : Nat → Nat), fX6_carryOut_45 (lCt ()) Nf 107 n (nI k) σ = some (c, σ') ∧ fX7_carryOut_49 (lMt ()) Nf 0 n' (nI k) (nI 1) τ = some (c, τ') ∧ MR τ' A' ∧ GR σ' 0 A' ∧ WF A' (B + 100) ∧ FU σ σ' ∧ FV τ τ' := by
  have fin : ∀ (p k n n' : Nat) (σ τ : cS) (A : Nat → Nat), ¬ p < len → 2 * k ≤ p → p ≤ len → TC σ T len → SC σ (.inl p) → TM τ T len → SM τ (.inl p) → MR τ A → GR σ 0 A → WF A (B + k) → ∃ (c : Int32) (σ' τ' : cS) (A' : Nat → Nat), fX6_carryOut_45 (lCt ()) Nf 107 (n + 1) (nI k) σ = some (c, σ') ∧ fX7_carryOut_49 (lMt ()) Nf 0 (n' + 1) (nI k) (nI 1) τ = some (c, τ') ∧ MR τ' A' ∧ GR σ' 0 A' ∧ WF A' (B + 100) ∧ FU σ σ' ∧ FV τ τ' := by
    intro p k n n' σ τ A e hk hp tc sc tm sm hm hg w
    have t1 := tc.1
    refine ⟨nI k, σ, st2 τ 0 7 (nI 0), A, ?_, ?_, MR_out hm (by omega), hg, WF_up w (by omega), FU_rf, FV_st _ (by omega) _⟩
    · unfold fX6_carryOut_45 fX6_carryOut_74
      rw [show (100 : Int32) = nI 100 from rfl, if_neg (fun q => absurd ((nI_leI (by omega) (by omega)).mp q) (by omega)), c_readEnd tc sc e, Option.bind_some, if_pos (show nI 0 = (0 : Int32) from rfl)]
    · unfold fX7_carryOut_49 fX7_carryOut_89
      rw [if_neg (show ¬ nI 1 = (0 : Int32) by decide), sm.1, tm.2.1, if_pos ((nI_leI (by omega) (by omega)).mpr (by omega))]
      rfl
  intro d
  induction d with
  | zero =>
    intro p k n n' σ τ A h1 hs hk hp hn hn' tc sc tm sm hm hg w
    obtain ⟨n, rfl⟩ : ∃ z, n = z + 1 := ⟨n - 1, by omega⟩
    obtain ⟨n', rfl⟩ : ∃ z, n' = z + 1 := ⟨n' - 1, by omega⟩
    exact fin p k n n' σ τ A (by omega) hk hp tc sc tm sm hm hg w
  | succ d ih =>
    intro p k n n' σ τ A h1 hs hk hp hn hn' tc sc tm sm hm hg w
    obtain ⟨n, rfl⟩ : ∃ z, n = z + 1 := ⟨n - 1, by omega⟩
    obtain ⟨n', rfl⟩ : ∃ z, n' = z + 2 := ⟨n' - 2, by omega⟩
    by_cases e : p < len
    · have t1 := tc.1
      rw [scn, if_pos e] at hs
      cases co : oS T len p with
      | inr q => rw [co] at hs; cases hs
      | inl q =>
        rw [co] at hs
        have hq := oS_l e co
        obtain ⟨σ1, a1, a2, a3, a4, a5⟩ := c_readO (Nf := Nf) tc sc e (by omega)
        obtain ⟨τ1, b1, b2, b3, b4, b5⟩ := m_readO (Nf := Nf) tm sm e (by omega)
        rw [co] at a1 a2 b1 b2
        have hm1 : MR τ1 A := MR_ext hm (b3.1 1 (by omega))
        have hg1 : GR σ1 0 A := GR_keep hg (fun c _ _ => a3.1 c (by omega))
        obtain ⟨bb, σ2, τ2, A2, o1, o2, o3, o4, o5, o6, o7⟩ := both_one (Nf := Nf) hm1 hg1 w (by omega) hf e co a4 (a5 q co) b4 (b5 q co)
        have ec : fX6_carryOut_45 (lCt ()) Nf 107 (n + 1) (nI k) σ = if bI bb = 0 then some (nI k, σ2) else fX6_carryOut_45 (lCt ()) Nf 107 n (nI (k + 1)) σ2 := by
          conv => lhs; unfold fX6_carryOut_45
          unfold fX6_carryOut_74
          rw [show (100 : Int32) = nI 100 from rfl, if_neg (fun q => absurd ((nI_leI (by omega) (by omega)).mp q) (by omega)), a1, Option.bind_some, if_neg (show ¬ plB (.inl q) = (0 : Int32) by show ¬ nI 1 = (0 : Int32); decide), o1, Option.bind_some, n1, nI_add, bnd_e]
        have em : fX7_carryOut_49 (lMt ()) Nf 0 (n' + 2) (nI k) (nI 1) τ = if bI bb = 0 then fX7_carryOut_49 (lMt ()) Nf 0 (n' + 1) (nI k) (bI bb) τ2 else fX7_carryOut_49 (lMt ()) Nf 0 (n' + 1) (nI (k + 1)) (bI bb) τ2 := by
          conv => lhs; unfold fX7_carryOut_49
          unfold fX7_carryOut_84
          rw [if_neg (show ¬ nI 1 = (0 : Int32) by decide), sm.1, tm.2.1, if_neg (fun q => absurd ((nI_leI (by omega) (by omega)).mp q) (by omega)), b1, Option.bind_some]
          show Option.bind (fX7_does (lMt ()) Nf τ1 0) _ = _
          rw [o2, Option.bind_some, n0, n1, nI_add, nI_add, bnd_e, bnd_e]
          rfl
        have fU : FU σ σ2 := FU_tr (FU_FT a3) (FU_FO o6)
        have fV : FV τ τ2 := FV_tr (FV_FY b3) (FV_FD o7)
        cases bb with
        | false =>
          rw [if_pos (show bI false = (0 : Int32) from rfl)] at ec em
          refine ⟨nI k, σ2, st2 τ2 0 7 (nI 0), A2, ec, em.trans ?_, MR_out o3 (by omega), o4, WF_up o5 (by omega), fU, FV_tr fV (FV_st _ (by omega) _)⟩
          unfold fX7_carryOut_49 fX7_carryOut_89
          rw [if_pos (show bI false = (0 : Int32) from rfl)]
          rfl
        | true =>
          rw [if_neg (show ¬ bI true = (0 : Int32) by decide)] at ec em
          have tc2 : TC σ2 T len := ⟨tc.1, by rw [fU.2]; exact tc.2.1, fun i hi => ⟨(tc.2.2 i hi).1, by rw [fU.1 _ (by omega) (by omega) (by omega)]; exact (tc.2.2 i hi).2⟩⟩
          have tm2 : TM τ2 T len := ⟨tm.1, by rw [fV.2 6 (by omega)]; exact tm.2.1, fun i hi => ⟨(tm.2.2 i hi).1, by rw [fV.1 4 (by omega) (by omega) (by omega) (by omega)]; exact (tm.2.2 i hi).2⟩⟩
          have sc2 : SC σ2 (.inl q) := by
            have z : σ2 102 = σ1 102 := o6 102 (by omega) (by omega)
            exact ⟨by rw [z]; exact a2.1, by rw [z]; exact a2.2.1, a2.2.2⟩
          have sm2 : SM τ2 (.inl q) := ⟨by rw [o7.2 12 (by omega) (by omega) (by omega)]; exact b2.1, b2.2⟩
          obtain ⟨c, σ', τ', A', r1, r2, r3, r4, r5, r6, r7⟩ := ih q (k + 1) n (n' + 1) σ2 τ2 A2 (by omega) hs (by omega) hq.2 (by omega) (by omega) tc2 sc2 tm2 sm2 o3 o4 o5
          exact ⟨c, σ', τ', A', ec.trans r1, em.trans r2, r3, r4, r5, FU_tr fU r6, FV_tr fV r7⟩
    · exact fin p k n (n' + 1) σ τ A e hk hp tc sc tm sm hm hg w
