/-! ===== reading an order: the whole order, by the model ===== -/
def MV (τ : cS) (T : Nat → Nat) (len p : Nat) : Prop := (T p = 43 → τ 0 15 = nI (T (p + 1) - 97) ∧ τ 0 16 = nI (T (p + 2) - 97)) ∧ ((T p = 45 ∨ T p = 116) → τ 0 15 = nI (nml T len 3 (p + 1) 0).2) ∧ (T p = 99 → τ 0 15 = nI (T (p + 1) - 97) ∧ τ 0 16 = nI (nml T len 2 (p + 3) 0).2) ∧ (T p = 114 → τ 0 15 = nI (T (p + 1) - 97))
def FY (τ τ' : cS) : Prop := (∀ c, c ≠ 0 → τ' c = τ c) ∧ ∀ j, (j < 12 ∨ 16 < j) → τ' 0 j = τ 0 j
theorem FY_FX {τ τ' : cS} (h : FX τ τ') : FY τ τ' := ⟨h.1, fun j hj => h.2 j (by omega) (by omega)⟩
theorem FY_st (τ : cS) {j : Nat} (hj : 12 ≤ j ∧ j ≤ 16) (v : Int32) : FY τ (st2 τ 0 j v) := ⟨fun c hc => st2_out hc, fun i hi => st2_nj (by omega)⟩
theorem FY_tr {τ τ' τ'' : cS} (h : FY τ τ') (h' : FY τ' τ'') : FY τ τ'' := ⟨fun c hc => (h'.1 c hc).trans (h.1 c hc), fun j hj => (h'.2 j hj).trans (h.2 j hj)⟩
theorem nI_d {a b : Nat} (ha : a < 1000) (hb : b < 1000) (hab : a ≠ b) : ¬ nI a = nI b := fun q => hab ((nI_eq (by omega) (by omega)).mp q)
/-- behind the nodes, where the order isn't of an edge's number -/
theorem m_262 {τ : cS} {Nf k : Nat} {x : Int32} (h : τ 0 14 = nI k) (hk : k < 1000) (h1 : k ≠ 45) (h2 : k ≠ 116) : fX7_readsOrder_262 (lMt ()) Nf 0 x τ = fX7_readsOrder_305 (lMt ()) Nf 0 x τ := by
  unfold fX7_readsOrder_262
  rw [h, show (45 : Int32) = nI 45 from rfl, show (116 : Int32) = nI 116 from rfl, if_neg (nI_d hk (by omega) h1), if_neg (nI_d hk (by omega) h2)]
theorem m_204 {τ : cS} {Nf k : Nat} {x : Int32} (h : τ 0 14 = nI k) (hk : k < 1000) (h1 : k ≠ 45) (h2 : k ≠ 116) (h3 : k ≠ 99 ∨ x = 0) : fX7_readsOrder_204 (lMt ()) Nf 0 x τ = fX7_readsOrder_305 (lMt ()) Nf 0 x τ := by
  unfold fX7_readsOrder_204
  rw [m_262 h hk h1 h2]
  by_cases e : x = 0
  · rw [if_pos e]
  · rw [if_neg e, h, show (99 : Int32) = nI 99 from rfl, if_neg (nI_d hk (by omega) (h3.resolve_right e))]
theorem m_156 {τ : cS} {Nf k : Nat} {x : Int32} (h : τ 0 14 = nI k) (hk : k < 1000) (h3 : k ≠ 43 ∨ x = 0) : fX7_readsOrder_156 (lMt ()) Nf 0 x τ = fX7_readsOrder_204 (lMt ()) Nf 0 x τ := by
  unfold fX7_readsOrder_156
  by_cases e : x = 0
  · rw [if_pos e]
  · rw [if_neg e, h, show (43 : Int32) = nI 43 from rfl, if_neg (nI_d hk (by omega) (h3.resolve_right e))]
/-- the first node of an order -/
theorem m_121 {τ : cS} {T : Nat → Nat} {len p Nf : Nat} (t : TM τ T len) (h : SM τ (.inl p)) : ∃ τ', fX7_readsOrder_121 (lMt ()) Nf 0 τ = fX7_readsOrder_156 (lMt ()) Nf 0 (plB (tk T len 97 108 p)) τ' ∧ SM τ' (tk T len 97 108 p) ∧ FY τ τ' ∧ τ' 0 14 = τ 0 14 ∧ τ' 0 16 = τ 0 16 ∧ ∀ q, tk T len 97 108 p = .inl q → τ' 0 15 = nI (T p - 97) := by
  have t1 := t.1
  obtain ⟨τ1, a1, a2, a3⟩ := m_takes (lo := 97) (hi := 108) t h (by omega) (by omega)
  unfold fX7_readsOrder_121 fX7_readsOrder_153
  rw [show (97 : Int32) = nI 97 from rfl, show (108 : Int32) = nI 108 from rfl, a1, Option.bind_some]
  cases e : tk T len 97 108 p with
  | inl q =>
    obtain ⟨e1, e2, e3, e4⟩ := tk_l e
    rw [e] at a2
    refine ⟨st2 τ1 0 15 (nI (T p - 97)), ?_, SM_st a2 (by omega) (by omega) _, FY_tr (FY_FX a3) (FY_st _ (by omega) _), ?_, ?_, fun _ _ => st2_ss⟩
    · rw [if_neg (show ¬ plB (.inl q) = (0 : Int32) by show ¬ nI 1 = (0 : Int32); decide)]
      show grd (inb (τ1 0 12 - (1 : Int32)) (lMt () (0 + 4))) (bnd (st2 τ1 0 15 (τ1 (0 + 4) (τ1 0 12 - (1 : Int32)).toNatClampNeg - nI 97)) _) = _
      rw [a2.1, e1, nI_pred, show lMt () (0 + 4) = 100 from rfl, inb_n (by omega) (by omega), grd_t, nI_clamp (by omega), show τ1 (0 + 4) p = nI (T p) from by rw [a3.1 4 (by omega)]; exact (t.2.2 p e2).2, nI_sub (by omega)]
      rfl
    · rw [st2_nj (by omega), a3.2 14 (by omega) (by omega)]
    · rw [st2_nj (by omega), a3.2 16 (by omega) (by omega)]
  | inr q =>
    rw [e] at a2
    refine ⟨st2 τ1 0 15 (nI 0), ?_, SM_st a2 (by omega) (by omega) _, FY_tr (FY_FX a3) (FY_st _ (by omega) _), ?_, ?_, fun q z => (by cases z)⟩
    · rw [if_pos (show plB (.inr q) = (0 : Int32) from rfl)]
      rfl
    · rw [st2_nj (by omega), a3.2 14 (by omega) (by omega)]
    · rw [st2_nj (by omega), a3.2 16 (by omega) (by omega)]
theorem m_280 {τ : cS} {T : Nat → Nat} {len p Nf : Nat} (t : TM τ T len) (h : SM τ (.inl p)) (hF : 5000 < Nf) : ∃ τ', fX7_readsOrder_280 (lMt ()) Nf 0 τ = fX7_readsOrder_305 (lMt ()) Nf 0 (plB (nmb T len 3 999 p)) τ' ∧ SM τ' (nmb T len 3 999 p) ∧ FY τ τ' ∧ τ' 0 14 = τ 0 14 ∧ ∀ q, nmb T len 3 999 p = .inl q → τ' 0 15 = nI (nml T len 3 p 0).2 := by
  obtain ⟨r, a1, a2, a3, a4, a5⟩ := m_num (m := 3) (g := 999) (Nf := Nf) t h (by omega) (by omega) (by omega) hF
  refine ⟨st2 r.2 0 15 r.1, ?_, SM_st a2 (by omega) (by omega) _, FY_tr (FY_FX a3) (FY_st _ (by omega) _), by rw [st2_nj (by omega), a3.2 14 (by omega) (by omega)], fun q hq => by rw [st2_ss]; exact a4 q hq⟩
  unfold fX7_readsOrder_280 fX7_readsOrder_304
  rw [show (3 : Int32) = nI 3 from rfl, show (999 : Int32) = nI 999 from rfl, a1, Option.bind_some, bnd_e, st2_ss]
  cases e : nmb T len 3 999 p with
  | inl q =>
    have hv : (nml T len 3 p 0).2 < 1000 := nml_v 3 p 0
    rw [a4 q e, if_neg (nI_pos (by omega))]
    rfl
  | inr q =>
    rw [a5 q e, if_pos (by decide)]
    rfl
theorem m_242 {τ : cS} {T : Nat → Nat} {len p Nf : Nat} (t : TM τ T len) (h : SM τ (.inl p)) (h14 : τ 0 14 = nI 99) (hF : 5000 < Nf) : ∃ τ', Option.bind (fX7_number (lMt ()) Nf τ 0 (2 : Int32) (40 : Int32)) (fun r2 => fX7_readsOrder_242 (lMt ()) Nf 0 (nI 1) r2.1 r2.2) = fX7_readsOrder_305 (lMt ()) Nf 0 (plB (nmb T len 2 40 p)) τ' ∧ SM τ' (nmb T len 2 40 p) ∧ FY τ τ' ∧ τ' 0 14 = nI 99 ∧ τ' 0 15 = τ 0 15 ∧ ∀ q, nmb T len 2 40 p = .inl q → τ' 0 16 = nI (nml T len 2 p 0).2 := by
  obtain ⟨r, a1, a2, a3, a4, a5⟩ := m_num (m := 2) (g := 40) (Nf := Nf) t h (by omega) (by omega) (by omega) hF
  have o14 : st2 r.2 0 16 r.1 0 14 = nI 99 := by rw [st2_nj (by omega), a3.2 14 (by omega) (by omega)]; exact h14
  refine ⟨st2 r.2 0 16 r.1, ?_, SM_st a2 (by omega) (by omega) _, FY_tr (FY_FX a3) (FY_st _ (by omega) _), o14, by rw [st2_nj (by omega), a3.2 15 (by omega) (by omega)], fun q hq => by rw [st2_ss]; exact a4 q hq⟩
  unfold fX7_readsOrder_242 fX7_readsOrder_260 fX7_readsOrder_261
  rw [show (2 : Int32) = nI 2 from rfl, show (40 : Int32) = nI 40 from rfl, a1, Option.bind_some, bnd_e, st2_ss, if_neg (show ¬ nI 1 = (0 : Int32) by decide), m_262 o14 (by omega) (by omega) (by omega), m_262 o14 (by omega) (by omega) (by omega)]
  cases e : nmb T len 2 40 p with
  | inl q =>
    have hv : (nml T len 2 p 0).2 < 1000 := Nat.lt_of_lt_of_le (nml_v 2 p 0) (by decide)
    rw [a4 q e, if_neg (nI_pos (by omega))]
    rfl
  | inr q =>
    rw [a5 q e, if_pos (by decide)]
    rfl
theorem m_readO {τ : cS} {T : Nat → Nat} {len p Nf : Nat} (t : TM τ T len) (h : SM τ (.inl p)) (hp : p < len) (hF : 5000 < Nf) : ∃ τ', fX7_readsOrder (lMt ()) Nf τ 0 = some (plB (oS T len p), τ') ∧ SM τ' (oS T len p) ∧ FY τ τ' ∧ τ' 0 14 = nI (T p) ∧ ∀ q, oS T len p = .inl q → MV τ' T len p := by
  have t1 := t.1
  have hT := TM_T t p hp
  have hcu : cu T len p = nI (T p) := by unfold cu; rw [if_pos hp]
  unfold fX7_readsOrder fX7_readsOrder_0
  rw [m_here t h.1 h.2, Option.bind_some, hcu, bnd_e, bnd_e, bnd_e]
  generalize e4 : st2 (st2 (st2 τ 0 14 (nI (T p))) 0 15 0) 0 16 0 = s4
  have t4 : TM s4 T len := by rw [← e4]; exact TM_st (TM_st (TM_st t (by omega) _) (by omega) _) (by omega) _
  have h4 : SM s4 (.inl p) := by rw [← e4]; exact SM_st (SM_st (SM_st h (by omega) (by omega) _) (by omega) (by omega) _) (by omega) (by omega) _
  have f4 : FY τ s4 := by rw [← e4]; exact FY_tr (FY_tr (FY_st _ (by omega) _) (FY_st _ (by omega) _)) (FY_st _ (by omega) _)
  have o4 : s4 0 14 = nI (T p) := by rw [← e4, st2_nj (by omega), st2_nj (by omega), st2_ss]
  rw [o4, show (43 : Int32) = nI 43 from rfl, show (45 : Int32) = nI 45 from rfl, show (98 : Int32) = nI 98 from rfl, show (99 : Int32) = nI 99 from rfl, show (114 : Int32) = nI 114 from rfl, show (116 : Int32) = nI 116 from rfl]
  generalize e5 : st2 s4 0 12 (nI (p + 1)) = s5
  have t5 : TM s5 T len := by rw [← e5]; exact TM_FX t4 (FX_12 _ _)
  have h5 : SM s5 (.inl (p + 1)) := by rw [← e5]; exact ⟨st2_ss, by omega⟩
  have f5 : FY τ s5 := by rw [← e5]; exact FY_tr f4 (FY_st _ (by omega) _)
  have o5 : s5 0 14 = nI (T p) := by rw [← e5, st2_nj (by omega)]; exact o4
  have e82 : fX7_readsOrder_82 (lMt ()) Nf 0 s4 = if nI (T p) = nI 43 then fX7_readsOrder_121 (lMt ()) Nf 0 s5 else if nI (T p) = nI 114 then fX7_readsOrder_121 (lMt ()) Nf 0 s5 else if nI (T p) = nI 99 then fX7_readsOrder_121 (lMt ()) Nf 0 s5 else fX7_readsOrder_156 (lMt ()) Nf 0 (nI 1) s5 := by
    unfold fX7_readsOrder_82
    rw [h4.1, n1, nI_add, e5, bnd_e, o5]
    rfl
  unfold oS
  by_cases c1 : T p = 43
  · rw [c1] at o5 e82 ⊢
    rw [if_pos rfl] at e82
    rw [if_pos rfl, if_pos rfl, e82]
    obtain ⟨s6, a1, a2, a3, a4, a5, a6⟩ := m_121 (Nf := Nf) t5 h5
    rw [a1]
    have t6 : TM s6 T len := ⟨t.1, by rw [(FY_tr f5 a3).2 6 (by omega)]; exact t.2.1, fun i hi => ⟨(t.2.2 i hi).1, by rw [(FY_tr f5 a3).1 _ (by omega)]; exact (t.2.2 i hi).2⟩⟩
    have o6 : s6 0 14 = nI 43 := a4.trans o5
    cases c : tk T len 97 108 (p + 1) with
    | inr e =>
      rw [c] at a2
      rw [m_156 (x := plB (.inr e)) o6 (by omega) (Or.inr rfl), m_204 (x := plB (.inr e)) o6 (by omega) (by omega) (by omega) (Or.inr rfl)]
      obtain ⟨s8, b1, b2, b3⟩ := m_305 (Nf := Nf) t6 a2
      exact ⟨s8, b1, b2, FY_tr (FY_tr f5 a3) (FY_FX b3), by rw [b3.2 14 (by omega) (by omega)]; exact o6, fun q hq => by cases hq⟩
    | inl q1 =>
      obtain ⟨z1, z2, z3, z4⟩ := tk_l c
      rw [c] at a2
      obtain ⟨s7, d1, d2, d3⟩ := m_takes (lo := 97) (hi := 108) t6 a2 (by omega) (by omega)
      unfold fX7_readsOrder_156 fX7_readsOrder_201
      rw [if_neg (show ¬ plB (.inl q1) = (0 : Int32) by show ¬ nI 1 = (0 : Int32); decide), o6, if_pos (show nI 43 = (43 : Int32) from rfl), show (97 : Int32) = nI 97 from rfl, show (108 : Int32) = nI 108 from rfl, d1, Option.bind_some]
      show ∃ τ', _ ∧ SM τ' (stp (tk T len 97 108 q1) (tk T len 59 59)) ∧ _ ∧ _ ∧ ∀ q, stp (tk T len 97 108 q1) (tk T len 59 59) = .inl q → _
      cases c' : tk T len 97 108 q1 with
      | inr e =>
        rw [c'] at d2
        have o8 : st2 s7 0 16 (nI 0) 0 14 = nI 43 := by rw [st2_nj (by omega), d3.2 14 (by omega) (by omega)]; exact o6
        obtain ⟨s8, b1, b2, b3⟩ := m_305 (s := .inr e) (Nf := Nf) (TM_st (TM_FX t6 d3) (show 16 ≠ 6 by omega) (nI 0)) (SM_st d2 (show 16 ≠ 12 by omega) (by omega) (nI 0))
        refine ⟨s8, ?_, b2, FY_tr (FY_tr (FY_tr (FY_tr f5 a3) (FY_FX d3)) (FY_st _ (show 12 ≤ 16 ∧ 16 ≤ 16 by omega) _)) (FY_FX b3), by rw [b3.2 14 (by omega) (by omega)]; exact o8, fun q hq => by cases hq⟩
        rw [if_pos (show plB (.inr e) = (0 : Int32) from rfl), bnd_e]
        show fX7_readsOrder_204 (lMt ()) Nf 0 (plB (.inr e)) (st2 s7 0 16 (nI 0)) = some (plB (stp (stp (.inl q1) (tk T len 97 108)) (tk T len 59 59)), s8)
        rw [m_204 o8 (by omega) (by omega) (by omega) (Or.inl (by omega)), b1]
        show _ = some (plB (stp (tk T len 97 108 q1) (tk T len 59 59)), s8)
        rw [c']
      | inl q2 =>
        obtain ⟨y1, y2, y3, y4⟩ := tk_l c'
        rw [c'] at d2
        have o8 : st2 s7 0 16 (nI (T q1 - 97)) 0 14 = nI 43 := by rw [st2_nj (by omega), d3.2 14 (by omega) (by omega)]; exact o6
        obtain ⟨s8, b1, b2, b3⟩ := m_305 (s := .inl q2) (Nf := Nf) (TM_st (TM_FX t6 d3) (show 16 ≠ 6 by omega) (nI (T q1 - 97))) (SM_st d2 (show 16 ≠ 12 by omega) (by omega) (nI (T q1 - 97)))
        refine ⟨s8, ?_, b2, FY_tr (FY_tr (FY_tr (FY_tr f5 a3) (FY_FX d3)) (FY_st _ (show 12 ≤ 16 ∧ 16 ≤ 16 by omega) _)) (FY_FX b3), by rw [b3.2 14 (by omega) (by omega)]; exact o8, fun q hq => ⟨fun _ => ⟨?_, ?_⟩, fun z => by omega, fun z => by omega, fun z => by omega⟩⟩
        · rw [if_neg (show ¬ plB (.inl q2) = (0 : Int32) by show ¬ nI 1 = (0 : Int32); decide)]
          show grd (inb (s7 0 12 - (1 : Int32)) (lMt () (0 + 4))) (bnd (st2 s7 0 16 (s7 (0 + 4) (s7 0 12 - (1 : Int32)).toNatClampNeg - nI 97)) _) = some (plB (stp (stp (.inl q1) (tk T len 97 108)) (tk T len 59 59)), s8)
          rw [d2.1, y1, nI_pred, show lMt () (0 + 4) = 100 from rfl, inb_n (by omega) (by omega), grd_t, nI_clamp (by omega), show s7 (0 + 4) q1 = nI (T q1) from by rw [d3.1 4 (by omega)]; exact (t6.2.2 q1 y2).2, nI_sub (by omega), bnd_e, m_204 o8 (by omega) (by omega) (by omega) (Or.inl (by omega))]
          rw [show plB (.inl (q1 + 1)) = plB (.inl q2) from rfl, b1]
          show _ = some (plB (stp (tk T len 97 108 q1) (tk T len 59 59)), s8)
          rw [c']
        · rw [b3.2 15 (by omega) (by omega), st2_nj (by omega), d3.2 15 (by omega) (by omega)]
          exact a6 q1 c
        · rw [b3.2 16 (by omega) (by omega), st2_ss, z1]
  rw [if_neg (nI_d (by omega) (by omega) c1), if_neg c1]
  rw [if_neg (nI_d (by omega) (by omega) c1)] at e82
  by_cases c2 : T p = 45
  · rw [c2] at o5 e82 ⊢
    rw [if_neg (show ¬ nI 45 = nI 114 by decide), if_neg (show ¬ nI 45 = nI 99 by decide)] at e82
    rw [if_pos rfl, if_pos rfl, e82, m_156 o5 (by omega) (Or.inl (by omega))]
    obtain ⟨s6, a1, a2, a3, a4, a5⟩ := m_280 (Nf := Nf) t5 h5 hF
    unfold fX7_readsOrder_204 fX7_readsOrder_262
    rw [if_neg (show ¬ nI 1 = (0 : Int32) by decide), o5, if_neg (show ¬ nI 45 = (99 : Int32) by decide), if_pos (show nI 45 = (45 : Int32) from rfl), a1]
    have t6 : TM s6 T len := ⟨t.1, by rw [(FY_tr f5 a3).2 6 (by omega)]; exact t.2.1, fun i hi => ⟨(t.2.2 i hi).1, by rw [(FY_tr f5 a3).1 _ (by omega)]; exact (t.2.2 i hi).2⟩⟩
    obtain ⟨s8, b1, b2, b3⟩ := m_305 (Nf := Nf) t6 a2
    refine ⟨s8, b1, b2, FY_tr (FY_tr f5 a3) (FY_FX b3), by rw [b3.2 14 (by omega) (by omega)]; exact a4.trans o5, fun q hq => ⟨fun z => by omega, fun _ => ?_, fun z => by omega, fun z => by omega⟩⟩
    obtain ⟨q2, y1, y2⟩ := stp_l hq
    rw [b3.2 15 (by omega) (by omega)]
    exact a5 q2 y1
  rw [if_neg (nI_d (by omega) (by omega) c2), if_neg c2]
  by_cases c3 : T p = 98
  · rw [c3] at o5 e82 ⊢
    rw [if_neg (show ¬ nI 98 = nI 114 by decide), if_neg (show ¬ nI 98 = nI 99 by decide)] at e82
    rw [if_neg (show ¬ nI 98 = nI 116 by decide), if_neg (show ¬ nI 98 = nI 114 by decide), if_pos rfl, if_pos rfl, e82, m_156 o5 (by omega) (Or.inl (by omega)), m_204 o5 (by omega) (by omega) (by omega) (Or.inl (by omega))]
    obtain ⟨s8, b1, b2, b3⟩ := m_305 (s := .inl (p + 1)) (Nf := Nf) t5 h5
    exact ⟨s8, b1, b2, FY_tr f5 (FY_FX b3), by rw [b3.2 14 (by omega) (by omega)]; exact o5, fun q hq => ⟨fun z => by omega, fun z => by omega, fun z => by omega, fun z => by omega⟩⟩
  by_cases c4 : T p = 99
  · rw [c4] at o5 e82 ⊢
    rw [if_neg (show ¬ nI 99 = nI 114 by decide), if_pos rfl] at e82
    rw [if_neg (show ¬ nI 99 = nI 116 by decide), if_neg (show ¬ nI 99 = nI 114 by decide), if_neg (show ¬ nI 99 = nI 98 by decide), if_pos rfl, if_neg (show ¬ (99 = 98) by omega), if_pos rfl, e82]
    obtain ⟨s6, a1, a2, a3, a4, a5, a6⟩ := m_121 (Nf := Nf) t5 h5
    rw [a1]
    have t6 : TM s6 T len := ⟨t.1, by rw [(FY_tr f5 a3).2 6 (by omega)]; exact t.2.1, fun i hi => ⟨(t.2.2 i hi).1, by rw [(FY_tr f5 a3).1 _ (by omega)]; exact (t.2.2 i hi).2⟩⟩
    have o6 : s6 0 14 = nI 99 := a4.trans o5
    rw [m_156 o6 (by omega) (Or.inl (by omega))]
    cases c : tk T len 97 108 (p + 1) with
    | inr e =>
      rw [c] at a2
      rw [m_204 (x := plB (.inr e)) o6 (by omega) (by omega) (by omega) (Or.inr rfl)]
      obtain ⟨s8, b1, b2, b3⟩ := m_305 (Nf := Nf) t6 a2
      exact ⟨s8, b1, b2, FY_tr (FY_tr f5 a3) (FY_FX b3), by rw [b3.2 14 (by omega) (by omega)]; exact o6, fun q hq => by cases hq⟩
    | inl q1 =>
      obtain ⟨z1, z2, z3, z4⟩ := tk_l c
      rw [c] at a2
      obtain ⟨s7, d1, d2, d3⟩ := m_takes (lo := 61) (hi := 61) t6 a2 (by omega) (by omega)
      have t7 := TM_FX t6 d3
      have o7 : s7 0 14 = nI 99 := by rw [d3.2 14 (by omega) (by omega)]; exact o6
      unfold fX7_readsOrder_204
      rw [if_neg (show ¬ plB (.inl q1) = (0 : Int32) by show ¬ nI 1 = (0 : Int32); decide), o6, if_pos (show nI 99 = (99 : Int32) from rfl), show (61 : Int32) = nI 61 from rfl, d1, Option.bind_some]
      show ∃ τ', _ = some (plB (stp (stp (tk T len 61 61 q1) (nmb T len 2 40)) (tk T len 59 59)), τ') ∧ SM τ' (stp (stp (tk T len 61 61 q1) (nmb T len 2 40)) (tk T len 59 59)) ∧ _ ∧ _ ∧ ∀ q, stp (stp (tk T len 61 61 q1) (nmb T len 2 40)) (tk T len 59 59) = .inl q → _
      cases c' : tk T len 61 61 q1 with
      | inr e =>
        rw [c'] at d2
        have o8 : st2 s7 0 16 (nI 0) 0 14 = nI 99 := by rw [st2_nj (by omega)]; exact o7
        obtain ⟨s8, b1, b2, b3⟩ := m_305 (s := .inr e) (Nf := Nf) (TM_st t7 (show 16 ≠ 6 by omega) (nI 0)) (SM_st d2 (show 16 ≠ 12 by omega) (by omega) (nI 0))
        refine ⟨s8, ?_, b2, FY_tr (FY_tr (FY_tr (FY_tr f5 a3) (FY_FX d3)) (FY_st _ (show 12 ≤ 16 ∧ 16 ≤ 16 by omega) _)) (FY_FX b3), by rw [b3.2 14 (by omega) (by omega)]; exact o8, fun q hq => by cases hq⟩
        rw [if_pos (show plB (.inr e) = (0 : Int32) from rfl)]
        unfold fX7_readsOrder_242 fX7_readsOrder_260 fX7_readsOrder_261
        rw [bnd_e, if_pos (show plB (.inr e) = (0 : Int32) from rfl), n0, m_262 o8 (by omega) (by omega) (by omega)]
        exact b1
      | inl q2 =>
        obtain ⟨y1, y2, y3, y4⟩ := tk_l c'
        rw [c'] at d2
        obtain ⟨s9, k1, k2, k3, k4, k5, k6⟩ := m_242 (Nf := Nf) t7 d2 o7 hF
        have t9 : TM s9 T len := ⟨t.1, by rw [k3.2 6 (by omega)]; exact t7.2.1, fun i hi => ⟨(t.2.2 i hi).1, by rw [k3.1 _ (by omega)]; exact (t7.2.2 i hi).2⟩⟩
        obtain ⟨s8, b1, b2, b3⟩ := m_305 (Nf := Nf) t9 k2
        refine ⟨s8, ?_, b2, FY_tr (FY_tr (FY_tr (FY_tr f5 a3) (FY_FX d3)) k3) (FY_FX b3), by rw [b3.2 14 (by omega) (by omega)]; exact k4, fun q hq => ⟨fun z => by omega, fun z => by omega, fun _ => ⟨?_, ?_⟩, fun z => by omega⟩⟩
        · rw [if_neg (show ¬ plB (.inl q2) = (0 : Int32) by show ¬ nI 1 = (0 : Int32); decide)]
          exact k1.trans b1
        · rw [b3.2 15 (by omega) (by omega), k5, d3.2 15 (by omega) (by omega)]
          exact a6 q1 c
        · obtain ⟨q3, x1, x2⟩ := stp_l hq
          rw [b3.2 16 (by omega) (by omega), k6 q3 x1, y1, z1]
  by_cases c5 : T p = 114
  · rw [c5] at o5 e82 ⊢
    rw [if_pos rfl] at e82
    rw [if_neg (show ¬ nI 114 = nI 116 by decide), if_pos rfl, if_neg (show ¬ (114 = 98) by omega), if_neg (show ¬ (114 = 99) by omega), if_pos rfl, e82]
    obtain ⟨s6, a1, a2, a3, a4, a5, a6⟩ := m_121 (Nf := Nf) t5 h5
    rw [a1]
    have t6 : TM s6 T len := ⟨t.1, by rw [(FY_tr f5 a3).2 6 (by omega)]; exact t.2.1, fun i hi => ⟨(t.2.2 i hi).1, by rw [(FY_tr f5 a3).1 _ (by omega)]; exact (t.2.2 i hi).2⟩⟩
    have o6 : s6 0 14 = nI 114 := a4.trans o5
    rw [m_156 o6 (by omega) (Or.inl (by omega)), m_204 o6 (by omega) (by omega) (by omega) (Or.inl (by omega))]
    obtain ⟨s8, b1, b2, b3⟩ := m_305 (Nf := Nf) t6 a2
    refine ⟨s8, b1, b2, FY_tr (FY_tr f5 a3) (FY_FX b3), by rw [b3.2 14 (by omega) (by omega)]; exact o6, fun q hq => ⟨fun z => by omega, fun z => by omega, fun z => by omega, fun _ => ?_⟩⟩
    obtain ⟨q2, y1, y2⟩ := stp_l hq
    rw [b3.2 15 (by omega) (by omega)]
    exact a6 q2 y1
  by_cases c6 : T p = 116
  · rw [c6] at o5 e82 ⊢
    rw [if_neg (show ¬ nI 116 = nI 114 by decide), if_neg (show ¬ nI 116 = nI 99 by decide)] at e82
    rw [if_pos rfl, if_neg (show ¬ (116 = 98) by omega), if_neg (show ¬ (116 = 99) by omega), if_neg (show ¬ (116 = 114) by omega), if_pos rfl, e82, m_156 o5 (by omega) (Or.inl (by omega))]
    obtain ⟨s6, a1, a2, a3, a4, a5⟩ := m_280 (Nf := Nf) t5 h5 hF
    unfold fX7_readsOrder_204 fX7_readsOrder_262
    rw [if_neg (show ¬ nI 1 = (0 : Int32) by decide), o5, if_neg (show ¬ nI 116 = (99 : Int32) by decide), if_neg (show ¬ nI 116 = (45 : Int32) by decide), if_pos (show nI 116 = (116 : Int32) from rfl), a1]
    have t6 : TM s6 T len := ⟨t.1, by rw [(FY_tr f5 a3).2 6 (by omega)]; exact t.2.1, fun i hi => ⟨(t.2.2 i hi).1, by rw [(FY_tr f5 a3).1 _ (by omega)]; exact (t.2.2 i hi).2⟩⟩
    obtain ⟨s8, b1, b2, b3⟩ := m_305 (Nf := Nf) t6 a2
    refine ⟨s8, b1, b2, FY_tr (FY_tr f5 a3) (FY_FX b3), by rw [b3.2 14 (by omega) (by omega)]; exact a4.trans o5, fun q hq => ⟨fun z => by omega, fun _ => ?_, fun z => by omega, fun z => by omega⟩⟩
    obtain ⟨q2, y1, y2⟩ := stp_l hq
    rw [b3.2 15 (by omega) (by omega)]
    exact a5 q2 y1
  rw [if_neg (nI_d (by omega) (by omega) c6), if_neg (nI_d (by omega) (by omega) c5), if_neg (nI_d (by omega) (by omega) c3), if_neg (nI_d (by omega) (by omega) c4), if_neg c3, if_neg c4, if_neg c5, if_neg c6, bnd_e, h4.1]
  exact ⟨_, rfl, SM_13, FY_tr f4 (FY_st _ (by omega) _), by rw [st2_nj (by omega)]; exact o4, fun q hq => by cases hq⟩
