/-! ===== reading an order: numbers and the whole order, by the class ===== -/
theorem c_num_loop {T : Nat → Nat} {len m g p0 Nf : Nat} (hm : m ≤ 3) : ∀ (d i n p v : Nat) (σ : cS), i + d = m → d < n → TC σ T len → SC σ (.inl p) → ∃ σ', fX2_readNumber_11 (lCt ()) Nf 102 n (nI m) (nI g) (nI p0) (nI v) (nI i) σ = fX2_readNumber_63 (lCt ()) Nf 102 (nI g) (nI p0) (nI (nml T len d p v).2) σ' ∧ SC σ' (.inl (nml T len d p v).1) ∧ FF σ σ' := by
  intro d
  induction d with
  | zero =>
    intro i n p v σ h1 hn t h
    obtain ⟨n, rfl⟩ : ∃ z, n = z + 1 := ⟨n - 1, by omega⟩
    refine ⟨σ, ?_, h, FF_rf⟩
    unfold fX2_readNumber_11
    rw [if_pos ((nI_leI (by omega) (by omega)).mpr (by omega))]
    rfl
  | succ d ih =>
    intro i n p v σ h1 hn t h
    obtain ⟨n, rfl⟩ : ∃ z, n = z + 1 := ⟨n - 1, by omega⟩
    have h' := h
    obtain ⟨g1, g2, g3⟩ := h'
    have t1 := t.1
    rw [nml]
    unfold fX2_readNumber_11
    rw [if_neg (fun q => absurd ((nI_leI (by omega) (by omega)).mp q) (by omega)), if_pos g2, c_dig t g1 g3, Option.bind_some]
    cases e : dgt T len p with
    | false =>
      rw [if_pos (show bI false = (0 : Int32) from rfl), if_neg (by decide)]
      exact ⟨σ, rfl, h, FF_rf⟩
    | true =>
      have e' := of_decide_eq_true e
      rw [if_neg (show ¬ bI true = (0 : Int32) by decide), if_pos rfl, c_cur t g1 g3, Option.bind_some, bnd_e, g1]
      unfold cu
      rw [if_pos e'.1, show (10 : Int32) = nI 10 from rfl, nI_mul, nI_add, n48, nI_sub (by omega), n1, nI_add, nI_add, bnd_e, bnd_e]
      obtain ⟨σ', k1, k2, k3⟩ := ih (i + 1) n (p + 1) (v * 10 + T p - 48) (st2 σ 102 2 (nI (p + 1))) (by omega) (by omega) (TC_FF t (FF_2 _ _)) (SC_go h (by omega))
      exact ⟨σ', k1, k2, FF_tr (FF_2 _ _) k3⟩
theorem c_numR {σ : cS} {T : Nat → Nat} {len m g Nf : Nat} {s : Nat ⊕ Nat} (t : TC σ T len) (h : SC σ s) (hm : m ≤ 3) (hm1 : 1 ≤ m) (hg : g < 1000) (hF : 5000 < Nf) : ∃ r, fX2_readNumber (lCt ()) Nf σ 102 (nI m) (nI g) = some r ∧ SC r.2 (stp s (nmb T len m g)) ∧ FF σ r.2 ∧ ∀ p q, s = .inl p → nmb T len m g p = .inl q → r.1 = nI (nml T len m p 0).2 := by
  have t1 := t.1
  unfold fX2_readNumber fX2_readNumber_0
  cases s with
  | inl p =>
    have h' := h
    obtain ⟨h1, h2, h3⟩ := h'
    have hv : (nml T len m p 0).2 < 1000 := Nat.lt_of_lt_of_le (nml_v m p 0) (by
      have := Nat.pow_le_pow_right (n := 10) (by omega) hm
      omega)
    rw [bnd_e, h1, n0]
    obtain ⟨σ', k1, k2, k3⟩ := c_num_loop (g := g) (p0 := p) (Nf := Nf) hm m 0 Nf p 0 σ (by omega) (by omega) t h
    rw [k1]
    have k2' := k2
    obtain ⟨j1, j2, j3⟩ := k2'
    show ∃ r : Int32 × cS, _ ∧ SC r.2 (nmb T len m g p) ∧ _
    unfold fX2_readNumber_63 fX2_readNumber_78 fX2_readNumber_100
    rw [c_note_g j2, j1, c_dig (TC_FF t k3) j1 j3, Option.bind_some, Option.bind_some, c_note_g j2, Option.bind_some]
    have no : ((nml T len m p 0).1 = p ∨ dgt T len (nml T len m p 0).1 = true) → SC (st2 σ' 102 3 (nI (nml T len m p 0).1)) (nmb T len m g p) ∧ FF σ (st2 σ' 102 3 (nI (nml T len m p 0).1)) ∧ ∀ p_1 q, (Sum.inl p : Nat ⊕ Nat) = .inl p_1 → nmb T len m g p_1 = .inl q → nI (nml T len m p 0).2 = nI (nml T len m p_1 0).2 := fun e => by
      refine ⟨?_, FF_tr k3 (FF_3 _ _), fun p1 q z z2 => ?_⟩
      · unfold nmb; rw [if_pos e]; exact SC_note k2 j3
      · cases z; rfl
    by_cases e1 : (nml T len m p 0).1 = p
    · rw [if_pos (by rw [e1])]
      exact ⟨_, rfl, no (Or.inl e1)⟩
    · rw [if_neg (fun q => e1 ((nI_eq (by omega) (by omega)).mp q))]
      cases e2 : dgt T len (nml T len m p 0).1 with
      | true =>
        rw [if_neg (show ¬ bI true = (0 : Int32) by decide)]
        exact ⟨_, rfl, no (Or.inr e2)⟩
      | false =>
        rw [if_pos (show bI false = (0 : Int32) from rfl)]
        have e3 : ¬ ((nml T len m p 0).1 = p ∨ dgt T len (nml T len m p 0).1 = true) := by
          rw [e2]; rintro (q | q)
          · exact e1 q
          · cases q
        by_cases e4 : g < (nml T len m p 0).2
        · rw [if_neg (fun q => absurd ((nI_leI (by omega) (by omega)).mp q) (by omega))]
          refine ⟨_, rfl, ?_, FF_tr k3 (FF_3 _ _), fun p1 q z z2 => ?_⟩
          · unfold nmb; rw [if_neg e3, if_pos e4]; exact SC_note k2 h3
          · cases z; rfl
        · rw [if_pos ((nI_leI (by omega) (by omega)).mpr (by omega))]
          refine ⟨_, rfl, ?_, k3, fun p1 q z z2 => ?_⟩
          · unfold nmb; rw [if_neg e3, if_neg e4]; exact k2
          · cases z; rfl
  | inr e =>
    have h' := h
    obtain ⟨h1, h2, q, h3, h4⟩ := h'
    obtain ⟨n, hn⟩ : ∃ z, Nf = z + 1 := ⟨Nf - 1, by omega⟩
    have z : ∀ M n, fX2_readNumber_11 (lCt ()) M 102 (n + 1) (nI m) (nI g) (nI q) (0 : Int32) (0 : Int32) σ = some (0, σ) := fun M n => by
      unfold fX2_readNumber_11
      rw [n0, if_neg (fun q => absurd ((nI_leI (by omega) (by omega)).mp q) (by omega)), if_neg (by rw [h2]; exact nI_ne1 (by omega))]
      unfold fX2_readNumber_63 fX2_readNumber_78 fX2_readNumber_100
      rw [if_pos h4, c_note_w h2 h1]
      rfl
    have z2 := z Nf (Nf - 1)
    rw [show Nf - 1 + 1 = Nf by omega] at z2
    rw [bnd_e, h4, z2]
    exact ⟨_, rfl, h, FF_rf, fun p q z => by cases z⟩
theorem c_ro200 {σ : cS} {T : Nat → Nat} {len Nf : Nat} {s : Nat ⊕ Nat} (t : TC σ T len) (h : SC σ s) : ∃ σ', fX2_readOrder_200 (lCt ()) Nf 102 σ = some (plB (stp s (tk T len 59 59)), σ') ∧ SC σ' (stp s (tk T len 59 59)) ∧ FF σ σ' := by
  obtain ⟨σ', k1, k2, k3⟩ := c_sign (c := 59) t h (by omega)
  refine ⟨σ', ?_, k2, k3⟩
  unfold fX2_readOrder_200 fX2_readOrder_219
  rw [show (59 : Int32) = nI 59 from rfl, k1, Option.bind_some]
  cases e : stp s (tk T len 59 59) with
  | inl p =>
    rw [e] at k2
    rw [if_pos k2.2.1]; rfl
  | inr p =>
    rw [e] at k2
    rw [if_neg (by rw [k2.2.1]; exact nI_ne1 (by have := k2.1; omega))]; rfl
def CV (σ : cS) (T : Nat → Nat) (len p : Nat) : Prop := (T p = 43 → σ 102 5 = nI (T (p + 1) - 97) ∧ σ 102 6 = nI (T (p + 2) - 97)) ∧ ((T p = 45 ∨ T p = 116) → σ 102 7 = nI (nml T len 3 (p + 1) 0).2) ∧ (T p = 99 → σ 102 5 = nI (T (p + 1) - 97) ∧ σ 102 7 = nI (nml T len 2 (p + 3) 0).2) ∧ (T p = 114 → σ 102 5 = nI (T (p + 1) - 97))
def FT (σ σ' : cS) : Prop := (∀ c, c ≠ 102 → σ' c = σ c) ∧ σ' 102 1 = σ 102 1
theorem FT_FF {σ σ' : cS} (h : FF σ σ') : FT σ σ' := ⟨h.1, h.2 1 (by omega) (by omega)⟩
theorem FT_st (σ : cS) {j : Nat} (hj : j ≠ 1) (v : Int32) : FT σ (st2 σ 102 j v) := ⟨fun c hc => st2_out hc, st2_nj (by omega)⟩
theorem FT_tr {σ σ' σ'' : cS} (h : FT σ σ') (h' : FT σ' σ'') : FT σ σ'' := ⟨fun c hc => (h'.1 c hc).trans (h.1 c hc), h'.2.trans h.2⟩
/-- the order's first byte is taken -/
theorem c_first {σ : cS} {T : Nat → Nat} {len p c : Nat} (t : TC σ T len) (h : SC σ (.inl p)) (hp : p < len) (hc : T p = c) : ∃ σ', fX2_readSign (lCt ()) (st2 σ 102 4 (nI c)) 102 (nI c) = some σ' ∧ SC σ' (.inl (p + 1)) ∧ FF (st2 σ 102 4 (nI c)) σ' := by
  have hT := TC_T t p hp
  obtain ⟨s3, e3, S3, F3⟩ := c_sign (c := c) (TC_st t (show 4 ≠ 1 by omega) (nI c)) (SC_st h (show 4 ≠ 2 by omega) (by omega) (nI c)) (by omega)
  refine ⟨s3, e3, ?_, F3⟩
  have e : stp (.inl p) (tk T len c c) = .inl (p + 1) := by
    show tk T len c c p = _
    unfold tk
    rw [if_pos ⟨hp, by omega, by omega⟩]
  rw [e] at S3
  exact S3
theorem c_readO {σ : cS} {T : Nat → Nat} {len p Nf : Nat} (t : TC σ T len) (h : SC σ (.inl p)) (hp : p < len) (hF : 5000 < Nf) : ∃ σ', fX2_readOrder (lCt ()) Nf σ 102 = some (plB (oS T len p), σ') ∧ SC σ' (oS T len p) ∧ FT σ σ' ∧ σ' 102 4 = nI (T p) ∧ ∀ q, oS T len p = .inl q → CV σ' T len p := by
  have t1 := t.1
  have hT := TC_T t p hp
  have hcu : cu T len p = nI (T p) := by unfold cu; rw [if_pos hp]
  have ne : ∀ a b, a < 1000 → b < 1000 → a ≠ b → ¬ nI a = nI b := fun a b ha hb hab q => hab ((nI_eq (by omega) (by omega)).mp q)
  unfold fX2_readOrder fX2_readOrder_0
  rw [h.1, t.2.1, if_pos ((nI_ltI (by omega) (by omega)).mpr hp), c_cur t h.1 h.2.2, Option.bind_some, hcu, bnd_e, st2_ss, show (43 : Int32) = nI 43 from rfl, show (45 : Int32) = nI 45 from rfl, show (98 : Int32) = nI 98 from rfl, show (99 : Int32) = nI 99 from rfl, show (114 : Int32) = nI 114 from rfl, show (116 : Int32) = nI 116 from rfl]
  unfold oS
  by_cases c1 : T p = 43
  · obtain ⟨s3, e3, S3, F3⟩ := c_first t h hp c1
    have t3 := TC_FF (TC_st t (show 4 ≠ 1 by omega) (nI 43)) F3
    obtain ⟨r4, e4, S4, F4, v4⟩ := c_nodeR t3 S3
    have t4 := TC_FF t3 F4
    obtain ⟨r6, e6, S6, F6, v6⟩ := c_nodeR (TC_st t4 (show 5 ≠ 1 by omega) r4.1) (SC_st S4 (show 5 ≠ 2 by omega) (by omega) r4.1)
    have t6 := TC_FF (TC_st t4 (show 5 ≠ 1 by omega) r4.1) F6
    obtain ⟨s8, e8, S8, F8⟩ := c_ro200 (Nf := Nf) (TC_st t6 (show 6 ≠ 1 by omega) r6.1) (SC_st S6 (show 6 ≠ 2 by omega) (by omega) r6.1)
    rw [c1, if_pos rfl, if_pos rfl, e3, Option.bind_some, e4, Option.bind_some, bnd_e, e6, Option.bind_some, bnd_e]
    refine ⟨s8, e8, S8, ?_, ?_, fun q hq => ⟨fun _ => ⟨?_, ?_⟩, fun z => by omega, fun z => by omega, fun z => by omega⟩⟩
    · exact FT_tr (FT_tr (FT_tr (FT_tr (FT_tr (FT_tr (FT_st σ (by omega) _) (FT_FF F3)) (FT_FF F4)) (FT_st _ (by omega) _)) (FT_FF F6)) (FT_st _ (by omega) _)) (FT_FF F8)
    · rw [F8.2 4 (by omega) (by omega), st2_nj (by omega), F6.2 4 (by omega) (by omega), st2_nj (by omega), F4.2 4 (by omega) (by omega), F3.2 4 (by omega) (by omega), st2_ss]
    · obtain ⟨q2, y1, y2⟩ := stp_l hq
      obtain ⟨q1, y3, y4⟩ := stp_l y1
      rw [F8.2 5 (by omega) (by omega), st2_nj (by omega), F6.2 5 (by omega) (by omega), st2_ss]
      exact v4 (p + 1) q1 rfl y3
    · obtain ⟨q2, y1, y2⟩ := stp_l hq
      obtain ⟨q1, y3, y4⟩ := stp_l y1
      rw [F8.2 6 (by omega) (by omega), st2_ss]
      have := v6 q1 q2 y3 y4
      rw [(tk_l y3).1] at this
      exact this
  rw [if_neg (ne _ _ (by omega) (by omega) c1), if_neg c1]
  by_cases c2 : T p = 45
  · obtain ⟨s3, e3, S3, F3⟩ := c_first t h hp c2
    have t3 := TC_FF (TC_st t (show 4 ≠ 1 by omega) (nI 45)) F3
    obtain ⟨r4, e4, S4, F4, v4⟩ := c_numR (m := 3) (g := 999) (Nf := Nf) t3 S3 (by omega) (by omega) (by omega) hF
    have t4 := TC_FF t3 F4
    obtain ⟨s8, e8, S8, F8⟩ := c_ro200 (Nf := Nf) (TC_st t4 (show 7 ≠ 1 by omega) r4.1) (SC_st S4 (show 7 ≠ 2 by omega) (by omega) r4.1)
    rw [c2, if_pos rfl, if_pos rfl, e3, Option.bind_some, show (3 : Int32) = nI 3 from rfl, show (999 : Int32) = nI 999 from rfl, e4, Option.bind_some, bnd_e]
    refine ⟨s8, e8, S8, ?_, ?_, fun q hq => ⟨fun z => by omega, fun _ => ?_, fun z => by omega, fun z => by omega⟩⟩
    · exact FT_tr (FT_tr (FT_tr (FT_tr (FT_st σ (by omega) _) (FT_FF F3)) (FT_FF F4)) (FT_st _ (by omega) _)) (FT_FF F8)
    · rw [F8.2 4 (by omega) (by omega), st2_nj (by omega), F4.2 4 (by omega) (by omega), F3.2 4 (by omega) (by omega), st2_ss]
    · obtain ⟨q2, y1, y2⟩ := stp_l hq
      rw [F8.2 7 (by omega) (by omega), st2_ss]
      exact v4 (p + 1) q2 rfl y1
  rw [if_neg (ne _ _ (by omega) (by omega) c2), if_neg c2]
  by_cases c3 : T p = 98
  · obtain ⟨s3, e3, S3, F3⟩ := c_first t h hp c3
    have t3 := TC_FF (TC_st t (show 4 ≠ 1 by omega) (nI 98)) F3
    obtain ⟨s8, e8, S8, F8⟩ := c_ro200 (Nf := Nf) t3 S3
    rw [c3, if_pos rfl, if_pos rfl, e3, Option.bind_some]
    refine ⟨s8, e8, S8, ?_, ?_, fun q hq => ⟨fun z => by omega, fun z => by omega, fun z => by omega, fun z => by omega⟩⟩
    · exact FT_tr (FT_tr (FT_st σ (by omega) _) (FT_FF F3)) (FT_FF F8)
    · rw [F8.2 4 (by omega) (by omega), F3.2 4 (by omega) (by omega), st2_ss]
  rw [if_neg (ne _ _ (by omega) (by omega) c3), if_neg c3]
  by_cases c4 : T p = 99
  · obtain ⟨s3, e3, S3, F3⟩ := c_first t h hp c4
    have t3 := TC_FF (TC_st t (show 4 ≠ 1 by omega) (nI 99)) F3
    obtain ⟨r4, e4, S4, F4, v4⟩ := c_nodeR t3 S3
    have t4 := TC_FF t3 F4
    obtain ⟨s5, e5, S5, F5⟩ := c_sign (c := 61) (TC_st t4 (show 5 ≠ 1 by omega) r4.1) (SC_st S4 (show 5 ≠ 2 by omega) (by omega) r4.1) (by omega)
    have t5 := TC_FF (TC_st t4 (show 5 ≠ 1 by omega) r4.1) F5
    obtain ⟨r6, e6, S6, F6, v6⟩ := c_numR (m := 2) (g := 40) (Nf := Nf) t5 S5 (by omega) (by omega) (by omega) hF
    have t6 := TC_FF t5 F6
    obtain ⟨s8, e8, S8, F8⟩ := c_ro200 (Nf := Nf) (TC_st t6 (show 7 ≠ 1 by omega) r6.1) (SC_st S6 (show 7 ≠ 2 by omega) (by omega) r6.1)
    rw [c4, if_pos rfl, if_pos rfl, e3, Option.bind_some, e4, Option.bind_some, bnd_e, show (61 : Int32) = nI 61 from rfl, e5, Option.bind_some, show (2 : Int32) = nI 2 from rfl, show (40 : Int32) = nI 40 from rfl, e6, Option.bind_some, bnd_e]
    refine ⟨s8, e8, S8, ?_, ?_, fun q hq => ⟨fun z => by omega, fun z => by omega, fun _ => ⟨?_, ?_⟩, fun z => by omega⟩⟩
    · exact FT_tr (FT_tr (FT_tr (FT_tr (FT_tr (FT_tr (FT_tr (FT_st σ (by omega) _) (FT_FF F3)) (FT_FF F4)) (FT_st _ (by omega) _)) (FT_FF F5)) (FT_FF F6)) (FT_st _ (by omega) _)) (FT_FF F8)
    · rw [F8.2 4 (by omega) (by omega), st2_nj (by omega), F6.2 4 (by omega) (by omega), F5.2 4 (by omega) (by omega), st2_nj (by omega), F4.2 4 (by omega) (by omega), F3.2 4 (by omega) (by omega), st2_ss]
    · obtain ⟨q3, y1, y2⟩ := stp_l hq
      obtain ⟨q2, y3, y4⟩ := stp_l y1
      obtain ⟨q1, y5, y6⟩ := stp_l y3
      rw [F8.2 5 (by omega) (by omega), st2_nj (by omega), F6.2 5 (by omega) (by omega), F5.2 5 (by omega) (by omega), st2_ss]
      exact v4 (p + 1) q1 rfl y5
    · obtain ⟨q3, y1, y2⟩ := stp_l hq
      obtain ⟨q2, y3, y4⟩ := stp_l y1
      obtain ⟨q1, y5, y6⟩ := stp_l y3
      rw [F8.2 7 (by omega) (by omega), st2_ss]
      have := v6 q2 q3 y3 y4
      rw [(tk_l y6).1, (tk_l y5).1] at this
      exact this
  rw [if_neg (ne _ _ (by omega) (by omega) c4), if_neg c4]
  by_cases c5 : T p = 114
  · obtain ⟨s3, e3, S3, F3⟩ := c_first t h hp c5
    have t3 := TC_FF (TC_st t (show 4 ≠ 1 by omega) (nI 114)) F3
    obtain ⟨r4, e4, S4, F4, v4⟩ := c_nodeR t3 S3
    have t4 := TC_FF t3 F4
    obtain ⟨s8, e8, S8, F8⟩ := c_ro200 (Nf := Nf) (TC_st t4 (show 5 ≠ 1 by omega) r4.1) (SC_st S4 (show 5 ≠ 2 by omega) (by omega) r4.1)
    rw [c5, if_pos rfl, if_pos rfl, e3, Option.bind_some, e4, Option.bind_some, bnd_e]
    refine ⟨s8, e8, S8, ?_, ?_, fun q hq => ⟨fun z => by omega, fun z => by omega, fun z => by omega, fun _ => ?_⟩⟩
    · exact FT_tr (FT_tr (FT_tr (FT_tr (FT_st σ (by omega) _) (FT_FF F3)) (FT_FF F4)) (FT_st _ (by omega) _)) (FT_FF F8)
    · rw [F8.2 4 (by omega) (by omega), st2_nj (by omega), F4.2 4 (by omega) (by omega), F3.2 4 (by omega) (by omega), st2_ss]
    · obtain ⟨q2, y1, y2⟩ := stp_l hq
      rw [F8.2 5 (by omega) (by omega), st2_ss]
      exact v4 (p + 1) q2 rfl y1
  rw [if_neg (ne _ _ (by omega) (by omega) c5), if_neg c5]
  by_cases c6 : T p = 116
  · obtain ⟨s3, e3, S3, F3⟩ := c_first t h hp c6
    have t3 := TC_FF (TC_st t (show 4 ≠ 1 by omega) (nI 116)) F3
    obtain ⟨r4, e4, S4, F4, v4⟩ := c_numR (m := 3) (g := 999) (Nf := Nf) t3 S3 (by omega) (by omega) (by omega) hF
    have t4 := TC_FF t3 F4
    obtain ⟨s8, e8, S8, F8⟩ := c_ro200 (Nf := Nf) (TC_st t4 (show 7 ≠ 1 by omega) r4.1) (SC_st S4 (show 7 ≠ 2 by omega) (by omega) r4.1)
    rw [c6, if_pos rfl, if_pos rfl, e3, Option.bind_some, show (3 : Int32) = nI 3 from rfl, show (999 : Int32) = nI 999 from rfl, e4, Option.bind_some, bnd_e]
    refine ⟨s8, e8, S8, ?_, ?_, fun q hq => ⟨fun z => by omega, fun _ => ?_, fun z => by omega, fun z => by omega⟩⟩
    · exact FT_tr (FT_tr (FT_tr (FT_tr (FT_st σ (by omega) _) (FT_FF F3)) (FT_FF F4)) (FT_st _ (by omega) _)) (FT_FF F8)
    · rw [F8.2 4 (by omega) (by omega), st2_nj (by omega), F4.2 4 (by omega) (by omega), F3.2 4 (by omega) (by omega), st2_ss]
    · obtain ⟨q2, y1, y2⟩ := stp_l hq
      rw [F8.2 7 (by omega) (by omega), st2_ss]
      exact v4 (p + 1) q2 rfl y1
  rw [if_neg (ne _ _ (by omega) (by omega) c6), if_neg c6]
  have h2 := SC_st h (show 4 ≠ 2 by omega) (by omega) (nI (T p))
  obtain ⟨s8, e8, S8, F8⟩ := c_ro200 (s := .inr p) (Nf := Nf) (TC_FF (TC_st t (show 4 ≠ 1 by omega) (nI (T p))) (FF_3 _ (nI p))) (SC_note h2 h.2.2)
  rw [c_note_g h2.2.1, st2_nj (by omega), h.1, Option.bind_some]
  refine ⟨s8, e8, S8, FT_tr (FT_tr (FT_st σ (by omega) _) (FT_FF (FF_3 _ _))) (FT_FF F8), ?_, fun q hq => by cases hq⟩
  rw [F8.2 4 (by omega) (by omega), st2_nj (by omega), st2_ss]
