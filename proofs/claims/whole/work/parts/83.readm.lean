/-! ===== reading an order: the model's way ===== -/
def TM (τ : cS) (T : Nat → Nat) (len : Nat) : Prop := len ≤ 100 ∧ τ 0 6 = nI len ∧ ∀ i, i < len → T i ≤ 127 ∧ τ 4 i = nI (T i)
def SM (τ : cS) (s : Nat ⊕ Nat) : Prop := match s with
  | .inl p => τ 0 12 = nI p ∧ p ≤ 100
  | .inr e => τ 0 13 = nI e
def FX (τ τ' : cS) : Prop := (∀ c, c ≠ 0 → τ' c = τ c) ∧ ∀ j, j ≠ 12 → j ≠ 13 → τ' 0 j = τ 0 j
theorem FX_rf {τ : cS} : FX τ τ := ⟨fun _ _ => rfl, fun _ _ _ => rfl⟩
theorem FX_tr {τ τ' τ'' : cS} (h : FX τ τ') (h' : FX τ' τ'') : FX τ τ'' := ⟨fun c hc => (h'.1 c hc).trans (h.1 c hc), fun j h1 h2 => (h'.2 j h1 h2).trans (h.2 j h1 h2)⟩
theorem FX_12 (τ : cS) (v : Int32) : FX τ (st2 τ 0 12 v) := ⟨fun c hc => st2_out hc, fun j h1 _ => st2_nj h1⟩
theorem FX_13 (τ : cS) (v : Int32) : FX τ (st2 τ 0 13 v) := ⟨fun c hc => st2_out hc, fun j _ h2 => st2_nj h2⟩
theorem TM_FX {τ τ' : cS} {T : Nat → Nat} {len : Nat} (t : TM τ T len) (f : FX τ τ') : TM τ' T len := ⟨t.1, by rw [f.2 6 (by omega) (by omega)]; exact t.2.1, fun i hi => ⟨(t.2.2 i hi).1, by rw [f.1 _ (by omega)]; exact (t.2.2 i hi).2⟩⟩
theorem TM_st {τ : cS} {T : Nat → Nat} {len j : Nat} (t : TM τ T len) (hj : j ≠ 6) (v : Int32) : TM (st2 τ 0 j v) T len := ⟨t.1, by rw [st2_nj (by omega)]; exact t.2.1, fun i hi => ⟨(t.2.2 i hi).1, by rw [st2_out (by omega)]; exact (t.2.2 i hi).2⟩⟩
theorem SM_st {τ : cS} {s : Nat ⊕ Nat} {j : Nat} (h : SM τ s) (h2 : j ≠ 12) (h3 : j ≠ 13) (v : Int32) : SM (st2 τ 0 j v) s := by
  cases s with
  | inl p => exact ⟨by rw [st2_nj (by omega)]; exact h.1, h.2⟩
  | inr e => exact (st2_nj (by omega)).trans h
theorem TM_T {τ : cS} {T : Nat → Nat} {len : Nat} (t : TM τ T len) : ∀ i, i < len → T i ≤ 127 := fun i hi => (t.2.2 i hi).1
theorem m_here {τ : cS} {T : Nat → Nat} {len p : Nat} (t : TM τ T len) (h : τ 0 12 = nI p) (hp : p ≤ 100) : fX7_here (lMt ()) τ 0 = some (cu T len p) := by
  obtain ⟨t1, t2, t3⟩ := t
  unfold fX7_here fX7_here_0 fX7_here_24 cu
  rw [t2, h]
  by_cases e : p < len
  · rw [if_neg (fun q => absurd ((nI_leI (by omega) (by omega)).mp q) (by omega)), show lMt () (0 + 4) = 100 from rfl, inb_n (by omega) (by omega), grd_t, nI_clamp (by omega), show τ (0 + 4) p = nI (T p) from (t3 p e).2, if_pos e]
  · rw [if_pos ((nI_leI (by omega) (by omega)).mpr (by omega)), if_neg e]
theorem cu_in {T : Nat → Nat} {len p lo hi : Nat} (hT : ∀ i, i < len → T i ≤ 127) (h1 : lo < 1000) (h2 : hi < 1000) : inI (cu T len p) (nI lo) (nI hi) = decide (p < len ∧ lo ≤ T p ∧ T p ≤ hi) := by
  unfold cu inI
  by_cases e : p < len
  · have := hT p e
    rw [if_pos e]
    refine decide_eq_decide.mpr ?_
    rw [lt_n (by omega) (by omega), lt_n (by omega) (by omega)]
    omega
  · rw [if_neg e, decide_eq_false (p := p < len ∧ lo ≤ T p ∧ T p ≤ hi) (fun q => e q.1)]
    refine decide_eq_false (fun q => q.1 ?_)
    rw [Int32.lt_iff_toInt_lt, nI_toInt (by omega)]
    have : (-1 : Int32).toInt = -1 := rfl
    omega
theorem m_takes {τ : cS} {T : Nat → Nat} {len p lo hi : Nat} (t : TM τ T len) (h : SM τ (.inl p)) (h1 : lo < 1000) (h2 : hi < 1000) : ∃ τ', fX7_takes (lMt ()) τ 0 (nI lo) (nI hi) = some (plB (tk T len lo hi p), τ') ∧ SM τ' (tk T len lo hi p) ∧ FX τ τ' := by
  have t1 := t.1
  unfold fX7_takes fX7_takes_0 fX7_takes_26 fX7_takes_43
  rw [m_here t h.1 h.2, Option.bind_some, m_in, cu_in (TM_T t) h1 h2, Option.bind_some]
  unfold tk
  by_cases e : p < len ∧ lo ≤ T p ∧ T p ≤ hi
  · rw [decide_eq_true e, if_pos e, if_neg (show ¬ bI true = (0 : Int32) by decide), bnd_e, if_neg (show ¬ bI true = (0 : Int32) by decide), bI_isb, bnd_e, grd_t, st2_nj (by omega), h.1, n1, nI_add]
    exact ⟨_, rfl, ⟨st2_ss, by omega⟩, FX_tr (FX_13 _ _) (FX_12 _ _)⟩
  · rw [decide_eq_false e, if_neg e, if_pos (show bI false = (0 : Int32) from rfl), bnd_e, if_pos (show bI false = (0 : Int32) from rfl), bI_isb, bnd_e, grd_t, h.1]
    exact ⟨_, rfl, by show st2 _ 0 12 _ 0 13 = _; rw [st2_nj (by omega), st2_ss], FX_tr (FX_13 _ _) (FX_12 _ _)⟩
theorem SM_13 {τ : cS} {e : Nat} : SM (st2 τ 0 13 (nI e)) (.inr e) := st2_ss
theorem SM_keep13 {τ : cS} {p : Nat} {v : Int32} (h : SM τ (.inl p)) : SM (st2 τ 0 13 v) (.inl p) := ⟨by rw [st2_nj (by omega)]; exact h.1, h.2⟩
theorem m_num_loop {T : Nat → Nat} {len m g p0 Nf : Nat} (hm : m ≤ 3) : ∀ (d i n p v : Nat) (τ : cS), i + d = m → d < n → TM τ T len → SM τ (.inl p) → ∃ τ', fX7_number_32 (lMt ()) Nf 0 n (nI m) (nI g) (nI p0) (nI v) (nI i) τ = fX7_number_83 (lMt ()) Nf 0 (nI g) (nI p0) (nI (nml T len d p v).2) τ' ∧ SM τ' (.inl (nml T len d p v).1) ∧ FX τ τ' := by
  intro d
  induction d with
  | zero =>
    intro i n p v τ h1 hn t h
    obtain ⟨n, rfl⟩ : ∃ z, n = z + 1 := ⟨n - 1, by omega⟩
    refine ⟨τ, ?_, h, FX_rf⟩
    unfold fX7_number_32
    rw [if_pos ((nI_leI (by omega) (by omega)).mpr (by omega))]
    rfl
  | succ d ih =>
    intro i n p v τ h1 hn t h
    obtain ⟨n, rfl⟩ : ∃ z, n = z + 1 := ⟨n - 1, by omega⟩
    have t1 := t.1
    rw [nml]
    unfold fX7_number_32
    rw [if_neg (fun q => absurd ((nI_leI (by omega) (by omega)).mp q) (by omega)), m_here t h.1 h.2, Option.bind_some, n48, n57, m_in, cu_in (TM_T t) (by omega) (by omega), Option.bind_some, show decide (p < len ∧ 48 ≤ T p ∧ T p ≤ 57) = dgt T len p from rfl]
    cases e : dgt T len p with
    | false =>
      rw [if_pos (show bI false = (0 : Int32) from rfl), if_neg (by decide)]
      exact ⟨τ, rfl, h, FX_rf⟩
    | true =>
      have e' := of_decide_eq_true e
      rw [if_neg (show ¬ bI true = (0 : Int32) by decide), if_pos rfl, Option.bind_some, h.1]
      unfold cu
      rw [if_pos e'.1, show (10 : Int32) = nI 10 from rfl, nI_mul, nI_add, nI_sub (by omega), n1, nI_add, nI_add, bnd_e, bnd_e, bnd_e, show 10 * v + T p - 48 = v * 10 + T p - 48 by omega]
      obtain ⟨τ', k1, k2, k3⟩ := ih (i + 1) n (p + 1) (v * 10 + T p - 48) (st2 τ 0 12 (nI (p + 1))) (by omega) (by omega) (TM_FX t (FX_12 _ _)) ⟨st2_ss, by omega⟩
      exact ⟨τ', k1, k2, FX_tr (FX_12 _ _) k3⟩
theorem m_num {τ : cS} {T : Nat → Nat} {len m g p Nf : Nat} (t : TM τ T len) (h : SM τ (.inl p)) (hm : m ≤ 3) (hm1 : 1 ≤ m) (hg : g < 1000) (hF : 5000 < Nf) : ∃ r, fX7_number (lMt ()) Nf τ 0 (nI m) (nI g) = some r ∧ SM r.2 (nmb T len m g p) ∧ FX τ r.2 ∧ (∀ q, nmb T len m g p = .inl q → r.1 = nI (nml T len m p 0).2) ∧ ∀ e, nmb T len m g p = .inr e → r.1 = (-1 : Int32) := by
  have t1 := t.1
  have hv : (nml T len m p 0).2 < 1000 := Nat.lt_of_lt_of_le (nml_v m p 0) (by
    have := Nat.pow_le_pow_right (n := 10) (by omega) hm
    omega)
  obtain ⟨τ1, a1, a2, a3⟩ := m_takes (lo := 48) (hi := 57) t h (by omega) (by omega)
  unfold fX7_number fX7_number_0
  rw [bnd_e, h.1, n48, n57, a1, Option.bind_some]
  obtain ⟨m', rfl⟩ : ∃ z, m = z + 1 := ⟨m - 1, by omega⟩
  by_cases e0 : p < len ∧ 48 ≤ T p ∧ T p ≤ 57
  · have hd : dgt T len p = true := decide_eq_true e0
    have en : nml T len (m' + 1) p 0 = nml T len m' (p + 1) (T p - 48) := by
      rw [nml, if_pos hd, show 0 * 10 + T p - 48 = T p - 48 by omega]
    have et : tk T len 48 57 p = .inl (p + 1) := by unfold tk; rw [if_pos e0]
    rw [et] at a2 ⊢
    rw [if_neg (show ¬ plB (.inl (p + 1)) = (0 : Int32) by show ¬ nI 1 = (0 : Int32); decide), show lMt () (0 + 4) = 100 from rfl, inb_n (by omega) (by omega), grd_t, nI_clamp (by omega)]
    show ∃ r, bnd (τ1 (0 + 4) p - nI 48) _ = some r ∧ _
    rw [show τ1 (0 + 4) p = nI (T p) from by rw [a3.1 4 (by omega)]; exact (t.2.2 p e0.1).2, nI_sub (by omega), bnd_e, n1]
    obtain ⟨τ2, k1, k2, k3⟩ := m_num_loop (g := g) (p0 := p) (Nf := Nf) (m := m' + 1) hm m' 1 Nf (p + 1) (T p - 48) τ1 (by omega) (by omega) (TM_FX t a3) a2
    have hp := nml_p (T := T) (len := len) m' (p + 1) (T p - 48) (by omega)
    rw [en] at hv
    have f2 := FX_tr a3 k3
    rw [k1]
    unfold nmb fX7_number_83
    rw [en]
    show ∃ r, Option.bind (fX7_here (lMt ()) τ2 0) _ = some r ∧ _
    rw [m_here (TM_FX t f2) k2.1 k2.2, Option.bind_some, n48, n57, m_in, cu_in (TM_T t) (by omega) (by omega), Option.bind_some, show decide ((nml T len m' (p + 1) (T p - 48)).1 < len ∧ 48 ≤ T (nml T len m' (p + 1) (T p - 48)).1 ∧ T (nml T len m' (p + 1) (T p - 48)).1 ≤ 57) = dgt T len (nml T len m' (p + 1) (T p - 48)).1 from rfl]
    cases e2 : dgt T len (nml T len m' (p + 1) (T p - 48)).1 with
    | true =>
      rw [if_neg (show ¬ bI true = (0 : Int32) by decide), if_pos (Or.inr rfl), bnd_e, k2.1]
      exact ⟨_, rfl, SM_13, FX_tr f2 (FX_13 _ _), fun q z => (by cases z), fun _ _ => rfl⟩
    | false =>
      have e3 : ¬ ((nml T len m' (p + 1) (T p - 48)).1 = p ∨ false = true) := by
        rintro (q | q)
        · omega
        · cases q
      rw [if_pos (show bI false = (0 : Int32) from rfl), if_neg e3]
      unfold fX7_number_122 fX7_number_137
      rw [bnd_e, bnd_e]
      by_cases e4 : g < (nml T len m' (p + 1) (T p - 48)).2
      · rw [if_neg (fun q => absurd ((nI_leI (by omega) (by omega)).mp q) (by omega)), if_neg (fun q => absurd ((nI_leI (by omega) (by omega)).mp q) (by omega)), if_pos e4]
        exact ⟨_, rfl, SM_13, FX_tr f2 (FX_13 _ _), fun q z => (by cases z), fun _ _ => rfl⟩
      · rw [if_pos ((nI_leI (by omega) (by omega)).mpr (by omega)), if_pos ((nI_leI (by omega) (by omega)).mpr (by omega)), if_neg e4]
        exact ⟨_, rfl, SM_keep13 k2, FX_tr f2 (FX_13 _ _), fun _ _ => rfl, fun e z => by cases z⟩
  · have hd : dgt T len p = false := decide_eq_false e0
    have en : nml T len (m' + 1) p 0 = (p, 0) := by rw [nml, if_neg (by rw [hd]; decide)]
    have et : tk T len 48 57 p = .inr p := by unfold tk; rw [if_neg e0]
    rw [et] at a2 ⊢
    rw [if_pos (show plB (.inr p) = (0 : Int32) from rfl)]
    unfold nmb
    rw [en, if_pos (Or.inl rfl)]
    exact ⟨_, rfl, a2, a3, fun q z => (by cases z), fun _ _ => rfl⟩
theorem m_305 {τ : cS} {T : Nat → Nat} {len Nf : Nat} {s : Nat ⊕ Nat} (t : TM τ T len) (h : SM τ s) : ∃ τ', fX7_readsOrder_305 (lMt ()) Nf 0 (plB s) τ = some (plB (stp s (tk T len 59 59)), τ') ∧ SM τ' (stp s (tk T len 59 59)) ∧ FX τ τ' := by
  unfold fX7_readsOrder_305 fX7_readsOrder_324 fX7_readsOrder_325
  cases s with
  | inl p =>
    obtain ⟨τ', k1, k2, k3⟩ := m_takes (lo := 59) (hi := 59) t h (by omega) (by omega)
    rw [if_neg (show ¬ plB (.inl p) = (0 : Int32) by show ¬ nI 1 = (0 : Int32); decide), show (59 : Int32) = nI 59 from rfl, k1, Option.bind_some]
    refine ⟨τ', ?_, k2, k3⟩
    show _ = some (plB (tk T len 59 59 p), τ')
    cases e : tk T len 59 59 p with
    | inl q => rfl
    | inr q => rfl
  | inr e =>
    rw [if_pos (show plB (.inr e) = (0 : Int32) from rfl)]
    exact ⟨τ, rfl, h, FX_rf⟩
