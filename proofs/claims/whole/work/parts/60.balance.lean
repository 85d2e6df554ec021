/-! ===== evening out: the model's rounds; balance answered alike ===== -/
def FQ (τ τ' : cS) : Prop := (∀ c, c ≠ 0 → c ≠ 1 → c ≠ 5 → c ≠ 6 → τ' c = τ c) ∧ ∀ j, j ≠ 10 → j ≠ 11 → τ' 0 j = τ 0 j
theorem FQ_rf {τ : cS} : FQ τ τ := ⟨fun _ _ _ _ _ => rfl, fun _ _ _ => rfl⟩
theorem FQ_tr {τ τ' τ'' : cS} (h : FQ τ τ') (h' : FQ τ' τ'') : FQ τ τ'' := ⟨fun c h1 h2 h3 h4 => (h'.1 c h1 h2 h3 h4).trans (h.1 c h1 h2 h3 h4), fun j h1 h2 => (h'.2 j h1 h2).trans (h.2 j h1 h2)⟩
theorem m_round {A : Nat → Nat} {B Nf c : Nat} (self4 : Int32 → Int32 → cS → Option (Int32 × cS)) (w : WF A B) (hf : 100 < Nf) : ∀ (d i n : Nat) (τ : cS), i + d = A 0 → d + 1 < n → MR τ A → match fnd (rdP A) i d with
    | none => ∃ τ', fX7_balances_18 (lMt ()) Nf 0 self4 n (nI c) (nI 0) (nI (mx (ld A) (A 0))) (nI i) τ = self4 (nI c) (nI 0) τ' ∧ MR τ' A ∧ FQ τ τ'
    | some s => ∃ τ', fX7_balances_18 (lMt ()) Nf 0 self4 n (nI c) (nI 0) (nI (mx (ld A) (A 0))) (nI i) τ = self4 (nI (c + 1)) (nI 1) τ' ∧ MR τ' (rlA A s) ∧ FQ τ τ' := by
  have w2 := w.2.1
  have hM := mxld_le w
  have ex : ∀ (τ : cS) (C : Nat → Nat), MR τ C → τ (0 + 1) (0 : Int32).toNatClampNeg = nI (C 0) := fun τ C h => h 0 (by omega)
  have ib : inb (0 : Int32) (lMt () (0 + 1)) = true := rfl
  intro d
  induction d with
  | zero =>
    intro i n τ h1 hn hm
    obtain ⟨n, rfl⟩ : ∃ z, n = z + 1 := ⟨n - 1, by omega⟩
    refine ⟨τ, ?_, hm, FQ_rf⟩
    unfold fX7_balances_18
    rw [ib, grd_t, ex τ A hm, if_pos ((nI_leI (by omega) (by omega)).mpr (by omega))]
    unfold fX7_balances_64
    rw [if_pos (show nI 0 = 0 from rfl)]
    unfold fX7_balances_74
    rw [n0, nI_add, bnd_e]
    rfl
  | succ d ih =>
    intro i n τ h1 hn hm
    obtain ⟨n, rfl⟩ : ∃ z, n = z + 1 := ⟨n - 1, by omega⟩
    have hi : i < A 0 := by omega
    have hl := ld_le w i
    have e0 : fX7_balances_18 (lMt ()) Nf 0 self4 (n + 1) (nI c) (nI 0) (nI (mx (ld A) (A 0))) (nI i) τ = if nI (ld A i) = nI (mx (ld A) (A 0)) then (Option.bind (fX7_relieves (lMt ()) Nf τ 0 (nI i)) (fun r2 => if r2.1 ≤ 0 then (fX7_balances_56 (lMt ()) Nf 0 self4 (fX7_balances_18 (lMt ()) Nf 0 self4 n) (nI c) (nI (mx (ld A) (A 0))) (nI i) r2.2) else (fX7_balances_57 (lMt ()) Nf 0 self4 (fX7_balances_18 (lMt ()) Nf 0 self4 n) (nI c) (nI (mx (ld A) (A 0))) (nI i) (1 : Int32) r2.2))) else (fX7_balances_56 (lMt ()) Nf 0 self4 (fX7_balances_18 (lMt ()) Nf 0 self4 n) (nI c) (nI (mx (ld A) (A 0))) (nI i) τ) := by
      conv => lhs; unfold fX7_balances_18
      rw [ib, grd_t, ex τ A hm, if_neg (fun q => absurd ((nI_leI (by omega) (by omega)).mp q) (by omega)), if_pos (show nI 0 = 0 from rfl), m_load hm w (by omega) (by omega), Option.bind_some]
    have e1 : ∀ τ1, fX7_balances_56 (lMt ()) Nf 0 self4 (fX7_balances_18 (lMt ()) Nf 0 self4 n) (nI c) (nI (mx (ld A) (A 0))) (nI i) τ1 = fX7_balances_18 (lMt ()) Nf 0 self4 n (nI c) (nI 0) (nI (mx (ld A) (A 0))) (nI (i + 1)) τ1 := fun τ1 => by
      unfold fX7_balances_56 fX7_balances_57
      rw [n1, nI_add, bnd_e]
      rfl
    have go : ∀ τ1, MR τ1 A → FQ τ τ1 → fX7_balances_18 (lMt ()) Nf 0 self4 (n + 1) (nI c) (nI 0) (nI (mx (ld A) (A 0))) (nI i) τ = fX7_balances_18 (lMt ()) Nf 0 self4 n (nI c) (nI 0) (nI (mx (ld A) (A 0))) (nI (i + 1)) τ1 → rdP A i = false → match fnd (rdP A) i (d + 1) with
        | none => ∃ τ', fX7_balances_18 (lMt ()) Nf 0 self4 (n + 1) (nI c) (nI 0) (nI (mx (ld A) (A 0))) (nI i) τ = self4 (nI c) (nI 0) τ' ∧ MR τ' A ∧ FQ τ τ'
        | some s => ∃ τ', fX7_balances_18 (lMt ()) Nf 0 self4 (n + 1) (nI c) (nI 0) (nI (mx (ld A) (A 0))) (nI i) τ = self4 (nI (c + 1)) (nI 1) τ' ∧ MR τ' (rlA A s) ∧ FQ τ τ' := by
      intro τ1 hm1 hb h er
      have h2 := ih (i + 1) n τ1 (by omega) (by omega) hm1
      simp only [fnd]
      rw [if_neg (by rw [er]; decide)]
      cases e : fnd (rdP A) (i + 1) d with
      | none =>
        rw [e] at h2
        obtain ⟨τ', a1, a2, a3⟩ := h2
        exact ⟨τ', h.trans a1, a2, FQ_tr hb a3⟩
      | some s =>
        rw [e] at h2
        obtain ⟨τ', a1, a2, a3⟩ := h2
        exact ⟨τ', h.trans a1, a2, FQ_tr hb a3⟩
    by_cases e2 : ld A i = mx (ld A) (A 0)
    · rw [if_pos (congrArg nI e2)] at e0
      obtain ⟨τ1, y1, y2, y3⟩ := m_relieves (Nf := Nf) hm w hi hf
      rw [y1, Option.bind_some] at e0
      cases e3 : rel A i with
      | none =>
        rw [e3] at y2 e0
        simp only [] at e0 y2
        rw [if_pos (show nI 0 ≤ 0 by decide), e1] at e0
        exact go τ1 y2 y3 e0 (by unfold rdP; rw [e3]; simp)
      | some j =>
        obtain ⟨p1, p2⟩ := rel_pos w hi e3
        have ht : rdP A i = true := by unfold rdP; rw [e3, decide_eq_true e2]; rfl
        obtain ⟨u1, u2, u3, u4⟩ := rlA_falls w hi ht
        have hr2 : rlA A i = relA A i j := by unfold rlA; rw [e3]
        rw [e3] at y2 e0
        simp only [] at e0 y2
        rw [← hr2] at y2
        rw [n0, if_neg (fun q => absurd ((nI_leI (by omega) (by omega)).mp q) (by omega))] at e0
        simp only [fnd]
        rw [if_pos ht]
        refine ⟨τ1, e0.trans ?_, y2, y3⟩
        unfold fX7_balances_57
        rw [n1, nI_add, bnd_e]
        obtain ⟨n, rfl⟩ : ∃ z, n = z + 1 := ⟨n - 1, by omega⟩
        unfold fX7_balances_18
        have e7 : fX7_balances_64 (lMt ()) Nf 0 self4 (nI c) (nI 1) τ1 = self4 (nI (c + 1)) (nI 1) τ1 := by
          unfold fX7_balances_64
          rw [if_neg (show ¬ nI 1 = 0 by decide)]
          unfold fX7_balances_74
          rw [n1, nI_add, bnd_e]
        rw [ib, grd_t, e7, if_neg (show ¬ nI 1 = 0 by decide), ite_self]
    · rw [if_neg (fun q => e2 ((nI_eq (by omega) (by omega)).mp q)), e1] at e0
      exact go τ hm FQ_rf e0 (by unfold rdP; rw [decide_eq_false e2]; rfl)
theorem m_evens {B Nf : Nat} (hf : 100 < Nf) : ∀ (m : Nat) (A : Nat → Nat) (τ : cS) (c n : Nat), sqs (ld A) (A 0) ≤ m → WF A B → MR τ A → m + 1 < n → ∃ τ', fX7_balances_4 (lMt ()) Nf 0 n (nI c) (nI 1) τ = some (nI (bal m A c).1, τ') ∧ MR τ' (bal m A c).2 ∧ FQ τ τ' := by
  intro m
  induction m with
  | zero =>
    intro A τ c n h0 w hm hn
    have w2 := w.2.1
    obtain ⟨n, rfl⟩ : ∃ z, n = z + 2 := ⟨n - 2, by omega⟩
    have h := m_round (Nf := Nf) (c := c) (fX7_balances_4 (lMt ()) Nf 0 (n + 1)) w hf (A 0) 0 Nf τ (by omega) (by omega) hm
    have e0 : fX7_balances_4 (lMt ()) Nf 0 (n + 2) (nI c) (nI 1) τ = fX7_balances_18 (lMt ()) Nf 0 (fX7_balances_4 (lMt ()) Nf 0 (n + 1)) Nf (nI c) (nI 0) (nI (mx (ld A) (A 0))) (nI 0) τ := by
      conv => lhs; unfold fX7_balances_4
      rw [if_neg (show ¬ nI 1 = 0 by decide), m_greatest hm w (by omega), Option.bind_some]
      rfl
    cases e : fnd (rdP A) 0 (A 0) with
    | none =>
      rw [e] at h
      obtain ⟨τ', a1, a2, a3⟩ := h
      refine ⟨τ', (e0.trans a1).trans ?_, a2, a3⟩
      unfold fX7_balances_4
      rw [if_pos (show nI 0 = 0 from rfl)]; rfl
    | some s =>
      obtain ⟨z1, z2, z3⟩ := fnd_some _ _ _ e
      have := (rlA_falls w (by omega) z3).2.2.2
      omega
  | succ m ih =>
    intro A τ c n h0 w hm hn
    have w2 := w.2.1
    obtain ⟨n, rfl⟩ : ∃ z, n = z + 2 := ⟨n - 2, by omega⟩
    have h := m_round (Nf := Nf) (c := c) (fX7_balances_4 (lMt ()) Nf 0 (n + 1)) w hf (A 0) 0 Nf τ (by omega) (by omega) hm
    have e0 : fX7_balances_4 (lMt ()) Nf 0 (n + 2) (nI c) (nI 1) τ = fX7_balances_18 (lMt ()) Nf 0 (fX7_balances_4 (lMt ()) Nf 0 (n + 1)) Nf (nI c) (nI 0) (nI (mx (ld A) (A 0))) (nI 0) τ := by
      conv => lhs; unfold fX7_balances_4
      rw [if_neg (show ¬ nI 1 = 0 by decide), m_greatest hm w (by omega), Option.bind_some]
      rfl
    simp only [bal]
    cases e : fnd (rdP A) 0 (A 0) with
    | none =>
      rw [e] at h
      obtain ⟨τ', a1, a2, a3⟩ := h
      refine ⟨τ', (e0.trans a1).trans ?_, a2, a3⟩
      unfold fX7_balances_4
      rw [if_pos (show nI 0 = 0 from rfl)]
    | some s =>
      rw [e] at h
      obtain ⟨τ', a1, a2, a3⟩ := h
      obtain ⟨z1, z2, z3⟩ := fnd_some _ _ _ e
      obtain ⟨u1, u2, u3, u4⟩ := rlA_falls w (show s < A 0 by omega) z3
      obtain ⟨τ2, b1, b2, b3⟩ := ih (rlA A s) τ' (c + 1) (n + 1) (by rw [u2]; omega) u1 a2 (by omega)
      exact ⟨τ2, (e0.trans a1).trans b1, b2, FQ_tr a3 b3⟩
theorem op_balance {σ τ : cS} {B Nf : Nat} (hf : 300000 < Nf) (x1 x2 x3 : Int32) (h hm0 : Int64) (iv : IV σ τ B) : ∃ r, gL_c5 Nf x1 x2 x3 h σ hm0 τ = some r ∧ PI4 B r := by
  obtain ⟨A, Hs, q, c, len, hm, hg, w, hh, ht, hp⟩ := iv
  have w2 := w.2.1
  obtain ⟨σ1, τ1, k1, k2, k3, k4, ⟨Hs1, q1, c1, k5⟩, k6, k7, k8⟩ := both_save (MR_out hm (k := 0) (j := 7) (v := nI 0) (by omega)) hg w (HS_code hh (nI 0)) (show 216 < Nf by omega)
  have hq : sqs (ld A) (A 0) ≤ 19200 := Nat.le_trans (sqs_le (fun k => ld_le w k)) (by omega)
  obtain ⟨σ3, a1, a2, a3, a4, a5, a6, a7⟩ := c_evens (Nf := Nf) LG_0 (by omega) (by omega) 19200 A σ1 0 Nf hq w k4 (by omega) (by omega)
  obtain ⟨τ3, b1, b2, b3⟩ := m_evens (Nf := Nf) (by omega) 19200 A τ1 0 Nf hq w k3 (by omega)
  have ec : fX6_balance (lCt ()) Nf σ 107 = some (nI (bal 19200 A 0).1, σ3) := by
    unfold fX6_balance fX6_balance_0
    rw [k1, Option.bind_some]
    unfold fX5_evenOut fX5_evenOut_0
    rw [c_greatest LG_0 k4 w (by omega), Option.bind_some, n0, a1]
    rfl
  have em : fX7_balance (lMt ()) Nf τ 0 = some (nI (bal 19200 A 0).1, τ3) := by
    unfold fX7_balance fX7_balance_0
    rw [n0, bnd_e, k2, Option.bind_some]
    unfold fX7_balances fX7_balances_0
    rw [n0, n1, b1]
    rfl
  unfold gL_c5
  refine bind_x ec (bind_x em ?_)
  refine grd_x (decide_eq_true rfl) ⟨_, rfl, ?_⟩
  show IV σ3 τ3 (B + 100)
  refine IV_step2 ht k5 k6 k7 k8 (fun x hx => a3 x (by omega) (by omega)) b3.1 b3.2 b2 a2 (WF_up a4 (by omega)) (PT_keep hp ?_ ?_ a5 a6)
  · rw [a3 97 (by omega) (by omega), k6 97 (by omega) (by omega)]
  · rw [a3 98 (by omega) (by omega), k6 98 (by omega) (by omega)]
