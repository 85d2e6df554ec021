/-! ===== relieving, balancing ===== -/
def MV (A A' : Nat → Nat) (n : Nat) : Prop := A' 3 = A 3 ∧ tsm A' (A 3) + A 2 = tsm A (A 3) + A' 2 ∧ A 2 ≤ A' 2 ∧ A' 2 ≤ A 2 + n
theorem MV_rf {A : Nat → Nat} {n : Nat} : MV A A n := ⟨rfl, by omega, Nat.le_refl _, by omega⟩
theorem MV_tr {A A' A'' : Nat → Nat} {n m : Nat} (h : MV A A' n) (h' : MV A' A'' m) : MV A A'' (n + m) := by
  obtain ⟨a1, a2, a3, a4⟩ := h
  obtain ⟨b1, b2, b3, b4⟩ := h'
  rw [a1] at b2
  exact ⟨b1.trans a1, by omega, by omega, by omega⟩
theorem MV_le {A A' : Nat → Nat} {n m : Nat} (h : MV A A' n) (hm : n ≤ m) : MV A A' m := ⟨h.1, h.2.1, h.2.2.1, by have := h.2.2.2; omega⟩
theorem MV_trn {A : Nat → Nat} {B k : Nat} (w : WF A B) (hk : k < A 3) : MV A (trnA A k) 1 := ⟨trn_o (by omega) (by omega) (by omega), by rw [trn_tsm w hk, trn_2]; omega, by rw [trn_2]; omega, by rw [trn_2]; omega⟩
theorem GA_MV {A A' : Nat → Nat} {B n : Nat} (g : GA A B) (w : WF A' B) (h : MV A A' n) (hn : n ≤ 300000) : GA A' (B + 1) := by
  obtain ⟨w1, w2, w3, w4⟩ := g
  obtain ⟨a1, a2, a3, a4⟩ := h
  refine ⟨WF_up w (by omega), ?_, by omega, by omega⟩
  rw [a1]; omega
theorem rel_MV {A : Nat → Nat} {B s j : Nat} (w : WF A B) (hs : s < A 0) (hj : j < (bfs A s).1) : MV A (relA A s j) 12 := by
  have b := BI_bfs w hs
  have gen : ∀ (m i : Nat) (C : Nat → Nat), i ≤ m → i < (bfs A s).1 → FI A C (bfs A s) B i → MV C (flA A (bfs A s) s 12 ((bfs A s).2.1 i) C) i := by
    intro m
    induction m with
    | zero => intro i C hm hi f; rw [show i = 0 by omega, b.2.1, flA_s]; exact MV_rf
    | succ m ih =>
      intro i C hm hi f
      by_cases e : i = 0
      · rw [e, b.2.1, flA_s]; exact MV_rf
      · obtain ⟨g1, g2, p, g3, g4, g5⟩ := BI_back b hi (by omega)
        have hk : (bfs A s).2.2.1 ((bfs A s).2.1 i) < C 3 := by rw [f.2.2.1]; exact g2
        rw [flA_step b hi g3 g1 g4]
        exact MV_le (MV_tr (MV_trn f.1 hk) (ih p _ (by omega) (by omega) (FI_step b f hi (by omega) g3))) (by omega)
  have hn := BI_n b
  exact MV_le (gen 12 j A (by omega) hj (FI_0 w)) (by omega)
theorem rlA_MV {A : Nat → Nat} {B s : Nat} (w : WF A B) (hs : s < A 0) (h : rdP A s = true) : MV A (rlA A s) 12 := by
  obtain ⟨j, e⟩ := rdP_y h
  obtain ⟨j1, j2, j3⟩ := rel_i e
  unfold rlA
  rw [e]
  exact rel_MV w hs j2
theorem bal_MV {B : Nat} : ∀ (m : Nat) (A : Nat → Nat) (c : Nat), WF A B → MV A (bal m A c).2 (12 * m) := by
  intro m
  induction m with
  | zero => intro A c w; exact MV_rf
  | succ m ih =>
    intro A c w
    simp only [bal]
    cases e : fnd (rdP A) 0 (A 0) with
    | none => exact MV_rf
    | some s =>
      obtain ⟨h1, h2, h3⟩ := fnd_some _ _ _ e
      obtain ⟨u1, u2, u3, u4⟩ := rlA_falls w (by omega) h3
      exact MV_le (MV_tr (rlA_MV w (by omega) h3) (ih _ _ u1)) (by omega)
theorem bal_done {B : Nat} : ∀ (m : Nat) (A : Nat → Nat) (c : Nat), sqs (ld A) (A 0) ≤ m → WF A B → fnd (rdP (bal m A c).2) 0 ((bal m A c).2 0) = none := by
  intro m
  induction m with
  | zero =>
    intro A c hm w
    show fnd (rdP A) 0 (A 0) = none
    cases e : fnd (rdP A) 0 (A 0) with
    | none => rfl
    | some s =>
      obtain ⟨h1, h2, h3⟩ := fnd_some _ _ _ e
      have := (rlA_falls w (by omega) h3).2.2.2
      omega
  | succ m ih =>
    intro A c hm w
    simp only [bal]
    cases e : fnd (rdP A) 0 (A 0) with
    | none => exact e
    | some s =>
      obtain ⟨h1, h2, h3⟩ := fnd_some _ _ _ e
      obtain ⟨u1, u2, u3, u4⟩ := rlA_falls w (by omega) h3
      exact ih _ _ (by rw [u2]; omega) u1
def balA (A : Nat → Nat) : Nat → Nat := (bal 19200 A 0).2
theorem sq_le {A : Nat → Nat} {B : Nat} (w : WF A B) : sqs (ld A) (A 0) ≤ 19200 := by
  have w2 := w.2.1
  exact Nat.le_trans (sqs_le (fun k => ld_le w k)) (by omega)
theorem o_balance {σ : cS} {A : Nat → Nat} {B Nf : Nat} (v : ST σ A B) (hf : 300000 < Nf) : ∃ σ' n, fX6_balance (lCt ()) Nf σ 107 = some (nI n, σ') ∧ n ≤ 19200 ∧ NX σ' A (balA A) (B + 1) ∧ WF (balA A) B ∧ balA A 0 = A 0 ∧ ∀ x, inn (balA A) x = inn A x := by
  obtain ⟨Hs, q, c, v⟩ := v
  have w := v.2.1.1
  obtain ⟨σ1, Hs1, q1, c1, k1, k2, k3, k4, k5, k6⟩ := o_save v (show 40 < Nf by omega)
  obtain ⟨σ3, a1, a2, a3, a4, a5, a6, a7⟩ := c_evens (Nf := Nf) LG_0 (by omega) (by omega) 19200 A σ1 0 Nf (sq_le w) w k2 (by omega) (by omega)
  refine ⟨σ3, (bal 19200 A 0).1, ?_, by omega, ?_, a4, a5, a6⟩
  · unfold fX6_balance fX6_balance_0
    rw [k1, Option.bind_some]
    unfold fX5_evenOut fX5_evenOut_0
    rw [c_greatest LG_0 k2 w (by omega), Option.bind_some, n0, a1]
    rfl
  · refine NX_of v.2.2.2.2 k3 k4 k5 k6 (fun x hx => a3 x (by omega) (by omega)) a2 (GA_MV v.2.1 a4 (bal_MV 19200 A 0 w) (by omega)) (by omega) (PT_keep v.2.2.2.1 ?_ ?_ a5 a6)
    · rw [a3 97 (by omega) (by omega), k6 97 (by omega) (by omega)]
    · rw [a3 98 (by omega) (by omega), k6 98 (by omega) (by omega)]
theorem r_ttb {σ : cS} {A : Nat → Nat} {B Nf : Nat} (v : ST σ A B) (hf : 300000 < Nf) : ∃ σ', fX6_turnsToBalance (lCt ()) Nf σ 107 = some (nI (balA A 2) - nI (A 2), σ') ∧ RD A σ σ' := by
  obtain ⟨g, w, p, ga⟩ := ST_g v
  obtain ⟨σ1, k1, k2, k3⟩ := c_copyFrom (Nf := Nf) LG_15 LG_0 (by omega) g w (by omega)
  obtain ⟨σ3, a1, a2, a3, a4, a5, a6, a7⟩ := c_evens (Nf := Nf) LG_15 (by omega) (by omega) 19200 A σ1 0 Nf (sq_le w) w k2 (by omega) (by omega)
  have hf3 : ∀ x, (x < 15 ∨ 30 ≤ x) → (x < 90 ∨ 97 ≤ x) → σ3 x = σ x := fun x h1 h2 => (a3 x (by omega) h2).trans (k3 x (by omega))
  refine ⟨σ3, ?_, fun x hx => hf3 x (by omega) (by omega), fun p => PT_keep p (hf3 97 (by omega) (by omega)) (hf3 98 (by omega) (by omega)) rfl (fun _ => rfl)⟩
  unfold fX6_turnsToBalance fX6_turnsToBalance_0
  rw [k1, Option.bind_some]
  unfold fX5_evenOut fX5_evenOut_0
  rw [c_greatest LG_15 k2 w (by omega), Option.bind_some, n0, a1, Option.bind_some]
  simp only []
  rw [a2.2.2.2.1, hf3 0 (by omega) (by omega), g.2.2.2.1]
  rfl
theorem o_relieve {σ : cS} {A : Nat → Nat} {B s Nf : Nat} (v : ST σ A B) (hs : s < A 0) (hf : 1000 < Nf) : match rel A s with
    | none => ∃ σ', fL_relieve (lCt ()) Nf σ 107 (nI s) = some (-2052, σ') ∧ RD A σ σ'
    | some j => ∃ σ', fL_relieve (lCt ()) Nf σ 107 (nI s) = some (nI (pln A (bfs A s) s 12 ((bfs A s).2.1 j)), σ') ∧ NX σ' A (relA A s j) (B + 1) := by
  obtain ⟨Hs, q, c, v⟩ := v
  have w := v.2.1.1
  have w2 := w.2.1
  have kc := chk_y v.1 w (isN_y w hs)
  have b := BI_bfs w hs
  have hn := BI_n b
  obtain ⟨σ1, r1, r2, r3⟩ := c_visitFrom (Nf := Nf) LG_0 (by omega) v.1 w hs (by omega)
  have v1 : CV σ1 A Hs q c B := CV_RD v (RD_FS r3)
  have cl := c_lighter (Nf := Nf) LG_0 v1.1 w b r2 (by omega)
  have er : fnd (lgt A (bfs A s) s) 1 ((bfs A s).1 - 1) = rel A s := rfl
  rw [er] at cl
  have ec : fX6_relieve (lCt ()) Nf σ 107 (nI s) = if qI (bfs A s) (rel A s) = -1 then some (.inr (2, σ1)) else (fX1_save (lCt ()) Nf σ1 105 0).bind (fun r4 => (fX5_flipPathTo (lCt ()) Nf r4 90 0 (qI (bfs A s) (rel A s))).bind (fun r5 => some (.inl (r5.1, r5.2)))) := by
    unfold fX6_relieve fX6_relieve_0
    rw [kc]
    show Option.bind (fX5_visitFrom (lCt ()) Nf σ 90 0 (nI s)) _ = _
    rw [r1, Option.bind_some, cl]
    rfl
  cases e : rel A s with
  | none =>
    rw [e] at ec
    refine ⟨σ1, ?_, RD_FS r3⟩
    unfold fL_relieve
    rw [ec, if_pos (show qI (bfs A s) none = -1 from rfl)]; rfl
  | some j =>
    rw [e] at ec
    obtain ⟨j1, j2, j3⟩ := rel_i e
    have hv := b.2.2.2.2.1 j j2
    have eq0 : qI (bfs A s) (some j) = nI ((bfs A s).2.1 j) := rfl
    rw [eq0] at ec
    obtain ⟨σ2, Hs1, q1, c1, k1, k2, k3, k4, k5, k6⟩ := o_save v1 (show 40 < Nf by omega)
    obtain ⟨σ3, y1, y2, y3⟩ := c_flipPath (Nf := Nf) LG_0 (by omega) k2 w hs (CB_keep r2 (fun x hx hx2 => k6 x (by omega) (by omega))) j2 (by omega)
    obtain ⟨u1, u2, u3⟩ := rel_WF w hs j2
    refine ⟨σ3, ?_, ?_⟩
    · unfold fL_relieve
      rw [ec, if_neg (nI_ne1 (by omega)), k1, Option.bind_some, y1]
      rfl
    · refine NX_of v1.2.2.2.2 k3 k4 k5 k6 (fun x hx => y3 x (by omega)) y2 (GA_MV v.2.1 u1 (rel_MV w hs j2) (by omega)) (by omega) (PT_keep v1.2.2.2.1 ?_ ?_ u2 u3)
      · rw [y3 97 (by omega), k6 97 (by omega) (by omega)]
      · rw [y3 98 (by omega), k6 98 (by omega) (by omega)]
