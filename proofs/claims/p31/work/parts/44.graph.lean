def mx (f : Nat → Nat) : Nat → Nat
  | 0 => 0
  | n + 1 => if mx f n < f n then f n else mx f n
theorem mx_le {f : Nat → Nat} {b n : Nat} (h : ∀ k, k < n → f k ≤ b) : mx f n ≤ b := by
  induction n with
  | zero => exact Nat.zero_le _
  | succ n ih =>
    simp only [mx]
    have := h n (by omega)
    have := ih (fun k hk => h k (by omega))
    split <;> omega
theorem mx_ge {f : Nat → Nat} {n k : Nat} (hk : k < n) : f k ≤ mx f n := by
  induction n with
  | zero => omega
  | succ n ih =>
    simp only [mx]
    by_cases e : k = n
    · subst e; split <;> omega
    · have := ih (by omega)
      split <;> omega
/-! ===== the class's graph against the row ===== -/
def LG (g : Nat) : Prop := lCt () (g + 1 + 1) = 40 ∧ lCt () (g + 3 + 1) = 40 ∧ lCt () (g + 5 + 1) = 40 ∧ lCt () (g + 7 + 1) = 40 ∧ lCt () (g + 9 + 1) = 40 ∧ lCt () (g + 11 + 1) = 12 ∧ lCt () (g + 13 + 1) = 12
theorem LG_0 : LG 0 := ⟨rfl, rfl, rfl, rfl, rfl, rfl, rfl⟩
theorem LG_15 : LG 15 := ⟨rfl, rfl, rfl, rfl, rfl, rfl, rfl⟩
theorem LG_h (i : Nat) (hi : i < 4) : LG (30 + 15 * i) := by
  rcases (show i = 0 ∨ i = 1 ∨ i = 2 ∨ i = 3 by omega) with rfl | rfl | rfl | rfl <;> exact ⟨rfl, rfl, rfl, rfl, rfl, rfl, rfl⟩
def GR (σ : cS) (g : Nat) (A : Nat → Nat) : Prop := σ g 7 = nI (A 0) ∧ σ g 8 = nI (A 3) ∧ σ g 9 = nI (A 1) ∧ σ g 10 = nI (A 2) ∧ (∀ k, k < A 3 → σ (g + 1 + 1) k = nI (A (16 + k))) ∧ (∀ k, k < A 3 → σ (g + 3 + 1) k = nI (A (56 + k))) ∧ (∀ k, k < A 3 → σ (g + 5 + 1) k = nI (A (96 + k))) ∧ (∀ k, k < A 3 → σ (g + 7 + 1) k = nI (hd A k)) ∧ (∀ k, k < A 3 → σ (g + 9 + 1) k = nI (A (176 + k))) ∧ (∀ v, v < 12 → σ (g + 11 + 1) v = nI (ld A v)) ∧ ∀ v, v < 12 → σ (g + 13 + 1) v = nI (A (4 + v))
/-- nothing outside the graph at g is written -/
def FG (g : Nat) (σ σ' : cS) : Prop := ∀ c, (c < g ∨ g + 15 ≤ c) → σ' c = σ c
theorem FG_rf {g : Nat} {σ : cS} : FG g σ σ := fun _ _ => rfl
theorem FG_st {g : Nat} {σ σ' : cS} (h : FG g σ σ') {c : Nat} (hc : g ≤ c ∧ c < g + 15) (j : Nat) (v : Int32) : FG g σ (st2 σ' c j v) := fun d hd => by rw [st2_out (by omega)]; exact h d hd
theorem FG_row {g : Nat} {σ σ' : cS} (h : FG g σ σ') {c : Nat} (hc : g ≤ c ∧ c < g + 15) (lo hi : Nat) (f : Nat → Int32) : FG g σ (rowF σ' c lo hi f) := fun d hd => by
  rw [← h d hd]
  funext b
  simp only [rowF]
  rw [if_neg (by omega)]
theorem FG_tr {g : Nat} {σ σ' σ'' : cS} (h : FG g σ σ') (h' : FG g σ' σ'') : FG g σ σ'' := fun c hc => (h' c hc).trans (h c hc)
theorem GR_keep {g : Nat} {σ σ' : cS} {A : Nat → Nat} (h : GR σ g A) (e : ∀ c, g ≤ c → c < g + 15 → σ' c = σ c) : GR σ' g A := by
  obtain ⟨a1, a2, a3, a4, a5, a6, a7, a8, a9, a10, a11⟩ := h
  refine ⟨?_, ?_, ?_, ?_, fun k hk => ?_, fun k hk => ?_, fun k hk => ?_, fun k hk => ?_, fun k hk => ?_, fun k hk => ?_, fun k hk => ?_⟩
  · rw [e g (by omega) (by omega)]; exact a1
  · rw [e g (by omega) (by omega)]; exact a2
  · rw [e g (by omega) (by omega)]; exact a3
  · rw [e g (by omega) (by omega)]; exact a4
  · rw [e _ (by omega) (by omega)]; exact a5 k hk
  · rw [e _ (by omega) (by omega)]; exact a6 k hk
  · rw [e _ (by omega) (by omega)]; exact a7 k hk
  · rw [e _ (by omega) (by omega)]; exact a8 k hk
  · rw [e _ (by omega) (by omega)]; exact a9 k hk
  · rw [e _ (by omega) (by omega)]; exact a10 k hk
  · rw [e _ (by omega) (by omega)]; exact a11 k hk
theorem ge_pred {x : Int32} {n : Nat} (h0 : 0 < n) (h : n < 2 ^ 31) : (nI n ≤ x) = (nI (n - 1) < x) := by
  rw [Int32.le_iff_toInt_le, Int32.lt_iff_toInt_lt, nI_toInt h, nI_toInt (by omega)]
  exact propext ⟨fun q => by omega, fun q => by omega⟩
theorem c_hasNode {σ : cS} {g : Nat} {A : Nat → Nat} {B : Nat} (h : GR σ g A) (w : WF A B) (x : Int32) : fX0_hasNode σ g x = some (bI (inI x (nI 0) (nI (A 0 - 1)))) := by
  obtain ⟨w1, w2, -⟩ := w
  unfold fX0_hasNode fX0_hasNode_0 fX0_hasNode_16 fX0_hasNode_17 inI bI
  rw [h.1]
  simp only [n0, n1, isb0, isb1, grd_t]
  by_cases h1 : x < nI 0
  · rw [if_pos h1]; simp [h1]
  · rw [if_neg h1]
    by_cases h2 : nI (A 0 - 1) < x
    · rw [if_pos ((ge_pred (by omega) (by omega)).mpr h2)]; simp [h1, h2]
    · rw [if_neg (fun q => h2 ((ge_pred (by omega) (by omega)).mp q))]; simp [h1, h2]
theorem c_isFull {σ : cS} {g : Nat} {A : Nat → Nat} {B : Nat} (h : GR σ g A) (w : WF A B) : fX0_isFull σ g = some (bI (decide (A 3 = 40))) := by
  have w3 := w.2.2.1
  unfold fX0_isFull fX0_isFull_0 fX0_isFull_14
  rw [h.2.1]
  simp (disch := omega) only [grd_t, bnd_e, n0, n1, n2, n3, n4, n5, n6, n7, n8, n9, n10, n11, n12, n16, n20, n31, n40, n48, n56, n57, n61, n96, n97, n98, n99, n100, n108, n114, n116, n120, n127, n128, n136, n176, n215, n216, n255, n864, n999, n4096, n1000000, inb_n, nI_clamp, le_n, lt_n, eq_n, nI_add, Option.bind_some, Option.bind, isb0, isb1]
  by_cases e : A 3 = 40
  · rw [if_neg (by omega)]; simp [bI, e]
  · rw [if_pos (by omega)]; simp [bI, e]
theorem c_slot_loop {σ : cS} {g : Nat} {A : Nat → Nat} {B Nf : Nat} {x : Int32} (hL : LG g) (h : GR σ g A) (w : WF A B) : ∀ (d i n : Nat), i + d = A 3 → d < n → fX0_slotOf_2 (lCt ()) Nf σ g n x (nI i) = some (plI (fnd (fun k => decide (nI (A (16 + k)) = x)) i d)) := by
  have w3 := w.2.2.1
  intro d
  induction d with
  | zero =>
    intro i n h1 hn
    obtain ⟨n, rfl⟩ : ∃ z, n = z + 1 := ⟨n - 1, by omega⟩
    unfold fX0_slotOf_2
    rw [h.2.1]
    simp (disch := omega) only [grd_t, bnd_e, n0, n1, n2, n3, n4, n5, n6, n7, n8, n9, n10, n11, n12, n16, n20, n31, n40, n48, n56, n57, n61, n96, n97, n98, n99, n100, n108, n114, n116, n120, n127, n128, n136, n176, n215, n216, n255, n864, n999, n4096, n1000000, inb_n, nI_clamp, le_n, lt_n, eq_n, nI_add, Option.bind_some, Option.bind]
    rw [if_pos (by omega)]
    rfl
  | succ d ih =>
    intro i n h1 hn
    obtain ⟨n, rfl⟩ : ∃ z, n = z + 1 := ⟨n - 1, by omega⟩
    unfold fX0_slotOf_2
    rw [h.2.1, row_get hL.1 (by omega) (by omega), h.2.2.2.2.1 i (by omega)]
    simp (disch := omega) only [grd_t, bnd_e, n0, n1, n2, n3, n4, n5, n6, n7, n8, n9, n10, n11, n12, n16, n20, n31, n40, n48, n56, n57, n61, n96, n97, n98, n99, n100, n108, n114, n116, n120, n127, n128, n136, n176, n215, n216, n255, n864, n999, n4096, n1000000, inb_n, nI_clamp, le_n, lt_n, eq_n, nI_add, Option.bind_some, Option.bind]
    rw [if_neg (by omega), ih (i + 1) n (by omega) (by omega)]
    simp only [fnd, decide_eq_true_eq]
    by_cases e : nI (A (16 + i)) = x
    · rw [if_pos e, if_pos e]; rfl
    · rw [if_neg e, if_neg e]
theorem c_slotOf {σ : cS} {g : Nat} {A : Nat → Nat} {B Nf : Nat} {x : Int32} (hL : LG g) (h : GR σ g A) (w : WF A B) (hf : 40 < Nf) : fX0_slotOf (lCt ()) Nf σ g x = some (plI (plc A x)) := by
  unfold fX0_slotOf fX0_slotOf_0
  rw [n0]
  exact c_slot_loop hL h w (A 3) 0 Nf (by omega) (by have := w.2.2.1; omega)
theorem c_restart {σ : cS} {g n Nf : Nat} (hL : LG g) (hf : 40 < Nf) : ∃ σ', fX0_restart (lCt ()) Nf σ g (nI n) = some σ' ∧ GR σ' g (zrA n) ∧ FG g σ σ' := by
  unfold fX0_restart fX0_restart_0
  refine bnd_x (fun σ1 e1 => ?_)
  refine bnd_x (fun σ2 e2 => ?_)
  refine bnd_x (fun σ3 e3 => ?_)
  refine bnd_x (fun σ4 e4 => ?_)
  refine bind_x (row_fill hL.2.2.2.2.2.1 (by omega) (by omega)) ?_
  refine bind_x (row_fill hL.2.2.2.2.2.2 (by omega) (by omega)) ?_
  have f4 : FG g σ σ4 := by
    rw [e4, e3, e2, e1]
    exact FG_st (FG_st (FG_st (FG_st FG_rf (by omega) _ _) (by omega) _ _) (by omega) _ _) (by omega) _ _
  refine some_x ⟨?_, FG_row (FG_row f4 (by omega) _ _ _) (by omega) _ _ _⟩
  have r0 : ∀ j, rowF (rowF σ4 (g + 11 + 1) 0 12 fun _ => 0) (g + 13 + 1) 0 12 (fun _ => 3) g j = σ4 g j := fun j => by
    rw [rowF_nk (by omega), rowF_nk (by omega)]
  refine ⟨?_, ?_, ?_, ?_, fun k hk => ?_, fun k hk => ?_, fun k hk => ?_, fun k hk => ?_, fun k hk => ?_, fun v hv => ?_, fun v hv => ?_⟩
  · rw [r0, e4, e3, e2, e1]; simp (disch := omega) only [st2_nj, st2_ss]; rfl
  · rw [r0, e4, e3, e2]; simp (disch := omega) only [st2_nj, st2_ss]; rfl
  · rw [r0, e4, e3]; simp (disch := omega) only [st2_nj, st2_ss]; rfl
  · rw [r0, e4]; simp (disch := omega) only [st2_nj, st2_ss]; rfl
  · exact absurd hk (Nat.not_lt_zero _)
  · exact absurd hk (Nat.not_lt_zero _)
  · exact absurd hk (Nat.not_lt_zero _)
  · exact absurd hk (Nat.not_lt_zero _)
  · exact absurd hk (Nat.not_lt_zero _)
  · rw [rowF_nk (by omega), rowF_in (by omega) hv]; rfl
  · rw [rowF_in (by omega) hv]
    show (3 : Int32) = nI (zrA n (4 + v))
    unfold zrA
    rw [if_neg (by omega), if_pos (by omega)]; rfl
theorem c_copyFrom {σ : cS} {g g1 Nf : Nat} {A : Nat → Nat} {B : Nat} (hL : LG g) (hL1 : LG g1) (hg : g + 15 ≤ g1 ∨ g1 + 15 ≤ g) (h : GR σ g1 A) (w : WF A B) (hf : 40 < Nf) : ∃ σ', fX0_copyFrom (lCt ()) Nf σ g g1 = some σ' ∧ GR σ' g A ∧ FG g σ σ' := by
  have w3 := w.2.2.1
  unfold fX0_copyFrom fX0_copyFrom_0
  refine bind_x (row_copy hL.1 hL1.1 (by omega) (by omega) (by omega)) ?_
  generalize q1 : rowF σ (g + 1 + 1) 0 40 (σ (g1 + 1 + 1)) = s1
  have f1 : FG g σ s1 := by rw [← q1]; exact FG_row FG_rf (by omega) _ _ _
  have k1 := fun c (hc : g1 ≤ c ∧ c < g1 + 15) => f1 c (by omega)
  refine bind_x (row_copy hL.2.1 hL1.2.1 (by omega) (by omega) (by omega)) ?_
  rw [k1 (g1 + 3 + 1) (by omega)]
  generalize q2 : rowF s1 (g + 3 + 1) 0 40 (σ (g1 + 3 + 1)) = s2
  have f2 : FG g σ s2 := by rw [← q2]; exact FG_row f1 (by omega) _ _ _
  have k2 := fun c (hc : g1 ≤ c ∧ c < g1 + 15) => f2 c (by omega)
  refine bind_x (row_copy hL.2.2.1 hL1.2.2.1 (by omega) (by omega) (by omega)) ?_
  rw [k2 (g1 + 5 + 1) (by omega)]
  generalize q3 : rowF s2 (g + 5 + 1) 0 40 (σ (g1 + 5 + 1)) = s3
  have f3 : FG g σ s3 := by rw [← q3]; exact FG_row f2 (by omega) _ _ _
  have k3 := fun c (hc : g1 ≤ c ∧ c < g1 + 15) => f3 c (by omega)
  refine bind_x (row_copy hL.2.2.2.1 hL1.2.2.2.1 (by omega) (by omega) (by omega)) ?_
  rw [k3 (g1 + 7 + 1) (by omega)]
  generalize q4 : rowF s3 (g + 7 + 1) 0 40 (σ (g1 + 7 + 1)) = s4
  have f4 : FG g σ s4 := by rw [← q4]; exact FG_row f3 (by omega) _ _ _
  have k4 := fun c (hc : g1 ≤ c ∧ c < g1 + 15) => f4 c (by omega)
  refine bind_x (row_copy hL.2.2.2.2.1 hL1.2.2.2.2.1 (by omega) (by omega) (by omega)) ?_
  rw [k4 (g1 + 9 + 1) (by omega)]
  generalize q5 : rowF s4 (g + 9 + 1) 0 40 (σ (g1 + 9 + 1)) = s5
  have f5 : FG g σ s5 := by rw [← q5]; exact FG_row f4 (by omega) _ _ _
  have k5 := fun c (hc : g1 ≤ c ∧ c < g1 + 15) => f5 c (by omega)
  refine bind_x (row_copy hL.2.2.2.2.2.1 hL1.2.2.2.2.2.1 (by omega) (by omega) (by omega)) ?_
  rw [k5 (g1 + 11 + 1) (by omega)]
  generalize q6 : rowF s5 (g + 11 + 1) 0 12 (σ (g1 + 11 + 1)) = s6
  have f6 : FG g σ s6 := by rw [← q6]; exact FG_row f5 (by omega) _ _ _
  have k6 := fun c (hc : g1 ≤ c ∧ c < g1 + 15) => f6 c (by omega)
  refine bind_x (row_copy hL.2.2.2.2.2.2 hL1.2.2.2.2.2.2 (by omega) (by omega) (by omega)) ?_
  rw [k6 (g1 + 13 + 1) (by omega)]
  generalize q7 : rowF s6 (g + 13 + 1) 0 12 (σ (g1 + 13 + 1)) = s7
  have f7 : FG g σ s7 := by rw [← q7]; exact FG_row f6 (by omega) _ _ _
  have k7 := fun c (hc : g1 ≤ c ∧ c < g1 + 15) => f7 c (by omega)
  have kg : s7 g1 = σ g1 := k7 g1 (by omega)
  obtain ⟨a1, a2, a3, a4, a5, a6, a7, a8, a9, a10, a11⟩ := h
  refine bnd_x (fun t1 d1 => ?_)
  refine bnd_x (fun t2 d2 => ?_)
  refine bnd_x (fun t3 d3 => ?_)
  refine bnd_x (fun t4 d4 => ?_)
  rw [kg, a1] at d1
  have z1 : t1 g1 = σ g1 := by rw [d1, st2_out (by omega)]; exact kg
  rw [z1, a2] at d2
  have z2 : t2 g1 = σ g1 := by rw [d2, st2_out (by omega)]; exact z1
  rw [z2, a3] at d3
  have z3 : t3 g1 = σ g1 := by rw [d3, st2_out (by omega)]; exact z2
  rw [z3, a4] at d4
  have rw_ : ∀ c, c ≠ g → t4 c = s7 c := fun c hc => by rw [d4, st2_out hc, d3, st2_out hc, d2, st2_out hc, d1, st2_out hc]
  have o7 : ∀ c, c ≠ g + 13 + 1 → s7 c = s6 c := fun c hc => by rw [← q7]; funext b; exact rowF_nk hc
  have o6 : ∀ c, c ≠ g + 11 + 1 → s6 c = s5 c := fun c hc => by rw [← q6]; funext b; exact rowF_nk hc
  have o5 : ∀ c, c ≠ g + 9 + 1 → s5 c = s4 c := fun c hc => by rw [← q5]; funext b; exact rowF_nk hc
  have o4 : ∀ c, c ≠ g + 7 + 1 → s4 c = s3 c := fun c hc => by rw [← q4]; funext b; exact rowF_nk hc
  have o3 : ∀ c, c ≠ g + 5 + 1 → s3 c = s2 c := fun c hc => by rw [← q3]; funext b; exact rowF_nk hc
  have o2 : ∀ c, c ≠ g + 3 + 1 → s2 c = s1 c := fun c hc => by rw [← q2]; funext b; exact rowF_nk hc
  refine some_x ⟨⟨?_, ?_, ?_, ?_, fun k hk => ?_, fun k hk => ?_, fun k hk => ?_, fun k hk => ?_, fun k hk => ?_, fun v hv => ?_, fun v hv => ?_⟩, ?_⟩
  · rw [d4, d3, d2, d1]; simp (disch := omega) only [st2_nj, st2_ss]
  · rw [d4, d3, d2]; simp (disch := omega) only [st2_nj, st2_ss]
  · rw [d4, d3]; simp (disch := omega) only [st2_nj, st2_ss]
  · rw [d4]; simp (disch := omega) only [st2_nj, st2_ss]
  · rw [rw_ _ (by omega), o7 _ (by omega), o6 _ (by omega), o5 _ (by omega), o4 _ (by omega), o3 _ (by omega), o2 _ (by omega), ← q1]; rw [rowF_in (by omega) (by omega)]; exact a5 k hk
  · rw [rw_ _ (by omega), o7 _ (by omega), o6 _ (by omega), o5 _ (by omega), o4 _ (by omega), o3 _ (by omega), ← q2]; rw [rowF_in (by omega) (by omega)]; exact a6 k hk
  · rw [rw_ _ (by omega), o7 _ (by omega), o6 _ (by omega), o5 _ (by omega), o4 _ (by omega), ← q3]; rw [rowF_in (by omega) (by omega)]; exact a7 k hk
  · rw [rw_ _ (by omega), o7 _ (by omega), o6 _ (by omega), o5 _ (by omega), ← q4]; rw [rowF_in (by omega) (by omega)]; exact a8 k hk
  · rw [rw_ _ (by omega), o7 _ (by omega), o6 _ (by omega), ← q5]; rw [rowF_in (by omega) (by omega)]; exact a9 k hk
  · rw [rw_ _ (by omega), o7 _ (by omega), ← q6]; rw [rowF_in (by omega) (by omega)]; exact a10 v hv
  · rw [rw_ _ (by omega), ← q7]; rw [rowF_in (by omega) (by omega)]; exact a11 v hv
  · rw [d4, d3, d2, d1]
    exact FG_st (FG_st (FG_st (FG_st f7 (by omega) _ _) (by omega) _ _) (by omega) _ _) (by omega) _ _
