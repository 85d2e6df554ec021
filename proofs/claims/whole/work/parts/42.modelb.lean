/-! ===== the model's row: what its functions write ===== -/
def FR (τ τ' : cS) : Prop := ∀ c, c ≠ 1 → τ' c = τ c
theorem FR_rf {τ : cS} : FR τ τ := fun _ _ => rfl
theorem FR_st {τ τ' : cS} (h : FR τ τ') (i : Nat) (v : Int32) : FR τ (st2 τ' 1 i v) := fun c hc => by rw [st2_out hc]; exact h c hc
theorem FR_tr {τ τ' τ'' : cS} (h : FR τ τ') (h' : FR τ' τ'') : FR τ τ'' := fun c hc => (h' c hc).trans (h c hc)
def trnA (A : Nat → Nat) (k : Nat) : Nat → Nat := up (up (up A (136 + k) (1 - A (136 + k))) (176 + k) (A (176 + k) + 1)) 2 (A 2 + 1)
theorem m_turns {τ : cS} {A : Nat → Nat} {B k : Nat} (h : MR τ A) (w : WF A B) (hk : k < A 3) : ∃ τ', fX7_turns (lMt ()) τ 0 (nI k) = some τ' ∧ MR τ' (trnA A k) ∧ FR τ τ' := by
  obtain ⟨w1, w2, w3, w4, w5, w6, w7⟩ := w
  have w5k := w5 k hk
  unfold fX7_turns fX7_turns_0
  simp (disch := omega) only [Nat.zero_add, lm1, grd_t, n0, n1, n2, n3, n4, n5, n6, n7, n8, n9, n10, n11, n12, n16, n20, n31, n40, n48, n56, n57, n61, n96, n97, n98, n99, n100, n108, n114, n116, n120, n127, n128, n136, n176, n215, n216, n255, n864, n999, n4096, n1000000, inb_n, nI_clamp, le_n, lt_n, eq_n, nI_add, nI_mul]
  refine bnd_x (fun σ1 e1 => ?_)
  have h1 : MR σ1 (up A (136 + k) (1 - A (136 + k))) := by
    rw [e1, h _ (by omega), nI_sub w5k.2.2.2.1]; exact MR_st h _ _
  refine bnd_x (fun σ2 e2 => ?_)
  have h2 : MR σ2 (up (up A (136 + k) (1 - A (136 + k))) (176 + k) (A (176 + k) + 1)) := by
    rw [e2, h1 _ (by omega), up_o (by omega), nI_add]; exact MR_st h1 _ _
  refine bnd_x (fun σ3 e3 => ?_)
  refine some_x ⟨?_, ?_⟩
  · rw [e3, h2 _ (by omega), up_o (by omega), up_o (by omega), nI_add]; exact MR_st h2 _ _
  · rw [e3, e2, e1]; exact FR_st (FR_st (FR_st FR_rf _ _) _ _) _ _
theorem m_sets {τ : cS} {A : Nat → Nat} {B v c : Nat} (h : MR τ A) (hv : v < 12) : ∃ r, fX7_sets (lMt ()) τ 0 (nI v) (nI c) = some r ∧ r.1 = nI (A (4 + v)) ∧ MR r.2 (up A (4 + v) c) ∧ FR τ r.2 := by
  unfold fX7_sets fX7_sets_0
  simp (disch := omega) only [Nat.zero_add, lm1, grd_t, n0, n1, n2, n3, n4, n5, n6, n7, n8, n9, n10, n11, n12, n16, n20, n31, n40, n48, n56, n57, n61, n96, n97, n98, n99, n100, n108, n114, n116, n120, n127, n128, n136, n176, n215, n216, n255, n864, n999, n4096, n1000000, inb_n, nI_clamp, le_n, lt_n, eq_n, nI_add, nI_mul]
  refine bnd_x (fun t1 et => ?_)
  refine bnd_x (fun σ1 e1 => ?_)
  refine some_x ⟨by rw [et, h _ (by omega)], ?_, ?_⟩
  · rw [e1]; exact MR_st h _ _
  · rw [e1]; exact FR_st FR_rf _ _
def preA (A : Nat → Nat) (a b : Nat) : Nat → Nat := up (up (up A (16 + A 3) (A 1)) (56 + A 3) a) (96 + A 3) b
def addA (A : Nat → Nat) (a b : Nat) : Nat → Nat := up (up (up (up (preA A a b) (136 + A 3) (if ld A b < ld A a then 1 else 0)) (176 + A 3) 0) 3 (A 3 + 1)) 1 (A 1 + 1)
theorem pre_o {A : Nat → Nat} {a b j : Nat} (h1 : j ≠ 16 + A 3) (h2 : j ≠ 56 + A 3) (h3 : j ≠ 96 + A 3) : preA A a b j = A j := by
  unfold preA; rw [up_o h3, up_o h2, up_o h1]
theorem pre_hd {A : Nat → Nat} {a b k : Nat} (h3 : A 3 < 40) (hk : k < A 3) : hd (preA A a b) k = hd A k := by
  unfold hd; rw [pre_o (by omega) (by omega) (by omega), pre_o (by omega) (by omega) (by omega), pre_o (by omega) (by omega) (by omega)]
theorem pre_ld {A : Nat → Nat} {a b v : Nat} (h3 : A 3 < 40) : ld (preA A a b) v = ld A v := by
  unfold ld
  rw [pre_o (by omega) (by omega) (by omega)]
  exact cnt_ext (fun k hk => by rw [pre_hd h3 hk])
theorem pre_WF {A : Nat → Nat} {B a b : Nat} (w : WF A B) (h3 : A 3 < 40) : WF (preA A a b) B := by
  obtain ⟨w1, w2, w3, w4, w5, w6, w7⟩ := w
  refine ⟨?_, ?_, ?_, ?_, ?_, ?_, ?_⟩
  · rw [pre_o (by omega) (by omega) (by omega)]; exact w1
  · rw [pre_o (by omega) (by omega) (by omega)]; exact w2
  · rw [pre_o (by omega) (by omega) (by omega)]; exact w3
  · rw [pre_o (by omega) (by omega) (by omega)]; exact w4
  · intro k hk
    rw [pre_o (by omega) (by omega) (by omega)] at hk
    rw [pre_o (by omega) (by omega) (by omega), pre_o (by omega) (by omega) (by omega), pre_o (by omega) (by omega) (by omega), pre_o (by omega) (by omega) (by omega), pre_o (by omega) (by omega) (by omega), pre_o (by omega) (by omega) (by omega)]
    exact w5 k hk
  · intro j k hj hk
    rw [pre_o (by omega) (by omega) (by omega)] at hk
    rw [pre_o (by omega) (by omega) (by omega), pre_o (by omega) (by omega) (by omega)]
    exact w6 j k hj hk
  · intro v hv
    rw [pre_o (by omega) (by omega) (by omega)]
    exact w7 v hv
theorem m_adds69 {τ σ4 : cS} {A : Nat → Nat} {a b Nf : Nat} (h3 : A 3 < 40) (h4 : MR σ4 (preA A a b)) (f4 : FR τ σ4) (y : Nat) : ∃ r, fX7_adds_69 (lMt ()) Nf 0 (nI (A 3)) (nI (136 + A 3)) (nI y) σ4 = some r ∧ r.1 = nI (A 1) ∧ MR r.2 (up (up (up (up (preA A a b) (136 + A 3) y) (176 + A 3) 0) 3 (A 3 + 1)) 1 (A 1 + 1)) ∧ FR τ r.2 := by
  unfold fX7_adds_69
  simp (disch := omega) only [Nat.zero_add, lm1, grd_t, n0, n1, n2, n3, n4, n5, n6, n7, n8, n9, n10, n11, n12, n16, n20, n31, n40, n48, n56, n57, n61, n96, n97, n98, n99, n100, n108, n114, n116, n120, n127, n128, n136, n176, n215, n216, n255, n864, n999, n4096, n1000000, inb_n, nI_clamp, le_n, lt_n, eq_n, nI_add, nI_mul]
  refine bnd_x (fun s1 g1 => ?_)
  have k1 : MR s1 (up (preA A a b) (136 + A 3) y) := by rw [g1]; exact MR_st h4 _ _
  refine bnd_x (fun s2 g2 => ?_)
  have k2 : MR s2 (up (up (preA A a b) (136 + A 3) y) (176 + A 3) 0) := by rw [g2]; exact MR_st k1 _ _
  refine bnd_x (fun s3 g3 => ?_)
  have k3 : MR s3 (up (up (up (preA A a b) (136 + A 3) y) (176 + A 3) 0) 3 (A 3 + 1)) := by
    rw [g3, k2 _ (by omega), up_o (by omega), up_o (by omega), pre_o (by omega) (by omega) (by omega), nI_add]; exact MR_st k2 _ _
  refine bnd_x (fun s4 g4 => ?_)
  have k4 : MR s4 (up (up (up (up (preA A a b) (136 + A 3) y) (176 + A 3) 0) 3 (A 3 + 1)) 1 (A 1 + 1)) := by
    rw [g4, k3 _ (by omega), up_o (by omega), up_o (by omega), up_o (by omega), pre_o (by omega) (by omega) (by omega), nI_add]; exact MR_st k3 _ _
  refine some_x ⟨?_, k4, ?_⟩
  · show s4 1 1 - nI 1 = nI (A 1)
    rw [k4 1 (by omega), up_s]
    exact nI_pred (A 1)
  · rw [g4, g3, g2, g1]; exact FR_st (FR_st (FR_st (FR_st f4 _ _) _ _) _ _) _ _
theorem m_adds0 {τ : cS} {A : Nat → Nat} {a b Nf : Nat} (h : MR τ A) (h3 : A 3 < 40) : fX7_adds_0 (lMt ()) Nf 0 (nI a) (nI b) τ = bnd (st2 τ 1 (16 + A 3) (nI (A 1))) (fun σ2 => bnd (st2 σ2 1 (56 + A 3) (nI a)) (fun σ3 => bnd (st2 σ3 1 (96 + A 3) (nI b)) (fun σ4 => Option.bind (fX7_load (lMt ()) Nf σ4 0 (nI b)) (fun r5 => Option.bind (fX7_load (lMt ()) Nf σ4 0 (nI a)) (fun r6 => if r6 ≤ r5 then (fX7_adds_69 (lMt ()) Nf 0 (nI (A 3)) (nI (136 + A 3)) (nI 0) σ4) else (fX7_adds_69 (lMt ()) Nf 0 (nI (A 3)) (nI (136 + A 3)) (nI 1) σ4)))))) := by
  unfold fX7_adds_0
  rw [show τ (0 + 1) (3 : Int32).toNatClampNeg = nI (A 3) from h 3 (by omega), show τ (0 + 1) (1 : Int32).toNatClampNeg = nI (A 1) from h 1 (by omega), bnd_e]
  simp (disch := omega) only [Nat.zero_add, lm1, grd_t, n0, n1, n2, n3, n4, n5, n6, n7, n8, n9, n10, n11, n12, n16, n20, n31, n40, n48, n56, n57, n61, n96, n97, n98, n99, n100, n108, n114, n116, n120, n127, n128, n136, n176, n215, n216, n255, n864, n999, n4096, n1000000, inb_n, nI_clamp, le_n, lt_n, eq_n, nI_add, nI_mul]
theorem m_adds {τ : cS} {A : Nat → Nat} {B a b Nf : Nat} (h : MR τ A) (w : WF A B) (h3 : A 3 < 40) (ha : a < 12) (hb : b < 12) (hf : 40 < Nf) : ∃ r, fX7_adds (lMt ()) Nf τ 0 (nI a) (nI b) = some r ∧ r.1 = nI (A 1) ∧ MR r.2 (addA A a b) ∧ FR τ r.2 := by
  have wp := pre_WF (a := a) (b := b) w h3
  have hla := ld_le w a
  have hlb := ld_le w b
  unfold fX7_adds
  rw [m_adds0 h h3]
  refine bnd_x (fun σ2 e2 => ?_)
  refine bnd_x (fun σ3 e3 => ?_)
  refine bnd_x (fun σ4 e4 => ?_)
  have h4 : MR σ4 (preA A a b) := by rw [e4, e3, e2]; exact MR_st (MR_st (MR_st h _ _) _ _) _ _
  have f4 : FR τ σ4 := by rw [e4, e3, e2]; exact FR_st (FR_st (FR_st FR_rf _ _) _ _) _ _
  have e5 := m_load (v := b) h4 wp (by omega) hf
  have e6 := m_load (v := a) h4 wp (by omega) hf
  rw [pre_ld h3] at e5 e6
  refine bind_x e5 ?_
  refine bind_x e6 ?_
  simp (disch := omega) only [grd_t, n0, n1, n2, n3, n4, n5, n6, n7, n8, n9, n10, n11, n12, n16, n20, n31, n40, n48, n56, n57, n61, n96, n97, n98, n99, n100, n108, n114, n116, n120, n127, n128, n136, n176, n215, n216, n255, n864, n999, n4096, n1000000, inb_n, nI_clamp, le_n, lt_n, eq_n, nI_add, nI_mul]
  unfold addA
  by_cases e : ld A b < ld A a
  · rw [if_neg (by omega), if_pos e]; exact m_adds69 h3 h4 f4 1
  · rw [if_pos (by omega), if_neg e]; exact m_adds69 h3 h4 f4 0
def zrA (n : Nat) : Nat → Nat := fun j => if j = 0 then n else if 4 ≤ j ∧ j < 16 then 3 else 0
theorem m_beg31 {Nf : Nat} : ∀ (d i n : Nat) (σ : cS), i + d = 12 → d < n → fX7_begins_31 (lMt ()) Nf 0 n (nI i) σ = some (rowF σ 1 (4 + i) 16 (fun _ => nI 3)) := by
  intro d
  induction d with
  | zero =>
    intro i n σ h1 hn
    obtain ⟨n, rfl⟩ : ∃ z, n = z + 1 := ⟨n - 1, by omega⟩
    unfold fX7_begins_31
    simp (disch := omega) only [grd_t, bnd_e, n0, n1, n2, n3, n4, n5, n6, n7, n8, n9, n10, n11, n12, n16, n20, n31, n40, n48, n56, n57, n61, n96, n97, n98, n99, n100, n108, n114, n116, n120, n127, n128, n136, n176, n215, n216, n255, n864, n999, n4096, n1000000, inb_n, nI_clamp, le_n, lt_n, eq_n, nI_add, Option.bind_some, Option.bind]
    rw [if_pos (by omega), show i = 12 by omega, rowF_nil]
  | succ d ih =>
    intro i n σ h1 hn
    obtain ⟨n, rfl⟩ : ∃ z, n = z + 1 := ⟨n - 1, by omega⟩
    unfold fX7_begins_31
    simp (disch := omega) only [Nat.zero_add, lm1, grd_t, bnd_e, n0, n1, n2, n3, n4, n5, n6, n7, n8, n9, n10, n11, n12, n16, n20, n31, n40, n48, n56, n57, n61, n96, n97, n98, n99, n100, n108, n114, n116, n120, n127, n128, n136, n176, n215, n216, n255, n864, n999, n4096, n1000000, inb_n, nI_clamp, le_n, lt_n, eq_n, nI_add, Option.bind_some, Option.bind]
    rw [if_neg (by omega), ih (i + 1) n _ (by omega) (by omega), show 4 + (i + 1) = (4 + i) + 1 by omega, rowF_st _ _ _ _ (fun _ => nI 3) (by omega)]
theorem m_beg2 {Nf v : Nat} (hf : 300 < Nf) : ∀ (d i n : Nat) (σ : cS), i + d = 216 → d < n → fX7_begins_2 (lMt ()) Nf 0 n (nI v) (nI i) σ = some (rowF (st2 (rowF σ 1 i 216 (fun _ => nI 0)) 1 0 (nI v)) 1 4 16 (fun _ => nI 3)) := by
  intro d
  induction d with
  | zero =>
    intro i n σ h1 hn
    obtain ⟨n, rfl⟩ : ∃ z, n = z + 1 := ⟨n - 1, by omega⟩
    unfold fX7_begins_2
    simp (disch := omega) only [Nat.zero_add, lm1, grd_t, bnd_e, n0, n1, n2, n3, n4, n5, n6, n7, n8, n9, n10, n11, n12, n16, n20, n31, n40, n48, n56, n57, n61, n96, n97, n98, n99, n100, n108, n114, n116, n120, n127, n128, n136, n176, n215, n216, n255, n864, n999, n4096, n1000000, inb_n, nI_clamp, le_n, lt_n, eq_n, nI_add, Option.bind_some, Option.bind]
    rw [if_pos (by omega), show i = 216 by omega, rowF_nil, m_beg31 12 0 Nf _ (by omega) (by omega)]
  | succ d ih =>
    intro i n σ h1 hn
    obtain ⟨n, rfl⟩ : ∃ z, n = z + 1 := ⟨n - 1, by omega⟩
    unfold fX7_begins_2
    simp (disch := omega) only [Nat.zero_add, lm1, grd_t, bnd_e, n0, n1, n2, n3, n4, n5, n6, n7, n8, n9, n10, n11, n12, n16, n20, n31, n40, n48, n56, n57, n61, n96, n97, n98, n99, n100, n108, n114, n116, n120, n127, n128, n136, n176, n215, n216, n255, n864, n999, n4096, n1000000, inb_n, nI_clamp, le_n, lt_n, eq_n, nI_add, Option.bind_some, Option.bind]
    rw [if_neg (by omega), ih (i + 1) n _ (by omega) (by omega), rowF_st _ _ _ _ (fun _ => nI 0) (by omega)]
theorem m_begins {τ : cS} {Nf v : Nat} (hf : 300 < Nf) : ∃ τ', fX7_begins (lMt ()) Nf τ 0 (nI v) = some τ' ∧ MR τ' (zrA v) ∧ FR τ τ' := by
  unfold fX7_begins fX7_begins_0
  rw [n0, m_beg2 hf 216 0 Nf τ (by omega) (by omega)]
  refine some_x ⟨fun i hi => ?_, fun c hc => ?_⟩
  · simp only [rowF, st2_e, zrA]
    by_cases e : i = 0
    · subst e; simp
    · by_cases e2 : 4 ≤ i ∧ i < 16
      · simp [e, e2]
      · simp [e, e2, hi]
  · funext b
    simp only [rowF, st2_e]
    rw [if_neg (fun q => hc q.1), if_neg (fun q => hc q.1), if_neg (fun q => hc q.1)]
theorem m_copy2 {Nf : Nat} : ∀ (d i n : Nat) (σ : cS), i + d = 216 → d < n → fX7_copy_2 (lMt ()) Nf 0 n (nI i) σ = some (rowF σ 2 i 216 (σ 1)) := by
  intro d
  induction d with
  | zero =>
    intro i n σ h1 hn
    obtain ⟨n, rfl⟩ : ∃ z, n = z + 1 := ⟨n - 1, by omega⟩
    unfold fX7_copy_2
    simp (disch := omega) only [grd_t, bnd_e, n0, n1, n2, n3, n4, n5, n6, n7, n8, n9, n10, n11, n12, n16, n20, n31, n40, n48, n56, n57, n61, n96, n97, n98, n99, n100, n108, n114, n116, n120, n127, n128, n136, n176, n215, n216, n255, n864, n999, n4096, n1000000, inb_n, nI_clamp, le_n, lt_n, eq_n, nI_add, Option.bind_some, Option.bind]
    rw [if_pos (by omega), show i = 216 by omega, rowF_nil]
  | succ d ih =>
    intro i n σ h1 hn
    obtain ⟨n, rfl⟩ : ∃ z, n = z + 1 := ⟨n - 1, by omega⟩
    unfold fX7_copy_2
    simp (disch := omega) only [Nat.zero_add, lm1, lm2, grd_t, bnd_e, n0, n1, n2, n3, n4, n5, n6, n7, n8, n9, n10, n11, n12, n16, n20, n31, n40, n48, n56, n57, n61, n96, n97, n98, n99, n100, n108, n114, n116, n120, n127, n128, n136, n176, n215, n216, n255, n864, n999, n4096, n1000000, inb_n, nI_clamp, le_n, lt_n, eq_n, nI_add, Option.bind_some, Option.bind]
    rw [if_neg (by omega), ih (i + 1) n _ (by omega) (by omega), st2_out (by omega), rowF_st _ _ _ _ (σ 1) (by omega)]
theorem m_back2 {Nf : Nat} : ∀ (d i n : Nat) (σ : cS), i + d = 216 → d < n → fX7_back_2 (lMt ()) Nf 0 n (nI i) σ = some (rowF σ 1 i 216 (σ 2)) := by
  intro d
  induction d with
  | zero =>
    intro i n σ h1 hn
    obtain ⟨n, rfl⟩ : ∃ z, n = z + 1 := ⟨n - 1, by omega⟩
    unfold fX7_back_2
    simp (disch := omega) only [grd_t, bnd_e, n0, n1, n2, n3, n4, n5, n6, n7, n8, n9, n10, n11, n12, n16, n20, n31, n40, n48, n56, n57, n61, n96, n97, n98, n99, n100, n108, n114, n116, n120, n127, n128, n136, n176, n215, n216, n255, n864, n999, n4096, n1000000, inb_n, nI_clamp, le_n, lt_n, eq_n, nI_add, Option.bind_some, Option.bind]
    rw [if_pos (by omega), show i = 216 by omega, rowF_nil]
  | succ d ih =>
    intro i n σ h1 hn
    obtain ⟨n, rfl⟩ : ∃ z, n = z + 1 := ⟨n - 1, by omega⟩
    unfold fX7_back_2
    simp (disch := omega) only [Nat.zero_add, lm1, lm2, grd_t, bnd_e, n0, n1, n2, n3, n4, n5, n6, n7, n8, n9, n10, n11, n12, n16, n20, n31, n40, n48, n56, n57, n61, n96, n97, n98, n99, n100, n108, n114, n116, n120, n127, n128, n136, n176, n215, n216, n255, n864, n999, n4096, n1000000, inb_n, nI_clamp, le_n, lt_n, eq_n, nI_add, Option.bind_some, Option.bind]
    rw [if_neg (by omega), ih (i + 1) n _ (by omega) (by omega), st2_out (by omega), rowF_st _ _ _ _ (σ 2) (by omega)]
theorem m_copy {τ : cS} {Nf : Nat} (hf : 216 < Nf) : fX7_copy (lMt ()) Nf τ 0 = some (rowF τ 2 0 216 (τ 1)) := by
  unfold fX7_copy fX7_copy_0
  rw [n0]
  exact m_copy2 216 0 Nf τ (by omega) hf
theorem m_back {τ : cS} {Nf : Nat} (hf : 216 < Nf) : fX7_back (lMt ()) Nf τ 0 = some (rowF τ 1 0 216 (τ 2)) := by
  unfold fX7_back fX7_back_0
  rw [n0]
  exact m_back2 216 0 Nf τ (by omega) hf
theorem m_save2 {Nf q c : Nat} (hq : q < 4) (hc : c ≤ 4) : ∀ (d i n : Nat) (σ : cS), i + d = 216 → d < n → σ 0 5 = nI q → σ 0 4 = nI c → fX7_save_2 (lMt ()) Nf 0 n (nI i) σ = some (st2 (st2 (rowF σ 3 (216 * q + i) (216 * q + 216) (fun b => σ 1 (b - 216 * q))) 0 5 (nI ((q + 1) % 4))) 0 4 (nI (if 4 ≤ c then 4 else c + 1))) := by
  intro d
  induction d with
  | zero =>
    intro i n σ h1 hn h5 h4
    obtain ⟨n, rfl⟩ : ∃ z, n = z + 1 := ⟨n - 1, by omega⟩
    have e : nI (q + 1) - nI (q + 1) / nI 4 * nI 4 = nI ((q + 1) % 4) := by
      rcases (show q = 0 ∨ q = 1 ∨ q = 2 ∨ q = 3 by omega) with rfl | rfl | rfl | rfl <;> decide
    unfold fX7_save_2 fX7_save_67
    simp (disch := omega) only [grd_t, bnd_e, n0, n1, n2, n3, n4, n5, n6, n7, n8, n9, n10, n11, n12, n16, n20, n31, n40, n48, n56, n57, n61, n96, n97, n98, n99, n100, n108, n114, n116, n120, n127, n128, n136, n176, n215, n216, n255, n864, n999, n4096, n1000000, inb_n, nI_clamp, le_n, lt_n, eq_n, nI_add, Option.bind_some, Option.bind, h5, h4, show nz (nI 4) = true by decide, st2_nj]
    rw [if_pos (by omega), show i = 216 by omega, rowF_nil, e]
    by_cases h9 : 4 ≤ c
    · rw [if_pos h9, if_pos h9]
    · rw [if_neg h9, if_neg h9]
  | succ d ih =>
    intro i n σ h1 hn h5 h4
    obtain ⟨n, rfl⟩ : ∃ z, n = z + 1 := ⟨n - 1, by omega⟩
    unfold fX7_save_2
    simp (disch := omega) only [Nat.zero_add, lm1, lm3, grd_t, bnd_e, n0, n1, n2, n3, n4, n5, n6, n7, n8, n9, n10, n11, n12, n16, n20, n31, n40, n48, n56, n57, n61, n96, n97, n98, n99, n100, n108, n114, n116, n120, n127, n128, n136, n176, n215, n216, n255, n864, n999, n4096, n1000000, inb_n, nI_clamp, le_n, lt_n, eq_n, nI_add, Option.bind_some, Option.bind, h5, nI_mul]
    rw [if_neg (by omega), ih (i + 1) n _ (by omega) (by omega) (by rw [st2_out (by omega)]; exact h5) (by rw [st2_out (by omega)]; exact h4), st2_out (by omega)]
    have e := rowF_st σ 3 (216 * q + i) (216 * q + 216) (fun b => σ 1 (b - 216 * q)) (by omega)
    rw [show 216 * q + i - 216 * q = i by omega] at e
    rw [show 216 * q + (i + 1) = 216 * q + i + 1 by omega, e]
