/-! ===== orders: what an edge is, what the graph's values are, undo ===== -/
def eI (A : Nat → Nat) (k : Nat) (x : Int32) : Int32 := if x = nI 0 then nI (A (56 + k)) else if x = nI 1 then nI (A (96 + k)) else if x = nI 2 then nI (hd A k) else nI (A (176 + k))
theorem m_edgeOf {τ : cS} {A : Nat → Nat} {B k : Nat} (hm : MR τ A) (w : WF A B) (hk : k < A 3) (x : Int32) : fX7_edgeOf (lMt ()) τ 0 (nI k) x = some (eI A k x) := by
  have w3 := w.2.2.1
  unfold fX7_edgeOf fX7_edgeOf_0 fX7_edgeOf_56 eI
  rw [m_holder hm w hk]
  simp (disch := omega) only [Nat.zero_add, lm1, grd_t, bnd_e, n0, n1, n2, n3, n4, n5, n6, n7, n8, n9, n10, n11, n12, n16, n20, n31, n40, n48, n56, n57, n61, n96, n97, n98, n99, n100, n108, n114, n116, n120, n127, n128, n136, n176, n215, n216, n255, n864, n999, n4096, n1000000, inb_n, nI_clamp, le_n, lt_n, eq_n, nI_add, Option.bind_some, Option.bind, hm _]
  split
  · rfl
  · split
    · rfl
    · split <;> rfl
theorem c_edge_y {σ : cS} {A : Nat → Nat} {B k Nf : Nat} {x1 : Int32} (hg : GR σ 0 A) (w : WF A B) (hf : 40 < Nf) (e : plc A x1 = some k) (x : Int32) (hx : inI x (nI 0) (nI 3) = true) : fX6_edge (lCt ()) Nf σ 107 x1 x = some (.inl (eI A k x)) := by
  have hk := plc_lt e
  have w3 := w.2.2.1
  obtain ⟨j, h1, h2, rfl⟩ := inI_n (by omega) (by omega) hx
  unfold fX6_edge fX6_edge_0 eI
  rw [chs_y hg w hf e]
  show (if nI j = (0 : Int32) then _ else if nI j = (1 : Int32) then _ else if nI j = (2 : Int32) then _ else if nI j = (3 : Int32) then _ else _) = _
  rw [row_get (show lCt () (3 + 1) = 40 from rfl) (show k < 40 by omega) (by omega), row_get (show lCt () (5 + 1) = 40 from rfl) (show k < 40 by omega) (by omega), row_get (show lCt () (7 + 1) = 40 from rfl) (show k < 40 by omega) (by omega), row_get (show lCt () (9 + 1) = 40 from rfl) (show k < 40 by omega) (by omega)]
  rw [show σ (3 + 1) k = nI (A (56 + k)) from hg.2.2.2.2.2.1 k hk, show σ (5 + 1) k = nI (A (96 + k)) from hg.2.2.2.2.2.2.1 k hk, show σ (7 + 1) k = nI (hd A k) from hg.2.2.2.2.2.2.2.1 k hk, show σ (9 + 1) k = nI (A (176 + k)) from hg.2.2.2.2.2.2.2.2.1 k hk]
  rcases (show j = 0 ∨ j = 1 ∨ j = 2 ∨ j = 3 by omega) with rfl | rfl | rfl | rfl <;> rfl
theorem op_edge {σ τ : cS} {B Nf : Nat} (hf : 1000 < Nf) (x1 x2 x3 : Int32) (h hm0 : Int64) (iv : IV σ τ B) : ∃ r, gL_c8 Nf x1 x2 x3 h σ hm0 τ = some r ∧ PI4 B r := by
  have iv0 := iv
  obtain ⟨A, Hs, q, c, len, hm, hg, w, hh, ht, hp⟩ := iv
  unfold gL_c8
  have e28 : ∀ y, fX7_edge_28 (lMt ()) Nf 0 x1 x2 (nI 1) y τ = some (0, st2 τ 0 7 (nI 1)) := fun y => by
    unfold fX7_edge_28; rw [mref_1]; rfl
  cases e : plc A x1 with
  | none =>
    refine try_no (k := 1) (σ' := σ) (h := h) (v := 0) (τ' := st2 τ 0 7 (nI 1)) (by omega) (by omega) ?_ ?_ st2_ss (IV_code iv0 _)
    · unfold fL_edge fX6_edge fX6_edge_0
      rw [chs_n hg w (by omega) e]; rfl
    · unfold fX7_edge fX7_edge_0
      rw [m_place hm w (by omega), Option.bind_some, if_neg (fun z => by have := (plI_ge w x1).mp z; rw [e] at this; cases this)]
      unfold fX7_edge_14
      rw [m_in, Option.bind_some, n1, e28, e28]
      split <;> rfl
  | some k =>
    have hk := plc_lt e
    have em : fX7_edge (lMt ()) Nf τ 0 x1 x2 = if inI x2 (nI 0) (nI 3) = true then fX7_edge_28 (lMt ()) Nf 0 x1 x2 (nI 0) (nI 0) τ else fX7_edge_28 (lMt ()) Nf 0 x1 x2 (nI 0) (nI 1) τ := by
      unfold fX7_edge fX7_edge_0
      rw [m_place hm w (by omega), Option.bind_some, if_pos ((plI_ge w x1).mpr (by rw [e]; rfl))]
      unfold fX7_edge_14
      rw [m_in, Option.bind_some, n0, n1, n3]
      cases inI x2 (nI 0) (nI 3) <;> rfl
    cases h2 : inI x2 (nI 0) (nI 3) with
    | false =>
      rw [h2] at em
      refine try_no (k := 2) (σ' := σ) (h := h) (v := 0) (τ' := st2 τ 0 7 (nI 2)) (by omega) (by omega) ?_ ?_ st2_ss (IV_code iv0 _)
      · have no : ∀ j, j ≤ 3 → ¬ x2 = nI j := fun j hj z => by
          rw [z, inI_y (by omega) (by omega) (by omega) (by omega) hj] at h2
          cases h2
        unfold fL_edge fX6_edge fX6_edge_0
        rw [chs_y hg w (by omega) e]
        show Option.bind (if x2 = (0 : Int32) then _ else if x2 = (1 : Int32) then _ else if x2 = (2 : Int32) then _ else if x2 = (3 : Int32) then _ else _) _ = _
        rw [if_neg (show ¬ x2 = (0 : Int32) from no 0 (by omega)), if_neg (show ¬ x2 = (1 : Int32) from no 1 (by omega)), if_neg (show ¬ x2 = (2 : Int32) from no 2 (by omega)), if_neg (show ¬ x2 = (3 : Int32) from no 3 (by omega))]
        rfl
      · rw [em, if_neg (by decide)]
        unfold fX7_edge_28
        rw [mref_2]; rfl
    | true =>
      rw [h2, if_pos rfl] at em
      refine try_ok (v := eI A k x2) (σ' := σ) (τ' := st2 τ 0 7 (nI 0)) ?_ ?_ st2_ss (IV_code iv0 _)
      · unfold fL_edge
        rw [c_edge_y hg w (by omega) e x2 h2]; rfl
      · rw [em]
        unfold fX7_edge_28
        rw [n0, mref_0]
        simp only [Option.bind_some]
        rw [if_pos trivial, m_place (MR_out hm (by omega)) w (by omega), e, Option.bind_some]
        show (fX7_edgeOf (lMt ()) (st2 τ 0 7 (nI 0)) 0 (nI k) x2).bind _ = _
        rw [m_edgeOf (MR_out hm (by omega)) w hk]
        rfl
def mn (f : Nat → Nat) : Nat → Nat
  | 0 => 40
  | n + 1 => if f n < mn f n then f n else mn f n
def sqs (f : Nat → Nat) : Nat → Nat
  | 0 => 0
  | n + 1 => sqs f n + f n * f n
def ovr (A : Nat → Nat) (n : Nat) : Nat := cnt (fun v => decide (A (4 + v) < ld A v)) n
theorem mn_le {f : Nat → Nat} {n : Nat} : mn f n ≤ 40 := by
  induction n with
  | zero => exact Nat.le_refl _
  | succ n ih => simp only [mn]; split <;> omega
theorem sqs_le {f : Nat → Nat} {n : Nat} (h : ∀ k, f k ≤ 40) : sqs f n ≤ 1600 * n := by
  induction n with
  | zero => exact Nat.le_refl _
  | succ n ih =>
    simp only [sqs]
    have h1 := h n
    have : f n * f n ≤ 40 * 40 := Nat.mul_le_mul h1 h1
    omega
def vI (A : Nat → Nat) (k : Nat) : Int32 := match k with
  | 0 => nI (A 0)
  | 1 => nI (A 3)
  | 2 => nI (mx (ld A) (A 0))
  | 3 => nI (mn (ld A) (A 0))
  | 4 => nI (sqs (ld A) (A 0))
  | 5 => nI (A 2)
  | 6 => nI (A 1)
  | _ => nI (ovr A (A 0))
theorem c_great {σ : cS} {g : Nat} {A : Nat → Nat} {B Nf : Nat} (hL : LG g) (h : GR σ g A) (w : WF A B) : ∀ (d i n : Nat), i + d = A 0 → d < n → fX0_greatestLoad_4 (lCt ()) Nf σ g n (nI (mx (ld A) i)) (nI i) = some (nI (mx (ld A) (A 0))) := by
  have w2 := w.2.1
  intro d
  induction d with
  | zero =>
    intro i n h1 hn
    obtain ⟨n, rfl⟩ : ∃ z, n = z + 1 := ⟨n - 1, by omega⟩
    unfold fX0_greatestLoad_4
    rw [h.1]
    simp (disch := omega) only [grd_t, bnd_e, n0, n1, n2, n3, n4, n5, n6, n7, n8, n9, n10, n11, n12, n16, n20, n31, n40, n48, n56, n57, n61, n96, n97, n98, n99, n100, n108, n114, n116, n120, n127, n128, n136, n176, n215, n216, n255, n864, n999, n4096, n1000000, inb_n, nI_clamp, le_n, lt_n, eq_n, nI_add, Option.bind_some, Option.bind]
    rw [if_pos (by omega), show i = A 0 by omega]
  | succ d ih =>
    intro i n h1 hn
    obtain ⟨n, rfl⟩ : ∃ z, n = z + 1 := ⟨n - 1, by omega⟩
    have hl := ld_le w i
    have hm := mx_le (f := ld A) (b := 40) (n := i) (fun k _ => ld_le w k)
    unfold fX0_greatestLoad_4
    rw [h.1, row_get hL.2.2.2.2.2.1 (by omega) (by omega), h.2.2.2.2.2.2.2.2.2.1 i (by omega)]
    have := ih (i + 1) n (by omega) (by omega)
    simp only [mx] at this
    simp (disch := omega) only [grd_t, bnd_e, n0, n1, n2, n3, n4, n5, n6, n7, n8, n9, n10, n11, n12, n16, n20, n31, n40, n48, n56, n57, n61, n96, n97, n98, n99, n100, n108, n114, n116, n120, n127, n128, n136, n176, n215, n216, n255, n864, n999, n4096, n1000000, inb_n, nI_clamp, le_n, lt_n, eq_n, nI_add, Option.bind_some, Option.bind]
    rw [if_neg (by omega)]
    by_cases e : mx (ld A) i < ld A i
    · rw [if_pos e] at this ⊢; exact this
    · rw [if_neg e] at this ⊢; exact this
theorem c_greatest {σ : cS} {g : Nat} {A : Nat → Nat} {B Nf : Nat} (hL : LG g) (h : GR σ g A) (w : WF A B) (hf : 40 < Nf) : fX0_greatestLoad (lCt ()) Nf σ g = some (nI (mx (ld A) (A 0))) := by
  unfold fX0_greatestLoad fX0_greatestLoad_0
  rw [n0]
  exact c_great hL h w (A 0) 0 Nf (by omega) (by have := w.2.1; omega)
theorem c_least {σ : cS} {g : Nat} {A : Nat → Nat} {B Nf : Nat} (hL : LG g) (h : GR σ g A) (w : WF A B) : ∀ (d i n : Nat), i + d = A 0 → d < n → fX0_leastLoad_5 (lCt ()) Nf σ g n (nI (mn (ld A) i)) (nI i) = some (nI (mn (ld A) (A 0))) := by
  have w2 := w.2.1
  intro d
  induction d with
  | zero =>
    intro i n h1 hn
    obtain ⟨n, rfl⟩ : ∃ z, n = z + 1 := ⟨n - 1, by omega⟩
    unfold fX0_leastLoad_5
    rw [h.1]
    simp (disch := omega) only [grd_t, bnd_e, n0, n1, n2, n3, n4, n5, n6, n7, n8, n9, n10, n11, n12, n16, n20, n31, n40, n48, n56, n57, n61, n96, n97, n98, n99, n100, n108, n114, n116, n120, n127, n128, n136, n176, n215, n216, n255, n864, n999, n4096, n1000000, inb_n, nI_clamp, le_n, lt_n, eq_n, nI_add, Option.bind_some, Option.bind]
    rw [if_pos (by omega), show i = A 0 by omega]
  | succ d ih =>
    intro i n h1 hn
    obtain ⟨n, rfl⟩ : ∃ z, n = z + 1 := ⟨n - 1, by omega⟩
    have hl := ld_le w i
    have hm := mn_le (f := ld A) (n := i)
    unfold fX0_leastLoad_5
    rw [h.1, row_get hL.2.2.2.2.2.1 (by omega) (by omega), h.2.2.2.2.2.2.2.2.2.1 i (by omega)]
    have := ih (i + 1) n (by omega) (by omega)
    simp only [mn] at this
    simp (disch := omega) only [grd_t, bnd_e, n0, n1, n2, n3, n4, n5, n6, n7, n8, n9, n10, n11, n12, n16, n20, n31, n40, n48, n56, n57, n61, n96, n97, n98, n99, n100, n108, n114, n116, n120, n127, n128, n136, n176, n215, n216, n255, n864, n999, n4096, n1000000, inb_n, nI_clamp, le_n, lt_n, eq_n, nI_add, Option.bind_some, Option.bind]
    rw [if_neg (by omega)]
    by_cases e : ld A i < mn (ld A) i
    · rw [if_pos e] at this ⊢; exact this
    · rw [if_neg e] at this ⊢; exact this
theorem c_sq {σ : cS} {g : Nat} {A : Nat → Nat} {B Nf : Nat} (hL : LG g) (h : GR σ g A) (w : WF A B) : ∀ (d i n : Nat), i + d = A 0 → d < n → fX0_squaresOfLoads_4 (lCt ()) Nf σ g n (nI (sqs (ld A) i)) (nI i) = some (nI (sqs (ld A) (A 0))) := by
  have w2 := w.2.1
  intro d
  induction d with
  | zero =>
    intro i n h1 hn
    obtain ⟨n, rfl⟩ : ∃ z, n = z + 1 := ⟨n - 1, by omega⟩
    unfold fX0_squaresOfLoads_4
    rw [h.1]
    simp (disch := omega) only [grd_t, bnd_e, n0, n1, n2, n3, n4, n5, n6, n7, n8, n9, n10, n11, n12, n16, n20, n31, n40, n48, n56, n57, n61, n96, n97, n98, n99, n100, n108, n114, n116, n120, n127, n128, n136, n176, n215, n216, n255, n864, n999, n4096, n1000000, inb_n, nI_clamp, le_n, lt_n, eq_n, nI_add, Option.bind_some, Option.bind]
    rw [if_pos (by omega), show i = A 0 by omega]
  | succ d ih =>
    intro i n h1 hn
    obtain ⟨n, rfl⟩ : ∃ z, n = z + 1 := ⟨n - 1, by omega⟩
    unfold fX0_squaresOfLoads_4
    rw [h.1, row_get hL.2.2.2.2.2.1 (by omega) (by omega), h.2.2.2.2.2.2.2.2.2.1 i (by omega)]
    have := ih (i + 1) n (by omega) (by omega)
    simp only [sqs] at this
    simp (disch := omega) only [grd_t, bnd_e, n0, n1, n2, n3, n4, n5, n6, n7, n8, n9, n10, n11, n12, n16, n20, n31, n40, n48, n56, n57, n61, n96, n97, n98, n99, n100, n108, n114, n116, n120, n127, n128, n136, n176, n215, n216, n255, n864, n999, n4096, n1000000, inb_n, nI_clamp, le_n, lt_n, eq_n, nI_add, Option.bind_some, Option.bind, nI_mul]
    rw [if_neg (by omega)]
    exact this
theorem c_over {σ : cS} {g : Nat} {A : Nat → Nat} {B Nf : Nat} (hL : LG g) (h : GR σ g A) (w : WF A B) : ∀ (d i n : Nat), i + d = A 0 → d < n → fX0_overloadedNodes_4 (lCt ()) Nf σ g n (nI (ovr A i)) (nI i) = some (nI (ovr A (A 0))) := by
  have w2 := w.2.1
  have w7 := w.2.2.2.2.2.2
  intro d
  induction d with
  | zero =>
    intro i n h1 hn
    obtain ⟨n, rfl⟩ : ∃ z, n = z + 1 := ⟨n - 1, by omega⟩
    unfold fX0_overloadedNodes_4
    rw [h.1]
    simp (disch := omega) only [grd_t, bnd_e, n0, n1, n2, n3, n4, n5, n6, n7, n8, n9, n10, n11, n12, n16, n20, n31, n40, n48, n56, n57, n61, n96, n97, n98, n99, n100, n108, n114, n116, n120, n127, n128, n136, n176, n215, n216, n255, n864, n999, n4096, n1000000, inb_n, nI_clamp, le_n, lt_n, eq_n, nI_add, Option.bind_some, Option.bind]
    rw [if_pos (by omega), show i = A 0 by omega]
  | succ d ih =>
    intro i n h1 hn
    obtain ⟨n, rfl⟩ : ∃ z, n = z + 1 := ⟨n - 1, by omega⟩
    have hl := ld_le w i
    have hc := w7 i (by omega)
    unfold fX0_overloadedNodes_4 fX0_overloadedNodes_34
    rw [h.1, row_get hL.2.2.2.2.2.1 (by omega) (by omega), h.2.2.2.2.2.2.2.2.2.1 i (by omega), row_get hL.2.2.2.2.2.2 (by omega) (by omega), h.2.2.2.2.2.2.2.2.2.2 i (by omega)]
    have := ih (i + 1) n (by omega) (by omega)
    unfold ovr at this ⊢
    simp only [cnt] at this
    simp (disch := omega) only [grd_t, bnd_e, n0, n1, n2, n3, n4, n5, n6, n7, n8, n9, n10, n11, n12, n16, n20, n31, n40, n48, n56, n57, n61, n96, n97, n98, n99, n100, n108, n114, n116, n120, n127, n128, n136, n176, n215, n216, n255, n864, n999, n4096, n1000000, inb_n, nI_clamp, le_n, lt_n, eq_n, nI_add, Option.bind_some, Option.bind]
    rw [if_neg (by omega)]
    by_cases e : A (4 + i) < ld A i
    · rw [if_pos (decide_eq_true e)] at this
      rw [if_neg (by omega)]; exact this
    · rw [if_neg (by rw [decide_eq_false e]; decide)] at this
      rw [if_pos (by omega)]; exact this
theorem c_value {σ : cS} {A : Nat → Nat} {B k Nf : Nat} (h : GR σ 0 A) (w : WF A B) (hk : k ≤ 7) (hf : 40 < Nf) : fX6_value (lCt ()) Nf σ 107 (nI k) = some (.inl (vI A k)) := by
  have w2 := w.2.1
  have e1 := c_greatest (Nf := Nf) LG_0 h w hf
  have e2 := c_least (Nf := Nf) LG_0 h w (A 0) 0 Nf (by omega) (by omega)
  have e3 := c_sq (Nf := Nf) LG_0 h w (A 0) 0 Nf (by omega) (by omega)
  have e4 := c_over (Nf := Nf) LG_0 h w (A 0) 0 Nf (by omega) (by omega)
  unfold fX6_value fX6_value_0
  rcases (show k = 0 ∨ k = 1 ∨ k = 2 ∨ k = 3 ∨ k = 4 ∨ k = 5 ∨ k = 6 ∨ k = 7 by omega) with rfl | rfl | rfl | rfl | rfl | rfl | rfl | rfl
  · show some (Sum.inl (σ 0 7)) = _
    rw [h.1]; rfl
  · show some (Sum.inl (σ 0 8)) = _
    rw [h.2.1]; rfl
  · show Option.bind (fX0_greatestLoad (lCt ()) Nf σ 0) _ = _
    rw [e1]; rfl
  · show Option.bind (fX0_leastLoad_5 (lCt ()) Nf σ 0 Nf (nI 40) (nI 0)) _ = _
    rw [show nI 40 = nI (mn (ld A) 0) from rfl, e2]; rfl
  · show Option.bind (fX0_squaresOfLoads_4 (lCt ()) Nf σ 0 Nf (nI (sqs (ld A) 0)) (nI 0)) _ = _
    rw [e3]; rfl
  · show some (Sum.inl (σ 0 10)) = _
    rw [h.2.2.2.1]; rfl
  · show some (Sum.inl (σ 0 9)) = _
    rw [h.2.2.1]; rfl
  · show Option.bind (fX0_overloadedNodes_4 (lCt ()) Nf σ 0 Nf (nI (ovr A 0)) (nI 0)) _ = _
    rw [e4]; rfl
theorem m_valueOf {τ : cS} {A : Nat → Nat} {B k Nf : Nat} (hm : MR τ A) (w : WF A B) (hk : k ≤ 7) (hf : 40 < Nf) : fX7_valueOf (lMt ()) Nf τ 0 (nI k) = some (vI A k) := by
  have w2 := w.2.1
  have w7 := w.2.2.2.2.2.2
  have loop : ∀ (d i n : Nat), i + d = A 0 → d < n → fX7_valueOf_11 (lMt ()) Nf τ 0 n (nI k) (nI (mn (ld A) i)) (nI (sqs (ld A) i)) (nI (ovr A i)) (nI i) = some (vI A k) := by
    intro d
    induction d with
    | zero =>
      intro i n h1 hn
      obtain ⟨n, rfl⟩ : ∃ z, n = z + 1 := ⟨n - 1, by omega⟩
      unfold fX7_valueOf_11
      rw [m_greatest hm w hf]
      simp (disch := omega) only [Nat.zero_add, lm1, grd_t, bnd_e, n0, n1, n2, n3, n4, n5, n6, n7, n8, n9, n10, n11, n12, n16, n20, n31, n40, n48, n56, n57, n61, n96, n97, n98, n99, n100, n108, n114, n116, n120, n127, n128, n136, n176, n215, n216, n255, n864, n999, n4096, n1000000, inb_n, nI_clamp, le_n, lt_n, eq_n, nI_add, Option.bind_some, Option.bind, hm _]
      rw [if_pos (by omega), show i = A 0 by omega]
      rcases (show k = 0 ∨ k = 1 ∨ k = 2 ∨ k = 3 ∨ k = 4 ∨ k = 5 ∨ k = 6 ∨ k = 7 by omega) with rfl | rfl | rfl | rfl | rfl | rfl | rfl | rfl <;> rfl
    | succ d ih =>
      intro i n h1 hn
      obtain ⟨n, rfl⟩ : ∃ z, n = z + 1 := ⟨n - 1, by omega⟩
      have hl := ld_le w i
      have hmn := mn_le (f := ld A) (n := i)
      have hc := w7 i (by omega)
      have := ih (i + 1) n (by omega) (by omega)
      unfold ovr at this ⊢
      simp only [cnt, mn, sqs] at this
      unfold fX7_valueOf_11 fX7_valueOf_42 fX7_valueOf_72
      rw [m_load hm w (by omega) hf]
      simp (disch := omega) only [Nat.zero_add, lm1, grd_t, bnd_e, n0, n1, n2, n3, n4, n5, n6, n7, n8, n9, n10, n11, n12, n16, n20, n31, n40, n48, n56, n57, n61, n96, n97, n98, n99, n100, n108, n114, n116, n120, n127, n128, n136, n176, n215, n216, n255, n864, n999, n4096, n1000000, inb_n, nI_clamp, le_n, lt_n, eq_n, nI_add, Option.bind_some, Option.bind, hm _, nI_mul]
      rw [if_neg (by omega)]
      by_cases e1 : ld A i < mn (ld A) i <;> by_cases e2 : A (4 + i) < ld A i
      · rw [if_pos e1, if_pos (decide_eq_true e2)] at this
        rw [if_neg (by omega), if_neg (by omega)]; exact this
      · rw [if_pos e1, if_neg (by rw [decide_eq_false e2]; decide)] at this
        rw [if_neg (by omega), if_pos (by omega)]; exact this
      · rw [if_neg e1, if_pos (decide_eq_true e2)] at this
        rw [if_pos (by omega), if_neg (by omega)]; exact this
      · rw [if_neg e1, if_neg (by rw [decide_eq_false e2]; decide)] at this
        rw [if_pos (by omega), if_pos (by omega)]; exact this
  unfold fX7_valueOf fX7_valueOf_0
  exact loop (A 0) 0 Nf (by omega) (by omega)
theorem op_value {σ τ : cS} {B Nf : Nat} (hf : 1000 < Nf) (x1 x2 x3 : Int32) (h hm0 : Int64) (iv : IV σ τ B) : ∃ r, gL_c10 Nf x1 x2 x3 h σ hm0 τ = some r ∧ PI4 B r := by
  have iv0 := iv
  obtain ⟨A, Hs, q, c, len, hm, hg, w, hh, ht, hp⟩ := iv
  unfold gL_c10
  cases h2 : inI x1 (nI 0) (nI 7) with
  | false =>
    refine try_no (k := 1) (σ' := σ) (h := h) (v := 0) (τ' := st2 τ 0 7 (nI 1)) (by omega) (by omega) ?_ ?_ st2_ss (IV_code iv0 _)
    · have no : ∀ j, j ≤ 7 → ¬ x1 = nI j := fun j hj z => by
        rw [z, inI_y (by omega) (by omega) (by omega) (by omega) hj] at h2
        cases h2
      unfold fL_value fX6_value fX6_value_0
      rw [if_neg (show ¬ x1 = (0 : Int32) from no 0 (by omega)), if_neg (show ¬ x1 = (1 : Int32) from no 1 (by omega)), if_neg (show ¬ x1 = (2 : Int32) from no 2 (by omega)), if_neg (show ¬ x1 = (3 : Int32) from no 3 (by omega)), if_neg (show ¬ x1 = (4 : Int32) from no 4 (by omega)), if_neg (show ¬ x1 = (5 : Int32) from no 5 (by omega)), if_neg (show ¬ x1 = (6 : Int32) from no 6 (by omega)), if_neg (show ¬ x1 = (7 : Int32) from no 7 (by omega))]
      rfl
    · unfold fX7_value fX7_value_0
      rw [m_in, n0, n7, h2, Option.bind_some, if_pos (by decide)]
      unfold fX7_value_16
      rw [n1, mref_1]; rfl
  | true =>
    obtain ⟨j, h3, h4, rfl⟩ := inI_n (by omega) (by omega) h2
    refine try_ok (v := vI A j) (σ' := σ) (τ' := st2 τ 0 7 (nI 0)) ?_ ?_ st2_ss (IV_code iv0 _)
    · unfold fL_value
      rw [c_value hg w h4 (by omega)]; rfl
    · unfold fX7_value fX7_value_0
      rw [m_in, n0, n7, h2, Option.bind_some, if_neg (by decide)]
      unfold fX7_value_16
      rw [n0, mref_0]
      simp only [Option.bind_some]
      rw [if_pos trivial, m_valueOf (MR_out hm (by omega)) w h4 (by omega)]
      rfl
/-! undo -/
theorem m_undo49 {Nf q : Nat} (hq : q < 4) : ∀ (d i n : Nat) (σ : cS), i + d = 216 → d < n → σ 0 5 = nI q → fX7_undo_49 (lMt ()) Nf 0 n (nI i) σ = some (σ 0 4, rowF σ 1 i 216 (fun b => σ 3 (216 * q + b))) := by
  intro d
  induction d with
  | zero =>
    intro i n σ h1 hn h5
    obtain ⟨n, rfl⟩ : ∃ z, n = z + 1 := ⟨n - 1, by omega⟩
    unfold fX7_undo_49
    simp (disch := omega) only [grd_t, bnd_e, n0, n1, n2, n3, n4, n5, n6, n7, n8, n9, n10, n11, n12, n16, n20, n31, n40, n48, n56, n57, n61, n96, n97, n98, n99, n100, n108, n114, n116, n120, n127, n128, n136, n176, n215, n216, n255, n864, n999, n4096, n1000000, inb_n, nI_clamp, le_n, lt_n, eq_n, nI_add, Option.bind_some, Option.bind]
    rw [if_pos (by omega), show i = 216 by omega, rowF_nil]
  | succ d ih =>
    intro i n σ h1 hn h5
    obtain ⟨n, rfl⟩ : ∃ z, n = z + 1 := ⟨n - 1, by omega⟩
    unfold fX7_undo_49
    simp (disch := omega) only [Nat.zero_add, lm1, lm3, grd_t, bnd_e, n0, n1, n2, n3, n4, n5, n6, n7, n8, n9, n10, n11, n12, n16, n20, n31, n40, n48, n56, n57, n61, n96, n97, n98, n99, n100, n108, n114, n116, n120, n127, n128, n136, n176, n215, n216, n255, n864, n999, n4096, n1000000, inb_n, nI_clamp, le_n, lt_n, eq_n, nI_add, Option.bind_some, Option.bind, h5, nI_mul]
    rw [if_neg (by omega), ih (i + 1) n _ (by omega) (by omega) (by rw [st2_out (by omega)]; exact h5), rowF_ext (f' := fun b => σ 3 (216 * q + b)) (fun b _ _ => st2_nk (by omega)), rowF_st _ _ _ _ (fun b => σ 3 (216 * q + b)) (by omega), st2_nk (by omega)]
theorem op_undo {σ τ : cS} {B Nf : Nat} (hf : 1000 < Nf) (x1 x2 x3 : Int32) (h hm0 : Int64) (iv : IV σ τ B) : ∃ r, gL_c26 Nf x1 x2 x3 h σ hm0 τ = some r ∧ PI4 B r := by
  have iv0 := iv
  obtain ⟨A, Hs, q, c, len, hm, hg, w, hh, ht, hp⟩ := iv
  obtain ⟨h1, h2, h3, h4, h5, h6, h7⟩ := hh
  unfold gL_c26
  by_cases e : c = 0
  · subst e
    refine try_no (k := 1) (σ' := σ) (h := h) (v := 0) (τ' := st2 τ 0 7 (nI 1)) (by omega) (by omega) ?_ ?_ st2_ss (IV_code iv0 _)
    · unfold fL_undo fX6_undo fX6_undo_0
      rw [h4, if_pos (show (nI 0 : Int32) = 0 from rfl)]; rfl
    · unfold fX7_undo fX7_undo_0 fX7_undo_13
      rw [h6, if_pos (show (nI 0 : Int32) = 0 from rfl), n1, mref_1]; rfl
  · have hi : (q + 3) % 4 < 4 := Nat.mod_lt _ (by omega)
    obtain ⟨y1, y2, y3⟩ := h7 1 ((q + 3) % 4) (by omega) (by omega) (by omega)
    obtain ⟨σ1, r1, r2, r3⟩ := c_copyFrom (g := 0) (g1 := 30 + 15 * ((q + 3) % 4)) (Nf := Nf) LG_0 (LG_h _ hi) (Or.inl (by omega)) y2 y1 (by omega)
    have r17 : fX1_restore_17 (lCt ()) Nf 105 0 (nI ((q + 3) % 4)) σ = some (st2 (st2 σ1 105 1 (nI ((q + 3) % 4))) 105 2 (nI (c - 1))) := by
      unfold fX1_restore_17
      rw [h4]
      simp (disch := omega) only [grd_t, n0, n1, n2, n3, n4, n5, n6, n7, n8, n9, n10, n11, n12, n16, n20, n31, n40, n48, n56, n57, n61, n96, n97, n98, n99, n100, n108, n114, n116, n120, n127, n128, n136, n176, n215, n216, n255, n864, n999, n4096, n1000000, inb_n, nI_clamp, le_n, lt_n, eq_n, nI_add, nI_mul]
      rw [if_neg (by omega), if_neg (by omega), r1, Option.bind_some, bnd_e, bnd_e, st2_nj (by omega), r3 105 (by omega), h4, nI_sub (by omega)]
    have rr : fX1_restore (lCt ()) Nf σ 105 0 = some (st2 (st2 σ1 105 1 (nI ((q + 3) % 4))) 105 2 (nI (c - 1))) := by
      unfold fX1_restore fX1_restore_0
      rw [h3]
      simp (disch := omega) only [grd_t, n0, n1, n2, n3, n4, n5, n6, n7, n8, n9, n10, n11, n12, n16, n20, n31, n40, n48, n56, n57, n61, n96, n97, n98, n99, n100, n108, n114, n116, n120, n127, n128, n136, n176, n215, n216, n255, n864, n999, n4096, n1000000, inb_n, nI_clamp, le_n, lt_n, eq_n, nI_add, nI_mul]
      by_cases e2 : q ≤ 0
      · rw [if_pos e2, show nI 3 = nI ((q + 3) % 4) by rw [show (q + 3) % 4 = 3 by omega]]; exact r17
      · rw [if_neg e2, nI_sub (by omega), show q - 1 = (q + 3) % 4 by omega]; exact r17
    obtain ⟨τ0, e0⟩ : ∃ z, z = st2 (st2 (st2 τ 0 7 (nI 0)) 0 5 (nI ((q + 3) % 4))) 0 4 (nI (c - 1)) := ⟨_, rfl⟩
    have o0 : ∀ x, x ≠ 0 → τ0 x = τ x := fun x hx => by rw [e0, st2_out hx, st2_out hx, st2_out hx]
    have em : fX7_undo (lMt ()) Nf τ 0 = some (nI (c - 1), rowF τ0 1 0 216 (fun b => τ0 3 (216 * ((q + 3) % 4) + b))) := by
      unfold fX7_undo fX7_undo_0 fX7_undo_13
      rw [h6, if_neg (show ¬ nI c = 0 from nI_ne0 (by omega) (by omega)), n0, mref_0]
      simp only [Option.bind_some]
      rw [if_pos trivial, show nz (4 : Int32) = true by decide, grd_t, st2_nj (by omega), h5]
      have em4 : nI q + 4 - 1 - (nI q + 4 - 1) / 4 * 4 = nI ((q + 3) % 4) := by
        rcases (show q = 0 ∨ q = 1 ∨ q = 2 ∨ q = 3 by omega) with rfl | rfl | rfl | rfl <;> decide
      simp only [n1, n4] at em4 ⊢
      rw [em4, bnd_e, bnd_e, st2_nj (by omega), st2_nj (by omega), h6, nI_sub (by omega), ← e0]
      rw [m_undo49 hi 216 0 Nf τ0 (by omega) (by omega) (by rw [e0, st2_nj (by omega), st2_ss])]
      rw [show τ0 0 4 = nI (c - 1) by rw [e0, st2_ss]]
    refine try_ok (v := nI (c - 1)) (σ' := st2 (st2 (st2 σ1 105 1 (nI ((q + 3) % 4))) 105 2 (nI (c - 1))) 97 6 (nI 0)) (τ' := rowF τ0 1 0 216 (fun b => τ0 3 (216 * ((q + 3) % 4) + b))) ?_ em ?_ ?_
    · unfold fL_undo fX6_undo fX6_undo_0
      rw [h4, if_neg (show ¬ nI c = 0 from nI_ne0 (by omega) (by omega)), rr, Option.bind_some, forget_e, Option.bind_some, Option.bind_some, st2_nk (by omega), st2_ss]
      rfl
    · rw [rowF_nk (by omega), e0, st2_nj (by omega), st2_nj (by omega), st2_ss]
    · show IV (st2 (st2 (st2 σ1 105 1 (nI ((q + 3) % 4))) 105 2 (nI (c - 1))) 97 6 (nI 0)) (rowF τ0 1 0 216 (fun b => τ0 3 (216 * ((q + 3) % 4) + b))) (B + 100)
      have oc : ∀ x, x ≠ 97 → x ≠ 105 → st2 (st2 (st2 σ1 105 1 (nI ((q + 3) % 4))) 105 2 (nI (c - 1))) 97 6 (nI 0) x = σ1 x := fun x hx hx2 => by rw [st2_out hx, st2_out hx2, st2_out hx2]
      have om : ∀ x, x ≠ 1 → rowF τ0 1 0 216 (fun b => τ0 3 (216 * ((q + 3) % 4) + b)) x = τ0 x := fun x hx => by funext b; exact rowF_nk hx
      refine ⟨Hs ((q + 3) % 4), Hs, (q + 3) % 4, c - 1, len, fun j hj => ?_, GR_keep r2 (fun x hx hx2 => oc x (by omega) (by omega)), WF_up y1 (by omega), ?_, ?_, Or.inl st2_ss⟩
      · rw [rowF_in (by omega) hj, o0 3 (by omega)]; exact y3 j hj
      · refine ⟨hi, by omega, by rw [st2_nk (by omega), st2_nj (by omega), st2_ss], by rw [st2_nk (by omega), st2_ss], ?_, ?_, fun d i hd hc hi2 => ?_⟩
        · rw [om 0 (by omega), e0, st2_nj (by omega), st2_ss]
        · rw [om 0 (by omega), e0, st2_ss]
        · obtain ⟨z1, z2, z3⟩ := h7 (d + 1) i (by omega) (by omega) (by omega)
          exact ⟨WF_up z1 (by omega), GR_keep z2 (fun x hx hx2 => by rw [oc x (by omega) (by omega), r3 x (by omega)]), fun j hj => by rw [om 3 (by omega), o0 3 (by omega)]; exact z3 j hj⟩
      · refine TX_keep ht ?_ ?_ ?_ ?_
        · rw [oc 102 (by omega) (by omega), r3 102 (by omega)]
        · rw [oc (102 + 1 + 1) (by omega) (by omega), r3 (102 + 1 + 1) (by omega)]
        · rw [om 0 (by omega), e0, st2_nj (by omega), st2_nj (by omega), st2_nj (by omega)]
        · rw [om 4 (by omega), o0 4 (by omega)]
