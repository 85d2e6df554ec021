/-! ===== orders: what an edge is, what the graph's values are, undo ===== -/
def eI (A : Nat → Nat) (k : Nat) (x : Int32) : Int32 := if x = nI 0 then nI (A (56 + k)) else if x = nI 1 then nI (A (96 + k)) else if x = nI 2 then nI (hd A k) else nI (A (176 + k))
theorem c_edge_y {σ : cS} {A : Nat → Nat} {B k Nf : Nat} {x1 : Int32} (hg : GR σ 0 A) (w : WF A B) (hf : 40 < Nf) (e : plc A x1 = some k) (x : Int32) (hx : inI x (nI 0) (nI 3) = true) : fX6_edge (lCt ()) Nf σ 107 x1 x = some (.inl (eI A k x)) := by
  have hk := plc_lt e
  have w3 := w.2.2.1
  obtain ⟨j, h1, h2, rfl⟩ := inI_n (by omega) (by omega) hx
  unfold fX6_edge fX6_edge_0 eI
  rw [chs_y hg w hf e]
  show (if nI j = (0 : Int32) then _ else if nI j = (1 : Int32) then _ else if nI j = (2 : Int32) then _ else if nI j = (3 : Int32) then _ else _) = _
  rw [row_get (show lCt () (3 + 1) = 40 from rfl) (show k < 40 by omega) (by omega), row_get (show lCt () (5 + 1) = 40 from rfl) (show k < 40 by omega) (by omega), row_get (show lCt () (7 + 1) = 40 from rfl) (show k < 40 by omega) (by omega), row_get (show lCt () (9 + 1) = 40 from rfl) (show k < 40 by omega) (by omega)]
  rw [show σ (3 + 1) k = nI (A (56 + k)) from hg.2.2.2.2.2.1 k hk, show σ (5 + 1) k = nI (A (96 + k)) from hg.2.2.2.2.2.2.1 k hk, show σ (7 + 1) k = nI (hd A k) from hg.2.2.2.2.2.2.2.1 k hk, show σ (9 + 1) k = nI (A (176 + k)) from hg.2.2.2.2.2.2.2.2.1 k hk]
  rcases (show j = 0 ∨ j = 1 ∨ j = 2 ∨ j = 3 by omega) with rfl | rfl | rfl | rfl <;> rfl
def mn (f : Nat → Nat) : Nat → Nat
  | 0 => 40
  | n + 1 => if f n < mn f n then f n else mn f n
def sqs (f : Nat → Nat) : Nat → Nat
  | 0 => 0
  | n + 1 => sqs f n + f n * f n
def ovr (A : Nat → Nat) (n : Nat) : Nat := cnt (fun v => decide (A (4 + v) < ld A v)) n
theorem mn_le {f : Nat → Nat} {n : Nat} : mn f n ≤ 40 := by
  induction n with
  | zero => exact Nat.le_refl _
  | succ n ih => simp only [mn]; split <;> omega
theorem sqs_le {f : Nat → Nat} {n : Nat} (h : ∀ k, f k ≤ 40) : sqs f n ≤ 1600 * n := by
  induction n with
  | zero => exact Nat.le_refl _
  | succ n ih =>
    simp only [sqs]
    have h1 := h n
    have : f n * f n ≤ 40 * 40 := Nat.mul_le_mul h1 h1
    omega
def vI (A : Nat → Nat) (k : Nat) : Int32 := match k with
  | 0 => nI (A 0)
  | 1 => nI (A 3)
  | 2 => nI (mx (ld A) (A 0))
  | 3 => nI (mn (ld A) (A 0))
  | 4 => nI (sqs (ld A) (A 0))
  | 5 => nI (A 2)
  | 6 => nI (A 1)
  | _ => nI (ovr A (A 0))
theorem c_great {σ : cS} {g : Nat} {A : Nat → Nat} {B Nf : Nat} (hL : LG g) (h : GR σ g A) (w : WF A B) : ∀ (d i n : Nat), i + d = A 0 → d < n → fX0_greatestLoad_4 (lCt ()) Nf σ g n (nI (mx (ld A) i)) (nI i) = some (nI (mx (ld A) (A 0))) := by
  have w2 := w.2.1
  intro d
  induction d with
  | zero =>
    intro i n h1 hn
    obtain ⟨n, rfl⟩ : ∃ z, n = z + 1 := ⟨n - 1, by omega⟩
    unfold fX0_greatestLoad_4
    rw [h.1]
    simp (disch := omega) only [grd_t, bnd_e, n0, n1, n2, n3, n4, n5, n6, n7, n8, n9, n10, n11, n12, n16, n20, n31, n40, n48, n56, n57, n61, n96, n97, n98, n99, n100, n108, n114, n116, n120, n127, n128, n136, n176, n215, n216, n255, n864, n999, n4096, n1000000, inb_n, nI_clamp, le_n, lt_n, eq_n, nI_add, Option.bind_some, Option.bind]
    rw [if_pos (by omega), show i = A 0 by omega]
  | succ d ih =>
    intro i n h1 hn
    obtain ⟨n, rfl⟩ : ∃ z, n = z + 1 := ⟨n - 1, by omega⟩
    have hl := ld_le w i
    have hm := mx_le (f := ld A) (b := 40) (n := i) (fun k _ => ld_le w k)
    unfold fX0_greatestLoad_4
    rw [h.1, row_get hL.2.2.2.2.2.1 (by omega) (by omega), h.2.2.2.2.2.2.2.2.2.1 i (by omega)]
    have := ih (i + 1) n (by omega) (by omega)
    simp only [mx] at this
    simp (disch := omega) only [grd_t, bnd_e, n0, n1, n2, n3, n4, n5, n6, n7, n8, n9, n10, n11, n12, n16, n20, n31, n40, n48, n56, n57, n61, n96, n97, n98, n99, n100, n108, n114, n116, n120, n127, n128, n136, n176, n215, n216, n255, n864, n999, n4096, n1000000, inb_n, nI_clamp, le_n, lt_n, eq_n, nI_add, Option.bind_some, Option.bind]
    rw [if_neg (by omega)]
    by_cases e : mx (ld A) i < ld A i
    · rw [if_pos e] at this ⊢; exact this
    · rw [if_neg e] at this ⊢; exact this
theorem c_greatest {σ : cS} {g : Nat} {A : Nat → Nat} {B Nf : Nat} (hL : LG g) (h : GR σ g A) (w : WF A B) (hf : 40 < Nf) : fX0_greatestLoad (lCt ()) Nf σ g = some (nI (mx (ld A) (A 0))) := by
  unfold fX0_greatestLoad fX0_greatestLoad_0
  rw [n0]
  exact c_great hL h w (A 0) 0 Nf (by omega) (by have := w.2.1; omega)
theorem c_least {σ : cS} {g : Nat} {A : Nat → Nat} {B Nf : Nat} (hL : LG g) (h : GR σ g A) (w : WF A B) : ∀ (d i n : Nat), i + d = A 0 → d < n → fX0_leastLoad_5 (lCt ()) Nf σ g n (nI (mn (ld A) i)) (nI i) = some (nI (mn (ld A) (A 0))) := by
  have w2 := w.2.1
  intro d
  induction d with
  | zero =>
    intro i n h1 hn
    obtain ⟨n, rfl⟩ : ∃ z, n = z + 1 := ⟨n - 1, by omega⟩
    unfold fX0_leastLoad_5
    rw [h.1]
    simp (disch := omega) only [grd_t, bnd_e, n0, n1, n2, n3, n4, n5, n6, n7, n8, n9, n10, n11, n12, n16, n20, n31, n40, n48, n56, n57, n61, n96, n97, n98, n99, n100, n108, n114, n116, n120, n127, n128, n136, n176, n215, n216, n255, n864, n999, n4096, n1000000, inb_n, nI_clamp, le_n, lt_n, eq_n, nI_add, Option.bind_some, Option.bind]
    rw [if_pos (by omega), show i = A 0 by omega]
  | succ d ih =>
    intro i n h1 hn
    obtain ⟨n, rfl⟩ : ∃ z, n = z + 1 := ⟨n - 1, by omega⟩
    have hl := ld_le w i
    have hm := mn_le (f := ld A) (n := i)
    unfold fX0_leastLoad_5
    rw [h.1, row_get hL.2.2.2.2.2.1 (by omega) (by omega), h.2.2.2.2.2.2.2.2.2.1 i (by omega)]
    have := ih (i + 1) n (by omega) (by omega)
    simp only [mn] at this
    simp (disch := omega) only [grd_t, bnd_e, n0, n1, n2, n3, n4, n5, n6, n7, n8, n9, n10, n11, n12, n16, n20, n31, n40, n48, n56, n57, n61, n96, n97, n98, n99, n100, n108, n114, n116, n120, n127, n128, n136, n176, n215, n216, n255, n864, n999, n4096, n1000000, inb_n, nI_clamp, le_n, lt_n, eq_n, nI_add, Option.bind_some, Option.bind]
    rw [if_neg (by omega)]
    by_cases e : ld A i < mn (ld A) i
    · rw [if_pos e] at this ⊢; exact this
    · rw [if_neg e] at this ⊢; exact this
theorem c_sq {σ : cS} {g : Nat} {A : Nat → Nat} {B Nf : Nat} (hL : LG g) (h : GR σ g A) (w : WF A B) : ∀ (d i n : Nat), i + d = A 0 → d < n → fX0_squaresOfLoads_4 (lCt ()) Nf σ g n (nI (sqs (ld A) i)) (nI i) = some (nI (sqs (ld A) (A 0))) := by
  have w2 := w.2.1
  intro d
  induction d with
  | zero =>
    intro i n h1 hn
    obtain ⟨n, rfl⟩ : ∃ z, n = z + 1 := ⟨n - 1, by omega⟩
    unfold fX0_squaresOfLoads_4
    rw [h.1]
    simp (disch := omega) only [grd_t, bnd_e, n0, n1, n2, n3, n4, n5, n6, n7, n8, n9, n10, n11, n12, n16, n20, n31, n40, n48, n56, n57, n61, n96, n97, n98, n99, n100, n108, n114, n116, n120, n127, n128, n136, n176, n215, n216, n255, n864, n999, n4096, n1000000, inb_n, nI_clamp, le_n, lt_n, eq_n, nI_add, Option.bind_some, Option.bind]
    rw [if_pos (by omega), show i = A 0 by omega]
  | succ d ih =>
    intro i n h1 hn
    obtain ⟨n, rfl⟩ : ∃ z, n = z + 1 := ⟨n - 1, by omega⟩
    unfold fX0_squaresOfLoads_4
    rw [h.1, row_get hL.2.2.2.2.2.1 (by omega) (by omega), h.2.2.2.2.2.2.2.2.2.1 i (by omega)]
    have := ih (i + 1) n (by omega) (by omega)
    simp only [sqs] at this
    simp (disch := omega) only [grd_t, bnd_e, n0, n1, n2, n3, n4, n5, n6, n7, n8, n9, n10, n11, n12, n16, n20, n31, n40, n48, n56, n57, n61, n96, n97, n98, n99, n100, n108, n114, n116, n120, n127, n128, n136, n176, n215, n216, n255, n864, n999, n4096, n1000000, inb_n, nI_clamp, le_n, lt_n, eq_n, nI_add, Option.bind_some, Option.bind, nI_mul]
    rw [if_neg (by omega)]
    exact this
theorem c_over {σ : cS} {g : Nat} {A : Nat → Nat} {B Nf : Nat} (hL : LG g) (h : GR σ g A) (w : WF A B) : ∀ (d i n : Nat), i + d = A 0 → d < n → fX0_overloadedNodes_4 (lCt ()) Nf σ g n (nI (ovr A i)) (nI i) = some (nI (ovr A (A 0))) := by
  have w2 := w.2.1
  have w7 := w.2.2.2.2.2.2
  intro d
  induction d with
  | zero =>
    intro i n h1 hn
    obtain ⟨n, rfl⟩ : ∃ z, n = z + 1 := ⟨n - 1, by omega⟩
    unfold fX0_overloadedNodes_4
    rw [h.1]
    simp (disch := omega) only [grd_t, bnd_e, n0, n1, n2, n3, n4, n5, n6, n7, n8, n9, n10, n11, n12, n16, n20, n31, n40, n48, n56, n57, n61, n96, n97, n98, n99, n100, n108, n114, n116, n120, n127, n128, n136, n176, n215, n216, n255, n864, n999, n4096, n1000000, inb_n, nI_clamp, le_n, lt_n, eq_n, nI_add, Option.bind_some, Option.bind]
    rw [if_pos (by omega), show i = A 0 by omega]
  | succ d ih =>
    intro i n h1 hn
    obtain ⟨n, rfl⟩ : ∃ z, n = z + 1 := ⟨n - 1, by omega⟩
    have hl := ld_le w i
    have hc := w7 i (by omega)
    unfold fX0_overloadedNodes_4 fX0_overloadedNodes_34
    rw [h.1, row_get hL.2.2.2.2.2.1 (by omega) (by omega), h.2.2.2.2.2.2.2.2.2.1 i (by omega), row_get hL.2.2.2.2.2.2 (by omega) (by omega), h.2.2.2.2.2.2.2.2.2.2 i (by omega)]
    have := ih (i + 1) n (by omega) (by omega)
    unfold ovr at this ⊢
    simp only [cnt] at this
    simp (disch := omega) only [grd_t, bnd_e, n0, n1, n2, n3, n4, n5, n6, n7, n8, n9, n10, n11, n12, n16, n20, n31, n40, n48, n56, n57, n61, n96, n97, n98, n99, n100, n108, n114, n116, n120, n127, n128, n136, n176, n215, n216, n255, n864, n999, n4096, n1000000, inb_n, nI_clamp, le_n, lt_n, eq_n, nI_add, Option.bind_some, Option.bind]
    rw [if_neg (by omega)]
    by_cases e : A (4 + i) < ld A i
    · rw [if_pos (decide_eq_true e)] at this
      rw [if_neg (by omega)]; exact this
    · rw [if_neg (by rw [decide_eq_false e]; decide)] at this
      rw [if_pos (by omega)]; exact this
theorem c_value {σ : cS} {A : Nat → Nat} {B k Nf : Nat} (h : GR σ 0 A) (w : WF A B) (hk : k ≤ 7) (hf : 40 < Nf) : fX6_value (lCt ()) Nf σ 107 (nI k) = some (.inl (vI A k)) := by
  have w2 := w.2.1
  have e1 := c_greatest (Nf := Nf) LG_0 h w hf
  have e2 := c_least (Nf := Nf) LG_0 h w (A 0) 0 Nf (by omega) (by omega)
  have e3 := c_sq (Nf := Nf) LG_0 h w (A 0) 0 Nf (by omega) (by omega)
  have e4 := c_over (Nf := Nf) LG_0 h w (A 0) 0 Nf (by omega) (by omega)
  unfold fX6_value fX6_value_0
  rcases (show k = 0 ∨ k = 1 ∨ k = 2 ∨ k = 3 ∨ k = 4 ∨ k = 5 ∨ k = 6 ∨ k = 7 by omega) with rfl | rfl | rfl | rfl | rfl | rfl | rfl | rfl
  · show some (Sum.inl (σ 0 7)) = _
    rw [h.1]; rfl
  · show some (Sum.inl (σ 0 8)) = _
    rw [h.2.1]; rfl
  · show Option.bind (fX0_greatestLoad (lCt ()) Nf σ 0) _ = _
    rw [e1]; rfl
  · show Option.bind (fX0_leastLoad_5 (lCt ()) Nf σ 0 Nf (nI 40) (nI 0)) _ = _
    rw [show nI 40 = nI (mn (ld A) 0) from rfl, e2]; rfl
  · show Option.bind (fX0_squaresOfLoads_4 (lCt ()) Nf σ 0 Nf (nI (sqs (ld A) 0)) (nI 0)) _ = _
    rw [e3]; rfl
  · show some (Sum.inl (σ 0 10)) = _
    rw [h.2.2.2.1]; rfl
  · show some (Sum.inl (σ 0 9)) = _
    rw [h.2.2.1]; rfl
  · show Option.bind (fX0_overloadedNodes_4 (lCt ()) Nf σ 0 Nf (nI (ovr A 0)) (nI 0)) _ = _
    rw [e4]; rfl
