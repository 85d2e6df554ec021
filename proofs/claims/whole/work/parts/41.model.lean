/-! ===== the model's row, by natural numbers ===== -/
def up (A : Nat → Nat) (i v : Nat) : Nat → Nat := fun j => if j = i then v else A j
theorem up_s {A : Nat → Nat} {i v : Nat} : up A i v i = v := if_pos rfl
theorem up_o {A : Nat → Nat} {i v j : Nat} (h : j ≠ i) : up A i v j = A j := if_neg h
def hd (A : Nat → Nat) (k : Nat) : Nat := if A (136 + k) = 0 then A (56 + k) else A (96 + k)
def ot (A : Nat → Nat) (k : Nat) : Nat := if A (136 + k) = 0 then A (96 + k) else A (56 + k)
def cnt (p : Nat → Bool) : Nat → Nat
  | 0 => 0
  | n + 1 => cnt p n + (if p n = true then 1 else 0)
theorem cnt_le (p : Nat → Bool) (n : Nat) : cnt p n ≤ n := by
  induction n with
  | zero => exact Nat.le_refl _
  | succ n ih => simp only [cnt]; split <;> omega
theorem cnt_ext {p q : Nat → Bool} {n : Nat} (h : ∀ k, k < n → p k = q k) : cnt p n = cnt q n := by
  induction n with
  | zero => rfl
  | succ n ih => simp only [cnt]; rw [ih (fun k hk => h k (by omega)), h n (by omega)]
def ld (A : Nat → Nat) (v : Nat) : Nat := cnt (fun k => hd A k == v) (A 3)
def fnd (p : Nat → Bool) : Nat → Nat → Option Nat
  | _, 0 => none
  | i, d + 1 => if p i = true then some i else fnd p (i + 1) d
def plI (o : Option Nat) : Int32 := match o with
  | some k => nI k
  | none => -1
def MR (τ : cS) (A : Nat → Nat) : Prop := ∀ i, i < 216 → τ 1 i = nI (A i)
theorem MR_st {τ : cS} {A : Nat → Nat} (h : MR τ A) (i v : Nat) : MR (st2 τ 1 i (nI v)) (up A i v) := by
  intro j hj
  rw [st2_e]
  unfold up
  by_cases e : j = i
  · rw [if_pos ⟨rfl, e⟩, if_pos e]
  · rw [if_neg (fun q => e q.2), if_neg e, h j hj]
theorem MR_out {τ : cS} {A : Nat → Nat} (h : MR τ A) {k j : Nat} {v : Int32} (hk : k ≠ 1) : MR (st2 τ k j v) A := by
  intro i hi
  rw [st2_out (Ne.symm hk)]
  exact h i hi
theorem MR_ext {τ τ' : cS} {A : Nat → Nat} (h : MR τ A) (e : τ' 1 = τ 1) : MR τ' A := fun i hi => by rw [e]; exact h i hi
def WF (A : Nat → Nat) (B : Nat) : Prop := 2 ≤ A 0 ∧ A 0 ≤ 12 ∧ A 3 ≤ 40 ∧ A 1 ≤ B ∧ (∀ k, k < A 3 → A (56 + k) < A 0 ∧ A (96 + k) < A 0 ∧ A (56 + k) ≠ A (96 + k) ∧ A (136 + k) ≤ 1 ∧ A (16 + k) < A 1) ∧ (∀ j k, j < k → k < A 3 → A (16 + j) < A (16 + k)) ∧ ∀ v, v < 12 → A (4 + v) ≤ 40
theorem lm1 : lMt () 1 = 216 := rfl
theorem lm2 : lMt () 2 = 216 := rfl
theorem lm3 : lMt () 3 = 864 := rfl
theorem lm4 : lMt () 4 = 100 := rfl
theorem lm5 : lMt () 5 = 12 := rfl
theorem lm6 : lMt () 6 = 12 := rfl
theorem isb0 : isb (nI 0) = true := by decide
theorem isb1 : isb (nI 1) = true := by decide
def bI (b : Bool) : Int32 := if b = true then nI 1 else nI 0
theorem bI_isb (b : Bool) : isb (bI b) = true := by cases b <;> decide
theorem bI_0 (b : Bool) : (bI b = nI 0) = (b = false) := by cases b <;> simp [bI, nI] <;> decide
/-- a number from one to another one -/
def inI (x lo hi : Int32) : Bool := decide (¬ x < lo ∧ ¬ hi < x)
theorem m_in (σ : cS) (x lo hi : Int32) : fX7_in σ x lo hi = some (bI (inI x lo hi)) := by
  unfold fX7_in fX7_in_0 fX7_in_14 fX7_in_15 inI bI
  by_cases h1 : x < lo
  · rw [if_pos h1]
    simp [h1, n0, isb0, grd_t]
  · rw [if_neg h1]
    by_cases h2 : hi < x
    · simp [h1, h2, n0, isb0, grd_t]
    · simp [h1, h2, n1, isb1, grd_t]
/-- the code of the first refusal -/
def rfc (a b c : Bool) : Nat := if a = true then 1 else if b = true then 2 else if c = true then 3 else 0
theorem m_refuses (σ : cS) (a b c : Bool) : fX7_refuses σ 0 (bI a) (bI b) (bI c) = some (bI (decide (rfc a b c ≠ 0)), st2 σ 0 7 (nI (rfc a b c))) := by
  unfold fX7_refuses fX7_refuses_0 fX7_refuses_26 fX7_refuses_41
  cases a <;> cases b <;> cases c <;> simp [bI, rfc, n0, n1, n2, n3, eq_n, bnd_e, st2_e, isb0, isb1, grd_t]
theorem m_isNode {τ : cS} {A : Nat → Nat} {B : Nat} (h : MR τ A) (w : WF A B) (x : Int32) : fX7_isNode (lMt ()) τ 0 x = some (bI (inI x (nI 0) (nI (A 0 - 1)))) := by
  unfold fX7_isNode fX7_isNode_0
  have e : nI (A 0) - nI 1 = nI (A 0 - 1) := by
    obtain ⟨w1, w2, -⟩ := w
    obtain ⟨m, hm⟩ : ∃ m, A 0 = m + 1 := ⟨A 0 - 1, by omega⟩
    rw [hm]
    exact nI_pred m
  simp (disch := omega) only [Nat.zero_add, lm1, grd_t, bnd_e, n0, n1, n2, n3, n4, n5, n6, n7, n8, n9, n10, n11, n12, n16, n20, n31, n40, n48, n56, n57, n61, n96, n97, n98, n99, n100, n108, n114, n116, n120, n127, n128, n136, n176, n215, n216, n255, n864, n999, n4096, n1000000, inb_n, nI_clamp, le_n, lt_n, eq_n, nI_add, Option.bind_some, Option.bind, h _, m_in, e, bI_isb]
theorem m_holder {τ : cS} {A : Nat → Nat} {B k : Nat} (h : MR τ A) (w : WF A B) (hk : k < A 3) : fX7_holder (lMt ()) τ 0 (nI k) = some (nI (hd A k)) := by
  obtain ⟨w1, w2, w3, w4, w5, w6, w7⟩ := w
  have w5k := w5 k hk
  unfold fX7_holder fX7_holder_0 fX7_holder_34 hd
  simp (disch := omega) only [Nat.zero_add, lm1, grd_t, bnd_e, n0, n1, n2, n3, n4, n5, n6, n7, n8, n9, n10, n11, n12, n16, n20, n31, n40, n48, n56, n57, n61, n96, n97, n98, n99, n100, n108, n114, n116, n120, n127, n128, n136, n176, n215, n216, n255, n864, n999, n4096, n1000000, inb_n, nI_clamp, le_n, lt_n, eq_n, nI_add, Option.bind_some, Option.bind, h _]
  split <;> rfl
theorem m_other {τ : cS} {A : Nat → Nat} {B k : Nat} (h : MR τ A) (w : WF A B) (hk : k < A 3) : fX7_other (lMt ()) τ 0 (nI k) = some (nI (ot A k)) := by
  obtain ⟨w1, w2, w3, w4, w5, w6, w7⟩ := w
  have w5k := w5 k hk
  unfold fX7_other fX7_other_0 fX7_other_34 ot
  simp (disch := omega) only [Nat.zero_add, lm1, grd_t, bnd_e, n0, n1, n2, n3, n4, n5, n6, n7, n8, n9, n10, n11, n12, n16, n20, n31, n40, n48, n56, n57, n61, n96, n97, n98, n99, n100, n108, n114, n116, n120, n127, n128, n136, n176, n215, n216, n255, n864, n999, n4096, n1000000, inb_n, nI_clamp, le_n, lt_n, eq_n, nI_add, Option.bind_some, Option.bind, h _]
  split <;> rfl
theorem hd_lt {A : Nat → Nat} {B k : Nat} (w : WF A B) (hk : k < A 3) : hd A k < A 0 := by
  have := w.2.2.2.2.1 k hk
  unfold hd; split <;> omega
theorem ot_lt {A : Nat → Nat} {B k : Nat} (w : WF A B) (hk : k < A 3) : ot A k < A 0 := by
  have := w.2.2.2.2.1 k hk
  unfold ot; split <;> omega
theorem m_load_loop {τ : cS} {A : Nat → Nat} {B v Nf : Nat} (h : MR τ A) (w : WF A B) (hv : v < 2 ^ 31) : ∀ (d i n : Nat), i + d = A 3 → d < n → fX7_load_4 (lMt ()) Nf τ 0 n (nI v) (nI (cnt (fun k => hd A k == v) i)) (nI i) = some (nI (ld A v)) := by
  have w3 := w.2.2.1
  have w2 := w.2.1
  intro d
  induction d with
  | zero =>
    intro i n h1 hn
    obtain ⟨n, rfl⟩ : ∃ z, n = z + 1 := ⟨n - 1, by omega⟩
    unfold fX7_load_4
    simp (disch := omega) only [Nat.zero_add, lm1, grd_t, bnd_e, n0, n1, n2, n3, n4, n5, n6, n7, n8, n9, n10, n11, n12, n16, n20, n31, n40, n48, n56, n57, n61, n96, n97, n98, n99, n100, n108, n114, n116, n120, n127, n128, n136, n176, n215, n216, n255, n864, n999, n4096, n1000000, inb_n, nI_clamp, le_n, lt_n, eq_n, nI_add, Option.bind_some, Option.bind, h _]
    rw [if_pos (by omega), show i = A 3 by omega]
    rfl
  | succ d ih =>
    intro i n h1 hn
    obtain ⟨n, rfl⟩ : ∃ z, n = z + 1 := ⟨n - 1, by omega⟩
    have hl := hd_lt w (show i < A 3 by omega)
    unfold fX7_load_4 fX7_load_29
    simp (disch := omega) only [Nat.zero_add, lm1, grd_t, bnd_e, n0, n1, n2, n3, n4, n5, n6, n7, n8, n9, n10, n11, n12, n16, n20, n31, n40, n48, n56, n57, n61, n96, n97, n98, n99, n100, n108, n114, n116, n120, n127, n128, n136, n176, n215, n216, n255, n864, n999, n4096, n1000000, inb_n, nI_clamp, le_n, lt_n, eq_n, nI_add, Option.bind_some, Option.bind, h _]
    rw [if_neg (by omega), m_holder h w (by omega)]
    have := ih (i + 1) n (by omega) (by omega)
    simp only [cnt] at this
    by_cases e : hd A i = v
    · rw [if_pos (by simp [e])] at this
      simp (disch := omega) only [grd_t, bnd_e, n0, n1, n2, n3, n4, n5, n6, n7, n8, n9, n10, n11, n12, n16, n20, n31, n40, n48, n56, n57, n61, n96, n97, n98, n99, n100, n108, n114, n116, n120, n127, n128, n136, n176, n215, n216, n255, n864, n999, n4096, n1000000, inb_n, nI_clamp, le_n, lt_n, eq_n, nI_add, Option.bind_some, Option.bind]
      rw [if_pos e]
      exact this
    · rw [if_neg (by simp [e])] at this
      simp (disch := omega) only [grd_t, bnd_e, n0, n1, n2, n3, n4, n5, n6, n7, n8, n9, n10, n11, n12, n16, n20, n31, n40, n48, n56, n57, n61, n96, n97, n98, n99, n100, n108, n114, n116, n120, n127, n128, n136, n176, n215, n216, n255, n864, n999, n4096, n1000000, inb_n, nI_clamp, le_n, lt_n, eq_n, nI_add, Option.bind_some, Option.bind]
      rw [if_neg e]
      exact this
theorem m_load {τ : cS} {A : Nat → Nat} {B v Nf : Nat} (h : MR τ A) (w : WF A B) (hv : v < 2 ^ 31) (hf : 40 < Nf) : fX7_load (lMt ()) Nf τ 0 (nI v) = some (nI (ld A v)) := by
  unfold fX7_load fX7_load_0
  rw [n0]
  exact m_load_loop h w hv (A 3) 0 Nf (by omega) (by have := w.2.2.1; omega)
theorem ld_le {A : Nat → Nat} {B : Nat} (w : WF A B) (v : Nat) : ld A v ≤ 40 := Nat.le_trans (cnt_le _ _) w.2.2.1
theorem m_place_loop {τ : cS} {A : Nat → Nat} {B Nf : Nat} {x : Int32} (h : MR τ A) (w : WF A B) : ∀ (d i n : Nat), i + d = A 3 → d < n → fX7_placeOf_2 (lMt ()) Nf τ 0 n x (nI i) = some (plI (fnd (fun k => decide (nI (A (16 + k)) = x)) i d)) := by
  have w3 := w.2.2.1
  intro d
  induction d with
  | zero =>
    intro i n h1 hn
    obtain ⟨n, rfl⟩ : ∃ z, n = z + 1 := ⟨n - 1, by omega⟩
    unfold fX7_placeOf_2
    simp (disch := omega) only [Nat.zero_add, lm1, grd_t, bnd_e, n0, n1, n2, n3, n4, n5, n6, n7, n8, n9, n10, n11, n12, n16, n20, n31, n40, n48, n56, n57, n61, n96, n97, n98, n99, n100, n108, n114, n116, n120, n127, n128, n136, n176, n215, n216, n255, n864, n999, n4096, n1000000, inb_n, nI_clamp, le_n, lt_n, eq_n, nI_add, Option.bind_some, Option.bind, h _]
    rw [if_pos (by omega)]
    rfl
  | succ d ih =>
    intro i n h1 hn
    obtain ⟨n, rfl⟩ : ∃ z, n = z + 1 := ⟨n - 1, by omega⟩
    unfold fX7_placeOf_2
    simp (disch := omega) only [Nat.zero_add, lm1, grd_t, bnd_e, n0, n1, n2, n3, n4, n5, n6, n7, n8, n9, n10, n11, n12, n16, n20, n31, n40, n48, n56, n57, n61, n96, n97, n98, n99, n100, n108, n114, n116, n120, n127, n128, n136, n176, n215, n216, n255, n864, n999, n4096, n1000000, inb_n, nI_clamp, le_n, lt_n, eq_n, nI_add, Option.bind_some, Option.bind, h _]
    rw [if_neg (by omega), ih (i + 1) n (by omega) (by omega)]
    simp only [fnd, decide_eq_true_eq]
    by_cases e : nI (A (16 + i)) = x
    · rw [if_pos e, if_pos e]; rfl
    · rw [if_neg e, if_neg e]
def plc (A : Nat → Nat) (x : Int32) : Option Nat := fnd (fun k => decide (nI (A (16 + k)) = x)) 0 (A 3)
theorem m_place {τ : cS} {A : Nat → Nat} {B Nf : Nat} {x : Int32} (h : MR τ A) (w : WF A B) (hf : 40 < Nf) : fX7_placeOf (lMt ()) Nf τ 0 x = some (plI (plc A x)) := by
  unfold fX7_placeOf fX7_placeOf_0
  rw [n0]
  exact m_place_loop h w (A 3) 0 Nf (by omega) (by have := w.2.2.1; omega)
theorem fnd_some {p : Nat → Bool} : ∀ (d i k : Nat), fnd p i d = some k → i ≤ k ∧ k < i + d ∧ p k = true := by
  intro d
  induction d with
  | zero => intro i k h; cases h
  | succ d ih =>
    intro i k h
    simp only [fnd] at h
    by_cases e : p i = true
    · rw [if_pos e] at h
      cases h
      exact ⟨Nat.le_refl _, by omega, e⟩
    · rw [if_neg e] at h
      obtain ⟨h1, h2, h3⟩ := ih (i + 1) k h
      exact ⟨by omega, by omega, h3⟩
theorem plc_lt {A : Nat → Nat} {x : Int32} {k : Nat} (h : plc A x = some k) : k < A 3 := by
  have := fnd_some _ _ _ h
  omega
theorem plI_ge {A : Nat → Nat} {B : Nat} (w : WF A B) (x : Int32) : (0 ≤ plI (plc A x)) = ((plc A x).isSome = true) := by
  have w3 := w.2.2.1
  cases e : plc A x with
  | none => simp [plI]
  | some k =>
    have := plc_lt e
    simp only [plI, Option.isSome_some, eq_self_iff_true, n0]
    simp (disch := omega) only [le_n, Nat.zero_le]
