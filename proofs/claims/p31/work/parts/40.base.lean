/-! ===== the pure run: numbers ===== -/
theorem n0 : (0 : Int32) = nI 0 := rfl
theorem n1 : (1 : Int32) = nI 1 := rfl
theorem n2 : (2 : Int32) = nI 2 := rfl
theorem n3 : (3 : Int32) = nI 3 := rfl
theorem n4 : (4 : Int32) = nI 4 := rfl
theorem n5 : (5 : Int32) = nI 5 := rfl
theorem n6 : (6 : Int32) = nI 6 := rfl
theorem n7 : (7 : Int32) = nI 7 := rfl
theorem n8 : (8 : Int32) = nI 8 := rfl
theorem n9 : (9 : Int32) = nI 9 := rfl
theorem n10 : (10 : Int32) = nI 10 := rfl
theorem n11 : (11 : Int32) = nI 11 := rfl
theorem n12 : (12 : Int32) = nI 12 := rfl
theorem n16 : (16 : Int32) = nI 16 := rfl
theorem n20 : (20 : Int32) = nI 20 := rfl
theorem n31 : (31 : Int32) = nI 31 := rfl
theorem n40 : (40 : Int32) = nI 40 := rfl
theorem n48 : (48 : Int32) = nI 48 := rfl
theorem n56 : (56 : Int32) = nI 56 := rfl
theorem n57 : (57 : Int32) = nI 57 := rfl
theorem n61 : (61 : Int32) = nI 61 := rfl
theorem n96 : (96 : Int32) = nI 96 := rfl
theorem n97 : (97 : Int32) = nI 97 := rfl
theorem n98 : (98 : Int32) = nI 98 := rfl
theorem n99 : (99 : Int32) = nI 99 := rfl
theorem n100 : (100 : Int32) = nI 100 := rfl
theorem n108 : (108 : Int32) = nI 108 := rfl
theorem n114 : (114 : Int32) = nI 114 := rfl
theorem n116 : (116 : Int32) = nI 116 := rfl
theorem n120 : (120 : Int32) = nI 120 := rfl
theorem n127 : (127 : Int32) = nI 127 := rfl
theorem n128 : (128 : Int32) = nI 128 := rfl
theorem n136 : (136 : Int32) = nI 136 := rfl
theorem n176 : (176 : Int32) = nI 176 := rfl
theorem n215 : (215 : Int32) = nI 215 := rfl
theorem n216 : (216 : Int32) = nI 216 := rfl
theorem n255 : (255 : Int32) = nI 255 := rfl
theorem n864 : (864 : Int32) = nI 864 := rfl
theorem n999 : (999 : Int32) = nI 999 := rfl
theorem n4096 : (4096 : Int32) = nI 4096 := rfl
theorem n1000000 : (1000000 : Int32) = nI 1000000 := rfl
theorem grd_t {ρ : Type} {E : Option ρ} : grd true E = E := rfl
theorem bnd_e {α β : Type} {x : α} {f : α → β} : bnd x f = f x := rfl
theorem inb_n {i n : Nat} (h : i < n) (hn : n < 2 ^ 31) : inb (nI i) n = true := by
  unfold inb
  exact decide_eq_true (nI_in h hn)
theorem le_n {a b : Nat} (ha : a < 2 ^ 31) (hb : b < 2 ^ 31) : (nI a ≤ nI b) = (a ≤ b) := propext (nI_leI ha hb)
theorem lt_n {a b : Nat} (ha : a < 2 ^ 31) (hb : b < 2 ^ 31) : (nI a < nI b) = (a < b) := propext (nI_ltI ha hb)
theorem eq_n {a b : Nat} (ha : a < 2 ^ 31) (hb : b < 2 ^ 31) : (nI a = nI b) = (a = b) := propext (nI_eq ha hb)
theorem ofNat_n (n : Nat) : Int32.ofNat n = nI n := rfl
theorem st2_e (σ : cS) (k j : Nat) (v : Int32) (a b : Nat) : st2 σ k j v a b = if a = k ∧ b = j then v else σ a b := st2_eq
/-- a row written from a place on -/
def rowF (σ : cS) (k lo hi : Nat) (f : Nat → Int32) : cS := fun a b => if a = k ∧ lo ≤ b ∧ b < hi then f b else σ a b
theorem rowF_st (σ : cS) (k i n : Nat) (f : Nat → Int32) (h : i < n) : rowF (st2 σ k i (f i)) k (i + 1) n f = rowF σ k i n f := by
  funext a b
  simp only [rowF, st2_e]
  by_cases h1 : a = k
  · by_cases h2 : b = i
    · subst h2; simp [h1, h]
    · by_cases h3 : i + 1 ≤ b ∧ b < n
      · simp [h1, h3, show i ≤ b by omega]
      · rw [if_neg (by omega), if_neg (by omega), if_neg (by omega)]
  · simp [h1]
theorem rowF_nil (σ : cS) (k n : Nat) (f : Nat → Int32) : rowF σ k n n f = σ := by
  funext a b
  simp only [rowF]
  rw [if_neg (by omega)]
/-! rows of the class -/
theorem row_get {L : Nat → Nat} {σ : cS} {k i N : Nat} (hN : L (k + 1) = N) (h : i < N) (h2 : N < 2 ^ 31) : fX4_get L σ k (nI i) = some (σ (k + 1) i) := by
  unfold fX4_get fX4_get_0 fX4_get_22 fX4_get_23
  rw [hN]
  simp (disch := omega) only [ofNat_n, grd_t, bnd_e, n0, n1, n2, n3, n4, n5, n6, n7, n8, n9, n10, n11, n12, n16, n20, n31, n40, n48, n56, n57, n61, n96, n97, n98, n99, n100, n108, n114, n116, n120, n127, n128, n136, n176, n215, n216, n255, n864, n999, n4096, n1000000, inb_n, nI_clamp, le_n, lt_n, eq_n, nI_add, Option.bind_some, Option.bind]
  rw [if_neg (by omega), if_neg (by omega)]
theorem row_set {L : Nat → Nat} {σ : cS} {k i N : Nat} {v : Int32} (hN : L (k + 1) = N) (h : i < N) (h2 : N < 2 ^ 31) : fX4_set L σ k (nI i) v = some (st2 σ (k + 1) i v) := by
  unfold fX4_set fX4_set_0 fX4_set_20
  rw [hN]
  simp (disch := omega) only [ofNat_n, grd_t, bnd_e, n0, n1, n2, n3, n4, n5, n6, n7, n8, n9, n10, n11, n12, n16, n20, n31, n40, n48, n56, n57, n61, n96, n97, n98, n99, n100, n108, n114, n116, n120, n127, n128, n136, n176, n215, n216, n255, n864, n999, n4096, n1000000, inb_n, nI_clamp, le_n, lt_n, eq_n, nI_add, Option.bind_some, Option.bind]
  rw [if_neg (by omega), if_neg (by omega)]
theorem row_inc {L : Nat → Nat} {σ : cS} {k i N : Nat} {v : Int32} (hN : L (k + 1) = N) (h : i < N) (h2 : N < 2 ^ 31) : fX4_increase L σ k (nI i) v = some (st2 σ (k + 1) i (σ (k + 1) i + v)) := by
  unfold fX4_increase fX4_increase_0 fX4_increase_23
  rw [hN]
  simp (disch := omega) only [ofNat_n, grd_t, bnd_e, n0, n1, n2, n3, n4, n5, n6, n7, n8, n9, n10, n11, n12, n16, n20, n31, n40, n48, n56, n57, n61, n96, n97, n98, n99, n100, n108, n114, n116, n120, n127, n128, n136, n176, n215, n216, n255, n864, n999, n4096, n1000000, inb_n, nI_clamp, le_n, lt_n, eq_n, nI_add, Option.bind_some, Option.bind]
  rw [if_neg (by omega), if_neg (by omega)]
theorem fill_loop {L : Nat → Nat} {Nf k N : Nat} {v : Int32} (hN : L (k + 1) = N) (h2 : N < 2 ^ 31) : ∀ (d i n : Nat) (σ : cS), i + d = N → d < n → fX4_fill_2 L Nf k n v (nI i) σ = some (rowF σ (k + 1) i N (fun _ => v)) := by
  intro d
  induction d with
  | zero =>
    intro i n σ h1 hn
    obtain ⟨n, rfl⟩ : ∃ z, n = z + 1 := ⟨n - 1, by omega⟩
    unfold fX4_fill_2
    rw [hN]
    simp (disch := omega) only [ofNat_n, grd_t, bnd_e, n0, n1, n2, n3, n4, n5, n6, n7, n8, n9, n10, n11, n12, n16, n20, n31, n40, n48, n56, n57, n61, n96, n97, n98, n99, n100, n108, n114, n116, n120, n127, n128, n136, n176, n215, n216, n255, n864, n999, n4096, n1000000, inb_n, nI_clamp, le_n, lt_n, eq_n, nI_add, Option.bind_some, Option.bind]
    rw [if_pos (by omega), show i = N by omega, rowF_nil]
  | succ d ih =>
    intro i n σ h1 hn
    obtain ⟨n, rfl⟩ : ∃ z, n = z + 1 := ⟨n - 1, by omega⟩
    unfold fX4_fill_2
    rw [hN]
    simp (disch := omega) only [ofNat_n, grd_t, bnd_e, n0, n1, n2, n3, n4, n5, n6, n7, n8, n9, n10, n11, n12, n16, n20, n31, n40, n48, n56, n57, n61, n96, n97, n98, n99, n100, n108, n114, n116, n120, n127, n128, n136, n176, n215, n216, n255, n864, n999, n4096, n1000000, inb_n, nI_clamp, le_n, lt_n, eq_n, nI_add, Option.bind_some, Option.bind]
    rw [if_neg (by omega), ih (i + 1) n _ (by omega) (by omega), rowF_st _ _ _ _ (fun _ => v) (by omega)]
theorem row_fill {L : Nat → Nat} {Nf : Nat} {σ : cS} {k N : Nat} {v : Int32} (hN : L (k + 1) = N) (h2 : N < 2 ^ 31) (hf : N < Nf) : fX4_fill L Nf σ k v = some (rowF σ (k + 1) 0 N (fun _ => v)) := by
  unfold fX4_fill fX4_fill_0
  rw [n0]
  exact fill_loop hN h2 N 0 Nf σ (by omega) hf
theorem copy_loop {L : Nat → Nat} {Nf k k1 N : Nat} (hN : L (k + 1) = N) (hN1 : L (k1 + 1) = N) (hk : k ≠ k1) (h2 : N < 2 ^ 31) : ∀ (d i n : Nat) (σ : cS), i + d = N → d < n → fX4_copyFrom_2 L Nf k k1 n (nI i) σ = some (rowF σ (k + 1) i N (σ (k1 + 1))) := by
  intro d
  induction d with
  | zero =>
    intro i n σ h1 hn
    obtain ⟨n, rfl⟩ : ∃ z, n = z + 1 := ⟨n - 1, by omega⟩
    unfold fX4_copyFrom_2 fX4_copyFrom_38
    rw [hN, hN1]
    simp (disch := omega) only [ofNat_n, grd_t, bnd_e, n0, n1, n2, n3, n4, n5, n6, n7, n8, n9, n10, n11, n12, n16, n20, n31, n40, n48, n56, n57, n61, n96, n97, n98, n99, n100, n108, n114, n116, n120, n127, n128, n136, n176, n215, n216, n255, n864, n999, n4096, n1000000, inb_n, nI_clamp, le_n, lt_n, eq_n, nI_add, Option.bind_some, Option.bind]
    rw [if_pos (by omega), show i = N by omega, rowF_nil]
  | succ d ih =>
    intro i n σ h1 hn
    obtain ⟨n, rfl⟩ : ∃ z, n = z + 1 := ⟨n - 1, by omega⟩
    unfold fX4_copyFrom_2 fX4_copyFrom_38
    rw [hN, hN1]
    simp (disch := omega) only [ofNat_n, grd_t, bnd_e, n0, n1, n2, n3, n4, n5, n6, n7, n8, n9, n10, n11, n12, n16, n20, n31, n40, n48, n56, n57, n61, n96, n97, n98, n99, n100, n108, n114, n116, n120, n127, n128, n136, n176, n215, n216, n255, n864, n999, n4096, n1000000, inb_n, nI_clamp, le_n, lt_n, eq_n, nI_add, Option.bind_some, Option.bind]
    rw [if_neg (by omega), if_neg (by omega), ih (i + 1) n _ (by omega) (by omega), st2_out (by omega), rowF_st _ _ _ _ (σ (k1 + 1)) (by omega)]
theorem row_copy {L : Nat → Nat} {Nf : Nat} {σ : cS} {k k1 N : Nat} (hN : L (k + 1) = N) (hN1 : L (k1 + 1) = N) (hk : k ≠ k1) (h2 : N < 2 ^ 31) (hf : N < Nf) : fX4_copyFrom L Nf σ k k1 = some (rowF σ (k + 1) 0 N (σ (k1 + 1))) := by
  unfold fX4_copyFrom fX4_copyFrom_0
  rw [n0]
  exact copy_loop hN hN1 hk h2 N 0 Nf σ (by omega) hf

theorem nI_mul (a b : Nat) : nI a * nI b = nI (a * b) := (Int32.ofNat_mul a b).symm
theorem nI_sub {a b : Nat} (h : b ≤ a) : nI a - nI b = nI (a - b) := by
  obtain ⟨c, rfl⟩ : ∃ c, a = c + b := ⟨a - b, by omega⟩
  rw [← nI_add, Nat.add_sub_cancel]
  exact Int32.add_sub_cancel (nI c) (nI b)
theorem bnd_x {α β : Type} {x : α} {f : α → Option β} {P : β → Prop} (h : ∀ y, y = x → ∃ r, f y = some r ∧ P r) : ∃ r, bnd x f = some r ∧ P r := h x rfl
theorem bind_x {α β : Type} {o : Option α} {f : α → Option β} {P : β → Prop} {a : α} (e : o = some a) (h : ∃ r, f a = some r ∧ P r) : ∃ r, o.bind f = some r ∧ P r := by
  rw [e]; exact h
theorem grd_x {β : Type} {b : Bool} {E : Option β} {P : β → Prop} (e : b = true) (h : ∃ r, E = some r ∧ P r) : ∃ r, grd b E = some r ∧ P r := by
  rw [e]; exact h
theorem some_x {β : Type} {a : β} {P : β → Prop} (h : P a) : ∃ r, some a = some r ∧ P r := ⟨a, rfl, h⟩
theorem st2_nj {σ : cS} {k j : Nat} {v : Int32} {a b : Nat} (h : b ≠ j) : st2 σ k j v a b = σ a b := by
  rw [st2_e, if_neg (fun q => h q.2)]
theorem st2_nk {σ : cS} {k j : Nat} {v : Int32} {a b : Nat} (h : a ≠ k) : st2 σ k j v a b = σ a b := by
  rw [st2_e, if_neg (fun q => h q.1)]
theorem st2_ss {σ : cS} {k j : Nat} {v : Int32} : st2 σ k j v k j = v := by
  rw [st2_e, if_pos ⟨rfl, rfl⟩]
theorem rowF_in {σ : cS} {k lo hi b : Nat} {f : Nat → Int32} (h1 : lo ≤ b) (h2 : b < hi) : rowF σ k lo hi f k b = f b := by
  unfold rowF
  rw [if_pos ⟨rfl, h1, h2⟩]
theorem rowF_nk {σ : cS} {k lo hi a b : Nat} {f : Nat → Int32} (h : a ≠ k) : rowF σ k lo hi f a b = σ a b := by
  unfold rowF
  rw [if_neg (fun q => h q.1)]
