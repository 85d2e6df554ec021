/-! ===== calls that change the graph ===== -/
theorem tsm_ext {A A' : Nat → Nat} {n : Nat} (h : ∀ k, k < n → A' (176 + k) = A (176 + k)) : tsm A' n = tsm A n := by
  induction n with
  | zero => rfl
  | succ n ih => simp only [tsm]; rw [ih (fun k hk => h k (by omega)), h n (by omega)]
theorem tsm_gap {A A' : Nat → Nat} {p : Nat} : ∀ n, p ≤ n → (∀ k, k < n → A' (176 + k) = if k < p then A (176 + k) else A (176 + (k + 1))) → tsm A' n + A (176 + p) = tsm A (n + 1) := by
  intro n
  induction n with
  | zero =>
    intro h1 h2
    obtain rfl : p = 0 := by omega
    simp only [tsm]
  | succ n ih =>
    intro h1 h2
    by_cases e : p = n + 1
    · subst e
      have h3 : tsm A' (n + 1) = tsm A (n + 1) := tsm_ext (fun k hk => by rw [h2 k hk, if_pos hk])
      rw [h3]
      rfl
    · have h3 := ih (by omega) (fun k hk => h2 k (by omega))
      have h4 := h2 n (by omega)
      rw [if_neg (by omega)] at h4
      show tsm A' n + A' (176 + n) + A (176 + p) = tsm A (n + 1) + A (176 + (n + 1))
      omega
theorem tsm_up {A A' : Nat → Nat} {k : Nat} : ∀ n, k < n → (∀ j, j < n → A' (176 + j) = if j = k then A (176 + j) + 1 else A (176 + j)) → tsm A' n = tsm A n + 1 := by
  intro n
  induction n with
  | zero => intro h; omega
  | succ n ih =>
    intro h1 h2
    have h4 := h2 n (by omega)
    simp only [tsm]
    by_cases e : k = n
    · subst e
      rw [if_pos rfl] at h4
      rw [tsm_ext (fun j hj => by rw [h2 j (by omega), if_neg (by omega)]), h4]
      omega
    · rw [if_neg (by omega)] at h4
      rw [ih (by omega) (fun j hj => h2 j (by omega)), h4]
      omega
theorem trn_176 {A : Nat → Nat} {B k j : Nat} (w : WF A B) (hk : k < A 3) (hj : j < A 3) : trnA A k (176 + j) = if j = k then A (176 + j) + 1 else A (176 + j) := by
  have w3 := w.2.2.1
  unfold trnA
  rw [up_o (by omega)]
  by_cases e : j = k
  · subst e
    rw [if_pos rfl, up_s]
  · rw [if_neg e, up_o (by omega), up_o (by omega)]
theorem trn_2 {A : Nat → Nat} {k : Nat} : trnA A k 2 = A 2 + 1 := up_s
theorem trn_tsm {A : Nat → Nat} {B k : Nat} (w : WF A B) (hk : k < A 3) : tsm (trnA A k) (A 3) = tsm A (A 3) + 1 := tsm_up (A 3) hk (fun j hj => trn_176 w hk hj)
theorem trn_GA {A : Nat → Nat} {B k : Nat} (w : GA A B) (hk : k < A 3) : GA (trnA A k) (B + 1) := by
  obtain ⟨w1, w2, w3, w4⟩ := w
  have h3 : trnA A k 3 = A 3 := trn_o (by omega) (by omega) (by omega)
  refine ⟨WF_up (trn_WF w1 hk) (by omega), ?_, ?_, ?_⟩
  · rw [h3, trn_tsm w1 hk, trn_2]; omega
  · rw [trn_2]; omega
  · rw [h3]; omega
theorem add_2 {A : Nat → Nat} {a b : Nat} (h3 : A 3 < 40) : addA A a b 2 = A 2 := add_o (by omega) (by omega) (by omega) (by omega) (by omega) (by omega) (by omega)
theorem add_GA {A : Nat → Nat} {B a b : Nat} (w : GA A B) (h3 : A 3 < 40) (ha : a < A 0) (hb : b < A 0) (hab : a ≠ b) : GA (addA A a b) (B + 12) := by
  obtain ⟨w1, w2, w3, w4⟩ := w
  refine ⟨WF_up (add_WF w1 h3 ha hb hab) (by omega), ?_, ?_, ?_⟩
  · rw [add_3, add_2 h3]
    simp only [tsm]
    have h1 : addA A a b (176 + A 3) = 0 := by
      unfold addA
      rw [up_o (by omega), up_o (by omega), up_s]
    rw [h1, tsm_ext (fun k hk => add_o (by omega) (by omega) (by omega) (by omega) (by omega) (by omega) (by omega))]
    omega
  · rw [add_2 h3]; omega
  · rw [add_3]; omega
theorem rem_GA {A : Nat → Nat} {B p : Nat} (w : GA A B) (hp : p < A 3) : GA (remA A p) B := by
  obtain ⟨w1, w2, w3, w4⟩ := w
  have h40 := w1.2.2.1
  refine ⟨rem_WF w1 hp, ?_, ?_, ?_⟩
  · have h1 := tsm_gap (A := A) (A' := remA A p) (p := p) (A 3 - 1) (by omega) (fun k hk => rem_bl (Or.inr (Or.inr (Or.inr (Or.inr rfl)))) hk h40)
    rw [show A 3 - 1 + 1 = A 3 by omega] at h1
    rw [rem_3, rem_lo (by omega) (by omega)]
    omega
  · rw [rem_lo (by omega) (by omega)]; exact w3
  · rw [rem_3]; omega
theorem zr_GA {n B : Nat} (h1 : 2 ≤ n) (h2 : n ≤ 12) : GA (zrA n) B := ⟨WF_up (zr_WF h1 h2) (Nat.zero_le _), by show tsm (zrA n) 0 ≤ _; exact Nat.zero_le _, Nat.zero_le _, Nat.zero_le _⟩
theorem o_begin {σ : cS} {A : Nat → Nat} {B n Nf : Nat} (v : ST σ A B) (h1 : 2 ≤ n) (h2 : n ≤ 12) (hf : 1000 < Nf) : ∃ σ', fL_begin (lCt ()) Nf σ 107 (nI n) = some (nI (A 3), σ') ∧ NX σ' A (zrA n) B := by
  obtain ⟨Hs, q, c, v⟩ := v
  obtain ⟨σ1, Hs1, q1, c1, k1, k2, k3, k4, k5, k6⟩ := o_save v (show 40 < Nf by omega)
  obtain ⟨σ2, r1, r2, r3⟩ := c_restart (σ := σ1) (n := n) LG_0 (show 40 < Nf by omega)
  refine ⟨st2 σ2 97 6 (nI 0), ?_, ?_⟩
  · unfold fL_begin fX6_begin fX6_begin_0
    simp (disch := omega) only [grd_t, n0, n1, n2, n3, n4, n5, n6, n7, n8, n9, n10, n11, n12, n16, n20, n31, n40, n48, n56, n57, n61, n96, n97, n98, n99, n100, n108, n114, n116, n120, n127, n128, n136, n176, n215, n216, n255, n864, n999, n4096, n1000000, inb_n, nI_clamp, le_n, lt_n, eq_n, nI_add, nI_mul]
    rw [if_neg (by omega), if_pos (by omega), bnd_e, k1, v.1.2.1]
    show Option.bind ((fX0_restart (lCt ()) Nf σ1 0 (nI n)).bind _) _ = _
    rw [r1]
    rfl
  · refine NX_of v.2.2.2.2 k3 k4 k5 k6 (fun x hx => ?_) (GR_keep r2 (fun x hx hx2 => st2_out (by omega))) (zr_GA h1 h2) (Nat.le_refl _) (Or.inl st2_ss)
    rw [st2_out (by omega), r3 x (by omega)]
theorem o_add {σ : cS} {A : Nat → Nat} {B a b Nf : Nat} (v : ST σ A B) (ha : a < A 0) (hb : b < A 0) (hab : a ≠ b) (h3 : A 3 < 40) (hf : 1000 < Nf) : ∃ σ', fL_add (lCt ()) Nf σ 107 (nI a) (nI b) = some (nI (A 1), σ') ∧ NX σ' A (addA A a b) (B + 12) := by
  obtain ⟨Hs, q, c, v⟩ := v
  have w := v.2.1.1
  have w2 := w.2.1
  obtain ⟨σ1, Hs1, q1, c1, k1, k2, k3, k4, k5, k6⟩ := o_save v (show 40 < Nf by omega)
  have k4' : GR (st2 σ1 97 6 (nI 0)) 0 A := GR_keep k2 (fun x hx hx2 => st2_out (by omega))
  obtain ⟨rc, r1, r2, r3, r4⟩ := c_join (a := a) (b := b) LG_0 k4' w h3 (by omega) (by omega)
  refine ⟨rc.2, ?_, ?_⟩
  · unfold fL_add fX6_add fX6_add_0
    rw [chk_y v.1 w (isN_y w ha), xbn_l, chk_y v.1 w (isN_y w hb), xbn_l]
    unfold fX6_checkDifferent fX6_checkDifferent_0
    rw [if_neg (by rw [eq_n (by omega) (by omega)]; exact hab), xbn_l, c_isFull v.1 w, Option.bind_some, if_pos (by rw [decide_eq_false (by omega)]; rfl), k1, Option.bind_some, forget_e, Option.bind_some, r1, Option.bind_some, Option.bind_some]
    show some (rc.1, rc.2) = _
    rw [r2]
  · refine NX_of v.2.2.2.2 k3 k4 k5 k6 (fun x hx => ?_) r3 (add_GA v.2.1 h3 ha hb hab) (by omega) (Or.inl ?_)
    · rw [r4 x (by omega), st2_out (by omega)]
    · rw [r4 97 (by omega), st2_ss]
theorem o_remove {σ : cS} {A : Nat → Nat} {B p Nf : Nat} {x1 : Int32} (v : ST σ A B) (e : plc A x1 = some p) (hf : 1000 < Nf) : ∃ σ', fL_remove (lCt ()) Nf σ 107 x1 = some (nI (hd A p), σ') ∧ NX σ' A (remA A p) B := by
  obtain ⟨Hs, q, c, v⟩ := v
  have w := v.2.1.1
  have hp1 := plc_lt e
  obtain ⟨σ1, Hs1, q1, c1, k1, k2, k3, k4, k5, k6⟩ := o_save v (show 40 < Nf by omega)
  have k4' : GR (st2 σ1 97 6 (nI 0)) 0 A := GR_keep k2 (fun x hx hx2 => st2_out (by omega))
  obtain ⟨rc, r1, r2, r3, r4⟩ := c_cut (Nf := Nf) LG_0 k4' w hp1 (by omega)
  refine ⟨rc.2, ?_, ?_⟩
  · unfold fL_remove fX6_remove fX6_remove_0
    rw [chs_y v.1 w (by omega) e]
    show Option.bind (Option.bind (fX1_save (lCt ()) Nf σ 105 0) _) _ = _
    rw [k1, Option.bind_some, forget_e, Option.bind_some, r1, Option.bind_some, Option.bind_some]
    show some (rc.1, rc.2) = _
    rw [r2]
  · refine NX_of v.2.2.2.2 k3 k4 k5 k6 (fun x hx => ?_) r3 (rem_GA v.2.1 hp1) (Nat.le_refl _) (Or.inl ?_)
    · rw [r4 x (by omega), st2_out (by omega)]
    · rw [r4 97 (by omega), st2_ss]
theorem o_turn {σ : cS} {A : Nat → Nat} {B p Nf : Nat} {x1 : Int32} (v : ST σ A B) (e : plc A x1 = some p) (hf : 1000 < Nf) : ∃ σ', fL_turn (lCt ()) Nf σ 107 x1 = some (nI (ot A p), σ') ∧ NX σ' A (trnA A p) (B + 1) := by
  obtain ⟨Hs, q, c, v⟩ := v
  have w := v.2.1.1
  have hp1 := plc_lt e
  obtain ⟨σ1, Hs1, q1, c1, k1, k2, k3, k4, k5, k6⟩ := o_save v (show 40 < Nf by omega)
  obtain ⟨rc, r1, r2, r3, r4⟩ := c_flip LG_0 k2 w hp1
  refine ⟨rc.2, ?_, ?_⟩
  · unfold fL_turn fX6_turn fX6_turn_0
    rw [chs_y v.1 w (by omega) e]
    show Option.bind (Option.bind (fX1_save (lCt ()) Nf σ 105 0) _) _ = _
    rw [k1, Option.bind_some, r1, Option.bind_some, Option.bind_some]
    show some (rc.1, rc.2) = _
    rw [r2]
  · refine NX_of v.2.2.2.2 k3 k4 k5 k6 (fun x hx => r4 x (by omega)) r3 (trn_GA v.2.1 hp1) (by omega) (PT_keep v.2.2.2.1 ?_ ?_ (trn_o (by omega) (by omega) (by omega)) (inn_trn w hp1))
    · rw [r4 97 (by omega), k6 97 (by omega) (by omega)]
    · rw [r4 98 (by omega), k6 98 (by omega) (by omega)]
theorem o_noEdge {σ : cS} {A : Nat → Nat} {B Nf : Nat} {x1 : Int32} (v : ST σ A B) (e : plc A x1 = none) (hf : 1000 < Nf) : fL_remove (lCt ()) Nf σ 107 x1 = some (-2054, σ) ∧ fL_turn (lCt ()) Nf σ 107 x1 = some (-2054, σ) ∧ fL_leastWithout (lCt ()) Nf σ 107 x1 = some (-2054, σ) ∧ ∀ y, fL_edge (lCt ()) Nf σ 107 x1 y = some (-2054, σ) := by
  obtain ⟨g, w, p, ga⟩ := ST_g v
  refine ⟨?_, ?_, ?_, fun y => ?_⟩
  · unfold fL_remove fX6_remove fX6_remove_0
    rw [chs_n g w (by omega) e]; rfl
  · unfold fL_turn fX6_turn fX6_turn_0
    rw [chs_n g w (by omega) e]; rfl
  · unfold fL_leastWithout fX6_leastWithout fX6_leastWithout_0
    rw [chs_n g w (by omega) e]; rfl
  · unfold fL_edge fX6_edge fX6_edge_0
    rw [chs_n g w (by omega) e]; rfl
theorem o_setCap {σ : cS} {A : Nat → Nat} {B s cp Nf : Nat} (v : ST σ A B) (hs : s < A 0) (hc : cp ≤ 40) (hf : 1000 < Nf) : ∃ σ', fL_setCapacity (lCt ()) Nf σ 107 (nI s) (nI cp) = some (nI (A (4 + s)), σ') ∧ NX σ' A (up A (4 + s) cp) B := by
  obtain ⟨Hs, q, c, v⟩ := v
  have w := v.2.1.1
  have w2 := w.2.1
  obtain ⟨σ1, Hs1, q1, c1, k1, k2, k3, k4, k5, k6⟩ := o_save v (show 40 < Nf by omega)
  refine ⟨st2 σ1 (0 + 13 + 1) s (nI cp), ?_, ?_⟩
  · unfold fL_setCapacity fX6_setCapacity fX6_setCapacity_0
    rw [chk_y v.1 w (isN_y w hs)]
    show Option.bind (if nI cp < 0 then _ else if nI cp ≤ 40 then Option.bind (fX4_get (lCt ()) σ 13 (nI s)) _ else _) _ = _
    rw [n0, n40, if_neg (by rw [lt_n (by omega) (by omega)]; omega), if_pos (by rw [le_n (by omega) (by omega)]; omega), row_get (show lCt () (13 + 1) = 12 from rfl) (by omega) (by omega), Option.bind_some, k1, Option.bind_some, row_set (show lCt () (13 + 1) = 12 from rfl) (by omega) (by omega), Option.bind_some]
    show some (σ (0 + 13 + 1) s, _) = _
    rw [v.1.2.2.2.2.2.2.2.2.2.2 s (by omega)]
  · refine NX_of v.2.2.2.2 k3 k4 k5 k6 (fun x hx => st2_out (by omega)) (cap_GR k2 (by omega)) ?_ (Nat.le_refl _) (PT_keep v.2.2.2.1 ?_ ?_ (cap_o (by omega) (by omega)) (fun s => cap_inn (by omega)))
    · obtain ⟨w1, w2, w3, w4⟩ := v.2.1
      refine ⟨cap_WF w1 (by omega) hc, ?_, ?_, ?_⟩
      · rw [up_o (by omega), up_o (by omega), tsm_ext (fun k hk => up_o (by omega))]; exact w2
      · rw [up_o (by omega)]; exact w3
      · rw [up_o (by omega)]; exact w4
    · rw [st2_out (by omega), k6 97 (by omega) (by omega)]
    · rw [st2_out (by omega), k6 98 (by omega) (by omega)]
