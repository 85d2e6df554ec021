/-! ===== an object's state between calls ===== -/
def tsm (A : Nat → Nat) : Nat → Nat
  | 0 => 0
  | n + 1 => tsm A n + A (176 + n)
def GA (A : Nat → Nat) (B : Nat) : Prop := WF A B ∧ tsm A (A 3) ≤ A 2 ∧ A 2 ≤ 300000 * B ∧ 12 * A 3 ≤ B
theorem GA_up {A : Nat → Nat} {B B' : Nat} (h : GA A B) (hb : B ≤ B') : GA A B' := ⟨WF_up h.1 hb, h.2.1, by have := h.2.2.1; omega, by have := h.2.2.2; omega⟩
def HC (σ : cS) (Hs : Nat → Nat → Nat) (q c B : Nat) : Prop := q < 4 ∧ c ≤ 4 ∧ σ 105 1 = nI q ∧ σ 105 2 = nI c ∧ ∀ d i, 1 ≤ d → d ≤ c → i = (q + 4 - d) % 4 → GA (Hs i) B ∧ GR σ (30 + 15 * i) (Hs i)
def CV (σ : cS) (A : Nat → Nat) (Hs : Nat → Nat → Nat) (q c B : Nat) : Prop := GR σ 0 A ∧ GA A B ∧ HC σ Hs q c B ∧ PT σ A ∧ σ 102 1 = nI 0
theorem HC_keep {σ σ' : cS} {Hs : Nat → Nat → Nat} {q c B B' : Nat} (h : HC σ Hs q c B) (hB : B ≤ B') (e1 : ∀ x, 30 ≤ x → x < 90 → σ' x = σ x) (e2 : σ' 105 = σ 105) : HC σ' Hs q c B' := by
  obtain ⟨h1, h2, h3, h4, h7⟩ := h
  refine ⟨h1, h2, by rw [e2]; exact h3, by rw [e2]; exact h4, fun d i hd hc hi => ?_⟩
  obtain ⟨g1, g2⟩ := h7 d i hd hc hi
  exact ⟨GA_up g1 hB, GR_keep g2 (fun x hx hx2 => e1 x (by omega) (by omega))⟩
/-- nothing is written but what only serves the search, the parts, the trial -/
def RD (A : Nat → Nat) (σ σ' : cS) : Prop := (∀ x, (x < 15 ∨ (30 ≤ x ∧ x < 90) ∨ (102 ≤ x ∧ x < 108)) → σ' x = σ x) ∧ (PT σ A → PT σ' A)
theorem RD_rf {A : Nat → Nat} {σ : cS} : RD A σ σ := ⟨fun _ _ => rfl, fun h => h⟩
theorem RD_tr {A : Nat → Nat} {σ σ' σ'' : cS} (h : RD A σ σ') (h' : RD A σ' σ'') : RD A σ σ'' := ⟨fun x hx => (h'.1 x hx).trans (h.1 x hx), fun p => h'.2 (h.2 p)⟩
theorem CV_RD {σ σ' : cS} {A : Nat → Nat} {Hs : Nat → Nat → Nat} {q c B : Nat} (v : CV σ A Hs q c B) (r : RD A σ σ') : CV σ' A Hs q c B := by
  obtain ⟨v1, v2, v3, v4, v5⟩ := v
  exact ⟨GR_keep v1 (fun x _ hx => r.1 x (by omega)), v2, HC_keep v3 (Nat.le_refl _) (fun x h1 h2 => r.1 x (by omega)) (r.1 105 (by omega)), r.2 v4, by rw [r.1 102 (by omega)]; exact v5⟩
theorem RD_FS {A : Nat → Nat} {σ σ' : cS} (f : FS σ σ') : RD A σ σ' := ⟨fun x hx => f x (by omega), fun p => PT_keep p (f 97 (by omega)) (f 98 (by omega)) rfl (fun _ => rfl)⟩
theorem RD_ln {A : Nat → Nat} {σ σ' : cS} (t : TB σ' A) (k : σ' 97 6 = nI 1) (o : ∀ c, c ≠ 97 → c ≠ 98 → c ≠ 99 → c ≠ 100 + 1 → σ' c = σ c) : RD A σ σ' := ⟨fun x hx => o x (by omega) (by omega) (by omega) (by omega), fun _ => Or.inr ⟨k, t⟩⟩
theorem RD_12 {A : Nat → Nat} {σ : cS} : RD A σ (z12 σ) := ⟨fun x hx => z12_o (by omega), fun p => PT_keep p (z12_o (by omega)) (z12_o (by omega)) rfl (fun _ => rfl)⟩
theorem RD_st {A : Nat → Nat} {σ : cS} {i : Nat} {v : Int32} : RD A σ (st2 σ 108 i v) := ⟨fun x hx => st2_out (by omega), fun p => PT_keep p (st2_out (by omega)) (st2_out (by omega)) rfl (fun _ => rfl)⟩
def ST (σ : cS) (A : Nat → Nat) (B : Nat) : Prop := ∃ Hs q c, CV σ A Hs q c B
def NX (σ : cS) (A A' : Nat → Nat) (B : Nat) : Prop := ∃ Hs q c, CV σ A' Hs q c B ∧ 1 ≤ c ∧ Hs ((q + 3) % 4) = A
theorem ST_RD {σ σ' : cS} {A : Nat → Nat} {B : Nat} (v : ST σ A B) (r : RD A σ σ') : ST σ' A B := by
  obtain ⟨Hs, q, c, v⟩ := v
  exact ⟨Hs, q, c, CV_RD v r⟩
theorem NX_RD {σ σ' : cS} {A A' : Nat → Nat} {B : Nat} (v : NX σ A A' B) (r : RD A' σ σ') : NX σ' A A' B := by
  obtain ⟨Hs, q, c, v, h⟩ := v
  exact ⟨Hs, q, c, CV_RD v r, h⟩
theorem ST_NX {σ : cS} {A A' : Nat → Nat} {B : Nat} (v : NX σ A A' B) : ST σ A' B := by
  obtain ⟨Hs, q, c, v, h⟩ := v
  exact ⟨Hs, q, c, v⟩
theorem ST_up {σ : cS} {A : Nat → Nat} {B B' : Nat} (v : ST σ A B) (h : B ≤ B') : ST σ A B' := by
  obtain ⟨Hs, q, c, v1, v2, v3, v4, v5⟩ := v
  exact ⟨Hs, q, c, v1, GA_up v2 h, HC_keep v3 h (fun _ _ _ => rfl) rfl, v4, v5⟩
theorem ST_g {σ : cS} {A : Nat → Nat} {B : Nat} (v : ST σ A B) : GR σ 0 A ∧ WF A B ∧ PT σ A ∧ GA A B := by
  obtain ⟨Hs, q, c, v1, v2, v3, v4, v5⟩ := v
  exact ⟨v1, v2.1, v4, v2⟩
/-- saving -/
theorem o_save {σ : cS} {A : Nat → Nat} {Hs : Nat → Nat → Nat} {q c B Nf : Nat} (v : CV σ A Hs q c B) (hf : 40 < Nf) : ∃ σ1 Hs1 q1 c1, fX1_save (lCt ()) Nf σ 105 0 = some σ1 ∧ GR σ1 0 A ∧ HC σ1 Hs1 q1 c1 B ∧ 1 ≤ c1 ∧ Hs1 ((q1 + 3) % 4) = A ∧ ∀ x, (x < 30 ∨ 90 ≤ x) → x ≠ 105 → σ1 x = σ x := by
  obtain ⟨v1, v2, ⟨h1, h2, h3, h4, h7⟩, v4, v5⟩ := v
  obtain ⟨σ', g1, g2, g3, g4, g5⟩ := c_save v1 v2.1 h1 h2 h3 h4 hf
  refine ⟨σ', fun i => if i = q then A else Hs i, (q + 1) % 4, if 4 ≤ c then 4 else c + 1, g1, GR_keep v1 (fun x hx hx2 => g5 x (by omega) (by omega)), ⟨by omega, by split <;> omega, g3, g4, fun d i hd hc hi => ?_⟩, by split <;> omega, if_pos (by omega), fun x hx hx2 => g5 x hx2 (by omega)⟩
  by_cases e : i = q
  · subst e
    simp only [if_pos]
    exact ⟨v2, g2⟩
  · simp only [if_neg e]
    have hc2 : d ≤ 4 ∧ d ≤ c + 1 := by split at hc <;> omega
    have hd1 : d ≠ 1 := fun e1 => e (by rw [hi, e1]; omega)
    obtain ⟨y1, y2⟩ := h7 (d - 1) i (by omega) (by omega) (by omega)
    exact ⟨y1, GR_keep y2 (fun x hx hx2 => g5 x (by omega) (by omega))⟩
/-- behind saving and a change of the graph -/
theorem NX_of {σ σ1 σ3 : cS} {A A' : Nat → Nat} {Hs : Nat → Nat → Nat} {q1 c1 B B' : Nat} (h5 : σ 102 1 = nI 0) (k5 : HC σ1 Hs q1 c1 B) (hc : 1 ≤ c1) (ht : Hs ((q1 + 3) % 4) = A) (k6 : ∀ x, (x < 30 ∨ 90 ≤ x) → x ≠ 105 → σ1 x = σ x) (f : ∀ x, (30 ≤ x ∧ x < 90) ∨ 102 ≤ x → σ3 x = σ1 x) (g : GR σ3 0 A') (w : GA A' B') (hB : B ≤ B') (p : PT σ3 A') : NX σ3 A A' B' := by
  refine ⟨Hs, q1, c1, ⟨g, w, HC_keep k5 hB (fun x h1 h2 => f x (by omega)) (f 105 (by omega)), p, ?_⟩, hc, ht⟩
  rw [f 102 (by omega), k6 102 (by omega) (by omega)]
  exact h5
/-- undo: the state that was saved last -/
theorem c_undo {σ : cS} {A : Nat → Nat} {Hs : Nat → Nat → Nat} {q c B Nf : Nat} (v : CV σ A Hs q c B) (hc : 1 ≤ c) (hf : 1000 < Nf) : ∃ σ', fL_undo (lCt ()) Nf σ 107 = some (nI (c - 1), σ') ∧ CV σ' (Hs ((q + 3) % 4)) Hs ((q + 3) % 4) (c - 1) B := by
  obtain ⟨v1, v2, ⟨h1, h2, h3, h4, h7⟩, v4, v5⟩ := v
  have hi : (q + 3) % 4 < 4 := Nat.mod_lt _ (by omega)
  obtain ⟨y1, y2⟩ := h7 1 ((q + 3) % 4) (by omega) (by omega) (by omega)
  obtain ⟨σ1, r1, r2, r3⟩ := c_copyFrom (g := 0) (g1 := 30 + 15 * ((q + 3) % 4)) (Nf := Nf) LG_0 (LG_h _ hi) (Or.inl (by omega)) y2 y1.1 (by omega)
  have r17 : fX1_restore_17 (lCt ()) Nf 105 0 (nI ((q + 3) % 4)) σ = some (st2 (st2 σ1 105 1 (nI ((q + 3) % 4))) 105 2 (nI (c - 1))) := by
    unfold fX1_restore_17
    rw [h4]
    simp (disch := omega) only [grd_t, n0, n1, n2, n3, n4, n5, n6, n7, n8, n9, n10, n11, n12, n16, n20, n31, n40, n48, n56, n57, n61, n96, n97, n98, n99, n100, n108, n114, n116, n120, n127, n128, n136, n176, n215, n216, n255, n864, n999, n4096, n1000000, inb_n, nI_clamp, le_n, lt_n, eq_n, nI_add, nI_mul]
    rw [if_neg (by omega), if_neg (by omega), r1, Option.bind_some, bnd_e, bnd_e, st2_nj (by omega), r3 105 (by omega), h4, nI_sub (by omega)]
  have rr : fX1_restore (lCt ()) Nf σ 105 0 = some (st2 (st2 σ1 105 1 (nI ((q + 3) % 4))) 105 2 (nI (c - 1))) := by
    unfold fX1_restore fX1_restore_0
    rw [h3]
    simp (disch := omega) only [grd_t, n0, n1, n2, n3, n4, n5, n6, n7, n8, n9, n10, n11, n12, n16, n20, n31, n40, n48, n56, n57, n61, n96, n97, n98, n99, n100, n108, n114, n116, n120, n127, n128, n136, n176, n215, n216, n255, n864, n999, n4096, n1000000, inb_n, nI_clamp, le_n, lt_n, eq_n, nI_add, nI_mul]
    by_cases e2 : q ≤ 0
    · rw [if_pos e2, show nI 3 = nI ((q + 3) % 4) by rw [show (q + 3) % 4 = 3 by omega]]; exact r17
    · rw [if_neg e2, nI_sub (by omega), show q - 1 = (q + 3) % 4 by omega]; exact r17
  refine ⟨st2 (st2 (st2 σ1 105 1 (nI ((q + 3) % 4))) 105 2 (nI (c - 1))) 97 6 (nI 0), ?_, ?_⟩
  · unfold fL_undo fX6_undo fX6_undo_0
    rw [h4, if_neg (show ¬ nI c = 0 from nI_ne0 (by omega) (by omega)), rr, Option.bind_some, forget_e, Option.bind_some, Option.bind_some, st2_nk (by omega), st2_ss]
    rfl
  · have oc : ∀ x, x ≠ 97 → x ≠ 105 → st2 (st2 (st2 σ1 105 1 (nI ((q + 3) % 4))) 105 2 (nI (c - 1))) 97 6 (nI 0) x = σ1 x := fun x hx hx2 => by rw [st2_out hx, st2_out hx2, st2_out hx2]
    refine ⟨GR_keep r2 (fun x hx hx2 => oc x (by omega) (by omega)), y1, ⟨hi, by omega, by rw [st2_nk (by omega), st2_nj (by omega), st2_ss], by rw [st2_nk (by omega), st2_ss], fun d i hd hc hi2 => ?_⟩, Or.inl st2_ss, ?_⟩
    · obtain ⟨z1, z2⟩ := h7 (d + 1) i (by omega) (by omega) (by omega)
      exact ⟨z1, GR_keep z2 (fun x hx hx2 => by rw [oc x (by omega) (by omega), r3 x (by omega)])⟩
    · rw [oc 102 (by omega) (by omega), r3 102 (by omega)]; exact v5
theorem u_back {σ : cS} {A A' : Nat → Nat} {B Nf : Nat} (v : NX σ A A' B) (hf : 1000 < Nf) : ∃ σ' n, fL_undo (lCt ()) Nf σ 107 = some (nI n, σ') ∧ n ≤ 4 ∧ ST σ' A B := by
  obtain ⟨Hs, q, c, v, hc, rfl⟩ := v
  obtain ⟨σ', h1, h2⟩ := c_undo v hc hf
  exact ⟨σ', c - 1, h1, by have := v.2.2.1.2.1; omega, Hs, _, _, h2⟩
theorem u_any {σ : cS} {A : Nat → Nat} {B Nf : Nat} (v : ST σ A B) (hf : 1000 < Nf) : (fL_undo (lCt ()) Nf σ 107 = some (-2052, σ)) ∨ ∃ σ' n A', fL_undo (lCt ()) Nf σ 107 = some (nI n, σ') ∧ n ≤ 4 ∧ ST σ' A' B := by
  obtain ⟨Hs, q, c, v⟩ := v
  by_cases e : c = 0
  · subst e
    refine Or.inl ?_
    unfold fL_undo fX6_undo fX6_undo_0
    rw [v.2.2.1.2.2.2.1, if_pos (show (nI 0 : Int32) = 0 from rfl)]; rfl
  · obtain ⟨σ', h1, h2⟩ := c_undo v (by omega) hf
    exact Or.inr ⟨σ', c - 1, _, h1, by have := v.2.2.1.2.1; omega, Hs, _, _, h2⟩
