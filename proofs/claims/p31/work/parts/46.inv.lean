/-! ===== what holds between the class and the model after each call ===== -/
def inn (A : Nat → Nat) (s : Nat) : Nat := cnt (fun k => s.testBit (A (56 + k)) && s.testBit (A (96 + k))) (A 3)
def pct (s : Nat) : Nat := cnt (fun v => s.testBit v) 12
/-- the densest part so far, its inner edges, its nodes: one part more -/
def dst (f : Nat → Nat) (b : Nat × Nat × Nat) (part : Nat) : Nat × Nat × Nat := if b.2.1 * pct part < f part * b.2.2 ∨ (f part * b.2.2 = b.2.1 * pct part ∧ b.2.2 < pct part) then (part, f part, pct part) else b
def dns (f : Nat → Nat) : Nat → Nat × Nat × Nat
  | 0 => (1, 0, 1)
  | n + 1 => dst f (dns f n) (n + 1)
def rup (a b : Nat) : Nat := (a + b - 1) / b
def TB (σ : cS) (A : Nat → Nat) : Prop := σ 97 3 = nI (2 ^ A 0) ∧ (∀ s, s < 2 ^ A 0 → σ 98 s = nI (inn A s)) ∧ σ 97 4 = nI (dns (inn A) (2 ^ A 0 - 1)).1 ∧ σ 97 5 = nI (rup (inn A (dns (inn A) (2 ^ A 0 - 1)).1) (pct (dns (inn A) (2 ^ A 0 - 1)).1))
def PT (σ : cS) (A : Nat → Nat) : Prop := σ 97 6 = nI 0 ∨ (σ 97 6 = nI 1 ∧ TB σ A)
theorem WF_up {A : Nat → Nat} {B B' : Nat} (w : WF A B) (h : B ≤ B') : WF A B' := ⟨w.1, w.2.1, w.2.2.1, Nat.le_trans w.2.2.2.1 h, w.2.2.2.2⟩
theorem TB_keep {σ σ' : cS} {A A' : Nat → Nat} (h : TB σ A) (e1 : σ' 97 = σ 97) (e2 : σ' 98 = σ 98) (e3 : A' 0 = A 0) (e4 : ∀ s, inn A' s = inn A s) : TB σ' A' := by
  unfold TB at h ⊢
  have e5 : inn A' = inn A := funext e4
  rw [e1, e2, e3, e5]
  exact h
theorem PT_keep {σ σ' : cS} {A A' : Nat → Nat} (h : PT σ A) (e1 : σ' 97 = σ 97) (e2 : σ' 98 = σ 98) (e3 : A' 0 = A 0) (e4 : ∀ s, inn A' s = inn A s) : PT σ' A' := by
  rcases h with h | h
  · exact Or.inl (by rw [e1]; exact h)
  · exact Or.inr ⟨by rw [e1]; exact h.1, TB_keep h.2 e1 e2 e3 e4⟩
theorem inn_trn {A : Nat → Nat} {B k : Nat} (w : WF A B) (hk : k < A 3) (s : Nat) : inn (trnA A k) s = inn A s := by
  have w3 := w.2.2.1
  unfold inn
  rw [trn_o (by omega) (by omega) (by omega)]
  exact cnt_ext (fun j hj => by rw [trn_o (by omega) (by omega) (by omega), trn_o (by omega) (by omega) (by omega)])
theorem c_save {σ : cS} {A : Nat → Nat} {B q c Nf : Nat} (h : GR σ 0 A) (w : WF A B) (hq : q < 4) (hc : c ≤ 4) (h1 : σ 105 1 = nI q) (h2 : σ 105 2 = nI c) (hf : 40 < Nf) : ∃ σ', fX1_save (lCt ()) Nf σ 105 0 = some σ' ∧ GR σ' (30 + 15 * q) A ∧ σ' 105 1 = nI ((q + 1) % 4) ∧ σ' 105 2 = nI (if 4 ≤ c then 4 else c + 1) ∧ ∀ x, x ≠ 105 → (x < 30 + 15 * q ∨ 45 + 15 * q ≤ x) → σ' x = σ x := by
  unfold fX1_save fX1_save_0
  rw [h1]
  simp (disch := omega) only [grd_t, n0, n1, n2, n3, n4, n5, n6, n7, n8, n9, n10, n11, n12, n16, n20, n31, n40, n48, n56, n57, n61, n96, n97, n98, n99, n100, n108, n114, n116, n120, n127, n128, n136, n176, n215, n216, n255, n864, n999, n4096, n1000000, inb_n, nI_clamp, le_n, lt_n, eq_n, nI_add, nI_mul]
  rw [if_neg (by omega), if_neg (by omega)]
  obtain ⟨s, g1, g2, g3⟩ := c_copyFrom (g := 30 + 15 * q) (g1 := 0) (LG_h q hq) LG_0 (Or.inr (by omega)) h w hf
  refine bind_x g1 ?_
  have e1 : s 105 = σ 105 := g3 105 (by omega)
  rw [e1, h1]
  have fin : ∀ y : Nat, y = (q + 1) % 4 → ∃ σ', fX1_save_66 (lCt ()) Nf 105 0 (nI y) s = some σ' ∧ GR σ' (30 + 15 * q) A ∧ σ' 105 1 = nI ((q + 1) % 4) ∧ σ' 105 2 = nI (if 4 ≤ c then 4 else c + 1) ∧ ∀ x, x ≠ 105 → (x < 30 + 15 * q ∨ 45 + 15 * q ≤ x) → σ' x = σ x := by
    intro y hy
    unfold fX1_save_66
    refine bnd_x (fun s1 q1 => ?_)
    have e2 : s1 105 2 = nI c := by rw [q1, st2_nj (by omega), e1]; exact h2
    refine bnd_x (fun s2 q2 => ?_)
    rw [e2] at q2
    refine some_x ⟨?_, ?_, ?_, fun x hx hx2 => ?_⟩
    · refine GR_keep g2 (fun x hx hx2 => ?_)
      rw [q2, q1, st2_out (by omega), st2_out (by omega)]
    · rw [q2, st2_nj (by omega), q1, st2_ss, hy]
    · rw [q2, st2_ss, n4, n1, nI_add]
      simp (disch := omega) only [lt_n]
      by_cases e : 4 ≤ c
      · rw [if_pos (by omega), if_pos e]
      · rw [if_neg (by omega), if_neg e]
    · rw [q2, q1, st2_out hx, st2_out hx]
      exact g3 x (by omega)
  simp (disch := omega) only [grd_t, n0, n1, n2, n3, n4, n5, n6, n7, n8, n9, n10, n11, n12, n16, n20, n31, n40, n48, n56, n57, n61, n96, n97, n98, n99, n100, n108, n114, n116, n120, n127, n128, n136, n176, n215, n216, n255, n864, n999, n4096, n1000000, inb_n, nI_clamp, le_n, lt_n, eq_n, nI_add, nI_mul]
  by_cases e : 4 ≤ q + 1
  · rw [if_pos e]; exact fin 0 (by omega)
  · rw [if_neg e]; exact fin (q + 1) (by omega)
