/-! ===== what holds between the class and the model after each call ===== -/
def inn (A : Nat → Nat) (s : Nat) : Nat := cnt (fun k => s.testBit (A (56 + k)) && s.testBit (A (96 + k))) (A 3)
def pct (s : Nat) : Nat := cnt (fun v => s.testBit v) 12
/-- the densest part so far, its inner edges, its nodes: one part more -/
def dst (f : Nat → Nat) (b : Nat × Nat × Nat) (part : Nat) : Nat × Nat × Nat := if b.2.1 * pct part < f part * b.2.2 ∨ (f part * b.2.2 = b.2.1 * pct part ∧ b.2.2 < pct part) then (part, f part, pct part) else b
def dns (f : Nat → Nat) : Nat → Nat × Nat × Nat
  | 0 => (1, 0, 1)
  | n + 1 => dst f (dns f n) (n + 1)
def rup (a b : Nat) : Nat := (a + b - 1) / b
def TB (σ : cS) (A : Nat → Nat) : Prop := σ 97 3 = nI (2 ^ A 0) ∧ (∀ s, s < 2 ^ A 0 → σ 98 s = nI (inn A s)) ∧ σ 97 4 = nI (dns (inn A) (2 ^ A 0 - 1)).1 ∧ σ 97 5 = nI (rup (inn A (dns (inn A) (2 ^ A 0 - 1)).1) (pct (dns (inn A) (2 ^ A 0 - 1)).1))
def PT (σ : cS) (A : Nat → Nat) : Prop := σ 97 6 = nI 0 ∨ (σ 97 6 = nI 1 ∧ TB σ A)
def HS (σ τ : cS) (Hs : Nat → Nat → Nat) (q c B : Nat) : Prop := q < 4 ∧ c ≤ 4 ∧ σ 105 1 = nI q ∧ σ 105 2 = nI c ∧ τ 0 5 = nI q ∧ τ 0 4 = nI c ∧ ∀ d i, 1 ≤ d → d ≤ c → i = (q + 4 - d) % 4 → WF (Hs i) B ∧ GR σ (30 + 15 * i) (Hs i) ∧ ∀ j, j < 216 → τ 3 (216 * i + j) = nI (Hs i j)
def TX (σ τ : cS) (len : Nat) : Prop := len ≤ 100 ∧ σ 102 1 = nI len ∧ τ 0 6 = nI len ∧ ∀ i, i < len → ∃ t, t ≤ 127 ∧ σ (102 + 1 + 1) i = nI t ∧ τ 4 i = nI t
def IV (σ τ : cS) (B : Nat) : Prop := ∃ (A : Nat → Nat) (Hs : Nat → Nat → Nat) (q c len : Nat), MR τ A ∧ GR σ 0 A ∧ WF A B ∧ HS σ τ Hs q c B ∧ TX σ τ len ∧ PT σ A
theorem WF_up {A : Nat → Nat} {B B' : Nat} (w : WF A B) (h : B ≤ B') : WF A B' := ⟨w.1, w.2.1, w.2.2.1, Nat.le_trans w.2.2.2.1 h, w.2.2.2.2⟩
theorem HS_keep {σ τ σ' τ' : cS} {Hs : Nat → Nat → Nat} {q c B B' : Nat} (h : HS σ τ Hs q c B) (hB : B ≤ B') (e1 : ∀ x, 30 ≤ x → x < 90 → σ' x = σ x) (e2 : σ' 105 = σ 105) (e3 : τ' 0 4 = τ 0 4) (e4 : τ' 0 5 = τ 0 5) (e5 : τ' 3 = τ 3) : HS σ' τ' Hs q c B' := by
  obtain ⟨h1, h2, h3, h4, h5, h6, h7⟩ := h
  refine ⟨h1, h2, by rw [e2]; exact h3, by rw [e2]; exact h4, by rw [e4]; exact h5, by rw [e3]; exact h6, fun d i hd hc hi => ?_⟩
  obtain ⟨g1, g2, g3⟩ := h7 d i hd hc hi
  exact ⟨WF_up g1 hB, GR_keep g2 (fun x hx hx2 => e1 x (by omega) (by omega)), fun j hj => by rw [e5]; exact g3 j hj⟩
theorem TX_keep {σ τ σ' τ' : cS} {len : Nat} (h : TX σ τ len) (e1 : σ' 102 = σ 102) (e2 : σ' (102 + 1 + 1) = σ (102 + 1 + 1)) (e3 : τ' 0 6 = τ 0 6) (e4 : τ' 4 = τ 4) : TX σ' τ' len := ⟨h.1, by rw [e1]; exact h.2.1, by rw [e3]; exact h.2.2.1, fun i hi => by rw [e2, e4]; exact h.2.2.2 i hi⟩
theorem TB_keep {σ σ' : cS} {A A' : Nat → Nat} (h : TB σ A) (e1 : σ' 97 = σ 97) (e2 : σ' 98 = σ 98) (e3 : A' 0 = A 0) (e4 : ∀ s, inn A' s = inn A s) : TB σ' A' := by
  unfold TB at h ⊢
  have e5 : inn A' = inn A := funext e4
  rw [e1, e2, e3, e5]
  exact h
theorem PT_keep {σ σ' : cS} {A A' : Nat → Nat} (h : PT σ A) (e1 : σ' 97 = σ 97) (e2 : σ' 98 = σ 98) (e3 : A' 0 = A 0) (e4 : ∀ s, inn A' s = inn A s) : PT σ' A' := by
  rcases h with h | h
  · exact Or.inl (by rw [e1]; exact h)
  · exact Or.inr ⟨by rw [e1]; exact h.1, TB_keep h.2 e1 e2 e3 e4⟩
theorem inn_trn {A : Nat → Nat} {B k : Nat} (w : WF A B) (hk : k < A 3) (s : Nat) : inn (trnA A k) s = inn A s := by
  have w3 := w.2.2.1
  unfold inn
  rw [trn_o (by omega) (by omega) (by omega)]
  exact cnt_ext (fun j hj => by rw [trn_o (by omega) (by omega) (by omega), trn_o (by omega) (by omega) (by omega)])
theorem c_save {σ : cS} {A : Nat → Nat} {B q c Nf : Nat} (h : GR σ 0 A) (w : WF A B) (hq : q < 4) (hc : c ≤ 4) (h1 : σ 105 1 = nI q) (h2 : σ 105 2 = nI c) (hf : 40 < Nf) : ∃ σ', fX1_save (lCt ()) Nf σ 105 0 = some σ' ∧ GR σ' (30 + 15 * q) A ∧ σ' 105 1 = nI ((q + 1) % 4) ∧ σ' 105 2 = nI (if 4 ≤ c then 4 else c + 1) ∧ ∀ x, x ≠ 105 → (x < 30 + 15 * q ∨ 45 + 15 * q ≤ x) → σ' x = σ x := by
  unfold fX1_save fX1_save_0
  rw [h1]
  simp (disch := omega) only [grd_t, n0, n1, n2, n3, n4, n5, n6, n7, n8, n9, n10, n11, n12, n16, n20, n31, n40, n48, n56, n57, n61, n96, n97, n98, n99, n100, n108, n114, n116, n120, n127, n128, n136, n176, n215, n216, n255, n864, n999, n4096, n1000000, inb_n, nI_clamp, le_n, lt_n, eq_n, nI_add, nI_mul]
  rw [if_neg (by omega), if_neg (by omega)]
  obtain ⟨s, g1, g2, g3⟩ := c_copyFrom (g := 30 + 15 * q) (g1 := 0) (LG_h q hq) LG_0 (Or.inr (by omega)) h w hf
  refine bind_x g1 ?_
  have e1 : s 105 = σ 105 := g3 105 (by omega)
  rw [e1, h1]
  have fin : ∀ y : Nat, y = (q + 1) % 4 → ∃ σ', fX1_save_66 (lCt ()) Nf 105 0 (nI y) s = some σ' ∧ GR σ' (30 + 15 * q) A ∧ σ' 105 1 = nI ((q + 1) % 4) ∧ σ' 105 2 = nI (if 4 ≤ c then 4 else c + 1) ∧ ∀ x, x ≠ 105 → (x < 30 + 15 * q ∨ 45 + 15 * q ≤ x) → σ' x = σ x := by
    intro y hy
    unfold fX1_save_66
    refine bnd_x (fun s1 q1 => ?_)
    have e2 : s1 105 2 = nI c := by rw [q1, st2_nj (by omega), e1]; exact h2
    refine bnd_x (fun s2 q2 => ?_)
    rw [e2] at q2
    refine some_x ⟨?_, ?_, ?_, fun x hx hx2 => ?_⟩
    · refine GR_keep g2 (fun x hx hx2 => ?_)
      rw [q2, q1, st2_out (by omega), st2_out (by omega)]
    · rw [q2, st2_nj (by omega), q1, st2_ss, hy]
    · rw [q2, st2_ss, n4, n1, nI_add]
      simp (disch := omega) only [lt_n]
      by_cases e : 4 ≤ c
      · rw [if_pos (by omega), if_pos e]
      · rw [if_neg (by omega), if_neg e]
    · rw [q2, q1, st2_out hx, st2_out hx]
      exact g3 x (by omega)
  simp (disch := omega) only [grd_t, n0, n1, n2, n3, n4, n5, n6, n7, n8, n9, n10, n11, n12, n16, n20, n31, n40, n48, n56, n57, n61, n96, n97, n98, n99, n100, n108, n114, n116, n120, n127, n128, n136, n176, n215, n216, n255, n864, n999, n4096, n1000000, inb_n, nI_clamp, le_n, lt_n, eq_n, nI_add, nI_mul]
  by_cases e : 4 ≤ q + 1
  · rw [if_pos e]; exact fin 0 (by omega)
  · rw [if_neg e]; exact fin (q + 1) (by omega)
theorem m_save {τ : cS} {A : Nat → Nat} {q c Nf : Nat} (h : MR τ A) (hq : q < 4) (hc : c ≤ 4) (h5 : τ 0 5 = nI q) (h4 : τ 0 4 = nI c) (hf : 216 < Nf) : ∃ τ', fX7_save (lMt ()) Nf τ 0 = some τ' ∧ MR τ' A ∧ τ' 0 5 = nI ((q + 1) % 4) ∧ τ' 0 4 = nI (if 4 ≤ c then 4 else c + 1) ∧ (∀ j, j ≠ 4 → j ≠ 5 → τ' 0 j = τ 0 j) ∧ (∀ x, x ≠ 0 → x ≠ 3 → τ' x = τ x) ∧ (∀ j, τ' 3 j = if 216 * q ≤ j ∧ j < 216 * q + 216 then τ 1 (j - 216 * q) else τ 3 j) := by
  unfold fX7_save fX7_save_0
  rw [n0, m_save2 hq hc 216 0 Nf τ (by omega) hf h5 h4]
  have o : ∀ x, x ≠ 0 → x ≠ 3 → st2 (st2 (rowF τ 3 (216 * q + 0) (216 * q + 216) (fun b => τ 1 (b - 216 * q))) 0 5 (nI ((q + 1) % 4))) 0 4 (nI (if 4 ≤ c then 4 else c + 1)) x = τ x := fun x hx hx2 => by
    rw [st2_out hx, st2_out hx]; funext b; exact rowF_nk hx2
  refine some_x ⟨MR_ext h (o 1 (by omega) (by omega)), ?_, ?_, fun j h1 h2 => ?_, o, fun j => ?_⟩
  · rw [st2_nj (by omega), st2_ss]
  · rw [st2_ss]
  · rw [st2_nj h1, st2_nj h2, rowF_nk (by omega)]
  · rw [st2_nk (by omega), st2_nk (by omega)]
    unfold rowF
    by_cases e : 216 * q ≤ j ∧ j < 216 * q + 216
    · rw [if_pos ⟨rfl, by omega, e.2⟩, if_pos e]
    · rw [if_neg (by omega), if_neg e]
/-- both save the same -/
theorem both_save {σ τ : cS} {A : Nat → Nat} {Hs : Nat → Nat → Nat} {q c B Nf : Nat} (hm : MR τ A) (hg : GR σ 0 A) (w : WF A B) (hh : HS σ τ Hs q c B) (hf : 216 < Nf) : ∃ σ' τ', fX1_save (lCt ()) Nf σ 105 0 = some σ' ∧ fX7_save (lMt ()) Nf τ 0 = some τ' ∧ MR τ' A ∧ GR σ' 0 A ∧ (∃ (Hs' : Nat → Nat → Nat) (q' c' : Nat), HS σ' τ' Hs' q' c' B) ∧ (∀ x, (x < 30 ∨ 90 ≤ x) → x ≠ 105 → σ' x = σ x) ∧ (∀ j, j ≠ 4 → j ≠ 5 → τ' 0 j = τ 0 j) ∧ (∀ x, x ≠ 0 → x ≠ 3 → τ' x = τ x) := by
  obtain ⟨h1, h2, h3, h4, h5, h6, h7⟩ := hh
  obtain ⟨σ', g1, g2, g3, g4, g5⟩ := c_save hg w h1 h2 h3 h4 (show 40 < Nf by omega)
  obtain ⟨τ', k1, k2, k3, k4, k5, k6, k7⟩ := m_save hm h1 h2 h5 h6 hf
  refine ⟨σ', τ', g1, k1, k2, GR_keep hg (fun x hx hx2 => g5 x (by omega) (by omega)), ⟨fun i => if i = q then A else Hs i, (q + 1) % 4, if 4 ≤ c then 4 else c + 1, by omega, by split <;> omega, g3, g4, k3, k4, fun d i hd hc hi => ?_⟩, fun x hx hx2 => g5 x hx2 (by omega), k5, k6⟩
  by_cases e : i = q
  · subst e
    simp only [if_pos]
    refine ⟨w, g2, fun j hj => ?_⟩
    rw [k7, if_pos (by omega), show 216 * i + j - 216 * i = j by omega]
    exact hm j hj
  · simp only [if_neg e]
    have hc2 : d ≤ 4 ∧ d ≤ c + 1 := by split at hc <;> omega
    have hd1 : d ≠ 1 := fun e1 => e (by rw [hi, e1]; omega)
    obtain ⟨y1, y2, y3⟩ := h7 (d - 1) i (by omega) (by omega) (by omega)
    refine ⟨y1, GR_keep y2 (fun x hx hx2 => g5 x (by omega) (by omega)), fun j hj => ?_⟩
    rw [k7, if_neg (by omega)]
    exact y3 j hj
