/-! ===== an edge on a path ===== -/
theorem nI_ne1 {k : Nat} (hk : k < 2 ^ 31) : ¬ nI k = (-1 : Int32) := fun z => by
  have h : (nI k).toInt = (-1 : Int32).toInt := by rw [z]
  rw [nI_toInt hk] at h
  have e : (-1 : Int32).toInt = -1 := by decide
  omega
theorem both_back {σ τ : cS} {A : Nat → Nat} {t : bst} {s B m Nf : Nat} (hm : MR τ A) (w : WF A B) (b : BI A s t) (c : CB σ A t s) (d : MB τ t s) : ∀ (r i n n' : Nat), i < t.1 → pln A t s 12 (t.2.1 i) = m + r + 1 → r < n → r < n' → ∃ k, k < A 3 ∧ fX5_slotOnPathTo_25 (lCt ()) Nf σ 90 n (nI m) (nI (t.2.1 i)) (nI (m + r)) = some (nI k) ∧ fX7_step_60 (lMt ()) Nf 0 n' (nI m) (nI (t.2.1 i)) (nI (m + r)) τ = some (nI (A (16 + k)), τ) := by
  have w2 := w.2.1
  have w3 := w.2.2.1
  have hn := BI_n b
  intro r
  induction r with
  | zero =>
    intro i n n' hi hp h1 h2
    obtain ⟨n, rfl⟩ : ∃ z, n = z + 1 := ⟨n - 1, by omega⟩
    obtain ⟨n', rfl⟩ : ∃ z, n' = z + 1 := ⟨n' - 1, by omega⟩
    have hi1 : 1 ≤ i := by
      rcases Nat.eq_zero_or_pos i with e | e
      · rw [e, b.2.1, pln_0] at hp; omega
      · exact e
    have hle := pln_i b 12 i (by omega) hi
    have hv := (b.2.2.2.2.1 i hi).1
    obtain ⟨g1, g2, -⟩ := BI_back b hi hi1
    refine ⟨t.2.2.1 (t.2.1 i), g2, ?_, ?_⟩
    · unfold fX5_slotOnPathTo_25
      rw [if_pos ((nI_leI (by omega) (by omega)).mpr (by omega)), row_get (show lCt () (90 + 3 + 1) = 12 from rfl) (by omega) (by omega), (c.2.2.2.2 i hi1 hi).1]
      rfl
    · unfold fX7_step_60
      rw [if_pos ((nI_leI (by omega) (by omega)).mpr (by omega)), show inb (nI (t.2.1 i)) (lMt () (0 + 6)) = true from (inb_n (n := 12) (by omega) (by omega) : inb (nI (t.2.1 i)) 12 = true), grd_t, nI_clamp (by omega), show τ (0 + 6) (t.2.1 i) = nI (t.2.2.1 (t.2.1 i)) from d.2.2.2.1 i hi1 hi, n16, nI_add, show inb (nI (16 + t.2.2.1 (t.2.1 i))) (lMt () (0 + 1)) = true from (inb_n (n := 216) (by omega) (by omega) : inb (nI (16 + t.2.2.1 (t.2.1 i))) 216 = true), grd_t, nI_clamp (by omega), show τ (0 + 1) (16 + t.2.2.1 (t.2.1 i)) = _ from hm _ (by omega)]
  | succ r ih =>
    intro i n n' hi hp h1 h2
    obtain ⟨n, rfl⟩ : ∃ z, n = z + 1 := ⟨n - 1, by omega⟩
    obtain ⟨n', rfl⟩ : ∃ z, n' = z + 1 := ⟨n' - 1, by omega⟩
    have hi1 : 1 ≤ i := by
      rcases Nat.eq_zero_or_pos i with e | e
      · rw [e, b.2.1, pln_0] at hp; omega
      · exact e
    have hle := pln_i b 12 i (by omega) hi
    have hv := (b.2.2.2.2.1 i hi).1
    obtain ⟨g1, g2, p, g3, g4, g5⟩ := BI_back b hi hi1
    obtain ⟨k, k1, k2, k3⟩ := ih p n n' (by omega) (by omega) (by omega) (by omega)
    refine ⟨k, k1, ?_, ?_⟩
    · unfold fX5_slotOnPathTo_25
      rw [if_neg (fun q => absurd ((nI_leI (by omega) (by omega)).mp q) (by omega)), row_get (show lCt () (90 + 5 + 1) = 12 from rfl) (by omega) (by omega), (c.2.2.2.2 i hi1 hi).2, g4, Option.bind_some, bnd_e, neg1 (by omega), show m + (r + 1) - 1 = m + r by omega]
      exact k2
    · unfold fX7_step_60
      rw [if_neg (fun q => absurd ((nI_leI (by omega) (by omega)).mp q) (by omega)), show inb (nI (t.2.1 i)) (lMt () (0 + 6)) = true from (inb_n (n := 12) (by omega) (by omega) : inb (nI (t.2.1 i)) 12 = true), grd_t, nI_clamp (by omega), show τ (0 + 6) (t.2.1 i) = nI (t.2.2.1 (t.2.1 i)) from d.2.2.2.1 i hi1 hi, m_holder hm w g2, g4, Option.bind_some, bnd_e, neg1 (by omega), show m + (r + 1) - 1 = m + r by omega]
      exact k3
theorem MB_code {τ : cS} {t : bst} {s : Nat} (d : MB τ t s) (v : Int32) : MB (st2 τ 0 7 v) t s := ⟨by rw [st2_nj (by omega)]; exact d.1, by rw [st2_nj (by omega)]; exact d.2.1, fun i hi => by rw [st2_nk (by omega)]; exact d.2.2.1 i hi, fun i h1 h2 => by rw [st2_nk (by omega)]; exact d.2.2.2.1 i h1 h2, by rw [st2_nk (by omega)]; exact d.2.2.2.2⟩
theorem op_step {σ τ : cS} {B Nf : Nat} (hf : 1000 < Nf) (x1 x2 x3 : Int32) (h hm0 : Int64) (iv : IV σ τ B) : ∃ r, gL_c12 Nf x1 x2 x3 h σ hm0 τ = some r ∧ PI4 B r := by
  have iv0 := iv
  obtain ⟨A, Hs, q, c, len, hm, hg, w, hh, ht, hp⟩ := iv
  unfold gL_c12
  have bad : ∀ τ, fX7_step_33 (lMt ()) Nf 0 x2 x3 τ = some (0, st2 τ 0 7 (nI 1)) := fun τ => by
    unfold fX7_step_33 fX7_step_38
    rw [n1, mref_1]; rfl
  cases h1 : isN A x1 with
  | false =>
    refine try_no (k := 1) (σ' := σ) (h := h) (v := 0) (τ' := st2 τ 0 7 (nI 1)) (by omega) (by omega) ?_ ?_ st2_ss (IV_code iv0 _)
    · unfold fL_step fX6_step fX6_step_0
      rw [chk_n hg w h1]; rfl
    · unfold fX7_step fX7_step_0
      rw [mno_n hm w h1, Option.bind_some, if_pos (by decide), bad]
  | true =>
    cases h2 : isN A x2 with
    | false =>
      refine try_no (k := 1) (σ' := σ) (h := h) (v := 0) (τ' := st2 τ 0 7 (nI 1)) (by omega) (by omega) ?_ ?_ st2_ss (IV_code iv0 _)
      · unfold fL_step fX6_step fX6_step_0
        rw [chk_y hg w h1, chk_n hg w h2]; rfl
      · unfold fX7_step fX7_step_0
        rw [mno_y hm w h1, Option.bind_some, if_neg (by decide), mno_n hm w h2, Option.bind_some, if_pos (by decide), bad]
    | true =>
      have w2 := w.2.1
      have w3 := w.2.2.1
      have k1 := chk_y hg w h1
      have k2 := chk_y hg w h2
      have k3 := mno_y hm w h1
      have k4 := mno_y hm w h2
      obtain ⟨s, hs, rfl⟩ := isN_n w h1
      obtain ⟨v, hv, rfl⟩ := isN_n w h2
      obtain ⟨σ', r1, r2, r3⟩ := c_visitFrom (Nf := Nf) LG_0 (by omega) hg w hs (by omega)
      obtain ⟨τ', s1, s2, s3⟩ := m_pathOf (τ := τ) (Nf := Nf) hm w hs hv (by omega)
      have b := BI_bfs w hs
      have hn := BI_n b
      have hm' : MR τ' A := MR_ext hm (s3.1 1 (by omega) (by omega) (by omega))
      have ivl := IV_look iv0 (Nat.le_refl _) r3 s3
      -- the class's check up to the slot
      have ec : ∀ z, fX5_slotOnPathTo (lCt ()) Nf σ' 90 (nI v) x3 = some z → fX6_step (lCt ()) Nf σ 107 (nI s) (nI v) x3 = if z = -1 then some (.inr (3, σ')) else (fX4_get (lCt ()) σ' 1 z).bind (fun r5 => some (.inl (r5, σ'))) := fun z hz => by
        unfold fX6_step fX6_step_0
        rw [k1, k2]
        show Option.bind (fX5_visitFrom (lCt ()) Nf σ 90 0 (nI s)) _ = _
        rw [r1, Option.bind_some, hz]
        rfl
      have em : fX7_step (lMt ()) Nf τ 0 (nI s) (nI v) x3 = if inI x3 (nI 0) ((if (bfs A s).2.2.2.testBit v = true then nI (pln A (bfs A s) s 12 v) else -1) - nI 1) = true then fX7_step_38 (lMt ()) Nf 0 (nI v) x3 (nI 0) τ' else some (0, st2 τ' 0 7 (nI 1)) := by
        generalize (if (bfs A s).2.2.2.testBit v = true then nI (pln A (bfs A s) s 12 v) else (-1 : Int32)) = y at s1 ⊢
        unfold fX7_step fX7_step_0
        rw [k3, Option.bind_some, if_neg (by decide), k4, Option.bind_some, if_neg (by decide), s1, Option.bind_some, n0, n1]
        show Option.bind (fX7_in τ' x3 (nI 0) (y - nI 1)) _ = _
        rw [m_in, Option.bind_some]
        cases inI x3 (nI 0) (y - nI 1)
        · rw [if_pos (by decide), if_neg (by decide)]; exact bad τ'
        · rw [if_neg (by decide), if_pos rfl]
      have no : fX5_slotOnPathTo (lCt ()) Nf σ' 90 (nI v) x3 = some (-1) → inI x3 (nI 0) ((if (bfs A s).2.2.2.testBit v = true then nI (pln A (bfs A s) s 12 v) else -1) - nI 1) = false → ∃ r, (fL_step (lCt ()) Nf h σ 107 (nI s) (nI v) x3).bind (fun r1 => (fX7_step (lMt ()) Nf τ 0 (nI s) (nI v) x3).bind (fun r2 => (fX7_thrown r2.2 0).bind (fun r3 => grd (decide (r3 = r1.1)) (if r1.1 = 0 then grd (decide (r1.2.1 = (r2.1).toInt64)) (some (r1.2.1, r1.2.2, hm0, r2.2)) else some (r1.2.1, r1.2.2, hm0, r2.2))))) = some r ∧ PI4 B r := fun y1 y2 => by
        refine try_no (k := 1) (σ' := σ') (h := h) (v := 0) (τ' := st2 τ' 0 7 (nI 1)) (by omega) (by omega) ?_ ?_ st2_ss (IV_code ivl _)
        · unfold fL_step
          rw [ec _ y1, if_pos rfl]; rfl
        · rw [em, y2, if_neg (by decide)]
      have cl := c_lengthTo (Nf := Nf) w b r2 (show v < 12 by omega) (by omega)
      cases e : (bfs A s).2.2.2.testBit v with
      | false =>
        rw [e, if_neg (by decide)] at cl
        rw [e] at no
        rw [if_neg (show ¬ (false = true) by decide)] at no
        refine no ?_ ?_
        · unfold fX5_slotOnPathTo fX5_slotOnPathTo_0 fX5_slotOnPathTo_15
          rw [cl, Option.bind_some]
          by_cases g1 : x3 < 0
          · rw [if_pos g1]
          · rw [if_neg g1, if_neg]
            intro g2
            rw [Int32.lt_iff_toInt_lt] at g1 g2
            have e0 : (0 : Int32).toInt = 0 := by decide
            have e1 : (-1 : Int32).toInt = -1 := by decide
            omega
        · refine decide_eq_false (fun g => ?_)
          have g1 := g.1
          have g2 := g.2
          rw [Int32.lt_iff_toInt_lt] at g1 g2
          have e0 : (nI 0 : Int32).toInt = 0 := by decide
          have e1 : ((-1 : Int32) - nI 1).toInt = -2 := by decide
          omega
      | true =>
        obtain ⟨i, hi, hiv⟩ := b.2.2.2.2.2.1 v (by omega) e
        have hpi := pln_i b 12 i (by omega) hi
        rw [hiv] at hpi
        rw [e, if_pos rfl] at cl
        rw [e] at no em
        rw [if_pos rfl] at no em
        rw [in_pred (by omega)] at no em
        by_cases g : ¬ x3 < nI 0 ∧ x3 < nI (pln A (bfs A s) s 12 v)
        · obtain ⟨m, hm1, rfl⟩ := nI_of (x := x3) g.1
          have hml : m < pln A (bfs A s) s 12 v := (nI_ltI (by omega) (by omega)).mp g.2
          obtain ⟨k, y1, y2, y3⟩ := both_back (m := m) (Nf := Nf) (MR_out hm' (k := 0) (j := 7) (v := nI 0) (by omega)) w b r2 (MB_code s2 (nI 0)) (pln A (bfs A s) s 12 v - m - 1) i Nf Nf hi (by rw [hiv]; omega) (by omega) (by omega)
          rw [hiv, show m + (pln A (bfs A s) s 12 v - m - 1) = pln A (bfs A s) s 12 v - 1 by omega] at y2 y3
          have cs : fX5_slotOnPathTo (lCt ()) Nf σ' 90 (nI v) (nI m) = some (nI k) := by
            unfold fX5_slotOnPathTo fX5_slotOnPathTo_0
            rw [cl, Option.bind_some, if_neg (show ¬ nI m < 0 from g.1), if_pos g.2, n1, nI_sub (by omega), bnd_e]
            exact y2
          refine try_ok (v := nI (A (16 + k))) (σ' := σ') (τ' := st2 τ' 0 7 (nI 0)) ?_ ?_ st2_ss (IV_code ivl _)
          · unfold fL_step
            rw [ec _ cs, if_neg (nI_ne1 (by omega)), row_get (show lCt () (1 + 1) = 40 from rfl) (by omega) (by omega)]
            show some ((0 : Int32), (σ' (0 + 1 + 1) k).toInt64, σ') = _
            rw [r3 _ (by omega), hg.2.2.2.2.1 k y1]; rfl
          · rw [em, if_pos (decide_eq_true g)]
            unfold fX7_step_38
            rw [n0, mref_0]
            simp only [Option.bind_some]
            rw [if_pos trivial]
            unfold fX7_lengthTo fX7_lengthTo_0
            have lm := m_len_loop (Nf := Nf) (MR_out hm' (k := 0) (j := 7) (v := nI 0) (by omega)) w b (MB_code s2 (nI 0)) 12 i 0 Nf (by omega) hi (by omega)
            rw [hiv, Nat.zero_add] at lm
            rw [n0, lm, Option.bind_some, n1, nI_sub (by omega), bnd_e]
            exact y3
        · refine no ?_ (decide_eq_false g)
          unfold fX5_slotOnPathTo fX5_slotOnPathTo_0 fX5_slotOnPathTo_15
          rw [cl, Option.bind_some]
          by_cases g1 : x3 < 0
          · rw [if_pos g1]
          · rw [if_neg g1, if_neg (fun z => g ⟨g1, z⟩)]
