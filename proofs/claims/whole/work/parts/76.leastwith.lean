/-! ===== leastWith, leastWithout, answered alike ===== -/
theorem pair_in {s a b : Nat} (hs : s < 4096) (ha : a < 12) (hb : b < 12) : ((nI (2 ^ a ||| 2 ^ b) &&& (nI s ^^^ (-1 : Int32))) = 0) ↔ (s.testBit a && s.testBit b) = true := by
  rw [← nI_or, or_0, dn1 hs ha, dn1 hs hb, Bool.and_eq_true]
theorem pair_lt {a b : Nat} (ha : a < 12) (hb : b < 12) : 2 ^ a ||| 2 ^ b < 4096 := Nat.or_lt_two_pow (n := 12) (Nat.pow_lt_pow_right (by omega) ha) (Nat.pow_lt_pow_right (by omega) hb)
theorem pair_pos (a b : Nat) : 1 ≤ 2 ^ a ||| 2 ^ b := Nat.le_trans Nat.one_le_two_pow Nat.left_le_or
theorem pair_m {s a b : Nat} (hs : s < 4096) (ha : a < 12) (hb : b < 12) : ((nI s &&& nI (2 ^ a ||| 2 ^ b)) = nI (2 ^ a ||| 2 ^ b)) ↔ (s.testBit a && s.testBit b) = true := by
  have h1 := pair_lt ha hb
  have h2 : s &&& (2 ^ a ||| 2 ^ b) ≤ s := Nat.and_le_left
  rw [nI_and, nI_eq (by omega) (by omega), Bool.and_eq_true]
  constructor
  · intro q
    have q1 := congrArg (fun x => Nat.testBit x a) q
    have q2 := congrArg (fun x => Nat.testBit x b) q
    simp [Nat.testBit_and, Nat.testBit_or, Nat.testBit_two_pow] at q1 q2
    exact ⟨q1, q2⟩
  · rintro ⟨q1, q2⟩
    refine Nat.eq_of_testBit_eq fun i => ?_
    rw [Nat.testBit_and, Nat.testBit_or, Nat.testBit_two_pow, Nat.testBit_two_pow]
    by_cases e1 : a = i
    · subst e1; simp [q1]
    · by_cases e2 : b = i
      · subst e2; simp [q2]
      · simp [e1, e2]
theorem c_innerW {σ : cS} {A : Nat → Nat} {s a b : Nat} (hs : s < 4096) (ha : a < 12) (hb : b < 12) (hi : σ 98 s = nI (inn A s)) (x : Int32) : fX3_innerWith (lCt ()) σ 97 (nI s) (nI (2 ^ a ||| 2 ^ b)) x = some (if (s.testBit a && s.testBit b) = true then nI (inn A s) + x else nI (inn A s)) := by
  unfold fX3_innerWith fX3_innerWith_0 fX3_innerWith_40
  rw [lt98, ofNat_n, n0, if_neg (fun q => absurd ((nI_ltI (by omega) (by omega)).mp q) (by omega)), if_pos ((nI_ltI (by omega) (by omega)).mpr (by omega)), inb_n hs (by omega), grd_t, grd_t, nI_clamp (by omega), show σ (97 + 1) s = nI (inn A s) from hi, ← n0]
  by_cases e : (s.testBit a && s.testBit b) = true
  · rw [if_pos ((pair_in hs ha hb).mpr e), if_pos e]
  · rw [if_neg (fun q => e ((pair_in hs ha hb).mp q)), if_neg e]
theorem m_inner_loop2 {τ : cS} {A : Nat → Nat} {B s c0 Nf : Nat} {m1 : Int32} {P : Nat → Bool} (h : MR τ A) (w : WF A B) (hs : s < 4096) (hP : ∀ k, k < A 3 → P k = (!decide (nI k = m1) && inP A s k)) : ∀ (d i n : Nat), i + d = A 3 → d < n → fX7_innerOf_21 (lMt ()) Nf τ 0 n (nI s) m1 (nI (c0 + cnt P i)) (nI i) = some (nI (c0 + cnt P (A 3))) := by
  have w2 := w.2.1
  have w3 := w.2.2.1
  intro d
  induction d with
  | zero =>
    intro i n h1 hn
    obtain ⟨n, rfl⟩ : ∃ z, n = z + 1 := ⟨n - 1, by omega⟩
    unfold fX7_innerOf_21
    simp (disch := omega) only [Nat.zero_add, lm1, grd_t, bnd_e, n0, n1, n2, n3, n4, n5, n6, n7, n8, n9, n10, n11, n12, n16, n20, n31, n40, n48, n56, n57, n61, n96, n97, n98, n99, n100, n108, n114, n116, n120, n127, n128, n136, n176, n215, n216, n255, n864, n999, n4096, n1000000, inb_n, nI_clamp, le_n, lt_n, eq_n, nI_add, Option.bind_some, Option.bind, h _]
    rw [if_pos (by omega), show i = A 3 by omega]
  | succ d ih =>
    intro i n h1 hn
    obtain ⟨n, rfl⟩ : ∃ z, n = z + 1 := ⟨n - 1, by omega⟩
    have wk := w.2.2.2.2.1 i (by omega)
    have h2 := ih (i + 1) n (by omega) (by omega)
    have hPi := hP i (by omega)
    simp only [cnt] at h2
    have s1 : ((nI s >>> (nI (A (56 + i)) &&& nI 31)) &&& nI 1) = nI (if s.testBit (A (56 + i)) = true then 1 else 0) := shr hs (by omega)
    have s2 : ((nI s >>> (nI (A (96 + i)) &&& nI 31)) &&& nI 1) = nI (if s.testBit (A (96 + i)) = true then 1 else 0) := shr hs (by omega)
    unfold fX7_innerOf_21 fX7_innerOf_80 fX7_innerOf_81
    simp (disch := omega) only [Nat.zero_add, lm1, grd_t, bnd_e, n0, n1, n2, n3, n4, n5, n6, n7, n8, n9, n10, n11, n12, n16, n20, n31, n40, n48, n56, n57, n61, n96, n97, n98, n99, n100, n108, n114, n116, n120, n127, n128, n136, n176, n215, n216, n255, n864, n999, n4096, n1000000, inb_n, nI_clamp, le_n, lt_n, eq_n, nI_add, Option.bind_some, Option.bind, h _, s1, s2]
    rw [if_neg (show ¬ A 3 ≤ i by omega)]
    by_cases e0 : nI i = m1
    · rw [if_pos e0]
      rw [if_neg (show ¬ P i = true by rw [hPi, decide_eq_true e0]; simp)] at h2
      exact h2
    · rw [if_neg e0]
      rw [decide_eq_false e0, Bool.not_false, Bool.true_and] at hPi
      cases e1 : s.testBit (A (56 + i)) with
      | false =>
        rw [if_neg (by decide)]
        rw [if_neg (show ¬ P i = true by rw [hPi]; unfold inP; rw [e1, Bool.false_and]; decide)] at h2
        exact h2
      | true =>
        rw [if_pos (by decide)]
        cases e2 : s.testBit (A (96 + i)) with
        | false =>
          rw [if_neg (by decide)]
          rw [if_neg (show ¬ P i = true by rw [hPi]; unfold inP; rw [e1, e2]; decide)] at h2
          exact h2
        | true =>
          rw [if_pos (by decide)]
          rw [if_pos (show P i = true by rw [hPi]; unfold inP; rw [e1, e2]; decide)] at h2
          exact h2
/-- inner edges with one edge more; with one edge less -/
def innW (A : Nat → Nat) (a b s : Nat) : Nat := b1 (s.testBit a && s.testBit b) + inn A s
def innO (A : Nat → Nat) (k s : Nat) : Nat := cnt (fun j => !decide (j = k) && inP A s j) (A 3)
theorem b1_le (b : Bool) : b1 b ≤ 1 := by cases b <;> decide
theorem innW_le {A : Nat → Nat} {B : Nat} (w : WF A B) (a b s : Nat) : innW A a b s ≤ 41 := by
  have h1 := inn_le w s
  have h2 := b1_le (s.testBit a && s.testBit b)
  unfold innW
  omega
theorem innO_le {A : Nat → Nat} {B : Nat} (w : WF A B) (k s : Nat) : innO A k s ≤ 41 := Nat.le_trans (cnt_le _ _) (Nat.le_trans w.2.2.1 (by omega))
theorem innO_e {A : Nat → Nat} {k : Nat} (hk : k < A 3) (s : Nat) : innO A k s + b1 (inP A s k) = inn A s := by
  have h := cnt_upd (p := inP A s) (q := fun j => !decide (j = k) && inP A s j) (k := k) (A 3) hk (fun j _ hn => by simp [hn])
  have z : b1 (!decide (k = k) && inP A s k) = 0 := by simp [b1]
  rw [z] at h
  exact h
theorem m_innerW {τ : cS} {A : Nat → Nat} {B s a b Nf : Nat} (h : MR τ A) (w : WF A B) (hs : s < 4096) (ha : a < 12) (hb : b < 12) (hf : 40 < Nf) : fX7_innerOf (lMt ()) Nf τ 0 (nI s) (-1 : Int32) (nI (2 ^ a ||| 2 ^ b)) = some (nI (innW A a b s)) := by
  have w3 := w.2.2.1
  have h1 := pair_lt ha hb
  have h2 := pair_pos a b
  have hP : ∀ k, k < A 3 → inP A s k = (!decide (nI k = (-1 : Int32)) && inP A s k) := fun k hk => by
    rw [decide_eq_false (nI_ne1 (by omega))]; rfl
  unfold fX7_innerOf fX7_innerOf_0 fX7_innerOf_15 fX7_innerOf_16
  rw [if_neg (nI_ne0 (by omega) (by omega))]
  by_cases e : (s.testBit a && s.testBit b) = true
  · rw [if_pos ((pair_m hs ha hb).mpr e), n0, n1]
    have := m_inner_loop2 (Nf := Nf) (c0 := 1) h w hs hP (A 3) 0 Nf (by omega) (by omega)
    unfold innW
    rw [e]
    exact this
  · rw [if_neg (fun q => e ((pair_m hs ha hb).mp q)), n0]
    have := m_inner_loop2 (Nf := Nf) (c0 := 0) h w hs hP (A 3) 0 Nf (by omega) (by omega)
    unfold innW b1
    rw [if_neg e]
    exact this
theorem m_innerO {τ : cS} {A : Nat → Nat} {B s k Nf : Nat} (h : MR τ A) (w : WF A B) (hs : s < 4096) (hk : k < A 3) (hf : 40 < Nf) : fX7_innerOf (lMt ()) Nf τ 0 (nI s) (nI k) (0 : Int32) = some (nI (innO A k s)) := by
  have w3 := w.2.2.1
  unfold fX7_innerOf fX7_innerOf_0 fX7_innerOf_15 fX7_innerOf_16
  rw [if_pos rfl, n0]
  have := m_inner_loop2 (Nf := Nf) (c0 := 0) (m1 := nI k) (P := fun j => !decide (j = k) && inP A s j) h w hs (fun j hj => by
    by_cases e : j = k
    · rw [decide_eq_true e, decide_eq_true (by rw [e])]
    · rw [decide_eq_false e, decide_eq_false (fun q => e ((nI_eq (by omega) (by omega)).mp q))]) (A 3) 0 Nf (by omega) (by omega)
  rw [Nat.zero_add, Nat.zero_add] at this
  exact this
theorem c_leastW {σ : cS} {A : Nat → Nat} {B Nf : Nat} {x1 x2 : Int32} {f : Nat → Nat} (t : TB σ A) (w : WF A B) (hf : ∀ s, f s ≤ 41) (hi : ∀ s, s < 2 ^ A 0 → fX3_innerWith (lCt ()) σ 97 (nI s) x1 x2 = some (nI (f s))) (hF : 5000 < Nf) : fX3_leastLoadWith (lCt ()) Nf σ 97 x1 x2 = some (nI (rup (f (dns f (2 ^ A 0 - 1)).1) (pct (dns f (2 ^ A 0 - 1)).1))) := by
  have w2 := w.2.1
  have hpw : 2 ^ A 0 ≤ 4096 := Nat.pow_le_pow_right (by omega) w2 (n := 2)
  obtain ⟨b1', b2⟩ := dns_lt w f
  unfold fX3_leastLoadWith fX3_leastLoadWith_0
  rw [c_densestWith t.1 w hf hi hF, Option.bind_some, c_rounded (f := f) (Nf := Nf) (by omega) (by omega) (hf _) (hi _ b2)]
  rfl
theorem op_leastWithout {σ τ : cS} {B Nf : Nat} (hf : 5000 < Nf) (x1 x2 x3 : Int32) (h hm0 : Int64) (iv : IV σ τ B) : ∃ r, gL_c18 Nf x1 x2 x3 h σ hm0 τ = some r ∧ PI4 B r := by
  have iv0 := iv
  obtain ⟨A, Hs, q, c, len, hm, hg, w, hh, ht, hp⟩ := iv
  have w2 := w.2.1
  have w3 := w.2.2.1
  have hpw : 2 ^ A 0 ≤ 4096 := Nat.pow_le_pow_right (by omega) w2 (n := 2)
  unfold gL_c18
  cases e : plc A x1 with
  | none =>
    refine try_no (k := 1) (σ' := σ) (h := h) (v := 0) (τ' := st2 τ 0 7 (nI 1)) (by omega) (by omega) ?_ ?_ st2_ss (IV_code iv0 _)
    · unfold fL_leastWithout fX6_leastWithout fX6_leastWithout_0
      rw [chs_n hg w (by omega) e]; rfl
    · unfold fX7_leastWithout fX7_leastWithout_0
      rw [mre_n hm w (by omega) e]; rfl
  | some k =>
    have hk := plc_lt e
    have wk := w.2.2.2.2.1 k hk
    obtain ⟨σ', g1, g2, g3, g4⟩ := c_learn (Nf := Nf) w hf hg hp
    have hg' : GR σ' 0 A := GR_keep hg (fun c _ _ => g4 c (by omega) (by omega) (by omega))
    refine try_ok (v := nI (rup (innO A k (dns (innO A k) (2 ^ A 0 - 1)).1) (pct (dns (innO A k) (2 ^ A 0 - 1)).1))) (σ' := σ') (τ' := st2 τ 0 7 (nI 0)) ?_ ?_ st2_ss (IV_lrn hm hg w hh ht g2 g3 (fun c h1 h2 _ h4 => g4 c h1 h2 h4) _)
    · unfold fL_leastWithout fX6_leastWithout fX6_leastWithout_0
      rw [chs_y hg w (by omega) e, xbn_l, g1, Option.bind_some, c_endsOf LG_0 hg' w hk, Option.bind_some, c_leastW (f := innO A k) g2 w (innO_le w k) (fun s hs => ?_) hf]
      · rfl
      · rw [c_innerW (by omega) (by omega) (by omega) (g2.2.1 s hs)]
        have y := innO_e hk s
        unfold b1 inP at y
        by_cases z : (s.testBit (A (56 + k)) && s.testBit (A (96 + k))) = true
        · rw [if_pos z] at y ⊢
          rw [neg1 (by omega), show inn A s - 1 = innO A k s by omega]
        · rw [if_neg z] at y ⊢
          rw [show inn A s = innO A k s by omega]
    · unfold fX7_leastWithout fX7_leastWithout_0
      rw [mre_y hm w (by omega) e]
      simp only [Option.bind_some]
      rw [if_pos (show (nI 0 : Int32) = 0 from rfl), m_place (MR_out hm (by omega)) w (by omega), e, Option.bind_some]
      show (fX7_leastOf (lMt ()) Nf (st2 τ 0 7 (nI 0)) 0 (nI k) (0 : Int32)).bind _ = _
      rw [m_leastOf (f := innO A k) (MR_out hm (by omega)) w (innO_le w k) (fun s hs => m_innerO (MR_out hm (by omega)) w hs hk (by omega)) hf]
      rfl
theorem op_leastWith {σ τ : cS} {B Nf : Nat} (hf : 5000 < Nf) (x1 x2 x3 : Int32) (h hm0 : Int64) (iv : IV σ τ B) : ∃ r, gL_c17 Nf x1 x2 x3 h σ hm0 τ = some r ∧ PI4 B r := by
  have iv0 := iv
  obtain ⟨A, Hs, q, c, len, hm, hg, w, hh, ht, hp⟩ := iv
  have w2 := w.2.1
  have w3 := w.2.2.1
  have hpw : 2 ^ A 0 ≤ 4096 := Nat.pow_le_pow_right (by omega) w2 (n := 2)
  have a1 : ∀ y, fX7_leastWith_32 (lMt ()) Nf 0 x1 x2 (nI 1) y τ = some (0, st2 τ 0 7 (nI 1)) := fun y => by
    unfold fX7_leastWith_32; rw [mref_1]; rfl
  have a2 : fX7_leastWith_32 (lMt ()) Nf 0 x1 x2 (nI 0) (nI 1) τ = some (0, st2 τ 0 7 (nI 2)) := by
    unfold fX7_leastWith_32; rw [mref_2]; rfl
  have bad : fX7_leastWith_17 (lMt ()) Nf 0 x1 x2 τ = some (0, st2 τ 0 7 (nI 1)) := by
    unfold fX7_leastWith_17 fX7_leastWith_22
    rw [n1, a1, a1]
    split <;> rfl
  unfold gL_c17
  cases h1 : isN A x1 with
  | false =>
    refine try_no (k := 1) (σ' := σ) (h := h) (v := 0) (τ' := st2 τ 0 7 (nI 1)) (by omega) (by omega) ?_ ?_ st2_ss (IV_code iv0 _)
    · unfold fL_leastWith fX6_leastWith fX6_leastWith_0
      rw [chk_n hg w h1]; rfl
    · unfold fX7_leastWith fX7_leastWith_0
      rw [mno_n hm w h1, Option.bind_some, if_pos (by decide), bad]
  | true =>
    cases h2 : isN A x2 with
    | false =>
      refine try_no (k := 1) (σ' := σ) (h := h) (v := 0) (τ' := st2 τ 0 7 (nI 1)) (by omega) (by omega) ?_ ?_ st2_ss (IV_code iv0 _)
      · unfold fL_leastWith fX6_leastWith fX6_leastWith_0
        rw [chk_y hg w h1, chk_n hg w h2]; rfl
      · unfold fX7_leastWith fX7_leastWith_0
        rw [mno_y hm w h1, Option.bind_some, if_neg (by decide), mno_n hm w h2, Option.bind_some, if_pos (by decide), bad]
    | true =>
      have em : fX7_leastWith (lMt ()) Nf τ 0 x1 x2 = fX7_leastWith_22 (lMt ()) Nf 0 x1 x2 (nI 0) τ := by
        unfold fX7_leastWith fX7_leastWith_0
        rw [mno_y hm w h1, Option.bind_some, if_neg (by decide), mno_y hm w h2, Option.bind_some, if_neg (by decide), n0]
      by_cases e : x1 = x2
      · refine try_no (k := 2) (σ' := σ) (h := h) (v := 0) (τ' := st2 τ 0 7 (nI 2)) (by omega) (by omega) ?_ ?_ st2_ss (IV_code iv0 _)
        · unfold fL_leastWith fX6_leastWith fX6_leastWith_0
          rw [chk_y hg w h1, chk_y hg w h2]
          unfold fX6_checkDifferent fX6_checkDifferent_0
          rw [if_pos e]; rfl
        · rw [em]
          unfold fX7_leastWith_22
          rw [if_pos e, n1, a2]
      · obtain ⟨a, ha, rfl⟩ := isN_n w h1
        obtain ⟨b, hb, rfl⟩ := isN_n w h2
        obtain ⟨σ', g1, g2, g3, g4⟩ := c_learn (Nf := Nf) w hf hg hp
        have v1 : (((1 : Int32) <<< (nI a &&& 31)) ||| ((1 : Int32) <<< (nI b &&& 31))) = nI (2 ^ a ||| 2 ^ b) := by
          rw [← nI_or, ← sh1 a (by omega), ← sh1 b (by omega)]; rfl
        refine try_ok (v := nI (rup (innW A a b (dns (innW A a b) (2 ^ A 0 - 1)).1) (pct (dns (innW A a b) (2 ^ A 0 - 1)).1))) (σ' := σ') (τ' := st2 τ 0 7 (nI 0)) ?_ ?_ st2_ss (IV_lrn hm hg w hh ht g2 g3 (fun c h1 h2 _ h4 => g4 c h1 h2 h4) _)
        · unfold fL_leastWith fX6_leastWith fX6_leastWith_0
          rw [chk_y hg w h1, chk_y hg w h2]
          unfold fX6_checkDifferent fX6_checkDifferent_0
          rw [if_neg e, xbn_l, xbn_l, xbn_l, g1, Option.bind_some, v1, c_leastW (f := innW A a b) g2 w (innW_le w a b) (fun s hs => ?_) hf]
          · rfl
          · rw [c_innerW (by omega) (by omega) (by omega) (g2.2.1 s hs), n1, nI_add]
            unfold innW b1
            by_cases z : (s.testBit a && s.testBit b) = true
            · rw [if_pos z, if_pos z, Nat.add_comm]
            · rw [if_neg z, if_neg z, Nat.zero_add]
        · rw [em]
          unfold fX7_leastWith_22
          rw [if_neg e, n0]
          unfold fX7_leastWith_32
          rw [show fX7_refuses τ 0 (nI 0) (nI 0) (0 : Int32) = _ from mref_0 τ]
          simp only [Option.bind_some]
          rw [if_pos (show (nI 0 : Int32) = 0 from rfl), v1, m_leastOf (f := innW A a b) (MR_out hm (by omega)) w (innW_le w a b) (fun s hs => m_innerW (MR_out hm (by omega)) w hs (by omega) (by omega) (by omega)) hf]
          rfl
