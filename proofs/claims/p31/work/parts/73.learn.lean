/-! ===== learning: the densest set and the least load ===== -/
theorem pct_pos {s : Nat} (hs : s < 4096) (h0 : s ≠ 0) : 1 ≤ pct s := by
  have := (low_bit hs h0).2.1
  omega
theorem dv0 : ∀ a, a < 64 → ∀ b, b < 13 → b = 0 ∨ nI a / nI b = nI (a / b) := by decide +kernel
theorem nI_dv {a b : Nat} (ha : a < 64) (hb : b < 13) (h0 : b ≠ 0) : nI a / nI b = nI (a / b) := (dv0 a ha b hb).resolve_left h0
theorem nz_n {b : Nat} (hb : b < 2 ^ 31) (h0 : b ≠ 0) : nz (nI b) = true := decide_eq_true (nI_ne0 (by omega) hb)
theorem c_densestWith {σ : cS} {A : Nat → Nat} {B Nf : Nat} {x1 x2 : Int32} {f : Nat → Nat} (h3 : σ 97 3 = nI (2 ^ A 0)) (w : WF A B) (hf : ∀ s, f s ≤ 41) (hi : ∀ s, s < 2 ^ A 0 → fX3_innerWith (lCt ()) σ 97 (nI s) x1 x2 = some (nI (f s))) (hF : 5000 < Nf) : fX3_densestWith (lCt ()) Nf σ 97 x1 x2 = some (nI (dns f (2 ^ A 0 - 1)).1) := by
  have w1 := w.1
  have w2 := w.2.1
  have hpw : 2 ^ A 0 ≤ 4096 := Nat.pow_le_pow_right (by omega) w2 (n := 2)
  have hp4 : 2 ^ 2 ≤ 2 ^ A 0 := Nat.pow_le_pow_right (by omega) w1
  have p1 : pct 1 = 1 := by decide
  have d1 : dns f 1 = (1, f 1, 1) := by
    show dst f (1, 0, 1) 1 = _
    unfold dst
    rw [p1]
    by_cases e : f 1 = 0
    · rw [if_neg (by show ¬ (0 * 1 < f 1 * 1 ∨ (f 1 * 1 = 0 * 1 ∧ 1 < 1)); omega), e]
    · rw [if_pos (by show 0 * 1 < f 1 * 1 ∨ (f 1 * 1 = 0 * 1 ∧ 1 < 1); omega)]
  have h := c_dns_loop (Nf := Nf) h3 w hf hi (2 ^ A 0 - 2) 1 (Nf - 1) (by omega) (by omega)
  rw [d1] at h
  unfold fX3_densestWith fX3_densestWith_0
  obtain ⟨n, hn⟩ : ∃ z, Nf = z + 1 := ⟨Nf - 1, by omega⟩
  have step : ∀ n, fX3_densestWith_11 (lCt ()) Nf σ 97 (n + 1) x1 x2 (0 : Int32) (0 : Int32) (0 : Int32) (1 : Int32) = fX3_densestWith_11 (lCt ()) Nf σ 97 n x1 x2 (nI 1) (nI (f 1)) (nI 1) (nI 2) := by
    intro n
    rw [fX3_densestWith_11, h3, n1, if_neg (fun q => absurd ((nI_leI (by omega) (by omega)).mp q) (by omega)), hi 1 (by omega), Option.bind_some, c_bitCount (by omega), Option.bind_some, bnd_e, if_pos rfl, p1]
    unfold fX3_densestWith_71 fX3_densestWith_82
    rw [n1, nI_add, bnd_e]
  have e : fX3_densestWith_11 (lCt ()) Nf σ 97 Nf x1 x2 (0 : Int32) (0 : Int32) (0 : Int32) (1 : Int32) = fX3_densestWith_11 (lCt ()) Nf σ 97 (Nf - 1) x1 x2 (nI 1) (nI (f 1)) (nI 1) (nI 2) := by
    have := step (Nf - 1)
    rw [show Nf - 1 + 1 = Nf by omega] at this
    exact this
  rw [e]
  exact h
theorem dns_lt {A : Nat → Nat} {B : Nat} (w : WF A B) (f : Nat → Nat) : 1 ≤ (dns f (2 ^ A 0 - 1)).1 ∧ (dns f (2 ^ A 0 - 1)).1 < 2 ^ A 0 := by
  have w1 := w.1
  have hp4 : 2 ^ 2 ≤ 2 ^ A 0 := Nat.pow_le_pow_right (by omega) w1
  have p1 : pct 1 = 1 := by decide
  have : ∀ n, 1 ≤ (dns f (n + 1)).1 ∧ (dns f (n + 1)).1 ≤ n + 1 := by
    intro n
    induction n with
    | zero =>
      show 1 ≤ (dst f (1, 0, 1) 1).1 ∧ (dst f (1, 0, 1) 1).1 ≤ 1
      have : (dst f (1, 0, 1) 1).1 = 1 := by
        unfold dst
        by_cases c : (1, 0, 1).2.1 * pct 1 < f 1 * (1, 0, 1).2.2 ∨ f 1 * (1, 0, 1).2.2 = (1, 0, 1).2.1 * pct 1 ∧ (1, 0, 1).2.2 < pct 1
        · rw [if_pos c]
        · rw [if_neg c]
      rw [this]
      exact ⟨Nat.le_refl 1, Nat.le_refl 1⟩
    | succ n ih =>
      rw [dns, dst]
      split
      · exact ⟨Nat.le_add_left 1 (n + 1), Nat.le_refl _⟩
      · exact ⟨ih.1, Nat.le_trans ih.2 (Nat.le_succ _)⟩
  have h := this (2 ^ A 0 - 2)
  rw [show 2 ^ A 0 - 2 + 1 = 2 ^ A 0 - 1 by omega] at h
  exact ⟨h.1, by omega⟩
theorem c_rounded {σ : cS} {p Nf : Nat} {x1 x2 : Int32} {f : Nat → Nat} (hp : p < 4096) (h0 : p ≠ 0) (hf : f p ≤ 41) (hi : fX3_innerWith (lCt ()) σ 97 (nI p) x1 x2 = some (nI (f p))) : fX3_roundedUpDensity (lCt ()) σ 97 (nI p) x1 x2 = some (nI (rup (f p) (pct p))) := by
  have h1 := pct_pos hp h0
  have h2 := pct_le p
  unfold fX3_roundedUpDensity fX3_roundedUpDensity_0 fX3_roundedUpDensity_31
  rw [c_bitCount hp, Option.bind_some, n1, if_pos ((nI_leI (by omega) (by omega)).mpr h1), hi, Option.bind_some, nz_n (by omega) (by omega), grd_t, nI_add, nI_sub (by omega), nI_dv (by omega) (by omega) (by omega)]
  rfl
theorem lt98 : lCt () (97 + 1) = 4096 := rfl
theorem c_inner0 {σ : cS} {s N : Nat} {A : Nat → Nat} (hs : s < 4096) (hi : σ 98 s = nI (inn A s)) : fX3_innerWith (lCt ()) σ 97 (nI s) (0 : Int32) (0 : Int32) = some (nI (inn A s)) := by
  unfold fX3_innerWith fX3_innerWith_0 fX3_innerWith_40
  have z : ((0 : Int32) &&& (nI s ^^^ (-1 : Int32))) = 0 := by
    refine Int32.toBitVec_inj.mp ?_
    show 0#32 &&& _ = 0#32
    exact BitVec.zero_and
  rw [lt98, ofNat_n, if_pos z, n0, if_neg (fun q => absurd ((nI_ltI (by omega) (by omega)).mp q) (by omega)), if_pos ((nI_ltI (by omega) (by omega)).mpr (by omega)), inb_n hs (by omega), grd_t, nI_clamp (by omega), show σ (97 + 1) s = nI (inn A s) from hi, nI_add]
  rfl
theorem inn_le {A : Nat → Nat} {B : Nat} (w : WF A B) (s : Nat) : inn A s ≤ 40 := Nat.le_trans (cnt_le _ _) w.2.2.1
theorem c_learn_end {σ : cS} {A : Nat → Nat} {B Nf : Nat} (w : WF A B) (hF : 5000 < Nf) (h3 : σ 97 3 = nI (2 ^ A 0)) (hi : ∀ s, s < 2 ^ A 0 → σ 98 s = nI (inn A s)) : ∃ σ', fX3_learn_62 (lCt ()) Nf 97 0 σ = some σ' ∧ TB σ' A ∧ σ' 97 6 = nI 1 ∧ ∀ c, c ≠ 97 → σ' c = σ c := by
  have w2 := w.2.1
  have hpw : 2 ^ A 0 ≤ 4096 := Nat.pow_le_pow_right (by omega) w2 (n := 2)
  obtain ⟨b1', b2⟩ := dns_lt w (inn A)
  unfold fX3_learn_62
  refine bind_x (c_densestWith (f := inn A) h3 w (fun s => Nat.le_trans (inn_le w s) (by omega)) (fun s hs => c_inner0 (N := 0) (by omega) (hi s hs)) hF) ?_
  refine bnd_x (fun s1 q1 => ?_)
  have e4 : s1 97 4 = nI (dns (inn A) (2 ^ A 0 - 1)).1 := by rw [q1, st2_ss]
  have e98 : s1 98 = σ 98 := by rw [q1, st2_out (by omega)]
  rw [e4]
  refine bind_x (c_rounded (Nf := Nf) (f := inn A) (by omega) (by omega) (Nat.le_trans (inn_le w _) (by omega)) (c_inner0 (N := 0) (by omega) (by rw [e98]; exact hi _ b2))) ?_
  refine bnd_x (fun s2 q2 => ?_)
  refine bnd_x (fun s3 q3 => ?_)
  refine some_x ⟨⟨?_, fun s hs => ?_, ?_, ?_⟩, ?_, fun c hc => ?_⟩
  · rw [q3, st2_nj (by omega), q2, st2_nj (by omega), q1, st2_nj (by omega)]; exact h3
  · rw [q3, st2_nk (by omega), q2, st2_nk (by omega), e98]; exact hi s hs
  · rw [q3, st2_nj (by omega), q2, st2_nj (by omega)]; exact e4
  · rw [q3, st2_nj (by omega), q2, st2_ss]
  · rw [q3, st2_ss]; rfl
  · rw [q3, st2_out hc, q2, st2_out hc, q1, st2_out hc]
theorem c_learn_loop {A : Nat → Nat} {B Nf : Nat} (w : WF A B) (hF : 5000 < Nf) : ∀ (d i n : Nat) (σ : cS), i + d = A 0 → d < n → GR σ 0 A → σ 97 3 = nI (2 ^ i) → (∀ s, s < 2 ^ i → σ 98 s = nI (inn A s)) → ∃ σ', fX3_learn_22 (lCt ()) Nf 97 0 n (nI i) σ = some σ' ∧ TB σ' A ∧ σ' 97 6 = nI 1 ∧ ∀ c, c ≠ 97 → c ≠ 98 → c ≠ 100 + 1 → σ' c = σ c := by
  have w2 := w.2.1
  intro d
  induction d with
  | zero =>
    intro i n σ h1 hn hg h3 hi
    obtain ⟨n, rfl⟩ : ∃ z, n = z + 1 := ⟨n - 1, by omega⟩
    have e : i = A 0 := by omega
    subst e
    unfold fX3_learn_22
    rw [hg.1, if_pos ((nI_leI (by omega) (by omega)).mpr (Nat.le_refl _))]
    obtain ⟨σ', g1, g2, g3, g4⟩ := c_learn_end (Nf := Nf) w hF h3 hi
    exact ⟨σ', g1, g2, g3, fun c hc _ _ => g4 c hc⟩
  | succ d ih =>
    intro i n σ h1 hn hg h3 hi
    obtain ⟨n, rfl⟩ : ∃ z, n = z + 1 := ⟨n - 1, by omega⟩
    have hp : 2 ^ (i + 1) ≤ 2 ^ 12 := Nat.pow_le_pow_right (by omega) (by omega)
    have hp2 : 2 ^ (i + 1) = 2 ^ i * 2 := Nat.pow_succ ..
    have hpw : (2 : Nat) ^ 12 = 4096 := rfl
    unfold fX3_learn_22
    rw [hg.1, if_neg (fun q => absurd ((nI_leI (by omega) (by omega)).mp q) (by omega)), h3, n2, nI_mul, n4096, if_neg (fun q => absurd ((nI_ltI (by omega) (by omega)).mp q) (by omega))]
    obtain ⟨s1, g1, g2, g3⟩ := c_joining (Nf := Nf) (v := i) w (by omega) hg (by omega)
    refine bind_x g1 ?_
    obtain ⟨s2, k1, k2, k3, k4⟩ := c_addSets (Nf := Nf) (v := i) (σ := s1) w (by omega) hF (by rw [g3 97 (by omega)]; exact h3) (fun s hs => by rw [g3 98 (by omega)]; exact hi s hs) g2
    refine bind_x k1 ?_
    rw [n1, nI_add, bnd_e]
    obtain ⟨σ', m1, m2, m3, m4⟩ := ih (i + 1) n s2 (by omega) (by omega) (GR_keep hg (fun c _ _ => by rw [k4 c (by omega) (by omega), g3 c (by omega)])) k2 k3
    exact ⟨σ', m1, m2, m3, fun c hc hc2 hc3 => by rw [m4 c hc hc2 hc3, k4 c hc hc2, g3 c hc3]⟩
theorem c_learn {A : Nat → Nat} {B Nf : Nat} {σ : cS} (w : WF A B) (hF : 5000 < Nf) (hg : GR σ 0 A) (hp : PT σ A) : ∃ σ', fX3_learn (lCt ()) Nf σ 97 0 = some σ' ∧ TB σ' A ∧ σ' 97 6 = nI 1 ∧ ∀ c, c ≠ 97 → c ≠ 98 → c ≠ 100 + 1 → σ' c = σ c := by
  have w2 := w.2.1
  unfold fX3_learn fX3_learn_0
  rcases hp with h | ⟨h, t⟩
  · rw [h, if_pos (show nI 0 = (0 : Int32) from rfl), show inb (0 : Int32) (lCt () (97 + 1)) = true by rw [lt98]; decide, grd_t]
    refine bnd_x (fun s1 q1 => ?_)
    refine bnd_x (fun s2 q2 => ?_)
    rw [n0]
    obtain ⟨σ', m1, m2, m3, m4⟩ := c_learn_loop (Nf := Nf) w hF (A 0) 0 Nf s2 (by omega) (by omega) (GR_keep hg (fun c _ _ => by rw [q2, st2_out (by omega), q1, st2_out (by omega)])) (by rw [q2, st2_ss]; rfl) (fun s hs => by
      have : s = 0 := by omega
      subst this
      rw [q2, st2_nk (by omega), q1, show (0 : Int32).toNatClampNeg = 0 from rfl, st2_ss]
      have : inn A 0 = 0 := by
        unfold inn
        rw [cnt_ext (q := fun _ => false) (fun k _ => by simp)]
        have z : ∀ n, cnt (fun _ => false) n = 0 := fun n => by
          induction n with
          | zero => rfl
          | succ n ih => simp only [cnt]; rw [ih]; rfl
        exact z _
      rw [this]; rfl)
    exact ⟨σ', m1, m2, m3, fun c hc hc2 hc3 => by rw [m4 c hc hc2 hc3, q2, st2_out hc, q1, st2_out hc2]⟩
  · rw [h, if_neg (by decide)]
    exact ⟨σ, rfl, t, h, fun _ _ _ _ => rfl⟩
