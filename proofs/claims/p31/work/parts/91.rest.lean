/-! ===== what the law looks at behind each step ===== -/
theorem nI_div {a b : Nat} (ha : a < 2 ^ 31) (hb : b < 2 ^ 31) : nI a / nI b = nI (a / b) := by
  have h : a / b ≤ a := Nat.div_le_self _ _
  refine Int32.toInt_inj.mp ?_
  rw [Int32.toInt_div, nI_toInt ha, nI_toInt hb, nI_toInt (by omega), ← Int.ofNat_tdiv]
  generalize a / b = c at h ⊢
  exact Int.bmod_eq_of_le (by omega) (by omega)
theorem nI_md {a b : Nat} (ha : a < 2 ^ 31) (hb : b < 2 ^ 31) : nI a - nI a / nI b * nI b = nI (a % b) := by
  rw [nI_div ha hb, nI_mul, nI_sub (Nat.div_mul_le_self _ _)]
  congr 1
  have := Nat.div_add_mod a b
  rw [Nat.mul_comm] at this
  omega
theorem and_m (x : Int32) : ∃ m, m < 2 ^ 31 ∧ x &&& (2147483647 : Int32) = nI m := by
  refine ⟨x.toBitVec.toNat % 2 ^ 31, Nat.mod_lt _ (by decide), Int32.toBitVec_inj.mp ?_⟩
  show x.toBitVec &&& BitVec.ofNat 32 2147483647 = BitVec.ofNat 32 (x.toBitVec.toNat % 2 ^ 31)
  refine BitVec.eq_of_toNat_eq ?_
  rw [BitVec.toNat_and, BitVec.toNat_ofNat, BitVec.toNat_ofNat]
  have h1 : x.toBitVec.toNat % 2 ^ 31 < 2 ^ 31 := Nat.mod_lt _ (by decide)
  rw [Nat.mod_eq_of_lt (a := x.toBitVec.toNat % 2 ^ 31) (by omega)]
  exact Nat.and_two_pow_sub_one_eq_mod x.toBitVec.toNat 31
theorem low_e {σ : cS} (x : Int32) {n : Nat} (h0 : 0 < n) (hn : n < 2 ^ 31) : ∃ m, m < n ∧ fL_low σ x (nI n) = some (nI m) := by
  obtain ⟨m, h1, h2⟩ := and_m x
  refine ⟨m % n, Nat.mod_lt _ h0, ?_⟩
  unfold fL_low fL_low_0
  rw [h2, nI_md h1 hn, nz_n hn (by omega), grd_t]
theorem cell_e (xs : Nat → Int32) {L t : Nat} (hL : L ≤ 260) (ht : t < 26) : ∃ x, fL_cell xs L (nI t) = some x := by
  unfold fL_cell
  by_cases e : L ≤ t
  · exact ⟨_, if_pos ((nI_leI (a := L) (b := t) (by omega) (by omega)).mpr e)⟩
  · refine ⟨xs (nI t).toNatClampNeg, (if_neg (fun q => e ((nI_leI (a := L) (b := t) (by omega) (by omega)).mp q))).trans ?_⟩
    rw [inb_n (by omega) (by omega), grd_t]
theorem off_ne {v w N : Nat} (h2 : 2 ≤ N) : (v % N + 1 + w % (N - 1)) % N < N ∧ v % N ≠ (v % N + 1 + w % (N - 1)) % N := by
  have h1 : v % N < N := Nat.mod_lt _ (by omega)
  have h3 : w % (N - 1) < N - 1 := Nat.mod_lt _ (by omega)
  refine ⟨Nat.mod_lt _ (by omega), ?_⟩
  generalize v % N = a at h1 ⊢
  generalize w % (N - 1) = r at h3 ⊢
  by_cases e : a + 1 + r < N
  · rw [Nat.mod_eq_of_lt e]; omega
  · rw [Nat.mod_eq_sub_mod (by omega), Nat.mod_eq_of_lt (by omega)]; omega
def bdB (t : Nat) : Nat := 12 * t + 13 * ((t + 4) / 8)
abbrev okX (y : Int32) : Prop := 0 ≤ y ∨ y = -2052 ∨ y = -2054
theorem okX_n {n : Nat} (h : n < 2 ^ 31) : okX (nI n) := Or.inl ((nI_leI (a := 0) (b := n) (by omega) h).mpr (Nat.zero_le n))
abbrev R1 : Int32 × cS → Prop := fun r => r.1 = 1
/-- behind the switch: looking again, and the next turn -/
theorem f_743 {σ : cS} {A : Nat → Nat} {B Nf L t v w M : Nat} {xs : Nat → Int32} {self98 : Int32 → Int32 → cS → Option ((Int32 × cS) × Nat)} {x4 y : Int32} (s : ST σ A B) (ht : t < 26) (hB : B ≤ 12 * (t + 1) + 13 * ((t + 4) / 8)) (hv : v < 8192) (hw : w < 8192) (hy : okX y) (hF : 300000 < Nf) (next : ∀ σ' A' B', ST σ' A' B' → B' ≤ bdB (t + 1) → EX (self98 1 (nI (t + 1)) σ') M R1) : EX (fL_law_743 (lCt ()) Nf xs L self98 (1 : Int32) (nI t) x4 (nI v) (nI w) y σ) (M + 47) R1 := by
  obtain ⟨g, wf, pp, ga⟩ := ST_g s
  have w1 := wf.1
  have w2 := wf.2.1
  have z4 := ga.2.2.2
  have hB2 : B ≤ 351 := by omega
  have h3 : A 3 < 40 := by omega
  have hpw : 2 ^ A 0 ≤ 4096 := Nat.pow_le_pow_right (by omega) w2 (n := 2)
  have hp4 : 2 ^ 2 ≤ 2 ^ A 0 := Nat.pow_le_pow_right (by omega) w1
  have e874 : ∀ σ' B', ST σ' A B' → B' ≤ bdB (t + 1) → EX (fL_law_874 (lCt ()) Nf xs L self98 (nI t) σ') (M + 40) R1 := fun σ' B' s' hB' => by
    have hb : B' ≤ 364 := by unfold bdB at hB'; omega
    unfold fL_law_874
    refine e_g (by decide) ?_
    have e889 : ∀ σ', ST σ' A B' → EX (fL_law_889 (lCt ()) Nf xs L self98 (nI t) σ') M R1 := fun σ' s' => by
      unfold fL_law_889 fL_law_894
      have h := next σ' A B' s' hB'
      rw [← nI_add] at h
      exact e_n h
    by_cases e : (nI t - nI t / (9 : Int32) * (9 : Int32)) = (5 : Int32)
    · refine e_t e ?_
      refine e_a (f_refused s' (by omega) h3 hF) (fun a ha => ?_)
      refine e_f (by rw [ha.1]; decide) ?_
      exact e889 _ (ST_RD s' ha.2)
    · exact e_f e (e_le (e889 σ' s') (by omega) (fun _ h => h))
  have e836 : ∀ σ', ST σ' A B → EX (fL_law_836 (lCt ()) Nf xs L self98 (nI t) (nI (A 0)) (nI v) (nI w) σ') (M + 45) R1 := fun σ' s' => by
    unfold fL_law_836
    refine e_g (by decide) ?_
    have em : (nI t - nI t / (8 : Int32) * (8 : Int32)) = nI (t % 8) := nI_md (a := t) (b := 8) (by omega) (by omega)
    by_cases e : t % 8 = 3
    · refine e_t (by rw [em, e]; rfl) ?_
      have nz0 : nz (nI (A 0)) = true := nz_n (by omega) (by omega)
      have s1 : nI (A 0) - (1 : Int32) = nI (A 0 - 1) := nI_sub (a := A 0) (b := 1) (by omega)
      refine e_g nz0 (e_g nz0 (e_g (by rw [s1]; exact nz_n (by omega) (by omega)) (e_g nz0 ?_)))
      have o := off_ne (v := v) (w := w) w1
      have ea : nI v - nI v / nI (A 0) * nI (A 0) = nI (v % A 0) := nI_md (by omega) (by omega)
      have q1 : v % A 0 < A 0 := Nat.mod_lt _ (by omega)
      have q2 : w % (A 0 - 1) < A 0 - 1 := Nat.mod_lt _ (by omega)
      rw [s1, ea, nI_md (a := w) (b := A 0 - 1) (by omega) (by omega), n1, nI_add, nI_add, nI_md (by omega) (by omega)]
      refine e_a (M := 5) (N := M + 40) (f_isAhead s' (by omega) h3 q1 o.1 o.2 hF) (fun a ha => ?_)
      refine e_f (by rw [ha.1]; decide) ?_
      exact e874 _ _ ha.2 (by unfold bdB; omega)
    · refine e_f (by rw [em]; exact fun q => e ((nI_eq (by omega) (by omega)).mp (show nI (t % 8) = nI 3 from q))) ?_
      exact e_le (e874 σ' B s' (by unfold bdB; omega)) (by omega) (fun _ h => h)
  have e789 : ∀ σ', ST σ' A B → EX (fL_law_789 (lCt ()) Nf xs L self98 (nI t) x4 (nI (A 0)) (nI v) (nI w) σ') (M + 47) R1 := fun σ' s' => by
    unfold fL_law_789
    have nz0 : nz (nI (A 0)) = true := nz_n (by omega) (by omega)
    refine e_g nz0 (e_g nz0 ?_)
    rw [nI_md (a := v) (b := A 0) (by omega) (by omega), nI_md (a := w) (b := A 0) (by omega) (by omega)]
    refine e_a (M := 2) (N := M + 45) (f_isPath s' (by omega) (Nat.mod_lt _ (by omega)) (Nat.mod_lt _ (by omega)) hF) (fun a ha => ?_)
    have s1 := ST_RD s' ha.2
    refine e_f (by rw [ha.1]; decide) (e_g (by decide) ?_)
    by_cases e : (nI t - nI t / (4 : Int32) * (4 : Int32)) = (1 : Int32)
    · refine e_t e ?_
      have ef : ((1 : Int32) <<< (nI (A 0) &&& 31)) - (1 : Int32) = nI (2 ^ A 0 - 1) := by
        rw [show ((1 : Int32) <<< (nI (A 0) &&& 31)) = nI (2 ^ A 0) from sh1 _ (by omega), n1, nI_sub (by omega)]
      obtain ⟨m, m1, m2⟩ := low_e (σ := a.2) (x4 >>> ((7 : Int32) &&& 31)) (n := 2 ^ A 0 - 1) (by omega) (by omega)
      refine e_b (by show fL_low a.2 (x4 >>> ((7 : Int32) &&& 31)) (((1 : Int32) <<< (nI (A 0) &&& 31)) - (1 : Int32)) = _; rw [ef]; exact m2) ?_
      obtain ⟨r, d1, d2, d3⟩ := f_isDense (s := 1 + m) s1 (by omega) (by omega) hF
      refine e_b (by show fL_isDense (lCt ()) Nf a.2 107 (nI 1 + nI m) = _; rw [nI_add]; exact d1) ?_
      refine e_f (by rw [d2]; decide) ?_
      exact e836 _ (ST_RD s1 d3)
    · exact e_f e (e836 _ s1)
  unfold fL_law_743
  refine e_i (r_value s (k := 0) (by omega) (by omega)) (e_f (by decide) ?_)
  have e775 : EX (fL_law_775 (lCt ()) Nf xs L self98 (nI t) x4 (vI A 0) (nI v) (nI w) σ) (M + 47) R1 := by
    unfold fL_law_775
    refine e_g (by decide) ?_
    by_cases e : (nI t - nI t / (3 : Int32) * (3 : Int32)) = (2 : Int32)
    · refine e_t e ?_
      obtain ⟨r, d1, d2, d3⟩ := f_areHeld s (by omega) hF
      refine e_b d1 (e_f (by rw [d2]; decide) ?_)
      exact e789 _ (ST_RD s d3)
    · exact e_f e (e789 σ s)
  rcases hy with q | q | q
  · exact e_t q e775
  · subst q
    exact e_f (by decide) (e_t rfl e775)
  · subst q
    exact e_f (by decide) (e_f (by decide) (e_t rfl e775))
