/-! ===== the table of all sets: node by node ===== -/
theorem c_join_loop {A : Nat → Nat} {B v Nf : Nat} (w : WF A B) (hv : v < 12) : ∀ (d i n : Nat) (σ : cS), i + d = A 3 → d < n → GR σ 0 A → (∀ u, u < 12 → σ (100 + 1) u = nI (cnt (jnP A v u) i)) → ∃ σ', fX0_countJoining_7 (lCt ()) Nf 0 100 n (nI v) (nI i) σ = some σ' ∧ (∀ u, u < 12 → σ' (100 + 1) u = nI (cnt (jnP A v u) (A 3))) ∧ ∀ c, c ≠ 100 + 1 → σ' c = σ c := by
  have w2 := w.2.1
  have w3 := w.2.2.1
  intro d
  induction d with
  | zero =>
    intro i n σ h1 hn hg hj
    obtain ⟨n, rfl⟩ : ∃ z, n = z + 1 := ⟨n - 1, by omega⟩
    unfold fX0_countJoining_7
    rw [hg.2.1, if_pos ((nI_leI (by omega) (by omega)).mpr (by omega))]
    exact some_x ⟨fun u hu => by rw [hj u hu, show i = A 3 by omega], fun _ _ => rfl⟩
  | succ d ih =>
    intro i n σ h1 hn hg hj
    obtain ⟨n, rfl⟩ : ∃ z, n = z + 1 := ⟨n - 1, by omega⟩
    have wk := w.2.2.2.2.1 i (by omega)
    have go : ∀ u0, u0 < 12 → (∀ u, u < 12 → jnP A v u i = (u0 == u)) → ∃ σ', (fX4_increase (lCt ()) σ 100 (nI u0) (1 : Int32)).bind (fun r6 => fX0_countJoining_68 (lCt ()) Nf 0 100 (fX0_countJoining_7 (lCt ()) Nf 0 100 n) (nI v) (nI i) r6) = some σ' ∧ (∀ u, u < 12 → σ' (100 + 1) u = nI (cnt (jnP A v u) (A 3))) ∧ ∀ c, c ≠ 100 + 1 → σ' c = σ c := by
      intro u0 hu0 hp
      refine bind_x (row_inc (show lCt () (100 + 1) = 12 from rfl) hu0 (by omega)) ?_
      rw [hj u0 hu0, n1, nI_add]
      generalize q1 : st2 σ (100 + 1) u0 (nI (cnt (jnP A v u0) i + 1)) = s1
      unfold fX0_countJoining_68
      rw [n1, nI_add, bnd_e]
      have hj1 : ∀ u, u < 12 → s1 (100 + 1) u = nI (cnt (jnP A v u) (i + 1)) := fun u hu => by
        rw [← q1]
        simp only [cnt]
        rw [hp u hu]
        by_cases e : u = u0
        · subst e; rw [st2_ss, if_pos (by simp)]
        · rw [st2_nj e, hj u hu, if_neg (by simp [Ne.symm e])]; rfl
      obtain ⟨σ', g1, g2, g3⟩ := ih (i + 1) n s1 (by omega) (by omega) (GR_keep hg (fun c hc hc2 => by rw [← q1, st2_out (by omega)])) hj1
      exact ⟨σ', g1, g2, fun c hc => by rw [g3 c hc, ← q1, st2_out hc]⟩
    unfold fX0_countJoining_7
    rw [hg.2.1, if_neg (fun q => absurd ((nI_leI (by omega) (by omega)).mp q) (by omega)), row_get (show lCt () (0 + 3 + 1) = 40 from rfl) (show i < 40 by omega) (by omega), row_get (show lCt () (0 + 5 + 1) = 40 from rfl) (show i < 40 by omega) (by omega), hg.2.2.2.2.2.1 i (by omega), hg.2.2.2.2.2.2.1 i (by omega)]
    simp only [Option.bind_some]
    by_cases e1 : A (56 + i) = v
    · have e2 : A (96 + i) ≠ v := fun q => wk.2.2.1 (e1.trans q.symm)
      rw [if_pos (by rw [e1])]
      refine go (A (96 + i)) (by omega) (fun u hu => ?_)
      unfold jnP
      simp [e1, e2]
    · rw [if_neg (fun q => e1 ((nI_eq (by omega) (by omega)).mp q))]
      by_cases e2 : A (96 + i) = v
      · rw [if_pos (by rw [e2])]
        refine go (A (56 + i)) (by omega) (fun u hu => ?_)
        unfold jnP
        simp [e1, e2]
      · rw [if_neg (fun q => e2 ((nI_eq (by omega) (by omega)).mp q))]
        unfold fX0_countJoining_68
        rw [n1, nI_add, bnd_e]
        refine ih (i + 1) n σ (by omega) (by omega) hg (fun u hu => ?_)
        simp only [cnt]
        rw [hj u hu, if_neg (by unfold jnP; simp [e1, e2])]; rfl
theorem c_joining {A : Nat → Nat} {B v Nf : Nat} {σ : cS} (w : WF A B) (hv : v < 12) (hg : GR σ 0 A) (hf : 40 < Nf) : ∃ σ', fX0_countJoining (lCt ()) Nf σ 0 100 (nI v) = some σ' ∧ (∀ u, u < 12 → σ' (100 + 1) u = nI (cnt (jnP A v u) (A 3))) ∧ ∀ c, c ≠ 100 + 1 → σ' c = σ c := by
  have w3 := w.2.2.1
  unfold fX0_countJoining fX0_countJoining_0
  refine bind_x (row_fill (show lCt () (100 + 1) = 12 from rfl) (by omega) (by omega)) ?_
  rw [n0]
  generalize q1 : rowF σ (100 + 1) 0 12 (fun _ => nI 0) = s1
  have o1 : ∀ c, c ≠ 100 + 1 → s1 c = σ c := fun c hc => by rw [← q1]; funext b; exact rowF_nk hc
  obtain ⟨σ', g1, g2, g3⟩ := c_join_loop (Nf := Nf) w hv (A 3) 0 Nf s1 (by omega) (by omega) (GR_keep hg (fun c _ _ => o1 c (by omega))) (fun u hu => by rw [← q1, rowF_in (by omega) hu]; rfl)
  exact ⟨σ', g1, g2, fun c hc => by rw [g3 c hc, o1 c hc]⟩
theorem c_addS_loop {Nf n0' : Nat} {f : Nat → Int32} (hp : 2 * 2 ^ n0' ≤ 4096) : ∀ (d j n : Nat) (σ : cS), j + d = 2 ^ n0' → d < n → σ 97 3 = nI (2 ^ n0') → (∀ b, 2 ^ n0' + j ≤ b → b < 2 * 2 ^ n0' → f b = σ 98 b + σ 98 (b - 2 ^ n0')) → fX3_addSetsWith_18 (lCt ()) Nf 97 n (nI j) σ = some (st2 (rowF σ 98 (2 ^ n0' + j) (2 * 2 ^ n0') f) 97 3 (nI (2 * 2 ^ n0'))) := by
  intro d
  induction d with
  | zero =>
    intro j n σ h1 hn h3 hf
    obtain ⟨n, rfl⟩ : ∃ z, n = z + 1 := ⟨n - 1, by omega⟩
    unfold fX3_addSetsWith_18 fX3_addSetsWith_66
    rw [h3, if_pos ((nI_leI (by omega) (by omega)).mpr (by omega)), n2, nI_mul, bnd_e, show 2 ^ n0' + j = 2 * 2 ^ n0' by omega, rowF_nil, Nat.mul_comm]
  | succ d ih =>
    intro j n σ h1 hn h3 hf
    obtain ⟨n, rfl⟩ : ∃ z, n = z + 1 := ⟨n - 1, by omega⟩
    unfold fX3_addSetsWith_18
    rw [h3, nI_add, show lCt () (97 + 1) = 4096 from rfl, ofNat_n, if_neg (fun q => absurd ((nI_leI (by omega) (by omega)).mp q) (by omega)), if_neg (fun q => absurd ((nI_leI (by omega) (by omega)).mp q) (by omega)), inb_n (by omega) (by omega), grd_t, inb_n (by omega) (by omega), grd_t, grd_t, nI_clamp (by omega), nI_clamp (by omega), n1, nI_add, bnd_e, bnd_e]
    have e : σ (97 + 1) (2 ^ n0' + j) + σ (97 + 1) j = f (2 ^ n0' + j) := by
      rw [hf (2 ^ n0' + j) (by omega) (by omega), show 2 ^ n0' + j - 2 ^ n0' = j by omega]
    rw [e, ih (j + 1) n _ (by omega) (by omega) (by rw [st2_nk (by omega)]; exact h3) (fun b hb hb2 => by rw [st2_nj (by omega), st2_nj (by omega)]; exact hf b (by omega) hb2), show 2 ^ n0' + (j + 1) = 2 ^ n0' + j + 1 by omega, rowF_st _ _ _ _ f (by omega)]
theorem c_addSets {A : Nat → Nat} {B v Nf : Nat} {σ : cS} (w : WF A B) (hv : v < 12) (hF : 5000 < Nf) (h3 : σ 97 3 = nI (2 ^ v)) (hi : ∀ s, s < 2 ^ v → σ 98 s = nI (inn A s)) (hj : ∀ u, u < 12 → σ (100 + 1) u = nI (cnt (jnP A v u) (A 3))) : ∃ σ', fX3_addSetsWith (lCt ()) Nf σ 97 (nI v) = some σ' ∧ σ' 97 3 = nI (2 ^ (v + 1)) ∧ (∀ s, s < 2 ^ (v + 1) → σ' 98 s = nI (inn A s)) ∧ ∀ c, c ≠ 97 → c ≠ 98 → σ' c = σ c := by
  have hp : 2 ^ (v + 1) ≤ 2 ^ 12 := Nat.pow_le_pow_right (by omega) (by omega)
  have hp2 : 2 ^ (v + 1) = 2 * 2 ^ v := by rw [Nat.pow_succ, Nat.mul_comm]
  have hpw : (2 : Nat) ^ 12 = 4096 := rfl
  unfold fX3_addSetsWith fX3_addSetsWith_0
  rw [h3]
  obtain ⟨s1, g1, g2, g3, g4⟩ := c_sums (k0 := 97 + 1) (k2 := 97 + 3) (fr := 2 ^ v) (nd := v) (Nf := Nf) (σ := σ) (W := fun u => cnt (jnP A v u) (A 3)) (by omega) rfl rfl (by omega) (by omega) hF hj
  refine bind_x g1 ?_
  have e3 : s1 97 3 = nI (2 ^ v) := by rw [g3 97 (by omega)]; exact h3
  rw [n0, c_addS_loop (Nf := Nf) (n0' := v) (f := fun b => s1 98 b + s1 98 (b - 2 ^ v)) (by omega) (2 ^ v) 0 Nf s1 (by omega) (by omega) e3 (fun b _ _ => rfl)]
  refine some_x ⟨by rw [st2_ss, hp2], fun s hs => ?_, fun c hc hc2 => ?_⟩
  · rw [st2_nk (by omega)]
    by_cases e : s < 2 ^ v
    · unfold rowF
      rw [if_neg (by omega), g4 s e]
      exact hi s e
    · obtain ⟨t, rfl⟩ : ∃ t, s = 2 ^ v + t := ⟨s - 2 ^ v, by omega⟩
      have ht : t < 2 ^ v := by omega
      rw [rowF_in (by omega) (by omega), show 2 ^ v + t - 2 ^ v = t by omega]
      have y1 : s1 98 (2 ^ v + t) = nI (sm (fun u => cnt (jnP A v u) (A 3)) t v) := g2 t ht
      have y2 : s1 98 t = nI (inn A t) := (g4 t ht).trans (hi t ht)
      rw [y1, y2, nI_add]
      have y3 := inn_hi (A := A) (m := A 3) ht (fun k hk => (w.2.2.2.2.1 k hk).2.2.1)
      show nI _ = nI (cnt (inP A (2 ^ v + t)) (A 3))
      rw [y3, Nat.add_comm]; rfl
  · rw [st2_out hc]
    funext b
    rw [rowF_nk hc2, g3 c hc2]
