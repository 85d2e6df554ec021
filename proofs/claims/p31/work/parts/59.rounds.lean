/-! ===== evening out: one round, then all of them ===== -/
def rdP (A : Nat → Nat) : Nat → Bool := fun s => decide (ld A s = mx (ld A) (A 0)) && (rel A s).isSome
def bal : Nat → (Nat → Nat) → Nat → Nat × (Nat → Nat)
  | 0, A, c => (c, A)
  | f + 1, A, c => match fnd (rdP A) 0 (A 0) with
    | none => (c, A)
    | some s => bal f (rlA A s) (c + 1)
theorem rdP_y {A : Nat → Nat} {s : Nat} (h : rdP A s = true) : ∃ j, rel A s = some j := by
  unfold rdP at h
  rw [Bool.and_eq_true] at h
  exact Option.isSome_iff_exists.mp h.2
theorem rlA_falls {A : Nat → Nat} {B s : Nat} (w : WF A B) (hs : s < A 0) (h : rdP A s = true) : WF (rlA A s) B ∧ rlA A s 0 = A 0 ∧ (∀ x, inn (rlA A s) x = inn A x) ∧ sqs (ld (rlA A s)) (A 0) < sqs (ld A) (A 0) := by
  obtain ⟨j, e⟩ := rdP_y h
  obtain ⟨j1, j2, j3⟩ := rel_i e
  obtain ⟨u1, u2, u3⟩ := rel_WF w hs j2
  unfold rlA
  rw [e]
  exact ⟨u1, u2, u3, rel_falls w hs e⟩
theorem mxld_le {A : Nat → Nat} {B : Nat} (w : WF A B) : mx (ld A) (A 0) ≤ 40 := mx_le (fun k _ => ld_le w k)
theorem c_round {A : Nat → Nat} {B g Nf c : Nat} (hL : LG g) (hg90 : g + 15 ≤ 90) (w : WF A B) (hf : 100 < Nf) (hc : c < 1000000) : ∀ (d i n : Nat) (σ : cS), i + d = A 0 → d < n → GR σ g A → match fnd (rdP A) i d with
    | none => ∃ σ', fX5_evenOut_10 (lCt ()) Nf 90 g n (nI c) (nI (mx (ld A) (A 0))) (nI i) σ = some (nI c, σ') ∧ GR σ' g A ∧ FB g σ σ'
    | some s => ∃ σ' n', fX5_evenOut_10 (lCt ()) Nf 90 g n (nI c) (nI (mx (ld A) (A 0))) (nI i) σ = fX5_evenOut_10 (lCt ()) Nf 90 g n' (nI (c + 1)) (nI (mx (ld (rlA A s)) (A 0))) (nI 0) σ' ∧ n ≤ n' + d ∧ GR σ' g (rlA A s) ∧ FB g σ σ' := by
  have w2 := w.2.1
  have hM := mxld_le w
  intro d
  induction d with
  | zero =>
    intro i n σ h1 hn hg
    obtain ⟨n, rfl⟩ : ∃ z, n = z + 1 := ⟨n - 1, by omega⟩
    refine ⟨σ, ?_, hg, FB_rf⟩
    unfold fX5_evenOut_10
    rw [hg.1, if_pos ((nI_leI (by omega) (by omega)).mpr (by omega))]
    rfl
  | succ d ih =>
    intro i n σ h1 hn hg
    obtain ⟨n, rfl⟩ : ∃ z, n = z + 1 := ⟨n - 1, by omega⟩
    have hi : i < A 0 := by omega
    have hl := ld_le w i
    have e0 : fX5_evenOut_10 (lCt ()) Nf 90 g (n + 1) (nI c) (nI (mx (ld A) (A 0))) (nI i) σ = if nI (ld A i) = nI (mx (ld A) (A 0)) then (Option.bind (fX5_relieveNode (lCt ()) Nf σ 90 g (nI i)) (fun r2 => if r2.1 ≤ 0 then (fX5_evenOut_62 (lCt ()) Nf 90 g (fX5_evenOut_10 (lCt ()) Nf 90 g n) (nI c) (nI (mx (ld A) (A 0))) (nI i) r2.2) else (bnd (nI c + (1 : Int32)) (fun t3 => Option.bind (fX0_greatestLoad (lCt ()) Nf r2.2 g) (fun r4 => fX5_evenOut_10 (lCt ()) Nf 90 g n t3 r4 (0 : Int32) r2.2))))) else (fX5_evenOut_62 (lCt ()) Nf 90 g (fX5_evenOut_10 (lCt ()) Nf 90 g n) (nI c) (nI (mx (ld A) (A 0))) (nI i) σ) := by
      conv => lhs; unfold fX5_evenOut_10
      rw [hg.1, if_neg (fun q => absurd ((nI_leI (by omega) (by omega)).mp q) (by omega)), n1000000, if_neg (fun q => absurd ((nI_leI (by omega) (by omega)).mp q) (by omega)), row_get hL.2.2.2.2.2.1 (show i < 12 by omega) (by omega), hg.2.2.2.2.2.2.2.2.2.1 _ (by omega), Option.bind_some]
    have e1 : ∀ σ1, fX5_evenOut_62 (lCt ()) Nf 90 g (fX5_evenOut_10 (lCt ()) Nf 90 g n) (nI c) (nI (mx (ld A) (A 0))) (nI i) σ1 = fX5_evenOut_10 (lCt ()) Nf 90 g n (nI c) (nI (mx (ld A) (A 0))) (nI (i + 1)) σ1 := fun σ1 => by
      unfold fX5_evenOut_62
      rw [n1, nI_add, bnd_e]
    have go : ∀ σ1, GR σ1 g A → FB g σ σ1 → fX5_evenOut_10 (lCt ()) Nf 90 g (n + 1) (nI c) (nI (mx (ld A) (A 0))) (nI i) σ = fX5_evenOut_10 (lCt ()) Nf 90 g n (nI c) (nI (mx (ld A) (A 0))) (nI (i + 1)) σ1 → rdP A i = false → match fnd (rdP A) i (d + 1) with
        | none => ∃ σ', fX5_evenOut_10 (lCt ()) Nf 90 g (n + 1) (nI c) (nI (mx (ld A) (A 0))) (nI i) σ = some (nI c, σ') ∧ GR σ' g A ∧ FB g σ σ'
        | some s => ∃ σ' n', fX5_evenOut_10 (lCt ()) Nf 90 g (n + 1) (nI c) (nI (mx (ld A) (A 0))) (nI i) σ = fX5_evenOut_10 (lCt ()) Nf 90 g n' (nI (c + 1)) (nI (mx (ld (rlA A s)) (A 0))) (nI 0) σ' ∧ n + 1 ≤ n' + (d + 1) ∧ GR σ' g (rlA A s) ∧ FB g σ σ' := by
      intro σ1 hg1 hb h er
      have h2 := ih (i + 1) n σ1 (by omega) (by omega) hg1
      simp only [fnd]
      rw [if_neg (by rw [er]; decide)]
      cases e : fnd (rdP A) (i + 1) d with
      | none =>
        rw [e] at h2
        obtain ⟨σ', a1, a2, a3⟩ := h2
        exact ⟨σ', h.trans a1, a2, FB_tr hb a3⟩
      | some s =>
        rw [e] at h2
        obtain ⟨σ', n', a1, a2, a3, a4⟩ := h2
        exact ⟨σ', n', h.trans a1, by omega, a3, FB_tr hb a4⟩
    by_cases e2 : ld A i = mx (ld A) (A 0)
    · rw [if_pos (congrArg nI e2)] at e0
      obtain ⟨σ1, y1, y2, y3⟩ := c_relieveNode (Nf := Nf) hL hg90 hg w hi hf
      rw [y1, Option.bind_some] at e0
      cases e3 : rel A i with
      | none =>
        have hr : rlI A i = nI 0 := by unfold rlI; rw [e3]
        have hr2 : rlA A i = A := by unfold rlA; rw [e3]
        rw [hr2] at y2
        simp only [] at e0
        rw [hr, if_pos (show nI 0 ≤ 0 by decide), e1] at e0
        exact go σ1 y2 y3 e0 (by unfold rdP; rw [e3]; simp)
      | some j =>
        obtain ⟨p1, p2⟩ := rel_pos w hi e3
        have hr : rlI A i = nI (pln A (bfs A i) i 12 ((bfs A i).2.1 j)) := by unfold rlI; rw [e3]
        have ht : rdP A i = true := by unfold rdP; rw [e3, decide_eq_true e2]; rfl
        obtain ⟨u1, u2, u3, u4⟩ := rlA_falls w hi ht
        simp only [] at e0
        rw [hr, n0, if_neg (fun q => absurd ((nI_leI (by omega) (by omega)).mp q) (by omega)), n1, nI_add, bnd_e, c_greatest hL y2 u1 (by omega), Option.bind_some, u2] at e0
        simp only [fnd]
        rw [if_pos ht]
        exact ⟨σ1, n, e0, by omega, y2, y3⟩
    · rw [if_neg (fun q => e2 ((nI_eq (by omega) (by omega)).mp q)), e1] at e0
      exact go σ hg FB_rf e0 (by unfold rdP; rw [decide_eq_false e2]; rfl)
theorem c_evens {B g Nf : Nat} (hL : LG g) (hg90 : g + 15 ≤ 90) (hf : 100 < Nf) : ∀ (m : Nat) (A : Nat → Nat) (σ : cS) (c n : Nat), sqs (ld A) (A 0) ≤ m → WF A B → GR σ g A → c + m < 1000000 → 12 * m + 13 ≤ n → ∃ σ', fX5_evenOut_10 (lCt ()) Nf 90 g n (nI c) (nI (mx (ld A) (A 0))) (nI 0) σ = some (nI (bal m A c).1, σ') ∧ GR σ' g (bal m A c).2 ∧ FB g σ σ' ∧ WF (bal m A c).2 B ∧ (bal m A c).2 0 = A 0 ∧ (∀ x, inn (bal m A c).2 x = inn A x) ∧ (bal m A c).1 ≤ c + m := by
  intro m
  induction m with
  | zero =>
    intro A σ c n h0 w hg hc hn
    have w2 := w.2.1
    have h := c_round (Nf := Nf) hL hg90 w hf (c := c) (by omega) (A 0) 0 n σ (by omega) (by omega) hg
    cases e : fnd (rdP A) 0 (A 0) with
    | none =>
      rw [e] at h
      obtain ⟨σ', a1, a2, a3⟩ := h
      exact ⟨σ', a1, a2, a3, w, rfl, fun _ => rfl, by simp only [bal]; omega⟩
    | some s =>
      obtain ⟨z1, z2, z3⟩ := fnd_some _ _ _ e
      have := (rlA_falls w (by omega) z3).2.2.2
      omega
  | succ m ih =>
    intro A σ c n h0 w hg hc hn
    have w2 := w.2.1
    have h := c_round (Nf := Nf) hL hg90 w hf (c := c) (by omega) (A 0) 0 n σ (by omega) (by omega) hg
    simp only [bal]
    cases e : fnd (rdP A) 0 (A 0) with
    | none =>
      rw [e] at h
      obtain ⟨σ', a1, a2, a3⟩ := h
      exact ⟨σ', a1, a2, a3, w, rfl, fun _ => rfl, by simp only []; omega⟩
    | some s =>
      rw [e] at h
      obtain ⟨σ', n', a1, a2, a3, a4⟩ := h
      obtain ⟨z1, z2, z3⟩ := fnd_some _ _ _ e
      obtain ⟨u1, u2, u3, u4⟩ := rlA_falls w (show s < A 0 by omega) z3
      obtain ⟨σ2, b1, b2, b3, b4, b5, b6, b7⟩ := ih (rlA A s) σ' (c + 1) n' (by rw [u2]; omega) u1 a3 (by omega) (by omega)
      rw [u2] at b1
      exact ⟨σ2, a1.trans b1, b2, FB_tr a4 b3, b4, b5.trans u2, fun x => (b6 x).trans (u3 x), by simp only []; omega⟩
