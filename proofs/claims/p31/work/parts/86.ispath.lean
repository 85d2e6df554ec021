/-! ===== paths, gone along ===== -/
theorem eI_0 {A : Nat → Nat} {k : Nat} : eI A k (nI 0) = nI (A (56 + k)) := if_pos rfl
theorem eI_1 {A : Nat → Nat} {k : Nat} : eI A k (nI 1) = nI (A (96 + k)) := by
  unfold eI
  rw [if_neg (by decide), if_pos rfl]
theorem eI_2 {A : Nat → Nat} {k : Nat} : eI A k (nI 2) = nI (hd A k) := by
  unfold eI
  rw [if_neg (by decide), if_neg (by decide), if_pos rfl]
theorem eI_3 {A : Nat → Nat} {k : Nat} : eI A k (nI 3) = nI (A (176 + k)) := by
  unfold eI
  rw [if_neg (by decide), if_neg (by decide), if_neg (by decide)]
theorem ot_of {A : Nat → Nat} {B k : Nat} (w : WF A B) (hk : k < A 3) : (A (56 + k) = hd A k → A (96 + k) = ot A k) ∧ (A (56 + k) ≠ hd A k → A (56 + k) = ot A k) := by
  obtain ⟨h1, h2, h3, h4, h5⟩ := w.2.2.2.2.1 k hk
  unfold hd ot
  by_cases e : A (136 + k) = 0
  · rw [if_pos e, if_pos e]
    exact ⟨fun _ => rfl, fun q => absurd rfl q⟩
  · rw [if_neg e, if_neg e]
    exact ⟨fun q => absurd q h3, fun _ => rfl⟩
theorem e_path_loop {σ : cS} {A : Nat → Nat} {B s u Nf : Nat} (v : ST σ A B) (hB : B < 2 ^ 30) (hs : s < A 0) (hu : u < A 0) (h : seen A s u) (hF : 300000 < Nf) : ∀ (d m n : Nat) (σ' : cS), m + d = plen A s u → d < n → RD A σ σ' → EX (fL_isPath_93 (lCt ()) Nf 107 n (nI s) (nI u) (nI (plen A s u)) (nI (bfs A s).2.2.2) (nI (pnd A s u m)) (1 : Int32) (nI m) σ') 2 (fun r => r.1 = 1 ∧ RD A σ r.2) := by
  obtain ⟨g, w, p, ga⟩ := ST_g v
  have w2 := w.2.1
  have hl := plen_le w hs (show u < 12 by omega) h
  have b := BI_bfs w hs
  intro d
  induction d with
  | zero =>
    intro m n σ' h1 h2 r
    obtain ⟨n, rfl⟩ : ∃ z, n = z + 1 := ⟨n - 1, by omega⟩
    obtain rfl : m = plen A s u := by omega
    have v1 := ST_RD v r
    obtain ⟨σ2, a1, a2⟩ := r_stepX (Nf := Nf) v1 hs hu (Or.inr (Or.inr ⟨h, rfl⟩)) (by omega)
    obtain ⟨σ3, c1, c2⟩ := r_stepX (Nf := Nf) (x := -1) (ST_RD v1 a2) hs hu (Or.inl (by decide)) (by omega)
    unfold fL_isPath_93
    refine e_t ((nI_leI (by omega) (by omega)).mpr (Nat.le_refl _)) ?_
    unfold fL_isPath_207
    refine e_f (by decide) ?_
    refine e_t (by rw [pnd_l]) ?_
    refine e_w a1 (e_t rfl ?_)
    refine e_w c1 (e_t rfl ?_)
    exact e_g (by decide) (e_r ⟨rfl, RD_tr (RD_tr r a2) c2⟩)
  | succ d ih =>
    intro m n σ' h1 h2 r
    obtain ⟨n, rfl⟩ : ∃ z, n = z + 1 := ⟨n - 1, by omega⟩
    have v1 := ST_RD v r
    obtain ⟨z1, z2, z3⟩ := pse_in w hs (show u < 12 by omega) h (show m < plen A s u by omega)
    obtain ⟨y1, y2, y3⟩ := pnd_in w hs (show u < 12 by omega) h (show m + 1 ≤ plen A s u by omega)
    obtain ⟨y4, y5, y6⟩ := pnd_in w hs (show u < 12 by omega) h (show m ≤ plen A s u by omega)
    obtain ⟨σ2, a1, a2⟩ := r_step (Nf := Nf) v1 hs hu h (show m < plen A s u by omega) (by omega)
    have v2 := ST_RD v1 a2
    have wk := w.2.2.2.2.1 _ z1
    obtain ⟨σ3, c1, c2⟩ := r_path (Nf := Nf) (u := pnd A s u (m + 1)) v2 hs y2 (by omega)
    have e162 : EX (fL_isPath_162 (lCt ()) Nf 107 (fL_isPath_93 (lCt ()) Nf 107 n) (nI s) (nI u) (nI (plen A s u)) (nI (bfs A s).2.2.2) (1 : Int32) (nI m) (nI (ot A (pse A s u m))) σ2) 2 (fun r => r.1 = 1 ∧ RD A σ r.2) := by
      rw [z3]
      unfold fL_isPath_162
      refine e_f (by decide) ?_
      refine e_t ?_ ?_
      · have := shr (s := (bfs A s).2.2.2) (v := pnd A s u (m + 1)) b.2.2.1 (by omega)
        rw [if_pos y1] at this
        exact this
      refine e_i c1 ?_
      refine e_t ?_ ?_
      · show pthI A s (pnd A s u (m + 1)) = nI m + (1 : Int32)
        unfold pthI
        rw [if_pos y1, y3, n1, nI_add]
      unfold fL_isPath_199
      refine e_n ?_
      rw [n1, nI_add]
      exact ih (m + 1) n σ3 (by omega) (by omega) (RD_tr (RD_tr r a2) c2)
    unfold fL_isPath_93
    refine e_f (fun q => absurd ((nI_leI (by omega) (by omega)).mp q) (by omega)) ?_
    refine e_f (by decide) ?_
    refine e_i a1 ?_
    refine e_i (r_edge v2 hB z1 (j := 2) (by omega) (by omega)) ?_
    refine e_t (by rw [eI_2, z2]) ?_
    unfold fL_isPath_131
    refine e_i (r_edge v2 hB z1 (j := 0) (by omega) (by omega)) ?_
    rw [eI_0]
    by_cases q : A (56 + pse A s u m) = hd A (pse A s u m)
    · refine e_t (by rw [q, z2]) ?_
      refine e_i (r_edge v2 hB z1 (j := 1) (by omega) (by omega)) ?_
      rw [eI_1, (ot_of w z1).1 q]
      exact e162
    · refine e_f (by rw [eq_n (by omega) (by omega), ← z2]; exact q) ?_
      refine e_i (r_edge v2 hB z1 (j := 0) (by omega) (by omega)) ?_
      rw [eI_0, (ot_of w z1).2 q]
      exact e162
theorem f_isPath {σ : cS} {A : Nat → Nat} {B s u Nf : Nat} (v : ST σ A B) (hB : B < 2 ^ 30) (hs : s < A 0) (hu : u < A 0) (hF : 300000 < Nf) : EX (fL_isPath (lCt ()) Nf σ 107 (nI s) (nI u)) 2 (fun r => r.1 = 1 ∧ RD A σ r.2) := by
  obtain ⟨g, w, p, ga⟩ := ST_g v
  have w2 := w.2.1
  have b := BI_bfs w hs
  obtain ⟨σ1, a1, a2⟩ := r_path (Nf := Nf) v hs hu (by omega)
  have v1 := ST_RD v a2
  obtain ⟨σ2, c1, c2⟩ := r_node (Nf := Nf) (j := 4) v1 hs (by omega) (by omega)
  have v2 := ST_RD v1 c2
  have r2 := RD_tr a2 c2
  have hbit := shr (s := (bfs A s).2.2.2) (v := u) b.2.2.1 (by omega)
  unfold fL_isPath fL_isPath_0
  refine e_i a1 ?_
  refine e_i c1 ?_
  by_cases h : seen A s u
  · have hl := plen_le w hs (show u < 12 by omega) h
    have ep : pthI A s u = nI (plen A s u) := if_pos h
    rw [if_pos h] at hbit
    rw [ep]
    refine e_f (nI_ne1 (by omega)) ?_
    refine e_t hbit ?_
    have e88 : EX (fL_isPath_88 (lCt ()) Nf 107 (nI s) (nI u) (nI (plen A s u)) (nI (bfs A s).2.2.2) (nI s) (1 : Int32) σ2) 2 (fun r => r.1 = 1 ∧ RD A σ r.2) := by
      unfold fL_isPath_88
      have := e_path_loop v hB hs hu h hF (plen A s u) 0 Nf σ2 (by omega) (by omega) r2
      rw [pnd_0 w hs (by omega) h] at this
      exact this
    by_cases e0 : plen A s u = 0
    · refine e_t (by show nI (plen A s u) = 0; rw [e0]; rfl) ?_
      unfold fL_isPath_70
      refine e_t (by rw [(plen_0 w hs (by omega) h).mp e0]) ?_
      unfold fL_isPath_80
      exact e_t rfl e88
    · refine e_f (nI_ne0 (by omega) (by omega)) ?_
      unfold fL_isPath_70
      refine e_f (by rw [eq_n (by omega) (by omega)]; exact fun q => e0 ((plen_0 w hs (by omega) h).mpr q.symm)) ?_
      unfold fL_isPath_80
      exact e_t rfl e88
  · have ep : pthI A s u = -1 := if_neg h
    rw [if_neg h] at hbit
    rw [ep]
    refine e_t rfl ?_
    refine e_t hbit ?_
    obtain ⟨σ3, d1, d2⟩ := r_stepX (Nf := Nf) (x := 0) v2 hs hu (Or.inr (Or.inl ⟨h, rfl⟩)) (by omega)
    refine e_w d1 (e_t rfl ?_)
    exact e_g (by decide) (e_r ⟨rfl, RD_tr r2 d2⟩)
