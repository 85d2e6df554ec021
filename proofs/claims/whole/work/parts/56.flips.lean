/-! ===== turning the edges of a path, on both sides ===== -/
theorem CB_keep {σ σ' : cS} {A : Nat → Nat} {t : bst} {s : Nat} (c : CB σ A t s) (e : ∀ x, 90 ≤ x → x < 97 → σ' x = σ x) : CB σ' A t s := by
  obtain ⟨c1, c2, c3, c4, c5⟩ := c
  have e0 := e 90 (by omega) (by omega)
  have e1 := e (90 + 1 + 1) (by omega) (by omega)
  have e2 := e (90 + 3 + 1) (by omega) (by omega)
  have e3 := e (90 + 5 + 1) (by omega) (by omega)
  exact ⟨by rw [e0]; exact c1, by rw [e0]; exact c2, by rw [e0]; exact c3, fun i hi => by rw [e1]; exact c4 i hi, fun i h1 h2 => by rw [e2, e3]; exact c5 i h1 h2⟩
theorem MB_keep {τ τ' : cS} {t : bst} {s : Nat} (d : MB τ t s) (f : FR τ τ') : MB τ' t s := by
  have e0 := f 0 (by omega)
  have e5 := f 5 (by omega)
  have e6 := f 6 (by omega)
  exact ⟨by rw [e0]; exact d.1, by rw [e0]; exact d.2.1, fun i hi => by rw [e5]; exact d.2.2.1 i hi, fun i h1 h2 => by rw [e6]; exact d.2.2.2.1 i h1 h2, by rw [e6]; exact d.2.2.2.2⟩
theorem c_flips {A0 : Nat → Nat} {t : bst} {s g B ℓ Nf : Nat} (hL : LG g) (hg90 : g + 15 ≤ 90) (w0 : WF A0 B) (b : BI A0 s t) (hℓ : ℓ < 100) : ∀ (m i j n : Nat) (σ : cS) (A : Nat → Nat), i ≤ m → i < t.1 → i < n → FI A0 A t B i → GR σ g A → CB σ A0 t s → pln A0 t s 12 (t.2.1 i) + j = ℓ → ∃ σ', fX5_flipPathTo_12 (lCt ()) Nf 90 g n (nI ℓ) (nI (t.2.1 i)) (nI j) σ = some (nI ℓ, σ') ∧ GR σ' g (flA A0 t s 12 (t.2.1 i) A) ∧ FG g σ σ' ∧ FI A0 (flA A0 t s 12 (t.2.1 i) A) t B 0 := by
  have w2 := w0.2.1
  have w3 := w0.2.2.1
  have base : ∀ (j n : Nat) (σ : cS) (A : Nat → Nat), FI A0 A t B 0 → GR σ g A → pln A0 t s 12 (t.2.1 0) + j = ℓ → ∃ σ', fX5_flipPathTo_12 (lCt ()) Nf 90 g (n + 1) (nI ℓ) (nI (t.2.1 0)) (nI j) σ = some (nI ℓ, σ') ∧ GR σ' g (flA A0 t s 12 (t.2.1 0) A) ∧ FG g σ σ' ∧ FI A0 (flA A0 t s 12 (t.2.1 0) A) t B 0 := by
    intro j n σ A f hg hp
    rw [b.2.1, pln_0] at hp
    rw [b.2.1, flA_s]
    unfold fX5_flipPathTo_12
    rw [if_pos ((nI_leI (by omega) (by omega)).mpr (by omega))]
    exact ⟨σ, rfl, hg, fun _ _ => rfl, f⟩
  intro m
  induction m with
  | zero =>
    intro i j n σ A hm hi hn f hg c hp
    obtain ⟨n, rfl⟩ : ∃ z, n = z + 1 := ⟨n - 1, by omega⟩
    rw [show i = 0 by omega] at f hp ⊢
    exact base j n σ A f hg hp
  | succ m ih =>
    intro i j n σ A hm hi hn f hg c hp
    obtain ⟨n, rfl⟩ : ∃ z, n = z + 1 := ⟨n - 1, by omega⟩
    by_cases e : i = 0
    · rw [e] at f hp ⊢
      exact base j n σ A f hg hp
    · have hv := (b.2.2.2.2.1 i hi).1
      obtain ⟨g1, g2, p, g3, g4, g5⟩ := BI_back b hi (by omega)
      have hk : t.2.2.1 (t.2.1 i) < A 3 := by rw [f.2.2.1]; exact g2
      obtain ⟨rc, r1, r2, r3, r4⟩ := c_flip hL hg f.1 hk
      have c' : CB rc.2 A0 t s := CB_keep c (fun x hx hx2 => r4 x (by omega))
      obtain ⟨σ', z1, z2, z3, z4⟩ := ih p (j + 1) n rc.2 (trnA A (t.2.2.1 (t.2.1 i))) (by omega) (by omega) (by omega) (FI_step b f hi (by omega) g3) r3 c' (by omega)
      rw [flA_step b hi g3 g1 g4]
      refine ⟨σ', ?_, z2, FG_tr r4 z3, z4⟩
      unfold fX5_flipPathTo_12
      rw [if_neg (fun q => absurd ((nI_leI (by omega) (by omega)).mp q) (by omega)), row_get (show lCt () (90 + 3 + 1) = 12 from rfl) (show t.2.1 i < 12 by omega) (by omega), (c.2.2.2.2 i (by omega) hi).1, Option.bind_some, r1, Option.bind_some, row_get (show lCt () (90 + 5 + 1) = 12 from rfl) (show t.2.1 i < 12 by omega) (by omega), (c'.2.2.2.2 i (by omega) hi).2, g4, Option.bind_some, n1, nI_add, bnd_e]
      exact z1
theorem m_flips {A0 : Nat → Nat} {t : bst} {s B Nf : Nat} (w0 : WF A0 B) (b : BI A0 s t) : ∀ (m i a n : Nat) (τ : cS) (A : Nat → Nat), i ≤ m → i < t.1 → i < n → FI A0 A t B i → MR τ A → MB τ t s → ∃ τ', fX7_relieves_8 (lMt ()) Nf 0 n (nI (t.2.1 i)) (nI a) τ = some (nI (a + pln A0 t s 12 (t.2.1 i)), τ') ∧ MR τ' (flA A0 t s 12 (t.2.1 i) A) ∧ FR τ τ' := by
  have w2 := w0.2.1
  have w3 := w0.2.2.1
  have hs : s < A0 0 := by rw [← b.2.1]; exact (b.2.2.2.2.1 0 b.1).1
  have base : ∀ (a n : Nat) (τ : cS) (A : Nat → Nat), MR τ A → MB τ t s → ∃ τ', fX7_relieves_8 (lMt ()) Nf 0 (n + 1) (nI (t.2.1 0)) (nI a) τ = some (nI (a + pln A0 t s 12 (t.2.1 0)), τ') ∧ MR τ' (flA A0 t s 12 (t.2.1 0) A) ∧ FR τ τ' := by
    intro a n τ A hm d
    rw [b.2.1, pln_0, flA_s]
    unfold fX7_relieves_8 fX7_relieves_48
    rw [if_neg (show ¬ nI s < 0 from nI_pos (by omega)), show inb (nI s) (lMt () (0 + 6)) = true from (inb_n (n := 12) (by omega) (by omega) : inb (nI s) 12 = true), grd_t, nI_clamp (by omega), show τ (0 + 6) s = -1 from d.2.2.2.2, if_pos (by decide)]
    exact ⟨τ, rfl, hm, FR_rf⟩
  intro m
  induction m with
  | zero =>
    intro i a n τ A hmm hi hn f hm d
    obtain ⟨n, rfl⟩ : ∃ z, n = z + 1 := ⟨n - 1, by omega⟩
    rw [show i = 0 by omega]
    exact base a n τ A hm d
  | succ m ih =>
    intro i a n τ A hmm hi hn f hm d
    obtain ⟨n, rfl⟩ : ∃ z, n = z + 1 := ⟨n - 1, by omega⟩
    by_cases e : i = 0
    · rw [e]
      exact base a n τ A hm d
    · have hv := (b.2.2.2.2.1 i hi).1
      obtain ⟨g1, g2, p, g3, g4, g5⟩ := BI_back b hi (by omega)
      have hk : t.2.2.1 (t.2.1 i) < A 3 := by rw [f.2.2.1]; exact g2
      obtain ⟨τ1, r1, r2, r3⟩ := m_turns hm f.1 hk
      obtain ⟨τ', z1, z2, z3⟩ := ih p (a + 1) n τ1 (trnA A (t.2.2.1 (t.2.1 i))) (by omega) (by omega) (by omega) (FI_step b f hi (by omega) g3) r2 (MB_keep d r3)
      rw [flA_step b hi g3 g1 g4]
      refine ⟨τ', ?_, z2, FR_tr r3 z3⟩
      unfold fX7_relieves_8
      rw [if_neg (show ¬ nI (t.2.1 i) < 0 from nI_pos (by omega)), show inb (nI (t.2.1 i)) (lMt () (0 + 6)) = true from (inb_n (n := 12) (by omega) (by omega) : inb (nI (t.2.1 i)) 12 = true), grd_t, grd_t, nI_clamp (by omega), show τ (0 + 6) (t.2.1 i) = nI (t.2.2.1 (t.2.1 i)) from d.2.2.2.1 i (by omega) hi, if_neg (show ¬ nI (t.2.2.1 (t.2.1 i)) < 0 from nI_pos (by omega)), bnd_e, m_holder hm f.1 hk, f.2.2.2.2 i (by omega) (Nat.le_refl _), g4, Option.bind_some, r1, Option.bind_some, n1, nI_add, bnd_e, z1, g5]
      congr 3
      omega
/-- the row behind relieving: s by its lighter node at the place j -/
def relA (A : Nat → Nat) (s j : Nat) : Nat → Nat := flA A (bfs A s) s 12 ((bfs A s).2.1 j) A
theorem m_relieves {τ : cS} {A : Nat → Nat} {B s Nf : Nat} (hm : MR τ A) (w : WF A B) (hs : s < A 0) (hf : 100 < Nf) : ∃ τ', fX7_relieves (lMt ()) Nf τ 0 (nI s) = some (match rel A s with | some j => nI (pln A (bfs A s) s 12 ((bfs A s).2.1 j)) | none => nI 0, τ') ∧ MR τ' (match rel A s with | some j => relA A s j | none => A) ∧ (∀ c, c ≠ 0 → c ≠ 1 → c ≠ 5 → c ≠ 6 → τ' c = τ c) ∧ ∀ j, j ≠ 10 → j ≠ 11 → τ' 0 j = τ 0 j := by
  have b := BI_bfs w hs
  have hn := BI_n b
  obtain ⟨τ1, z1, z2, z3⟩ := m_reliefOf (Nf := Nf) hm w hs hf
  have hm1 : MR τ1 A := MR_ext hm (z3.1 1 (by omega) (by omega) (by omega))
  unfold fX7_relieves fX7_relieves_0
  rw [z1, Option.bind_some]
  cases e : rel A s with
  | none =>
    obtain ⟨Nf, rfl⟩ : ∃ z, Nf = z + 1 := ⟨Nf - 1, by omega⟩
    refine ⟨τ1, ?_, hm1, fun c h0 h1 h5 h6 => z3.1 c h0 h5 h6, z3.2⟩
    show fX7_relieves_8 (lMt ()) (Nf + 1) 0 (Nf + 1) (-1) 0 τ1 = _
    unfold fX7_relieves_8 fX7_relieves_48
    rw [if_pos (by decide)]; rfl
  | some j =>
    obtain ⟨j1, j2, j3⟩ := rel_i e
    obtain ⟨τ', y1, y2, y3⟩ := m_flips (Nf := Nf) w b 12 j 0 Nf τ1 A (by omega) j2 (by omega) (FI_0 w) hm1 z2
    refine ⟨τ', ?_, y2, fun c h0 h1 h5 h6 => by rw [y3 c h1]; exact z3.1 c h0 h5 h6, fun i h1 h2 => by rw [y3 0 (by omega)]; exact z3.2 i h1 h2⟩
    show fX7_relieves_8 (lMt ()) Nf 0 Nf (nI ((bfs A s).2.1 j)) (nI 0) τ1 = _
    rw [y1, Nat.zero_add]
theorem rel_WF {A : Nat → Nat} {B s j : Nat} (w : WF A B) (hs : s < A 0) (hj : j < (bfs A s).1) : WF (relA A s j) B ∧ relA A s j 0 = A 0 ∧ ∀ x, inn (relA A s j) x = inn A x := by
  have b := BI_bfs w hs
  have gen : ∀ (m i : Nat) (C : Nat → Nat), i ≤ m → i < (bfs A s).1 → FI A C (bfs A s) B i → FI A (flA A (bfs A s) s 12 ((bfs A s).2.1 i) C) (bfs A s) B 0 := by
    intro m
    induction m with
    | zero => intro i C hm hi f; rw [show i = 0 by omega] at f ⊢; rw [b.2.1, flA_s]; exact f
    | succ m ih =>
      intro i C hm hi f
      by_cases e : i = 0
      · rw [e] at f ⊢; rw [b.2.1, flA_s]; exact f
      · obtain ⟨g1, g2, p, g3, g4, g5⟩ := BI_back b hi (by omega)
        rw [flA_step b hi g3 g1 g4]
        exact ih p _ (by omega) (by omega) (FI_step b f hi (by omega) g3)
  have h := gen 12 j A (by have := BI_n b; omega) hj (FI_0 w)
  exact ⟨h.1, h.2.1, h.2.2.2.1⟩
theorem c_flipPath {σ : cS} {A : Nat → Nat} {B s j g Nf : Nat} (hL : LG g) (hg90 : g + 15 ≤ 90) (hg : GR σ g A) (w : WF A B) (hs : s < A 0) (c : CB σ A (bfs A s) s) (hj : j < (bfs A s).1) (hf : 100 < Nf) : ∃ σ', fX5_flipPathTo (lCt ()) Nf σ 90 g (nI ((bfs A s).2.1 j)) = some (nI (pln A (bfs A s) s 12 ((bfs A s).2.1 j)), σ') ∧ GR σ' g (relA A s j) ∧ FG g σ σ' := by
  have b := BI_bfs w hs
  have hn := BI_n b
  have w2 := w.2.1
  have hv := b.2.2.2.2.1 j hj
  have hp := pln_i b 12 j (by omega) hj
  obtain ⟨σ', y1, y2, y3, -⟩ := c_flips (Nf := Nf) (ℓ := pln A (bfs A s) s 12 ((bfs A s).2.1 j)) hL hg90 w b (by omega) 12 j 0 Nf σ A (by omega) hj (by omega) (FI_0 w) hg c (by omega)
  refine ⟨σ', ?_, y2, y3⟩
  unfold fX5_flipPathTo fX5_flipPathTo_0
  rw [c_lengthTo w b c (by omega) hf, if_pos hv.2, Option.bind_some, n0]
  exact y1
