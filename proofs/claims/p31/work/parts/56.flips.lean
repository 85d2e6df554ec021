/-! ===== turning the edges of a path, on both sides ===== -/
theorem CB_keep {σ σ' : cS} {A : Nat → Nat} {t : bst} {s : Nat} (c : CB σ A t s) (e : ∀ x, 90 ≤ x → x < 97 → σ' x = σ x) : CB σ' A t s := by
  obtain ⟨c1, c2, c3, c4, c5⟩ := c
  have e0 := e 90 (by omega) (by omega)
  have e1 := e (90 + 1 + 1) (by omega) (by omega)
  have e2 := e (90 + 3 + 1) (by omega) (by omega)
  have e3 := e (90 + 5 + 1) (by omega) (by omega)
  exact ⟨by rw [e0]; exact c1, by rw [e0]; exact c2, by rw [e0]; exact c3, fun i hi => by rw [e1]; exact c4 i hi, fun i h1 h2 => by rw [e2, e3]; exact c5 i h1 h2⟩
theorem c_flips {A0 : Nat → Nat} {t : bst} {s g B ℓ Nf : Nat} (hL : LG g) (hg90 : g + 15 ≤ 90) (w0 : WF A0 B) (b : BI A0 s t) (hℓ : ℓ < 100) : ∀ (m i j n : Nat) (σ : cS) (A : Nat → Nat), i ≤ m → i < t.1 → i < n → FI A0 A t B i → GR σ g A → CB σ A0 t s → pln A0 t s 12 (t.2.1 i) + j = ℓ → ∃ σ', fX5_flipPathTo_12 (lCt ()) Nf 90 g n (nI ℓ) (nI (t.2.1 i)) (nI j) σ = some (nI ℓ, σ') ∧ GR σ' g (flA A0 t s 12 (t.2.1 i) A) ∧ FG g σ σ' ∧ FI A0 (flA A0 t s 12 (t.2.1 i) A) t B 0 := by
  have w2 := w0.2.1
  have w3 := w0.2.2.1
  have base : ∀ (j n : Nat) (σ : cS) (A : Nat → Nat), FI A0 A t B 0 → GR σ g A → pln A0 t s 12 (t.2.1 0) + j = ℓ → ∃ σ', fX5_flipPathTo_12 (lCt ()) Nf 90 g (n + 1) (nI ℓ) (nI (t.2.1 0)) (nI j) σ = some (nI ℓ, σ') ∧ GR σ' g (flA A0 t s 12 (t.2.1 0) A) ∧ FG g σ σ' ∧ FI A0 (flA A0 t s 12 (t.2.1 0) A) t B 0 := by
    intro j n σ A f hg hp
    rw [b.2.1, pln_0] at hp
    rw [b.2.1, flA_s]
    unfold fX5_flipPathTo_12
    rw [if_pos ((nI_leI (by omega) (by omega)).mpr (by omega))]
    exact ⟨σ, rfl, hg, fun _ _ => rfl, f⟩
  intro m
  induction m with
  | zero =>
    intro i j n σ A hm hi hn f hg c hp
    obtain ⟨n, rfl⟩ : ∃ z, n = z + 1 := ⟨n - 1, by omega⟩
    rw [show i = 0 by omega] at f hp ⊢
    exact base j n σ A f hg hp
  | succ m ih =>
    intro i j n σ A hm hi hn f hg c hp
    obtain ⟨n, rfl⟩ : ∃ z, n = z + 1 := ⟨n - 1, by omega⟩
    by_cases e : i = 0
    · rw [e] at f hp ⊢
      exact base j n σ A f hg hp
    · have hv := (b.2.2.2.2.1 i hi).1
      obtain ⟨g1, g2, p, g3, g4, g5⟩ := BI_back b hi (by omega)
      have hk : t.2.2.1 (t.2.1 i) < A 3 := by rw [f.2.2.1]; exact g2
      obtain ⟨rc, r1, r2, r3, r4⟩ := c_flip hL hg f.1 hk
      have c' : CB rc.2 A0 t s := CB_keep c (fun x hx hx2 => r4 x (by omega))
      obtain ⟨σ', z1, z2, z3, z4⟩ := ih p (j + 1) n rc.2 (trnA A (t.2.2.1 (t.2.1 i))) (by omega) (by omega) (by omega) (FI_step b f hi (by omega) g3) r3 c' (by omega)
      rw [flA_step b hi g3 g1 g4]
      refine ⟨σ', ?_, z2, FG_tr r4 z3, z4⟩
      unfold fX5_flipPathTo_12
      rw [if_neg (fun q => absurd ((nI_leI (by omega) (by omega)).mp q) (by omega)), row_get (show lCt () (90 + 3 + 1) = 12 from rfl) (show t.2.1 i < 12 by omega) (by omega), (c.2.2.2.2 i (by omega) hi).1, Option.bind_some, r1, Option.bind_some, row_get (show lCt () (90 + 5 + 1) = 12 from rfl) (show t.2.1 i < 12 by omega) (by omega), (c'.2.2.2.2 i (by omega) hi).2, g4, Option.bind_some, n1, nI_add, bnd_e]
      exact z1
/-- the row behind relieving: s by its lighter node at the place j -/
def relA (A : Nat → Nat) (s j : Nat) : Nat → Nat := flA A (bfs A s) s 12 ((bfs A s).2.1 j) A
theorem rel_WF {A : Nat → Nat} {B s j : Nat} (w : WF A B) (hs : s < A 0) (hj : j < (bfs A s).1) : WF (relA A s j) B ∧ relA A s j 0 = A 0 ∧ ∀ x, inn (relA A s j) x = inn A x := by
  have b := BI_bfs w hs
  have gen : ∀ (m i : Nat) (C : Nat → Nat), i ≤ m → i < (bfs A s).1 → FI A C (bfs A s) B i → FI A (flA A (bfs A s) s 12 ((bfs A s).2.1 i) C) (bfs A s) B 0 := by
    intro m
    induction m with
    | zero => intro i C hm hi f; rw [show i = 0 by omega] at f ⊢; rw [b.2.1, flA_s]; exact f
    | succ m ih =>
      intro i C hm hi f
      by_cases e : i = 0
      · rw [e] at f ⊢; rw [b.2.1, flA_s]; exact f
      · obtain ⟨g1, g2, p, g3, g4, g5⟩ := BI_back b hi (by omega)
        rw [flA_step b hi g3 g1 g4]
        exact ih p _ (by omega) (by omega) (FI_step b f hi (by omega) g3)
  have h := gen 12 j A (by have := BI_n b; omega) hj (FI_0 w)
  exact ⟨h.1, h.2.1, h.2.2.2.1⟩
theorem c_flipPath {σ : cS} {A : Nat → Nat} {B s j g Nf : Nat} (hL : LG g) (hg90 : g + 15 ≤ 90) (hg : GR σ g A) (w : WF A B) (hs : s < A 0) (c : CB σ A (bfs A s) s) (hj : j < (bfs A s).1) (hf : 100 < Nf) : ∃ σ', fX5_flipPathTo (lCt ()) Nf σ 90 g (nI ((bfs A s).2.1 j)) = some (nI (pln A (bfs A s) s 12 ((bfs A s).2.1 j)), σ') ∧ GR σ' g (relA A s j) ∧ FG g σ σ' := by
  have b := BI_bfs w hs
  have hn := BI_n b
  have w2 := w.2.1
  have hv := b.2.2.2.2.1 j hj
  have hp := pln_i b 12 j (by omega) hj
  obtain ⟨σ', y1, y2, y3, -⟩ := c_flips (Nf := Nf) (ℓ := pln A (bfs A s) s 12 ((bfs A s).2.1 j)) hL hg90 w b (by omega) 12 j 0 Nf σ A (by omega) hj (by omega) (FI_0 w) hg c (by omega)
  refine ⟨σ', ?_, y2, y3⟩
  unfold fX5_flipPathTo fX5_flipPathTo_0
  rw [c_lengthTo w b c (by omega) hf, if_pos hv.2, Option.bind_some, n0]
  exact y1
