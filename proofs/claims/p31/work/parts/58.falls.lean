/-! ===== the loads behind relieving; the sum of their squares falls ===== -/
theorem rel_ld {A : Nat → Nat} {B s j : Nat} (w : WF A B) (hs : s < A 0) (hj : j < (bfs A s).1) (v : Nat) : ld (relA A s j) v + b1 (s == v) = ld A v + b1 ((bfs A s).2.1 j == v) := by
  have b := BI_bfs w hs
  have gen : ∀ (m i : Nat) (C : Nat → Nat), i ≤ m → i < (bfs A s).1 → FI A C (bfs A s) B i → (∀ x, 1 ≤ x → x ≤ i → ot C ((bfs A s).2.2.1 ((bfs A s).2.1 x)) = ot A ((bfs A s).2.2.1 ((bfs A s).2.1 x))) → ld (flA A (bfs A s) s 12 ((bfs A s).2.1 i) C) v + b1 (s == v) = ld C v + b1 ((bfs A s).2.1 i == v) := by
    intro m
    induction m with
    | zero => intro i C hm hi f o; rw [show i = 0 by omega, b.2.1, flA_s]
    | succ m ih =>
      intro i C hm hi f o
      by_cases e : i = 0
      · rw [e, b.2.1, flA_s]
      · obtain ⟨g1, g2, p, g3, g4, g5⟩ := BI_back b hi (by omega)
        have hk : (bfs A s).2.2.1 ((bfs A s).2.1 i) < C 3 := by rw [f.2.2.1]; exact g2
        rw [flA_step b hi g3 g1 g4]
        have h1 := ih p _ (by omega) (by omega) (FI_step b f hi (by omega) g3) (by
          intro x hx hx2
          obtain ⟨y1, y2, y3⟩ := b.2.2.2.2.2.2.2 x hx (by omega)
          rw [ot_trn f.1 hk (by rw [f.2.2.1]; exact y1), if_neg]
          · exact o x hx (by omega)
          · intro z
            have hq : (bfs A s).2.1 x = (bfs A s).2.1 i := by rw [← y2, ← (b.2.2.2.2.2.2.2 i (by omega) hi).2.1, z]
            exact b.2.2.2.2.2.2.1 x i (by omega) hi hq)
        have h2 := ld_trn f.1 hk v
        rw [o i (by omega) (Nat.le_refl _), f.2.2.2.2 i (by omega) (Nat.le_refl _), g4, (b.2.2.2.2.2.2.2 i (by omega) hi).2.1] at h2
        omega
  exact gen 12 j A (by have := BI_n b; omega) hj (FI_0 w) (fun _ _ _ => rfl)
theorem sqs_ext {f g : Nat → Nat} {n : Nat} (h : ∀ k, k < n → g k = f k) : sqs g n = sqs f n := by
  induction n with
  | zero => rfl
  | succ n ih => simp only [sqs]; rw [ih (fun k hk => h k (by omega)), h n (by omega)]
theorem sqs_upd {f g : Nat → Nat} {k : Nat} : ∀ (n : Nat), k < n → (∀ j, j < n → j ≠ k → g j = f j) → sqs g n + f k * f k = sqs f n + g k * g k := by
  intro n
  induction n with
  | zero => intro h; omega
  | succ n ih =>
    intro hk h
    simp only [sqs]
    by_cases e : k = n
    · subst e
      rw [sqs_ext (fun j hj => h j (by omega) (by omega))]
      omega
    · have := ih (by omega) (fun j hj hn => h j (by omega) hn)
      rw [h n (by omega) (by omega)]
      omega
theorem sqs_falls {f g : Nat → Nat} {s v n : Nat} (hs : s < n) (hv : v < n) (hsv : f v + 2 ≤ f s) (h : ∀ x, g x + b1 (s == x) = f x + b1 (v == x)) : sqs g n < sqs f n := by
  have hne : s ≠ v := by rintro rfl; omega
  have hb : ∀ x : Nat, b1 (x == x) = 1 := fun x => by rw [beq_self_eq_true]; rfl
  have hz : ∀ x y : Nat, x ≠ y → b1 (x == y) = 0 := fun x y q => by rw [beq_eq_false_iff_ne.mpr q]; rfl
  have g1 : g s + 1 = f s := by have := h s; rw [hb, hz v s (Ne.symm hne)] at this; omega
  have g2 : g v = f v + 1 := by have := h v; rw [hb, hz s v hne] at this; omega
  have a1 := sqs_upd (f := f) (g := up f s (g s)) (k := s) n hs (fun j _ hn => up_o hn)
  have a2 := sqs_upd (f := up f s (g s)) (g := g) (k := v) n hv (fun j _ hn => by
    by_cases q : j = s
    · subst q; rw [up_s]
    · rw [up_o q]; have := h j; rw [hz s j (Ne.symm q), hz v j (Ne.symm hn)] at this; omega)
  rw [up_s] at a1
  rw [up_o (Ne.symm hne)] at a2
  generalize sqs (up f s (g s)) n = U at a1 a2
  obtain ⟨d, hd⟩ : ∃ d, f s = f v + 2 + d := ⟨f s - (f v + 2), by omega⟩
  have g3 : g s = f v + 1 + d := by omega
  rw [g2] at a2
  rw [hd, g3] at a1
  have e1 : (f v + 2 + d) * (f v + 2 + d) = (f v + 1 + d) * (f v + 1 + d) + 2 * (f v + 1 + d) + 1 := by
    rw [show f v + 2 + d = (f v + 1 + d) + 1 by omega, Nat.mul_add, Nat.add_mul]; omega
  have e2 : (f v + 1) * (f v + 1) = f v * f v + 2 * f v + 1 := by
    rw [Nat.mul_add, Nat.add_mul]; omega
  omega
theorem rel_falls {A : Nat → Nat} {B s j : Nat} (w : WF A B) (hs : s < A 0) (h : rel A s = some j) : sqs (ld (relA A s j)) (A 0) < sqs (ld A) (A 0) := by
  obtain ⟨j1, j2, j3⟩ := rel_i h
  have b := BI_bfs w hs
  exact sqs_falls hs (b.2.2.2.2.1 j j2).1 j3 (fun x => rel_ld w hs j2 x)
/-- the answer of relieving a node -/
def rlI (A : Nat → Nat) (s : Nat) : Int32 := match rel A s with
  | some j => nI (pln A (bfs A s) s 12 ((bfs A s).2.1 j))
  | none => nI 0
def rlA (A : Nat → Nat) (s : Nat) : Nat → Nat := match rel A s with
  | some j => relA A s j
  | none => A
/-- what stays when the graph at g and the search are written -/
def FB (g : Nat) (σ σ' : cS) : Prop := ∀ c, (c < g ∨ g + 15 ≤ c) → (c < 90 ∨ 97 ≤ c) → σ' c = σ c
theorem FB_rf {g : Nat} {σ : cS} : FB g σ σ := fun _ _ _ => rfl
theorem FB_tr {g : Nat} {σ σ' σ'' : cS} (h : FB g σ σ') (h' : FB g σ' σ'') : FB g σ σ'' := fun c h1 h2 => (h' c h1 h2).trans (h c h1 h2)
theorem c_relieveNode {σ : cS} {A : Nat → Nat} {B s g Nf : Nat} (hL : LG g) (hg90 : g + 15 ≤ 90) (hg : GR σ g A) (w : WF A B) (hs : s < A 0) (hf : 100 < Nf) : ∃ σ', fX5_relieveNode (lCt ()) Nf σ 90 g (nI s) = some (rlI A s, σ') ∧ GR σ' g (rlA A s) ∧ FB g σ σ' := by
  have b := BI_bfs w hs
  have hn := BI_n b
  have w2 := w.2.1
  obtain ⟨σ1, r1, r2, r3⟩ := c_visitFrom (Nf := Nf) hL hg90 hg w hs hf
  have hg1 : GR σ1 g A := GR_keep hg (fun x hx hx2 => r3 x (by omega))
  have cl := c_lighter (Nf := Nf) hL hg1 w b r2 hf
  have er : fnd (lgt A (bfs A s) s) 1 ((bfs A s).1 - 1) = rel A s := rfl
  rw [er] at cl
  have ec : fX5_relieveNode (lCt ()) Nf σ 90 g (nI s) = if qI (bfs A s) (rel A s) = -1 then fX5_relieveNode_27 (lCt ()) Nf 90 g (nI 0) σ1 else (fX5_flipPathTo (lCt ()) Nf σ1 90 g (qI (bfs A s) (rel A s))).bind (fun r3 => fX5_relieveNode_27 (lCt ()) Nf 90 g r3.1 r3.2) := by
    unfold fX5_relieveNode fX5_relieveNode_0
    rw [r1, Option.bind_some, cl]
    rfl
  unfold rlI rlA
  cases e : rel A s with
  | none =>
    rw [e] at ec
    refine ⟨σ1, ?_, hg1, fun x h1 h2 => r3 x (by omega)⟩
    rw [ec, if_pos (show qI (bfs A s) none = -1 from rfl)]; rfl
  | some j =>
    rw [e] at ec
    obtain ⟨j1, j2, j3⟩ := rel_i e
    have hv := b.2.2.2.2.1 j j2
    obtain ⟨σ3, y1, y2, y3⟩ := c_flipPath (Nf := Nf) hL hg90 hg1 w hs r2 j2 hf
    have eq0 : qI (bfs A s) (some j) = nI ((bfs A s).2.1 j) := rfl
    rw [eq0] at ec
    refine ⟨σ3, ?_, y2, fun x h1 h2 => (y3 x h1).trans (r3 x (by omega))⟩
    rw [ec, if_neg (nI_ne1 (by omega)), y1]
    rfl
theorem rel_pos {A : Nat → Nat} {B s j : Nat} (w : WF A B) (hs : s < A 0) (h : rel A s = some j) : 1 ≤ pln A (bfs A s) s 12 ((bfs A s).2.1 j) ∧ pln A (bfs A s) s 12 ((bfs A s).2.1 j) ≤ 12 := by
  obtain ⟨j1, j2, j3⟩ := rel_i h
  have b := BI_bfs w hs
  have hn := BI_n b
  obtain ⟨g1, g2, p, g3, g4, g5⟩ := BI_back b j2 j1
  have := pln_i b 12 j (by omega) j2
  omega
