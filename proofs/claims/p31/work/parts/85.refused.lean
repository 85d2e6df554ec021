/-! ===== refused calls change nothing ===== -/
theorem isN_n0 {A : Nat → Nat} {B : Nat} (w : WF A B) : isN A (nI (A 0)) = false := by
  have w1 := w.1
  have w2 := w.2.1
  unfold isN inI
  exact decide_eq_false (fun q => q.2 ((nI_ltI (by omega) (by omega)).mpr (by omega)))
theorem isN_m1 {A : Nat → Nat} : isN A (-1) = false := by
  unfold isN inI
  exact decide_eq_false (fun q => q.1 (by decide))
theorem fnd_none {p : Nat → Bool} : ∀ (d i : Nat), (∀ k, i ≤ k → k < i + d → p k = false) → fnd p i d = none := by
  intro d
  induction d with
  | zero => intro i h; rfl
  | succ d ih =>
    intro i h
    simp only [fnd]
    rw [if_neg (by rw [h i (by omega) (by omega)]; decide)]
    exact ih (i + 1) (fun k h1 h2 => h k (by omega) (by omega))
theorem plc_next {A : Nat → Nat} {B : Nat} (w : WF A B) (hB : B < 2 ^ 30) : plc A (nI (A 1)) = none := by
  have w4 := w.2.2.2.1
  refine fnd_none _ _ (fun k h1 h2 => decide_eq_false (fun q => ?_))
  have h5 := (w.2.2.2.2.1 k (by omega)).2.2.2.2
  rw [eq_n (by omega) (by omega)] at q
  omega
theorem plc_m1 {A : Nat → Nat} {B : Nat} (w : WF A B) (hB : B < 2 ^ 30) : plc A (-1) = none := by
  have w4 := w.2.2.2.1
  refine fnd_none _ _ (fun k h1 h2 => decide_eq_false (fun q => ?_))
  have h5 := (w.2.2.2.2.1 k (by omega)).2.2.2.2
  exact nI_ne1 (by omega) q
theorem x_begin {σ : cS} {Nf : Nat} : fL_begin (lCt ()) Nf σ 107 (1 : Int32) = some (-2051, σ) ∧ fL_begin (lCt ()) Nf σ 107 (13 : Int32) = some (-2051, σ) := by
  constructor
  · unfold fL_begin fX6_begin fX6_begin_0 fX6_begin_11
    rw [if_pos (by decide)]; rfl
  · unfold fL_begin fX6_begin fX6_begin_0 fX6_begin_11
    rw [if_neg (by decide), if_neg (by decide)]; rfl
theorem x_add {σ : cS} {A : Nat → Nat} {B Nf : Nat} {x y : Int32} (v : ST σ A B) (h : isN A x = false) : fL_add (lCt ()) Nf σ 107 x y = some (-2053, σ) := by
  obtain ⟨g, w, p, ga⟩ := ST_g v
  unfold fL_add fX6_add fX6_add_0
  rw [chk_n g w h]; rfl
theorem x_addS {σ : cS} {A : Nat → Nat} {B Nf : Nat} (v : ST σ A B) : fL_add (lCt ()) Nf σ 107 (0 : Int32) (0 : Int32) = some (-2051, σ) := by
  obtain ⟨g, w, p, ga⟩ := ST_g v
  have w1 := w.1
  have hn : isN A (0 : Int32) = true := isN_y w (s := 0) (by omega)
  unfold fL_add fX6_add fX6_add_0
  rw [chk_y g w hn, xbn_l, xbn_l]
  unfold fX6_checkDifferent fX6_checkDifferent_0
  rw [if_pos rfl]; rfl
theorem x_relieve {σ : cS} {A : Nat → Nat} {B Nf : Nat} {x : Int32} (v : ST σ A B) (h : isN A x = false) : fL_relieve (lCt ()) Nf σ 107 x = some (-2053, σ) := by
  obtain ⟨g, w, p, ga⟩ := ST_g v
  unfold fL_relieve fX6_relieve fX6_relieve_0
  rw [chk_n g w h]; rfl
theorem x_cap {σ : cS} {A : Nat → Nat} {B Nf : Nat} {x y : Int32} (v : ST σ A B) (h : isN A x = false) : fL_setCapacity (lCt ()) Nf σ 107 x y = some (-2053, σ) := by
  obtain ⟨g, w, p, ga⟩ := ST_g v
  unfold fL_setCapacity fX6_setCapacity fX6_setCapacity_0
  rw [chk_n g w h]; rfl
theorem x_capR {σ : cS} {A : Nat → Nat} {B Nf : Nat} {y : Int32} (v : ST σ A B) (h : y < 0 ∨ ¬ y ≤ 40) : fL_setCapacity (lCt ()) Nf σ 107 (0 : Int32) y = some (-2051, σ) := by
  obtain ⟨g, w, p, ga⟩ := ST_g v
  have w1 := w.1
  have hn : isN A (0 : Int32) = true := isN_y w (s := 0) (by omega)
  unfold fL_setCapacity fX6_setCapacity fX6_setCapacity_0 fX6_setCapacity_15
  rw [chk_y g w hn, xbn_l]
  by_cases q : y < 0
  · rw [if_pos q]; rfl
  · rw [if_neg q, if_neg (h.resolve_left q)]; rfl
theorem x_node {σ : cS} {A : Nat → Nat} {B Nf : Nat} {x y : Int32} (v : ST σ A B) (h : isN A x = false) : fL_node (lCt ()) Nf σ 107 x y = some (-2053, σ) := by
  obtain ⟨g, w, p, ga⟩ := ST_g v
  unfold fL_node fX6_node fX6_node_0
  rw [chk_n g w h]; rfl
theorem x_node5 {σ : cS} {A : Nat → Nat} {B Nf : Nat} (v : ST σ A B) : fL_node (lCt ()) Nf σ 107 (0 : Int32) (5 : Int32) = some (-2051, σ) := by
  obtain ⟨g, w, p, ga⟩ := ST_g v
  have w1 := w.1
  have hn : isN A (0 : Int32) = true := isN_y w (s := 0) (by omega)
  unfold fL_node fX6_node fX6_node_0
  rw [chk_y g w hn, xbn_l, if_neg (by decide), if_neg (by decide), if_neg (by decide), if_neg (by decide), if_neg (by decide)]; rfl
theorem x_edgeAt {σ : cS} {A : Nat → Nat} {B Nf : Nat} (v : ST σ A B) : fL_edgeAt (lCt ()) Nf σ 107 (nI (A 3)) = some (-2053, σ) ∧ fL_edgeAt (lCt ()) Nf σ 107 (-1 : Int32) = some (-2053, σ) := by
  obtain ⟨g, w, p, ga⟩ := ST_g v
  have w3 := w.2.2.1
  constructor
  · unfold fL_edgeAt fX6_edgeAt fX6_edgeAt_0 fX6_edgeAt_15
    rw [g.2.1, if_neg (show ¬ nI (A 3) < 0 from fun q => absurd ((nI_ltI (a := A 3) (b := 0) (by omega) (by omega)).mp q) (by omega)), if_neg (fun q => absurd ((nI_ltI (by omega) (by omega)).mp q) (by omega))]; rfl
  · unfold fL_edgeAt fX6_edgeAt fX6_edgeAt_0 fX6_edgeAt_15
    rw [if_pos (by decide)]; rfl
theorem x_value {σ : cS} {Nf : Nat} : fL_value (lCt ()) Nf σ 107 (8 : Int32) = some (-2051, σ) := by
  unfold fL_value fX6_value fX6_value_0
  rw [if_neg (by decide), if_neg (by decide), if_neg (by decide), if_neg (by decide), if_neg (by decide), if_neg (by decide), if_neg (by decide), if_neg (by decide)]; rfl
theorem x_path {σ : cS} {A : Nat → Nat} {B Nf : Nat} {x : Int32} (v : ST σ A B) (h : isN A x = false) : fL_path (lCt ()) Nf σ 107 (0 : Int32) x = some (-2053, σ) := by
  obtain ⟨g, w, p, ga⟩ := ST_g v
  have w1 := w.1
  have hn : isN A (0 : Int32) = true := isN_y w (s := 0) (by omega)
  unfold fL_path fX6_path fX6_path_0
  rw [chk_y g w hn, xbn_l, chk_n g w h]; rfl
theorem x_inner {σ : cS} {A : Nat → Nat} {B Nf : Nat} (v : ST σ A B) : fL_inner (lCt ()) Nf σ 107 (0 : Int32) = some (-2051, σ) ∧ fL_inner (lCt ()) Nf σ 107 ((1 : Int32) <<< (nI (A 0) &&& 31)) = some (-2051, σ) := by
  obtain ⟨g, w, p, ga⟩ := ST_g v
  have w2 := w.2.1
  have hpw : 2 ^ A 0 ≤ 4096 := Nat.pow_le_pow_right (by omega) w2 (n := 2)
  have hp1 : 1 ≤ 2 ^ A 0 := Nat.one_le_two_pow
  have sv : ((1 : Int32) <<< (nI (A 0) &&& 31)) = nI (2 ^ A 0) := sh1 _ (by omega)
  constructor
  · unfold fL_inner fX6_inner fX6_inner_0 fX6_inner_17
    rw [if_pos (by decide)]; rfl
  · unfold fL_inner fX6_inner fX6_inner_0 fX6_inner_17
    rw [g.1, sv, if_neg (show ¬ nI (2 ^ A 0) ≤ 0 from fun q => absurd ((nI_leI (a := 2 ^ A 0) (b := 0) (by omega) (by omega)).mp q) (by omega)), if_neg (fun q => absurd ((nI_ltI (by omega) (by omega)).mp q) (by omega))]; rfl
theorem x_lw {σ : cS} {A : Nat → Nat} {B Nf : Nat} {x : Int32} (v : ST σ A B) (h : isN A x = false) : fL_leastWith (lCt ()) Nf σ 107 (0 : Int32) x = some (-2053, σ) := by
  obtain ⟨g, w, p, ga⟩ := ST_g v
  have w1 := w.1
  have hn : isN A (0 : Int32) = true := isN_y w (s := 0) (by omega)
  unfold fL_leastWith fX6_leastWith fX6_leastWith_0
  rw [chk_y g w hn, xbn_l, chk_n g w h]; rfl
theorem x_lwS {σ : cS} {A : Nat → Nat} {B Nf : Nat} (v : ST σ A B) : fL_leastWith (lCt ()) Nf σ 107 (1 : Int32) (1 : Int32) = some (-2051, σ) := by
  obtain ⟨g, w, p, ga⟩ := ST_g v
  have w1 := w.1
  have hn : isN A (1 : Int32) = true := isN_y w (s := 1) (by omega)
  unfold fL_leastWith fX6_leastWith fX6_leastWith_0
  rw [chk_y g w hn, xbn_l, xbn_l]
  unfold fX6_checkDifferent fX6_checkDifferent_0
  rw [if_pos rfl]; rfl
theorem x_append {σ : cS} {Nf : Nat} : fL_append (lCt ()) Nf σ 107 (128 : Int32) = some (-2051, σ) ∧ fL_append (lCt ()) Nf σ 107 (-1 : Int32) = some (-2051, σ) := by
  constructor
  · unfold fL_append fX6_append fX6_append_0 fX6_append_10
    rw [if_neg (by decide), if_neg (by decide)]; rfl
  · unfold fL_append fX6_append fX6_append_0 fX6_append_10
    rw [if_pos (by decide)]; rfl
theorem x_edge4 {σ : cS} {A : Nat → Nat} {B k Nf : Nat} (v : ST σ A B) (hB : B < 2 ^ 30) (hk : k < A 3) (hf : 1000 < Nf) : fL_edge (lCt ()) Nf σ 107 (nI (A (16 + k))) (4 : Int32) = some (-2051, σ) := by
  obtain ⟨g, w, p, ga⟩ := ST_g v
  unfold fL_edge fX6_edge fX6_edge_0
  rw [chs_y g w (by omega) (plc_own w hB hk), xbn_l, if_neg (by decide), if_neg (by decide), if_neg (by decide), if_neg (by decide)]; rfl
theorem lgc (x : Int64) : lg_cmp x x = 0 := by
  unfold lg_cmp
  simp
theorem f_refused {σ : cS} {A : Nat → Nat} {B Nf : Nat} (v : ST σ A B) (hB : B < 2 ^ 30) (h3 : A 3 < 40) (hF : 300000 < Nf) : EX (fL_refused (lCt ()) Nf σ 107) 40 (fun r => r.1 = 1 ∧ RD A σ r.2) := by
  obtain ⟨σ1, p1, p2⟩ := p_print (Nf := Nf) v hB (by omega)
  have v1 := ST_RD v p2
  obtain ⟨g, w, p, ga⟩ := ST_g v1
  have w1 := w.1
  obtain ⟨σ2, s1, s2⟩ := r_stepX (Nf := Nf) (s := 0) (u := 0) (x := (0 : Int32)) v1 (by omega) (by omega) (Or.inr (Or.inr ⟨seen_s w (by omega), by rw [(plen_0 w (show 0 < A 0 by omega) (by omega) (seen_s w (by omega))).mpr rfl]; rfl⟩)) (by omega)
  have v2 := ST_RD v1 s2
  have r2 : RD A σ σ2 := RD_tr p2 s2
  obtain ⟨b1, b2⟩ := x_begin (σ := σ1) (Nf := Nf)
  obtain ⟨d1, d2, d3, d4⟩ := o_noEdge (Nf := Nf) v1 (plc_next w hB) (by omega)
  obtain ⟨d5, -, -, -⟩ := o_noEdge (Nf := Nf) v1 (plc_m1 w hB) (by omega)
  obtain ⟨-, -, d6, -⟩ := o_noEdge (Nf := Nf) v2 (plc_next w hB) (by omega)
  obtain ⟨a1, a2⟩ := x_edgeAt (Nf := Nf) v1
  obtain ⟨i1, i2⟩ := x_inner (Nf := Nf) v2
  obtain ⟨c1, c2⟩ := x_append (σ := σ2) (Nf := Nf)
  unfold fL_refused fL_refused_0
  refine e_b p1 ?_
  refine e_i (r_value v1 (k := 0) (by omega) (by omega)) ?_
  refine e_i (r_value v1 (k := 6) (by omega) (by omega)) ?_
  refine e_w b1 (e_t rfl ?_)
  refine e_w b2 (e_t rfl ?_)
  refine e_w (x_add v1 (isN_n0 w)) (e_t rfl ?_)
  refine e_w (x_add v1 isN_m1) (e_t rfl ?_)
  refine e_w (x_addS v1) (e_t rfl ?_)
  refine e_w d1 (e_t rfl ?_)
  refine e_w d5 (e_t rfl ?_)
  refine e_w d2 (e_t rfl ?_)
  refine e_w (x_relieve v1 (isN_n0 w)) (e_t rfl ?_)
  refine e_w (x_cap v1 (isN_n0 w)) (e_t rfl ?_)
  refine e_w (x_capR v1 (Or.inr (by decide))) (e_t rfl ?_)
  refine e_w (x_capR v1 (Or.inl (by decide))) (e_t rfl ?_)
  refine e_w (x_node v1 (isN_n0 w)) (e_t rfl ?_)
  refine e_w (x_node5 v1) (e_t rfl ?_)
  refine e_w (d4 _) (e_t rfl ?_)
  refine e_i (r_value v1 (k := 1) (by omega) (by omega)) ?_
  refine e_w a1 (e_t rfl ?_)
  refine e_w a2 (e_t rfl ?_)
  refine e_w x_value (e_t rfl ?_)
  refine e_w (x_path v1 (isN_n0 w)) (e_t rfl ?_)
  refine e_w s1 (e_t rfl ?_)
  refine e_w i1 (e_t rfl ?_)
  refine e_w i2 (e_t rfl ?_)
  refine e_w (x_lw v2 (isN_n0 w)) (e_t rfl ?_)
  refine e_w (x_lwS v2) (e_t rfl ?_)
  refine e_w d6 (e_t rfl ?_)
  refine e_w c1 (e_t rfl ?_)
  refine e_w c2 (e_t rfl ?_)
  have last : ∀ N, EX (fL_refused_390 (lCt ()) Nf 107 (prA A) (1 : Int32) σ2) N (fun r => r.1 = 1 ∧ RD A σ r.2) := fun N => by
    obtain ⟨σ3, q1, q2⟩ := p_print (Nf := Nf) v2 hB (by omega)
    unfold fL_refused_390
    refine e_f (by decide) ?_
    refine e_i (r_value v2 (k := 1) (by omega) (by omega)) ?_
    refine e_t (show nI (A 3) < (40 : Int32) from (nI_ltI (b := 40) (by omega) (by omega)).mpr h3) ?_
    unfold fL_refused_417
    refine e_b q1 ?_
    refine e_t (lgc _) ?_
    exact e_g (by decide) (e_r ⟨rfl, RD_tr r2 q2⟩)
  show EX (fL_refused_352 (lCt ()) Nf 107 (prA A) (1 : Int32) σ2) _ _
  unfold fL_refused_352
  refine e_i (r_value v2 (k := 1) (by omega) (by omega)) ?_
  by_cases e0 : A 3 = 0
  · refine e_t (show nI (A 3) ≤ (0 : Int32) from (nI_leI (b := 0) (by omega) (by omega)).mpr (by omega)) ?_
    exact last _
  · refine e_f (show ¬ nI (A 3) ≤ (0 : Int32) from fun q => absurd ((nI_leI (b := 0) (by omega) (by omega)).mp q) (by omega)) ?_
    refine e_f (by decide) ?_
    refine e_i (r_edgeAt v2 (k := 0) (by omega)) ?_
    refine e_w (x_edge4 v2 hB (k := 0) (by omega) (by omega)) (e_t rfl ?_)
    unfold fL_refused_388
    exact last _
