/-! ===== calls that only look: paths, parts, what if ===== -/
/-- some steps up from a node -/
def upn (A : Nat → Nat) (t : bst) : Nat → Nat → Nat
  | 0, v => v
  | r + 1, v => upn A t r (hd A (t.2.2.1 v))
theorem upn_s {A : Nat → Nat} {t : bst} : ∀ (r v : Nat), upn A t (r + 1) v = hd A (t.2.2.1 (upn A t r v)) := by
  intro r
  induction r with
  | zero => intro v; rfl
  | succ r ih =>
    intro v
    show upn A t (r + 1) (hd A (t.2.2.1 v)) = hd A (t.2.2.1 (upn A t r (hd A (t.2.2.1 v))))
    exact ih _
theorem upn_i {A : Nat → Nat} {t : bst} {s : Nat} (b : BI A s t) : ∀ (r i : Nat), i < t.1 → r ≤ pln A t s 12 (t.2.1 i) → ∃ j, j ≤ i ∧ upn A t r (t.2.1 i) = t.2.1 j ∧ pln A t s 12 (t.2.1 j) + r = pln A t s 12 (t.2.1 i) := by
  intro r
  induction r with
  | zero => intro i hi hr; exact ⟨i, Nat.le_refl _, rfl, rfl⟩
  | succ r ih =>
    intro i hi hr
    have hi1 : 1 ≤ i := by
      rcases Nat.eq_zero_or_pos i with e | e
      · rw [e, b.2.1, pln_0] at hr; omega
      · exact e
    obtain ⟨g1, g2, p, g3, g4, g5⟩ := BI_back b hi hi1
    obtain ⟨j, h1, h2, h3⟩ := ih p (by omega) (by omega)
    refine ⟨j, by omega, ?_, by omega⟩
    show upn A t r (hd A (t.2.2.1 (t.2.1 i))) = _
    rw [g4]
    exact h2
theorem pln_pos {A : Nat → Nat} {t : bst} {s i : Nat} (b : BI A s t) (hi : i < t.1) : pln A t s 12 (t.2.1 i) = 0 ↔ i = 0 := by
  constructor
  · intro h
    rcases Nat.eq_zero_or_pos i with e | e
    · exact e
    · obtain ⟨g1, g2, p, g3, g4, g5⟩ := BI_back b hi e
      omega
  · intro h
    rw [h, b.2.1, pln_0]
/-- the edge at a place of the path to a node -/
def pse (A : Nat → Nat) (s v m : Nat) : Nat := (bfs A s).2.2.1 (upn A (bfs A s) (pln A (bfs A s) s 12 v - 1 - m) v)
def pnd (A : Nat → Nat) (s v m : Nat) : Nat := upn A (bfs A s) (pln A (bfs A s) s 12 v - m) v
abbrev seen (A : Nat → Nat) (s v : Nat) : Prop := (bfs A s).2.2.2.testBit v = true
def plen (A : Nat → Nat) (s v : Nat) : Nat := pln A (bfs A s) s 12 v
theorem seen_i {A : Nat → Nat} {B s v : Nat} (w : WF A B) (hs : s < A 0) (hv : v < 12) (h : seen A s v) : ∃ i, i < (bfs A s).1 ∧ (bfs A s).2.1 i = v := (BI_bfs w hs).2.2.2.2.2.1 v hv h
theorem pnd_in {A : Nat → Nat} {B s v m : Nat} (w : WF A B) (hs : s < A 0) (hv : v < 12) (h : seen A s v) (hm : m ≤ plen A s v) : seen A s (pnd A s v m) ∧ pnd A s v m < A 0 ∧ plen A s (pnd A s v m) = m := by
  have b := BI_bfs w hs
  obtain ⟨i, hi, e⟩ := seen_i w hs hv h
  obtain ⟨j, h1, h2, h3⟩ := upn_i b (plen A s v - m) i hi (by rw [e]; exact Nat.sub_le _ _)
  rw [e] at h2 h3
  have e2 : pnd A s v m = (bfs A s).2.1 j := h2
  have hj := b.2.2.2.2.1 j (by omega)
  rw [e2]
  refine ⟨hj.2, hj.1, ?_⟩
  show pln A (bfs A s) s 12 ((bfs A s).2.1 j) = m
  have h4 : pln A (bfs A s) s 12 v = plen A s v := rfl
  omega
theorem pnd_l {A : Nat → Nat} {s v : Nat} : pnd A s v (plen A s v) = v := by
  unfold pnd plen
  rw [Nat.sub_self]
  rfl
theorem pnd_0 {A : Nat → Nat} {B s v : Nat} (w : WF A B) (hs : s < A 0) (hv : v < 12) (h : seen A s v) : pnd A s v 0 = s := by
  have b := BI_bfs w hs
  obtain ⟨i, hi, e⟩ := seen_i w hs hv h
  obtain ⟨j, h1, h2, h3⟩ := upn_i b (plen A s v) i hi (by rw [e]; exact Nat.le_refl _)
  rw [e] at h2 h3
  have h4 : pln A (bfs A s) s 12 v = plen A s v := rfl
  have h5 := (pln_pos b (i := j) (by omega)).mp (by omega)
  unfold pnd
  rw [Nat.sub_zero]
  show upn A (bfs A s) (plen A s v) v = s
  rw [h2, h5, b.2.1]
/-- the edges of a path: held by the node before, its other end is the next one -/
theorem pse_in {A : Nat → Nat} {B s v m : Nat} (w : WF A B) (hs : s < A 0) (hv : v < 12) (h : seen A s v) (hm : m < plen A s v) : pse A s v m < A 3 ∧ hd A (pse A s v m) = pnd A s v m ∧ ot A (pse A s v m) = pnd A s v (m + 1) := by
  have b := BI_bfs w hs
  obtain ⟨i, hi, e⟩ := seen_i w hs hv h
  have h4 : pln A (bfs A s) s 12 v = plen A s v := rfl
  obtain ⟨j, h1, h2, h3⟩ := upn_i b (plen A s v - 1 - m) i hi (by rw [e]; omega)
  rw [e] at h2 h3
  have hj0 : j ≠ 0 := fun z => by
    have := (pln_pos b (i := j) (by omega)).mpr z
    omega
  obtain ⟨y1, y2, y3⟩ := b.2.2.2.2.2.2.2 j (by omega) (by omega)
  have e1 : pse A s v m = (bfs A s).2.2.1 ((bfs A s).2.1 j) := by
    unfold pse
    rw [h4, h2]
  have e2 : pnd A s v (m + 1) = (bfs A s).2.1 j := by
    unfold pnd
    rw [h4, show plen A s v - (m + 1) = plen A s v - 1 - m by omega, h2]
  refine ⟨by rw [e1]; exact y1, ?_, by rw [e1, e2]; exact y2⟩
  unfold pnd pse
  rw [h4, show plen A s v - m = plen A s v - 1 - m + 1 by omega, upn_s]
theorem plen_le {A : Nat → Nat} {B s v : Nat} (w : WF A B) (hs : s < A 0) (hv : v < 12) (h : seen A s v) : plen A s v ≤ 11 := by
  have b := BI_bfs w hs
  obtain ⟨i, hi, e⟩ := seen_i w hs hv h
  have h1 := pln_i b 12 i (by have := BI_n b; omega) hi
  rw [e] at h1
  have h4 : pln A (bfs A s) s 12 v = plen A s v := rfl
  have := BI_n b
  omega
theorem plen_0 {A : Nat → Nat} {B s v : Nat} (w : WF A B) (hs : s < A 0) (hv : v < 12) (h : seen A s v) : plen A s v = 0 ↔ v = s := by
  have b := BI_bfs w hs
  obtain ⟨i, hi, e⟩ := seen_i w hs hv h
  have h1 := pln_pos b hi
  rw [e] at h1
  constructor
  · intro z
    have h2 := h1.mp z
    rw [← e, h2, b.2.1]
  · intro z
    rw [z]
    exact pln_0
theorem seen_s {A : Nat → Nat} {B s : Nat} (w : WF A B) (hs : s < A 0) : seen A s s := by
  have b := BI_bfs w hs
  have h1 := b.2.2.2.2.1 0 (by have := b.1; omega)
  rw [b.2.1] at h1
  exact h1.2
/-- path() -/
def pthI (A : Nat → Nat) (s v : Nat) : Int32 := if (bfs A s).2.2.2.testBit v = true then nI (plen A s v) else -1
theorem r_path {σ : cS} {A : Nat → Nat} {B s u Nf : Nat} (v : ST σ A B) (hs : s < A 0) (hu : u < A 0) (hf : 1000 < Nf) : ∃ σ', fX6_path (lCt ()) Nf σ 107 (nI s) (nI u) = some (.inl (pthI A s u, σ')) ∧ RD A σ σ' := by
  obtain ⟨g, w, p, ga⟩ := ST_g v
  have w2 := w.2.1
  obtain ⟨σ', r1, r2, r3⟩ := c_visitFrom (Nf := Nf) LG_0 (by omega) g w hs (by omega)
  refine ⟨σ', ?_, RD_FS r3⟩
  unfold fX6_path fX6_path_0
  rw [chk_y g w (isN_y w hs), chk_y g w (isN_y w hu), xbn_l, xbn_l, r1, Option.bind_some, c_lengthTo w (BI_bfs w hs) r2 (by omega) (by omega)]
  rfl
theorem c_back {σ : cS} {A : Nat → Nat} {t : bst} {s B m Nf : Nat} (w : WF A B) (b : BI A s t) (c : CB σ A t s) : ∀ (r i n : Nat), i < t.1 → pln A t s 12 (t.2.1 i) = m + r + 1 → r < n → fX5_slotOnPathTo_25 (lCt ()) Nf σ 90 n (nI m) (nI (t.2.1 i)) (nI (m + r)) = some (nI (t.2.2.1 (upn A t r (t.2.1 i)))) := by
  have w2 := w.2.1
  have hn := BI_n b
  intro r
  induction r with
  | zero =>
    intro i n hi hp h1
    obtain ⟨n, rfl⟩ : ∃ z, n = z + 1 := ⟨n - 1, by omega⟩
    have hi1 : 1 ≤ i := by
      rcases Nat.eq_zero_or_pos i with e | e
      · rw [e, b.2.1, pln_0] at hp; omega
      · exact e
    have hle := pln_i b 12 i (by omega) hi
    have hv := (b.2.2.2.2.1 i hi).1
    unfold fX5_slotOnPathTo_25
    rw [if_pos ((nI_leI (by omega) (by omega)).mpr (by omega)), row_get (show lCt () (90 + 3 + 1) = 12 from rfl) (by omega) (by omega), (c.2.2.2.2 i hi1 hi).1]
    rfl
  | succ r ih =>
    intro i n hi hp h1
    obtain ⟨n, rfl⟩ : ∃ z, n = z + 1 := ⟨n - 1, by omega⟩
    have hi1 : 1 ≤ i := by
      rcases Nat.eq_zero_or_pos i with e | e
      · rw [e, b.2.1, pln_0] at hp; omega
      · exact e
    have hle := pln_i b 12 i (by omega) hi
    have hv := (b.2.2.2.2.1 i hi).1
    obtain ⟨g1, g2, p, g3, g4, g5⟩ := BI_back b hi hi1
    have k2 := ih p n (by omega) (by omega) (by omega)
    unfold fX5_slotOnPathTo_25
    rw [if_neg (fun q => absurd ((nI_leI (by omega) (by omega)).mp q) (by omega)), row_get (show lCt () (90 + 5 + 1) = 12 from rfl) (by omega) (by omega), (c.2.2.2.2 i hi1 hi).2, g4, Option.bind_some, bnd_e, neg1 (by omega), show m + (r + 1) - 1 = m + r by omega]
    show _ = some (nI (t.2.2.1 (upn A t r (hd A (t.2.2.1 (t.2.1 i))))))
    rw [g4]
    exact k2
theorem r_step {σ : cS} {A : Nat → Nat} {B s u m Nf : Nat} (v : ST σ A B) (hs : s < A 0) (hu : u < A 0) (h : seen A s u) (hm : m < plen A s u) (hf : 1000 < Nf) : ∃ σ', fX6_step (lCt ()) Nf σ 107 (nI s) (nI u) (nI m) = some (.inl (nI (A (16 + pse A s u m)), σ')) ∧ RD A σ σ' := by
  obtain ⟨g, w, p, ga⟩ := ST_g v
  have w2 := w.2.1
  have w3 := w.2.2.1
  have b := BI_bfs w hs
  have hl := plen_le w hs (show u < 12 by omega) h
  obtain ⟨σ', r1, r2, r3⟩ := c_visitFrom (Nf := Nf) LG_0 (by omega) g w hs (by omega)
  refine ⟨σ', ?_, RD_FS r3⟩
  obtain ⟨i, hi, e⟩ := seen_i w hs (show u < 12 by omega) h
  have h4 : pln A (bfs A s) s 12 u = plen A s u := rfl
  have cb := c_back (m := m) (Nf := Nf) w b r2 (plen A s u - 1 - m) i Nf hi (by rw [e]; omega) (by omega)
  rw [e, show m + (plen A s u - 1 - m) = plen A s u - 1 by omega] at cb
  have cl := c_lengthTo (Nf := Nf) w b r2 (show u < 12 by omega) (by omega)
  rw [if_pos h, h4] at cl
  have cs : fX5_slotOnPathTo (lCt ()) Nf σ' 90 (nI u) (nI m) = some (nI (pse A s u m)) := by
    unfold fX5_slotOnPathTo fX5_slotOnPathTo_0
    rw [cl, Option.bind_some, if_neg (show ¬ nI m < 0 from fun q => absurd ((nI_ltI (a := m) (b := 0) (by omega) (by omega)).mp q) (by omega)), if_pos ((nI_ltI (by omega) (by omega)).mpr hm), n1, nI_sub (by omega), bnd_e]
    exact cb
  have hk := (pse_in w hs (show u < 12 by omega) h hm).1
  unfold fX6_step fX6_step_0
  rw [chk_y g w (isN_y w hs), chk_y g w (isN_y w hu), xbn_l, xbn_l, r1, Option.bind_some, cs, Option.bind_some, if_neg (nI_ne1 (by omega)), row_get (show lCt () (1 + 1) = 40 from rfl) (by omega) (by omega), Option.bind_some]
  show some (Sum.inl (σ' (0 + 1 + 1) (pse A s u m), σ')) = _
  rw [r3 _ (by omega), g.2.2.2.2.1 _ hk]
/-- step() out of the path -/
theorem r_stepX {σ : cS} {A : Nat → Nat} {B s u Nf : Nat} {x : Int32} (v : ST σ A B) (hs : s < A 0) (hu : u < A 0) (hx : x < 0 ∨ (¬ seen A s u ∧ x = 0) ∨ (seen A s u ∧ x = nI (plen A s u))) (hf : 1000 < Nf) : ∃ σ', fL_step (lCt ()) Nf σ 107 (nI s) (nI u) x = some (-2053, σ') ∧ RD A σ σ' := by
  obtain ⟨g, w, p, ga⟩ := ST_g v
  have w2 := w.2.1
  have b := BI_bfs w hs
  obtain ⟨σ', r1, r2, r3⟩ := c_visitFrom (Nf := Nf) LG_0 (by omega) g w hs (by omega)
  refine ⟨σ', ?_, RD_FS r3⟩
  have cl := c_lengthTo (Nf := Nf) w b r2 (show u < 12 by omega) (by omega)
  have cs : fX5_slotOnPathTo (lCt ()) Nf σ' 90 (nI u) x = some (-1) := by
    unfold fX5_slotOnPathTo fX5_slotOnPathTo_0 fX5_slotOnPathTo_15
    rw [cl, Option.bind_some]
    by_cases g1 : x < 0
    · rw [if_pos g1]
    · rw [if_neg g1]
      rcases hx with hx | ⟨h1, h2⟩ | ⟨h1, h2⟩
      · exact absurd hx g1
      · rw [if_neg h1, h2, if_neg (by decide)]
      · have h4 : pln A (bfs A s) s 12 u = plen A s u := rfl
        have hl := plen_le w hs (show u < 12 by omega) h1
        rw [if_pos h1, h2, h4, if_neg (fun q => absurd ((nI_ltI (by omega) (by omega)).mp q) (by omega))]
  unfold fL_step fX6_step fX6_step_0
  rw [chk_y g w (isN_y w hs), chk_y g w (isN_y w hu), xbn_l, xbn_l, r1, Option.bind_some, cs, Option.bind_some, if_pos rfl]
  rfl
theorem r_edgeAt {σ : cS} {A : Nat → Nat} {B k : Nat} (v : ST σ A B) (hk : k < A 3) : fX6_edgeAt (lCt ()) σ 107 (nI k) = some (.inl (nI (A (16 + k)))) := by
  obtain ⟨g, w, p, ga⟩ := ST_g v
  have w3 := w.2.2.1
  unfold fX6_edgeAt fX6_edgeAt_0
  rw [if_neg (show ¬ nI k < 0 from fun q => absurd ((nI_ltI (a := k) (b := 0) (by omega) (by omega)).mp q) (by omega)), g.2.1, if_pos ((nI_ltI (by omega) (by omega)).mpr hk), row_get (show lCt () (1 + 1) = 40 from rfl) (by omega) (by omega), Option.bind_some]
  show some (Sum.inl (σ (0 + 1 + 1) k)) = _
  rw [g.2.2.2.2.1 k hk]
theorem r_edge {σ : cS} {A : Nat → Nat} {B k j Nf : Nat} (v : ST σ A B) (hB : B < 2 ^ 30) (hk : k < A 3) (hj : j ≤ 3) (hf : 1000 < Nf) : fX6_edge (lCt ()) Nf σ 107 (nI (A (16 + k))) (nI j) = some (.inl (eI A k (nI j))) := by
  obtain ⟨g, w, p, ga⟩ := ST_g v
  exact c_edge_y g w (by omega) (plc_own w hB hk) _ (inI_y (by omega) (by omega) (by omega) (by omega) hj)
theorem r_value {σ : cS} {A : Nat → Nat} {B k Nf : Nat} (v : ST σ A B) (hk : k ≤ 7) (hf : 1000 < Nf) : fX6_value (lCt ()) Nf σ 107 (nI k) = some (.inl (vI A k)) := by
  obtain ⟨g, w, p, ga⟩ := ST_g v
  exact c_value g w hk (by omega)
theorem r_node {σ : cS} {A : Nat → Nat} {B s j Nf : Nat} (v : ST σ A B) (hs : s < A 0) (hj : j ≤ 4) (hf : 1000 < Nf) : ∃ σ', fX6_node (lCt ()) Nf σ 107 (nI s) (nI j) = some (.inl (ndI A s j, σ')) ∧ RD A σ σ' := by
  obtain ⟨g, w, p, ga⟩ := ST_g v
  obtain ⟨σ', h1, h2⟩ := c_node g w hs (isN_y w hs) hj (show 100 < Nf by omega)
  exact ⟨σ', h1, RD_FS h2⟩
theorem r_inner {σ : cS} {A : Nat → Nat} {B n Nf : Nat} (v : ST σ A B) (h1 : 1 ≤ n) (h2 : n < 2 ^ A 0) (hf : 1000 < Nf) : fX6_inner (lCt ()) Nf σ 107 (nI n) = some (.inl (nI (inn A n))) := by
  obtain ⟨g, w, p, ga⟩ := ST_g v
  have w2 := w.2.1
  have hpw : 2 ^ A 0 ≤ 4096 := Nat.pow_le_pow_right (by omega) w2 (n := 2)
  have sv : ((1 : Int32) <<< (nI (A 0) &&& 31)) = nI (2 ^ A 0) := sh1 _ (by omega)
  unfold fX6_inner fX6_inner_0
  rw [g.1, sv, if_neg (show ¬ nI n ≤ 0 from fun q => absurd ((nI_leI (a := n) (b := 0) (by omega) (by omega)).mp q) (by omega)), if_pos ((nI_ltI (by omega) (by omega)).mpr (by omega)), c_within LG_0 g w (by omega) (by omega)]
  rfl
theorem r_densest {σ : cS} {A : Nat → Nat} {B Nf : Nat} (v : ST σ A B) (hf : 5000 < Nf) : ∃ σ', fX6_densest (lCt ()) Nf σ 107 = some (nI (dns (inn A) (2 ^ A 0 - 1)).1, σ') ∧ RD A σ σ' := by
  obtain ⟨g, w, p, ga⟩ := ST_g v
  obtain ⟨σ', h1, h2, h3, h4⟩ := c_densest w hf g p
  exact ⟨σ', h1, RD_ln h2 h3 h4⟩
theorem r_least {σ : cS} {A : Nat → Nat} {B Nf : Nat} (v : ST σ A B) (hf : 5000 < Nf) : ∃ σ', fX6_least (lCt ()) Nf σ 107 = some (nI (lst A (inn A)), σ') ∧ RD A σ σ' := by
  obtain ⟨g, w, p, ga⟩ := ST_g v
  obtain ⟨σ', h1, h2, h3, h4⟩ := c_leastL w hf g p
  exact ⟨σ', h1, RD_ln h2 h3 h4⟩
theorem r_leastC {σ : cS} {A : Nat → Nat} {B Nf : Nat} (v : ST σ A B) (hf : 5000 < Nf) : ∃ σ', fX6_leastCapacity (lCt ()) Nf σ 107 = some (nI (lst A (inn A)), σ') ∧ RD A σ σ' := by
  obtain ⟨g, w, p, ga⟩ := ST_g v
  obtain ⟨σ', h1, h2, h3, h4⟩ := c_leastL w hf g p
  exact ⟨σ', h1, RD_ln h2 h3 h4⟩
theorem r_tooDense {σ : cS} {A : Nat → Nat} {B Nf : Nat} (v : ST σ A B) (hf : 5000 < Nf) : ∃ σ', fX6_tooDense (lCt ()) Nf σ 107 = some ((tds (inn A) (cps A) (2 ^ A 0 - 1)).1, σ') ∧ RD A σ σ' := by
  obtain ⟨g, w, p, ga⟩ := ST_g v
  obtain ⟨σ', h1, h2, h3, h4⟩ := c_tooD w hf g p
  exact ⟨σ', h1, RD_ln h2 h3 h4⟩
def dnsP (A : Nat → Nat) : Nat := (dns (inn A) (2 ^ A 0 - 1)).1
def dnsD (A : Nat → Nat) : UInt64 := FP.ddiv (FP.i2d (nI (inn A (dnsP A)))) (FP.i2d (nI (pct (dnsP A))))
theorem dnsP_in {A : Nat → Nat} {B : Nat} (w : WF A B) : 1 ≤ dnsP A ∧ dnsP A < 2 ^ A 0 ∧ 1 ≤ pct (dnsP A) ∧ pct (dnsP A) ≤ 12 ∧ inn A (dnsP A) ≤ 40 := by
  have w2 := w.2.1
  have hpw : 2 ^ A 0 ≤ 4096 := Nat.pow_le_pow_right (by omega) w2 (n := 2)
  obtain ⟨b1', b2⟩ := dns_lt w (inn A)
  have b2' : dnsP A < 2 ^ A 0 := b2
  have b1'' : 1 ≤ dnsP A := b1'
  exact ⟨b1'', b2', pct_pos (by omega) (by omega), pct_le _, inn_le w _⟩
theorem r_density {σ : cS} {A : Nat → Nat} {B Nf : Nat} (v : ST σ A B) (hf : 5000 < Nf) : ∃ σ', fX6_density (lCt ()) Nf σ 107 = some (dnsD A, σ') ∧ RD A σ σ' := by
  obtain ⟨g, w, p, ga⟩ := ST_g v
  obtain ⟨σ', g1, g2, g3, g4⟩ := c_learn (Nf := Nf) w hf g p
  have w2 := w.2.1
  have hpw : 2 ^ A 0 ≤ 4096 := Nat.pow_le_pow_right (by omega) w2 (n := 2)
  obtain ⟨d1, d2, d3, d4, d5⟩ := dnsP_in w
  obtain ⟨f1, f2⟩ := (fp0 (inn A (dnsP A)) (by omega) (pct (dnsP A)) (by omega)).resolve_left (by omega)
  have e4 : σ' 97 4 = nI (dnsP A) := g2.2.2.1
  refine ⟨σ', ?_, RD_ln g2 g3 (fun c h1 h2 _ h4 => g4 c h1 h2 h4)⟩
  unfold fX6_density fX6_density_0
  rw [g1, Option.bind_some, e4, c_bitCount (by omega), Option.bind_some, n1, if_pos ((nI_leI (by omega) (by omega)).mpr d3), c_within LG_0 (GR_keep g (fun c _ _ => g4 c (by omega) (by omega) (by omega))) w (by omega) (by omega), Option.bind_some, f1, grd_t]
  rfl
theorem r_leastWithout {σ : cS} {A : Nat → Nat} {B k Nf : Nat} {x1 : Int32} (v : ST σ A B) (e : plc A x1 = some k) (hf : 5000 < Nf) : ∃ σ', fX6_leastWithout (lCt ()) Nf σ 107 x1 = some (.inl (nI (lst A (innO A k)), σ')) ∧ RD A σ σ' := by
  obtain ⟨g, w, p, ga⟩ := ST_g v
  have w2 := w.2.1
  have w3 := w.2.2.1
  have hpw : 2 ^ A 0 ≤ 4096 := Nat.pow_le_pow_right (by omega) w2 (n := 2)
  have hk := plc_lt e
  have wk := w.2.2.2.2.1 k hk
  obtain ⟨σ', g1, g2, g3, g4⟩ := c_learn (Nf := Nf) w hf g p
  have hg' : GR σ' 0 A := GR_keep g (fun c _ _ => g4 c (by omega) (by omega) (by omega))
  refine ⟨σ', ?_, RD_ln g2 g3 (fun c h1 h2 _ h4 => g4 c h1 h2 h4)⟩
  unfold fX6_leastWithout fX6_leastWithout_0
  rw [chs_y g w (by omega) e, xbn_l, g1, Option.bind_some, c_endsOf LG_0 hg' w hk, Option.bind_some, c_leastW (f := innO A k) g2 w (innO_le w k) (fun s hs => ?_) hf]
  · rfl
  · rw [c_innerW (by omega) (by omega) (by omega) (g2.2.1 s hs)]
    have y := innO_e hk s
    unfold b1 inP at y
    by_cases z : (s.testBit (A (56 + k)) && s.testBit (A (96 + k))) = true
    · rw [if_pos z] at y ⊢
      rw [neg1 (by omega), show inn A s - 1 = innO A k s by omega]
    · rw [if_neg z] at y ⊢
      rw [show inn A s = innO A k s by omega]
theorem r_leastWith {σ : cS} {A : Nat → Nat} {B a b Nf : Nat} (v : ST σ A B) (ha : a < A 0) (hb : b < A 0) (hab : a ≠ b) (hf : 5000 < Nf) : ∃ σ', fX6_leastWith (lCt ()) Nf σ 107 (nI a) (nI b) = some (.inl (nI (lst A (innW A a b)), σ')) ∧ RD A σ σ' := by
  obtain ⟨g, w, p, ga⟩ := ST_g v
  have w2 := w.2.1
  have hpw : 2 ^ A 0 ≤ 4096 := Nat.pow_le_pow_right (by omega) w2 (n := 2)
  obtain ⟨σ', g1, g2, g3, g4⟩ := c_learn (Nf := Nf) w hf g p
  have v1 : (((1 : Int32) <<< (nI a &&& 31)) ||| ((1 : Int32) <<< (nI b &&& 31))) = nI (2 ^ a ||| 2 ^ b) := by
    rw [← nI_or, ← sh1 a (by omega), ← sh1 b (by omega)]; rfl
  refine ⟨σ', ?_, RD_ln g2 g3 (fun c h1 h2 _ h4 => g4 c h1 h2 h4)⟩
  unfold fX6_leastWith fX6_leastWith_0
  rw [chk_y g w (isN_y w ha), chk_y g w (isN_y w hb)]
  unfold fX6_checkDifferent fX6_checkDifferent_0
  rw [if_neg (by rw [eq_n (by omega) (by omega)]; exact hab), xbn_l, xbn_l, xbn_l, g1, Option.bind_some, v1, c_leastW (f := innW A a b) g2 w (innW_le w a b) (fun s hs => ?_) hf]
  · rfl
  · rw [c_innerW (by omega) (by omega) (by omega) (g2.2.1 s hs), n1, nI_add]
    unfold innW b1
    by_cases z : (s.testBit a && s.testBit b) = true
    · rw [if_pos z, if_pos z, Nat.add_comm]
    · rw [if_neg z, if_neg z, Nat.zero_add]
def crt (A : Nat → Nat) : Option Nat := fnd (fun k => decide (lst A (innO A k) < lst A (inn A))) 0 (A 3)
theorem r_critical {σ : cS} {A : Nat → Nat} {B Nf : Nat} (v : ST σ A B) (hf : 5000 < Nf) : ∃ σ', fX6_critical (lCt ()) Nf σ 107 = some (nbI A (crt A), σ') ∧ RD A σ σ' := by
  obtain ⟨g, w, p, ga⟩ := ST_g v
  have w2 := w.2.1
  have w3 := w.2.2.1
  have hpw : 2 ^ A 0 ≤ 4096 := Nat.pow_le_pow_right (by omega) w2 (n := 2)
  have hp1 : 1 ≤ 2 ^ A 0 := Nat.one_le_two_pow
  obtain ⟨σ', g1, g2, g3, g4⟩ := c_learn (Nf := Nf) w hf g p
  have hg' : GR σ' 0 A := GR_keep g (fun c _ _ => g4 c (by omega) (by omega) (by omega))
  have hb := lst_b (A := A) (f := inn A) (fun s => Nat.le_trans (inn_le w s) (by omega))
  have h5 : σ' 97 5 = nI (lst A (inn A)) := g2.2.2.2
  refine ⟨σ', ?_, RD_ln g2 g3 (fun c h1 h2 _ h4 => g4 c h1 h2 h4)⟩
  unfold fX6_critical fX6_critical_0 crt
  rw [g1, Option.bind_some]
  unfold fX3_commonOfForcing fX3_commonOfForcing_0
  by_cases e0 : A 3 = 0
  · obtain ⟨r, hr⟩ := c_cmn_tot (Nf := Nf) g2.1 w (2 ^ A 0 - 1) 1 Nf (σ' 97 3 - 1) (by omega) (by omega)
    rw [bnd_e, n1, ← n1]
    rw [show fX3_commonOfForcing_9 (lCt ()) Nf σ' 97 Nf (σ' 97 3 - 1) (1 : Int32) = some r from hr, Option.bind_some]
    unfold fX0_firstSlotWithin fX0_firstSlotWithin_0
    obtain ⟨n, hn⟩ : ∃ z, Nf = z + 1 := ⟨Nf - 1, by omega⟩
    have z : ∀ M, fX0_firstSlotWithin_2 (lCt ()) M σ' 0 (n + 1) r (0 : Int32) = some (-1 : Int32) := fun M => by
      unfold fX0_firstSlotWithin_2
      rw [hg'.2.1, n0, if_pos ((nI_leI (by omega) (by omega)).mpr (by omega))]
    have z2 := z Nf
    rw [← hn] at z2
    rw [z2, Option.bind_some, if_pos rfl, e0]
    rfl
  · have h1 := lst_1 w (by omega)
    have cl := c_cmn_loop (Nf := Nf) (l := lst A (inn A) - 1) (g := inn A) g2.1 (by rw [h5]; congr 1; omega) w g2.2.1 (inn_le w) (by omega) (2 ^ A 0 - 1) 1 Nf (2 ^ A 0 - 1) (by omega) (by omega)
    have cf := c_firstSlot (Nf := Nf) hg' w (cmn_lt (g := inn A) (l := lst A (inn A) - 1) (2 ^ A 0 - 1) 1 (2 ^ A 0 - 1) (by omega)) (A 3) 0 Nf (by omega) (by omega)
    rw [bnd_e, g2.1, n1, nI_sub hp1, cl, Option.bind_some]
    unfold fX0_firstSlotWithin fX0_firstSlotWithin_0
    rw [n0, cf, Option.bind_some, fnd_ext (q := fun k => decide (lst A (innO A k) < lst A (inn A))) (A 3) 0 (fun k _ hk => crit_eq w (by omega))]
    cases e : fnd (fun k => decide (lst A (innO A k) < lst A (inn A))) 0 (A 3) with
    | none =>
      show (if (-1 : Int32) = (-1 : Int32) then _ else _) = _
      rw [if_pos rfl]; rfl
    | some k =>
      have hk := fnd_some _ _ _ e
      show (if nI k = (-1 : Int32) then _ else Option.bind (fX4_get (lCt ()) σ' 1 (nI k)) _) = _
      rw [if_neg (nI_ne1 (by omega)), row_get (show lCt () (1 + 1) = 40 from rfl) (show k < 40 by omega) (by omega), Option.bind_some, show σ' (1 + 1) k = nI (A (16 + k)) from hg'.2.2.2.2.1 k (by omega)]
      rfl
