/-! ===== both go through the nodes in the same order ===== -/
def CB (σ : cS) (A : Nat → Nat) (t : bst) (s : Nat) : Prop := σ 90 3 = nI s ∧ σ 90 4 = nI t.1 ∧ σ 90 5 = nI t.2.2.2 ∧ (∀ i, i < t.1 → σ (90 + 1 + 1) i = nI (t.2.1 i)) ∧ ∀ i, 1 ≤ i → i < t.1 → σ (90 + 3 + 1) (t.2.1 i) = nI (t.2.2.1 (t.2.1 i)) ∧ σ (90 + 5 + 1) (t.2.1 i) = nI (hd A (t.2.2.1 (t.2.1 i)))
def FS (σ σ' : cS) : Prop := ∀ c, (c < 90 ∨ 97 ≤ c) → σ' c = σ c
theorem FS_tr {σ σ' σ'' : cS} (h : FS σ σ') (h' : FS σ' σ'') : FS σ σ'' := fun c hc => (h' c hc).trans (h c hc)
theorem c_isV {σ : cS} {v vis : Nat} (h : σ 90 5 = nI vis) (hs : vis < 4096) (hv : v < 12) : fX5_isVisited σ 90 (nI v) = some (bI (vis.testBit v)) := by
  unfold fX5_isVisited fX5_isVisited_0 fX5_isVisited_16
  have hle : vis &&& 2 ^ v ≤ vis := Nat.and_le_left
  rw [h, n1, n31, sh1 v (by omega), nI_and, n0, isb0, isb1, grd_t, grd_t]
  cases e : vis.testBit v with
  | false => rw [(and_bit hs hv).mpr e, if_pos rfl]; rfl
  | true =>
    rw [if_neg]
    · rfl
    · rw [eq_n (by omega) (by omega)]
      intro q
      rw [(and_bit hs hv).mp q] at e
      cases e
theorem c_visit_y {σ : cS} {v vis : Nat} {x2 x3 : Int32} (h : σ 90 5 = nI vis) (hs : vis < 4096) (hv : v < 12) (e : vis.testBit v = true) : fX5_visit (lCt ()) σ 90 (nI v) x2 x3 = some σ := by
  unfold fX5_visit fX5_visit_0
  rw [c_isV h hs hv, e, Option.bind_some, if_neg (by decide)]
  rfl
theorem c_visit_n {σ : cS} {v vis n : Nat} {x2 x3 : Int32} (h : σ 90 5 = nI vis) (hn : σ 90 4 = nI n) (hs : vis < 4096) (hv : v < 12) (hn12 : n < 12) (e : vis.testBit v = false) : fX5_visit (lCt ()) σ 90 (nI v) x2 x3 = some (st2 (st2 (st2 (st2 (st2 σ 90 5 (nI (vis ||| 2 ^ v))) (90 + 1 + 1) n (nI v)) (90 + 3 + 1) v x2) (90 + 5 + 1) v x3) 90 4 (nI (n + 1))) := by
  unfold fX5_visit fX5_visit_0 fX5_visit_60
  rw [c_isV h hs hv, e, Option.bind_some, if_pos (by decide), bnd_e, h, n1, n31, sh1 v (by omega), nI_or, st2_nj (by omega), hn]
  rw [row_set (show lCt () (90 + 1 + 1) = 12 from rfl) hn12 (by omega), Option.bind_some, row_set (show lCt () (90 + 3 + 1) = 12 from rfl) hv (by omega), Option.bind_some, row_set (show lCt () (90 + 5 + 1) = 12 from rfl) hv (by omega), Option.bind_some, bnd_e]
  rw [st2_nk (k := 90 + 5 + 1) (by omega), st2_nk (k := 90 + 3 + 1) (by omega), st2_nk (k := 90 + 1 + 1) (by omega), st2_nj (by omega), hn, nI_add]
theorem c_vstep {σ : cS} {A : Nat → Nat} {B s u k : Nat} {t : bst} (w : WF A B) (b : BI A s t) (c : CB σ A t s) (hk : k < A 3) (e1 : hd A k = u) : ∃ σ', fX5_visit (lCt ()) σ 90 (nI (ot A k)) (nI k) (nI u) = some σ' ∧ CB σ' A (bv A u k t) s ∧ FS σ σ' := by
  have w2 := w.2.1
  have ho := ot_lt w hk
  obtain ⟨c1, c2, c3, c4, c5⟩ := c
  unfold bv
  cases e : t.2.2.2.testBit (ot A k) with
  | true =>
    rw [if_neg (fun q => by cases q.2)]
    exact ⟨σ, c_visit_y c3 b.2.2.1 (by omega) e, ⟨c1, c2, c3, c4, c5⟩, fun _ _ => rfl⟩
  | false =>
    rw [if_pos ⟨e1, rfl⟩]
    have hn12 : t.1 < 12 := by
      have q := b.2.2.2.1
      have q2 := cnt_upd (p := fun v => t.2.2.2.testBit v) (q := fun v => (t.2.2.2 ||| 2 ^ ot A k).testBit v) (k := ot A k) 12 (by omega) (fun j hj hn => by
        simp only [or_bit, decide_eq_false (Ne.symm hn), Bool.or_false])
      have q3 := cnt_le (fun v => (t.2.2.2 ||| 2 ^ ot A k).testBit v) 12
      simp only [or_bit, e, decide_eq_true, Bool.false_or, b1] at q2 q3
      simp at q2
      omega
    have hne : ∀ i, i < t.1 → t.2.1 i ≠ ot A k := fun i hi q => by
      have := (b.2.2.2.2.1 i hi).2
      rw [q, e] at this
      cases this
    refine ⟨_, c_visit_n c3 c2 b.2.2.1 (by omega) hn12 e, ⟨?_, ?_, ?_, fun i hi => ?_, fun i hi1 hi2 => ?_⟩, fun x hx => ?_⟩
    · simp (disch := omega) only [st2_nk, st2_nj]; exact c1
    · show st2 _ 90 4 (nI (t.1 + 1)) 90 4 = nI (t.1 + 1)
      rw [st2_ss]
    · simp (disch := omega) only [st2_nk, st2_nj, st2_ss]
    · have hi' : i < t.1 + 1 := hi
      show _ = nI (up t.2.1 t.1 (ot A k) i)
      simp (disch := omega) only [st2_nk]
      by_cases e3 : i = t.1
      · subst e3; rw [st2_ss, up_s]
      · rw [st2_nj e3, up_o e3, st2_nk (by omega)]; exact c4 i (by omega)
    · have hi' : i < t.1 + 1 := hi2
      show _ = nI (up t.2.2.1 (ot A k) k (up t.2.1 t.1 (ot A k) i)) ∧ _ = nI (hd A (up t.2.2.1 (ot A k) k (up t.2.1 t.1 (ot A k) i)))
      show st2 _ 90 4 _ (90 + 3 + 1) (up t.2.1 t.1 (ot A k) i) = _ ∧ st2 _ 90 4 _ (90 + 5 + 1) (up t.2.1 t.1 (ot A k) i) = _
      by_cases e3 : i = t.1
      · subst e3
        rw [up_s, up_s]
        simp (disch := omega) only [st2_nk, st2_ss]
        rw [e1]
        exact ⟨trivial, rfl⟩
      · have h5 := c5 i hi1 (by omega)
        rw [up_o e3, up_o (hne i (by omega))]
        refine ⟨?_, ?_⟩
        · simp (disch := omega) only [st2_nk]
          rw [st2_nj (hne i (by omega))]
          simp (disch := omega) only [st2_nk]
          exact h5.1
        · simp (disch := omega) only [st2_nk]
          rw [st2_nj (hne i (by omega))]
          simp (disch := omega) only [st2_nk]
          exact h5.2
    · simp (disch := omega) only [st2_out]
theorem c_bin {A : Nat → Nat} {B s u p g Nf : Nat} {self : Int32 → cS → Option cS} {P : cS → Prop} (hL : LG g) (hg90 : g + 15 ≤ 90) (w : WF A B) : ∀ (d k n : Nat) (t : bst) (σ : cS), k + d = A 3 → d < n → BI A s t → CB σ A t s → GR σ g A → p < t.1 → t.2.1 p = u → (∀ σ', CB σ' A (bin A u k d t) s → FS σ σ' → ∃ r, self (nI (p + 1)) σ' = some r ∧ P r) → ∃ r, fX5_visitFrom_51 (lCt ()) Nf 90 g self n (nI p) (nI u) (nI k) σ = some r ∧ P r := by
  have w3 := w.2.2.1
  have w2 := w.2.1
  intro d
  induction d with
  | zero =>
    intro k n t σ h1 hn b c hg hp hu go
    obtain ⟨n, rfl⟩ : ∃ z, n = z + 1 := ⟨n - 1, by omega⟩
    unfold fX5_visitFrom_51
    rw [hg.2.1]
    simp (disch := omega) only [grd_t, n0, n1, n2, n3, n4, n5, n6, n7, n8, n9, n10, n11, n12, n16, n20, n31, n40, n48, n56, n57, n61, n96, n97, n98, n99, n100, n108, n114, n116, n120, n127, n128, n136, n176, n215, n216, n255, n864, n999, n4096, n1000000, inb_n, nI_clamp, le_n, lt_n, eq_n, nI_add, nI_mul]
    rw [if_pos (by omega)]
    refine bnd_x (fun y e => ?_)
    subst e
    exact go σ c (fun _ _ => rfl)
  | succ d ih =>
    intro k n t σ h1 hn b c hg hp hu go
    obtain ⟨n, rfl⟩ : ∃ z, n = z + 1 := ⟨n - 1, by omega⟩
    have hh := hd_lt w (show k < A 3 by omega)
    have hu2 : u < A 0 := by rw [← hu]; exact (b.2.2.2.2.1 p hp).1
    have bk := BI_v w b (show k < A 3 by omega) hp hu
    obtain ⟨y1, y2⟩ := bv_keep (A := A) (u := u) (k := k) (t := t)
    have step : ∀ σ', CB σ' A (bv A u k t) s → FS σ σ' → ∃ r, fX5_visitFrom_88 (lCt ()) Nf 90 g self (fX5_visitFrom_51 (lCt ()) Nf 90 g self n) (nI p) (nI u) (nI k) σ' = some r ∧ P r := by
      intro σ' c' f'
      unfold fX5_visitFrom_88
      refine bnd_x (fun y e => ?_)
      subst e
      rw [n1, nI_add]
      exact ih (k + 1) n (bv A u k t) σ' (by omega) (by omega) bk c' (GR_keep hg (fun x hx hx2 => f' x (by omega))) (Nat.lt_of_lt_of_le hp y1) ((y2 p hp).trans hu) (fun σ2 c2 f2 => go σ2 c2 (FS_tr f' f2))
    unfold fX5_visitFrom_51
    rw [hg.2.1, row_get hL.2.2.2.1 (by omega) (by omega), hg.2.2.2.2.2.2.2.1 k (by omega), c_endNot hL hg w (by omega)]
    simp (disch := omega) only [grd_t, n0, n1, n2, n3, n4, n5, n6, n7, n8, n9, n10, n11, n12, n16, n20, n31, n40, n48, n56, n57, n61, n96, n97, n98, n99, n100, n108, n114, n116, n120, n127, n128, n136, n176, n215, n216, n255, n864, n999, n4096, n1000000, inb_n, nI_clamp, le_n, lt_n, eq_n, nI_add, nI_mul]
    rw [if_neg (by omega), Option.bind_some]
    by_cases e : hd A k = u
    · rw [if_pos (by rw [e]), Option.bind_some]
      obtain ⟨σ', v1, v2, v3⟩ := c_vstep w b c (show k < A 3 by omega) e
      rw [v1, Option.bind_some]
      exact step σ' v2 v3
    · rw [if_neg (fun q => e ((nI_eq (by omega) (by omega)).mp q))]
      refine step σ ?_ (fun _ _ => rfl)
      have : bv A u k t = t := by unfold bv; rw [if_neg (fun q => e q.1)]
      rw [this]
      exact c
theorem c_bout {A : Nat → Nat} {B s g Nf : Nat} (hL : LG g) (hg90 : g + 15 ≤ 90) (w : WF A B) (hf : 100 < Nf) : ∀ (f p n : Nat) (t : bst) (σ : cS), f + p = 13 → f < n → BI A s t → CB σ A t s → GR σ g A → ∃ σ', fX5_visitFrom_24 (lCt ()) Nf 90 g n (nI p) σ = some σ' ∧ CB σ' A (bout A f p t) s ∧ FS σ σ' := by
  have w3 := w.2.2.1
  have w2 := w.2.1
  intro f
  induction f with
  | zero =>
    intro p n t σ h1 hn b c hg
    obtain ⟨n, rfl⟩ : ∃ z, n = z + 1 := ⟨n - 1, by omega⟩
    have hn12 := BI_n b
    unfold fX5_visitFrom_24 fX5_visitFrom_100
    rw [c.2.1]
    simp (disch := omega) only [grd_t, n0, n1, n2, n3, n4, n5, n6, n7, n8, n9, n10, n11, n12, n16, n20, n31, n40, n48, n56, n57, n61, n96, n97, n98, n99, n100, n108, n114, n116, n120, n127, n128, n136, n176, n215, n216, n255, n864, n999, n4096, n1000000, inb_n, nI_clamp, le_n, lt_n, eq_n, nI_add, nI_mul]
    rw [if_pos (by omega)]
    exact some_x ⟨c, fun _ _ => rfl⟩
  | succ f ih =>
    intro p n t σ h1 hn b c hg
    obtain ⟨n, rfl⟩ : ∃ z, n = z + 1 := ⟨n - 1, by omega⟩
    have hn12 := BI_n b
    unfold fX5_visitFrom_24 fX5_visitFrom_100
    simp only [bout]
    rw [c.2.1]
    simp (disch := omega) only [grd_t, n0, n1, n2, n3, n4, n5, n6, n7, n8, n9, n10, n11, n12, n16, n20, n31, n40, n48, n56, n57, n61, n96, n97, n98, n99, n100, n108, n114, n116, n120, n127, n128, n136, n176, n215, n216, n255, n864, n999, n4096, n1000000, inb_n, nI_clamp, le_n, lt_n, eq_n, nI_add, nI_mul]
    by_cases e : p < t.1
    · rw [if_neg (by omega), if_neg (by omega), if_pos e, row_get (show lCt () (90 + 1 + 1) = 12 from rfl) (by omega) (by omega), c.2.2.2.1 p e, Option.bind_some]
      have hq := (b.2.2.2.2.1 p e).1
      rw [show (nI 0 : Int32) = nI 0 from rfl]
      refine c_bin hL hg90 w (A 3) 0 Nf t σ (by omega) (by omega) b c hg e rfl (fun σ' c' f' => ?_)
      obtain ⟨σ2, z1, z2, z3⟩ := ih (p + 1) n (bin A (t.2.1 p) 0 (A 3) t) σ' (by omega) (by omega) (BI_in w (A 3) 0 t (by omega) b e rfl) c' (GR_keep hg (fun x hx hx2 => f' x (by omega)))
      exact ⟨σ2, z1, z2, FS_tr f' z3⟩
    · rw [if_pos (by omega), if_neg e]
      exact some_x ⟨c, fun _ _ => rfl⟩
/-- the class goes through the nodes -/
theorem c_visitFrom {σ : cS} {A : Nat → Nat} {B s g Nf : Nat} (hL : LG g) (hg90 : g + 15 ≤ 90) (h : GR σ g A) (w : WF A B) (hs : s < A 0) (hf : 100 < Nf) : ∃ σ', fX5_visitFrom (lCt ()) Nf σ 90 g (nI s) = some σ' ∧ CB σ' A (bfs A s) s ∧ FS σ σ' := by
  have w2 := w.2.1
  unfold fX5_visitFrom fX5_visitFrom_0
  refine bnd_x (fun s1 e1 => ?_)
  refine bnd_x (fun s2 e2 => ?_)
  refine bnd_x (fun s3 e3 => ?_)
  have v := c_visit_n (σ := s3) (v := s) (vis := 0) (n := 0) (x2 := -1) (x3 := -1) (by rw [e3, st2_ss]; rfl) (by rw [e3, st2_nj (by omega), e2, st2_ss]; rfl) (by omega) (by omega) (by omega) (Nat.zero_testBit s)
  rw [Nat.zero_or] at v
  refine bind_x v ?_
  obtain ⟨s4, e4⟩ : ∃ z, z = st2 (st2 (st2 (st2 (st2 s3 90 5 (nI (2 ^ s))) (90 + 1 + 1) 0 (nI s)) (90 + 3 + 1) s (-1)) (90 + 5 + 1) s (-1)) 90 4 (nI (0 + 1)) := ⟨_, rfl⟩
  rw [← e4]
  have f4 : FS σ s4 := fun x hx => by
    rw [e4, e3, e2, e1]; simp (disch := omega) only [st2_out]
  have c4 : CB s4 A (b0 s) s := by
    refine ⟨?_, ?_, ?_, fun i hi => ?_, fun i h1 h2 => ?_⟩
    · rw [e4]; simp (disch := omega) only [st2_nk, st2_nj]; rw [e3, e2, e1]; simp (disch := omega) only [st2_nj, st2_ss]
    · rw [e4, st2_ss]; rfl
    · rw [e4]; simp (disch := omega) only [st2_nk, st2_nj, st2_ss]; rfl
    · have : i < 1 := hi
      rw [show i = 0 by omega, e4]; simp (disch := omega) only [st2_nk, st2_ss]; rfl
    · have : i < 1 := h2
      omega
  obtain ⟨σ', z1, z2, z3⟩ := c_bout hL hg90 w hf 13 0 Nf (b0 s) s4 (by omega) (by omega) (BI_0 w hs) c4 (GR_keep h (fun x hx hx2 => f4 x (by omega)))
  exact ⟨σ', z1, z2, FS_tr f4 z3⟩
