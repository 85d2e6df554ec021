/-! ===== the class's graph: joining, cutting, flipping ===== -/
theorem rowF_ext {σ : cS} {k lo hi : Nat} {f f' : Nat → Int32} (h : ∀ b, lo ≤ b → b < hi → f b = f' b) : rowF σ k lo hi f = rowF σ k lo hi f' := by
  funext a b
  simp only [rowF]
  by_cases e : a = k ∧ lo ≤ b ∧ b < hi
  · rw [if_pos e, if_pos e, h b e.2.1 e.2.2]
  · rw [if_neg e, if_neg e]
theorem gap_loop {L : Nat → Nat} {Nf k N : Nat} (hN : L (k + 1) = N) (h2 : N < 2 ^ 31) (h1 : 1 ≤ N) : ∀ (d i n : Nat) (σ : cS), i + d = N - 1 → d < n → fX4_closeGap_10 L Nf k n (nI i) σ = some (rowF σ (k + 1) i (N - 1) (fun b => σ (k + 1) (b + 1))) := by
  intro d
  induction d with
  | zero =>
    intro i n σ h3 hn
    obtain ⟨n, rfl⟩ : ∃ z, n = z + 1 := ⟨n - 1, by omega⟩
    unfold fX4_closeGap_10
    rw [hN, ofNat_n, n1, nI_sub h1]
    simp (disch := omega) only [grd_t, bnd_e, n0, n1, n2, n3, n4, n5, n6, n7, n8, n9, n10, n11, n12, n16, n20, n31, n40, n48, n56, n57, n61, n96, n97, n98, n99, n100, n108, n114, n116, n120, n127, n128, n136, n176, n215, n216, n255, n864, n999, n4096, n1000000, inb_n, nI_clamp, le_n, lt_n, eq_n, nI_add, Option.bind_some, Option.bind]
    rw [if_pos (by omega), show i = N - 1 by omega, rowF_nil]
  | succ d ih =>
    intro i n σ h3 hn
    obtain ⟨n, rfl⟩ : ∃ z, n = z + 1 := ⟨n - 1, by omega⟩
    unfold fX4_closeGap_10
    rw [hN, ofNat_n, n1, nI_sub h1]
    simp (disch := omega) only [grd_t, bnd_e, n0, n1, n2, n3, n4, n5, n6, n7, n8, n9, n10, n11, n12, n16, n20, n31, n40, n48, n56, n57, n61, n96, n97, n98, n99, n100, n108, n114, n116, n120, n127, n128, n136, n176, n215, n216, n255, n864, n999, n4096, n1000000, inb_n, nI_clamp, le_n, lt_n, eq_n, nI_add, Option.bind_some, Option.bind]
    rw [if_neg (by omega), ih (i + 1) n _ (by omega) (by omega), rowF_ext (f' := fun b => σ (k + 1) (b + 1)) (fun b hb hb2 => st2_nj (by omega)), rowF_st _ _ _ _ (fun b => σ (k + 1) (b + 1)) (by omega)]
theorem row_gap {L : Nat → Nat} {Nf : Nat} {σ : cS} {k N p : Nat} (hN : L (k + 1) = N) (h2 : N < 2 ^ 31) (hp : p < N) (hf : N < Nf) : fX4_closeGap L Nf σ k (nI p) = some (rowF σ (k + 1) p (N - 1) (fun b => σ (k + 1) (b + 1))) := by
  unfold fX4_closeGap fX4_closeGap_0 fX4_closeGap_9
  rw [n0]
  simp (disch := omega) only [le_n]
  rw [if_pos (Nat.zero_le p)]
  exact gap_loop hN h2 (by omega) (N - 1 - p) p Nf σ (by omega) (by omega)
theorem c_join35 {σ : cS} {g : Nat} {A : Nat → Nat} {B a b : Nat} (hL : LG g) (h : GR σ g A) (w : WF A B) (h3 : A 3 < 40) (ha : a < 12) (hb : b < 12) : ∃ r, fX0_join_35 (lCt ()) g (nI a) (nI b) (nI (A 3)) (nI (A 1)) (nI (newH A a b)) σ = some r ∧ r.1 = nI (A 1) ∧ GR r.2 g (addA A a b) ∧ FG g σ r.2 := by
  have hH : newH A a b < 12 := by unfold newH; split <;> omega
  obtain ⟨a1, a2, a3, a4, a5, a6, a7, a8, a9, a10, a11⟩ := h
  unfold fX0_join_35
  refine bind_x (row_set hL.1 h3 (by omega)) ?_
  generalize q1 : st2 σ (g + 1 + 1) (A 3) (nI (A 1)) = s1
  refine bind_x (row_set hL.2.1 h3 (by omega)) ?_
  generalize q2 : st2 s1 (g + 3 + 1) (A 3) (nI a) = s2
  refine bind_x (row_set hL.2.2.1 h3 (by omega)) ?_
  generalize q3 : st2 s2 (g + 5 + 1) (A 3) (nI b) = s3
  refine bind_x (row_set hL.2.2.2.1 h3 (by omega)) ?_
  generalize q4 : st2 s3 (g + 7 + 1) (A 3) (nI (newH A a b)) = s4
  refine bind_x (row_set hL.2.2.2.2.1 h3 (by omega)) ?_
  generalize q5 : st2 s4 (g + 9 + 1) (A 3) (0 : Int32) = s5
  refine bind_x (row_inc hL.2.2.2.2.2.1 hH (by omega)) ?_
  have e5 : s5 (g + 11 + 1) (newH A a b) = nI (ld A (newH A a b)) := by
    rw [← q5, ← q4, ← q3, ← q2, ← q1]
    simp (disch := omega) only [st2_nk]
    exact a10 _ hH
  rw [e5, n1, nI_add]
  generalize q6 : st2 s5 (g + 11 + 1) (newH A a b) (nI (ld A (newH A a b) + 1)) = s6
  have e6 : s6 g = σ g := by
    funext j
    rw [← q6, ← q5, ← q4, ← q3, ← q2, ← q1]
    simp (disch := omega) only [st2_nk]
  refine bnd_x (fun s7 q7 => ?_)
  rw [e6, a2, nI_add] at q7
  refine bnd_x (fun s8 q8 => ?_)
  have e7 : s7 g 9 = nI (A 1) := by rw [q7]; simp (disch := omega) only [st2_nj]; rw [e6]; exact a3
  rw [e7, nI_add] at q8
  refine some_x ⟨rfl, ⟨?_, ?_, ?_, ?_, fun k hk => ?_, fun k hk => ?_, fun k hk => ?_, fun k hk => ?_, fun k hk => ?_, fun v hv => ?_, fun v hv => ?_⟩, ?_⟩
  · show s8 g 7 = _
    rw [q8, q7]; simp (disch := omega) only [st2_nj]; rw [e6, a1, add_o (by omega) (by omega) (by omega) (by omega) (by omega) (by omega) (by omega)]
  · show s8 g 8 = _
    rw [q8, q7]; simp (disch := omega) only [st2_nj, st2_ss]; rw [add_3]
  · show s8 g 9 = _
    rw [q8, st2_ss, add_1]
  · show s8 g 10 = _
    rw [q8, q7]; simp (disch := omega) only [st2_nj]; rw [e6, a4, add_o (by omega) (by omega) (by omega) (by omega) (by omega) (by omega) (by omega)]
  · show s8 (g + 1 + 1) k = _
    rw [add_3] at hk
    rw [q8, q7, ← q6, ← q5, ← q4, ← q3, ← q2, ← q1]; simp (disch := omega) only [st2_nk]
    by_cases e : k = A 3
    · subst e
      rw [st2_ss]
      unfold addA preA
      rw [up_o (by omega), up_o (by omega), up_o (by omega), up_o (by omega), up_o (by omega), up_o (by omega), up_s]
    · rw [st2_nj e, a5 k (by omega), add_o (by omega) (by omega) (by omega) (by omega) (by omega) (by omega) (by omega)]
  · show s8 (g + 3 + 1) k = _
    rw [add_3] at hk
    rw [q8, q7, ← q6, ← q5, ← q4, ← q3, ← q2]; simp (disch := omega) only [st2_nk]
    by_cases e : k = A 3
    · subst e
      rw [st2_ss]
      unfold addA preA
      rw [up_o (by omega), up_o (by omega), up_o (by omega), up_o (by omega), up_o (by omega), up_s]
    · rw [st2_nj e, ← q1, st2_nk (by omega), a6 k (by omega), add_o (by omega) (by omega) (by omega) (by omega) (by omega) (by omega) (by omega)]
  · show s8 (g + 5 + 1) k = _
    rw [add_3] at hk
    rw [q8, q7, ← q6, ← q5, ← q4, ← q3]; simp (disch := omega) only [st2_nk]
    by_cases e : k = A 3
    · subst e
      rw [st2_ss]
      unfold addA preA
      rw [up_o (by omega), up_o (by omega), up_o (by omega), up_o (by omega), up_s]
    · rw [st2_nj e, ← q2, ← q1, st2_nk (by omega), st2_nk (by omega), a7 k (by omega), add_o (by omega) (by omega) (by omega) (by omega) (by omega) (by omega) (by omega)]
  · show s8 (g + 7 + 1) k = _
    rw [add_3] at hk
    rw [q8, q7, ← q6, ← q5, ← q4]; simp (disch := omega) only [st2_nk]
    rw [hd_add h3 (by omega)]
    by_cases e : k = A 3
    · subst e
      rw [st2_ss, if_pos rfl]
    · rw [st2_nj e, ← q3, ← q2, ← q1, st2_nk (by omega), st2_nk (by omega), st2_nk (by omega), a8 k (by omega), if_neg e]
  · show s8 (g + 9 + 1) k = _
    rw [add_3] at hk
    rw [q8, q7, ← q6, ← q5]; simp (disch := omega) only [st2_nk]
    by_cases e : k = A 3
    · subst e
      rw [st2_ss]
      unfold addA
      rw [up_o (by omega), up_o (by omega), up_s]
      rfl
    · rw [st2_nj e, ← q4, ← q3, ← q2, ← q1, st2_nk (by omega), st2_nk (by omega), st2_nk (by omega), st2_nk (by omega), a9 k (by omega), add_o (by omega) (by omega) (by omega) (by omega) (by omega) (by omega) (by omega)]
  · show s8 (g + 11 + 1) v = _
    rw [q8, q7, ← q6]; simp (disch := omega) only [st2_nk]
    rw [ld_add h3]
    by_cases e : v = newH A a b
    · subst e
      rw [st2_ss]
      unfold b1
      rw [if_pos (by simp)]
    · rw [st2_nj e, ← q5, ← q4, ← q3, ← q2, ← q1, st2_nk (by omega), st2_nk (by omega), st2_nk (by omega), st2_nk (by omega), st2_nk (by omega), a10 v hv]
      unfold b1
      rw [if_neg (by simp [Ne.symm e])]
      rfl
  · show s8 (g + 13 + 1) v = _
    rw [q8, q7, ← q6, ← q5, ← q4, ← q3, ← q2, ← q1]; simp (disch := omega) only [st2_nk]
    rw [a11 v hv, add_o (by omega) (by omega) (by omega) (by omega) (by omega) (by omega) (by omega)]
  · show FG g σ s8
    rw [q8, q7, ← q6, ← q5, ← q4, ← q3, ← q2, ← q1]
    exact FG_st (FG_st (FG_st (FG_st (FG_st (FG_st (FG_st (FG_st FG_rf (by omega) _ _) (by omega) _ _) (by omega) _ _) (by omega) _ _) (by omega) _ _) (by omega) _ _) (by omega) _ _) (by omega) _ _
theorem c_join {σ : cS} {g : Nat} {A : Nat → Nat} {B a b : Nat} (hL : LG g) (h : GR σ g A) (w : WF A B) (h3 : A 3 < 40) (ha : a < 12) (hb : b < 12) : ∃ r, fX0_join (lCt ()) σ g (nI a) (nI b) = some r ∧ r.1 = nI (A 1) ∧ GR r.2 g (addA A a b) ∧ FG g σ r.2 := by
  have hla := ld_le w a
  have hlb := ld_le w b
  have h35 := c_join35 hL h w h3 ha hb
  unfold fX0_join fX0_join_0
  refine bnd_x (fun t1 q1 => ?_)
  refine bnd_x (fun t2 q2 => ?_)
  rw [h.2.1] at q1
  rw [h.2.2.1] at q2
  subst q1
  subst q2
  refine bind_x (row_get hL.2.2.2.2.2.1 hb (by omega)) ?_
  refine bind_x (row_get hL.2.2.2.2.2.1 ha (by omega)) ?_
  rw [h.2.2.2.2.2.2.2.2.2.1 a ha, h.2.2.2.2.2.2.2.2.2.1 b hb]
  simp (disch := omega) only [le_n]
  unfold newH at h35
  by_cases e : ld A b < ld A a
  · rw [if_neg (by omega)]
    rw [if_pos e] at h35
    exact h35
  · rw [if_pos (by omega)]
    rw [if_neg e] at h35
    exact h35
theorem neg1 {n : Nat} (h : 1 ≤ n) : nI n + (-1 : Int32) = nI (n - 1) := by
  obtain ⟨m, rfl⟩ : ∃ m, n = m + 1 := ⟨n - 1, by omega⟩
  rw [Nat.add_sub_cancel, ← nI_pred m, Int32.sub_eq_add_neg]
theorem c_cut {σ : cS} {g : Nat} {A : Nat → Nat} {B p Nf : Nat} (hL : LG g) (h : GR σ g A) (w : WF A B) (hp : p < A 3) (hf : 40 < Nf) : ∃ r, fX0_cut (lCt ()) Nf σ g (nI p) = some r ∧ r.1 = nI (hd A p) ∧ GR r.2 g (remA A p) ∧ FG g σ r.2 := by
  have w3 := w.2.2.1
  have w2 := w.2.1
  have hh := hd_lt w hp
  have hl : 1 ≤ ld A (hd A p) := cnt_pos hp (by simp)
  obtain ⟨a1, a2, a3, a4, a5, a6, a7, a8, a9, a10, a11⟩ := h
  unfold fX0_cut fX0_cut_0
  refine bind_x (row_get hL.2.2.2.1 (by omega) (by omega)) ?_
  rw [a8 p hp]
  refine bind_x (row_inc hL.2.2.2.2.2.1 (show hd A p < 12 by omega) (by omega)) ?_
  rw [a10 _ (by omega), neg1 hl]
  generalize q1 : st2 σ (g + 11 + 1) (hd A p) (nI (ld A (hd A p) - 1)) = s1
  refine bind_x (row_gap hL.1 (by omega) (by omega) (by omega)) ?_
  generalize q2 : rowF s1 (g + 1 + 1) p (40 - 1) (fun b => s1 (g + 1 + 1) (b + 1)) = s2
  refine bind_x (row_gap hL.2.1 (by omega) (by omega) (by omega)) ?_
  generalize q3 : rowF s2 (g + 3 + 1) p (40 - 1) (fun b => s2 (g + 3 + 1) (b + 1)) = s3
  refine bind_x (row_gap hL.2.2.1 (by omega) (by omega) (by omega)) ?_
  generalize q4 : rowF s3 (g + 5 + 1) p (40 - 1) (fun b => s3 (g + 5 + 1) (b + 1)) = s4
  refine bind_x (row_gap hL.2.2.2.1 (by omega) (by omega) (by omega)) ?_
  generalize q5 : rowF s4 (g + 7 + 1) p (40 - 1) (fun b => s4 (g + 7 + 1) (b + 1)) = s5
  refine bind_x (row_gap hL.2.2.2.2.1 (by omega) (by omega) (by omega)) ?_
  generalize q6 : rowF s5 (g + 9 + 1) p (40 - 1) (fun b => s5 (g + 9 + 1) (b + 1)) = s6
  have o1 : ∀ c, c ≠ g + 11 + 1 → s1 c = σ c := fun c hc => by rw [← q1]; exact st2_out hc
  have o2 : ∀ c, c ≠ g + 1 + 1 → s2 c = s1 c := fun c hc => by rw [← q2]; funext b; exact rowF_nk hc
  have o3 : ∀ c, c ≠ g + 3 + 1 → s3 c = s2 c := fun c hc => by rw [← q3]; funext b; exact rowF_nk hc
  have o4 : ∀ c, c ≠ g + 5 + 1 → s4 c = s3 c := fun c hc => by rw [← q4]; funext b; exact rowF_nk hc
  have o5 : ∀ c, c ≠ g + 7 + 1 → s5 c = s4 c := fun c hc => by rw [← q5]; funext b; exact rowF_nk hc
  have o6 : ∀ c, c ≠ g + 9 + 1 → s6 c = s5 c := fun c hc => by rw [← q6]; funext b; exact rowF_nk hc
  have g6 : s6 g = σ g := by rw [o6 _ (by omega), o5 _ (by omega), o4 _ (by omega), o3 _ (by omega), o2 _ (by omega), o1 _ (by omega)]
  have shift : ∀ (s t : cS) (c : Nat) (f : Nat → Nat), rowF s c p (40 - 1) (fun b => s c (b + 1)) = t → (∀ k, k < A 3 → s c k = nI (f k)) → ∀ k, k < A 3 - 1 → t c k = nI (if k < p then f k else f (k + 1)) := by
    intro s t c f e hs k hk
    rw [← e]
    by_cases h9 : k < p
    · unfold rowF
      rw [if_neg (by omega), if_pos h9, hs k (by omega)]
    · rw [rowF_in (by omega) (by omega), if_neg h9, hs (k + 1) (by omega)]
  refine bnd_x (fun s7 q7 => ?_)
  rw [g6, a2, n1, nI_sub (by omega)] at q7
  have o7 : ∀ c, c ≠ g → s7 c = s6 c := fun c hc => by rw [q7]; exact st2_out hc
  refine some_x ⟨rfl, ⟨?_, ?_, ?_, ?_, fun k hk => ?_, fun k hk => ?_, fun k hk => ?_, fun k hk => ?_, fun k hk => ?_, fun v hv => ?_, fun v hv => ?_⟩, ?_⟩
  · show s7 g 7 = _
    rw [q7]; simp (disch := omega) only [st2_nj]; rw [g6, a1, rem_lo (by omega) (by omega)]
  · show s7 g 8 = _
    rw [q7, st2_ss, rem_3]
  · show s7 g 9 = _
    rw [q7]; simp (disch := omega) only [st2_nj]; rw [g6, a3, rem_lo (by omega) (by omega)]
  · show s7 g 10 = _
    rw [q7]; simp (disch := omega) only [st2_nj]; rw [g6, a4, rem_lo (by omega) (by omega)]
  · show s7 (g + 1 + 1) k = _
    rw [rem_3] at hk
    rw [rem_bl (by omega) hk w3, o7 _ (by omega), o6 _ (by omega), o5 _ (by omega), o4 _ (by omega), o3 _ (by omega)]
    exact shift s1 s2 _ (fun k => A (16 + k)) q2 (fun j hj => by rw [o1 _ (by omega)]; exact a5 j hj) k hk
  · show s7 (g + 3 + 1) k = _
    rw [rem_3] at hk
    rw [rem_bl (by omega) hk w3, o7 _ (by omega), o6 _ (by omega), o5 _ (by omega), o4 _ (by omega)]
    exact shift s2 s3 _ (fun k => A (56 + k)) q3 (fun j hj => by rw [o2 _ (by omega), o1 _ (by omega)]; exact a6 j hj) k hk
  · show s7 (g + 5 + 1) k = _
    rw [rem_3] at hk
    rw [rem_bl (by omega) hk w3, o7 _ (by omega), o6 _ (by omega), o5 _ (by omega)]
    exact shift s3 s4 _ (fun k => A (96 + k)) q4 (fun j hj => by rw [o3 _ (by omega), o2 _ (by omega), o1 _ (by omega)]; exact a7 j hj) k hk
  · show s7 (g + 7 + 1) k = _
    rw [rem_3] at hk
    rw [hd_rem hk w3, o7 _ (by omega), o6 _ (by omega)]
    exact shift s4 s5 _ (fun k => hd A k) q5 (fun j hj => by rw [o4 _ (by omega), o3 _ (by omega), o2 _ (by omega), o1 _ (by omega)]; exact a8 j hj) k hk
  · show s7 (g + 9 + 1) k = _
    rw [rem_3] at hk
    rw [rem_bl (by omega) hk w3, o7 _ (by omega)]
    exact shift s5 s6 _ (fun k => A (176 + k)) q6 (fun j hj => by rw [o5 _ (by omega), o4 _ (by omega), o3 _ (by omega), o2 _ (by omega), o1 _ (by omega)]; exact a9 j hj) k hk
  · show s7 (g + 11 + 1) v = _
    have hr := ld_rem hp w3 v
    rw [o7 _ (by omega), o6 _ (by omega), o5 _ (by omega), o4 _ (by omega), o3 _ (by omega), o2 _ (by omega), ← q1]
    by_cases e : v = hd A p
    · subst e
      rw [st2_ss]
      unfold b1 at hr
      rw [if_pos (by simp)] at hr
      congr 1
      omega
    · rw [st2_nj e, a10 v hv]
      unfold b1 at hr
      rw [if_neg (by simp [Ne.symm e])] at hr
      congr 1
      omega
  · show s7 (g + 13 + 1) v = _
    rw [o7 _ (by omega), o6 _ (by omega), o5 _ (by omega), o4 _ (by omega), o3 _ (by omega), o2 _ (by omega), o1 _ (by omega), a11 v hv, rem_lo (by omega) (by omega)]
  · show FG g σ s7
    intro c hc
    rw [o7 _ (by omega), o6 _ (by omega), o5 _ (by omega), o4 _ (by omega), o3 _ (by omega), o2 _ (by omega), o1 _ (by omega)]
theorem ends_sum {A : Nat → Nat} (k : Nat) : A (56 + k) + A (96 + k) = hd A k + ot A k := by
  unfold hd ot; split <;> omega
theorem c_endNot {σ : cS} {g : Nat} {A : Nat → Nat} {B k : Nat} (hL : LG g) (h : GR σ g A) (w : WF A B) (hk : k < A 3) : fX0_endNotHolding (lCt ()) σ g (nI k) = some (nI (ot A k)) := by
  have w3 := w.2.2.1
  obtain ⟨a1, a2, a3, a4, a5, a6, a7, a8, a9, a10, a11⟩ := h
  unfold fX0_endNotHolding fX0_endNotHolding_0
  rw [row_get hL.2.1 (by omega) (by omega), row_get hL.2.2.1 (by omega) (by omega), row_get hL.2.2.2.1 (by omega) (by omega), a6 k hk, a7 k hk, a8 k hk]
  simp only [Option.bind_some, nI_add, ends_sum]
  rw [nI_sub (by omega)]
  congr 2
  omega
theorem c_flip {σ : cS} {g : Nat} {A : Nat → Nat} {B k : Nat} (hL : LG g) (h : GR σ g A) (w : WF A B) (hk : k < A 3) : ∃ r, fX0_flip (lCt ()) σ g (nI k) = some r ∧ r.1 = nI (ot A k) ∧ GR r.2 g (trnA A k) ∧ FG g σ r.2 := by
  have w3 := w.2.2.1
  have w2 := w.2.1
  have hh := hd_lt w hk
  have ho := ot_lt w hk
  have hne : hd A k ≠ ot A k := by
    have := (w.2.2.2.2.1 k hk).2.2.1
    unfold hd ot; split <;> omega
  have hl : 1 ≤ ld A (hd A k) := cnt_pos hk (by simp)
  obtain ⟨a1, a2, a3, a4, a5, a6, a7, a8, a9, a10, a11⟩ := h
  unfold fX0_flip fX0_flip_0
  refine bind_x (row_get hL.2.2.2.1 (by omega) (by omega)) ?_
  refine bind_x (row_get hL.2.1 (by omega) (by omega)) ?_
  refine bind_x (row_get hL.2.2.1 (by omega) (by omega)) ?_
  rw [a6 k hk, a7 k hk, a8 k hk, nI_add, ends_sum, nI_sub (by omega), Nat.add_sub_cancel_left]
  refine bnd_x (fun t4 q4 => ?_)
  subst q4
  refine bind_x (row_inc hL.2.2.2.2.2.1 (show hd A k < 12 by omega) (by omega)) ?_
  rw [a10 _ (by omega), neg1 hl]
  generalize q1 : st2 σ (g + 11 + 1) (hd A k) (nI (ld A (hd A k) - 1)) = s1
  refine bind_x (row_inc hL.2.2.2.2.2.1 (show ot A k < 12 by omega) (by omega)) ?_
  have e1 : s1 (g + 11 + 1) (ot A k) = nI (ld A (ot A k)) := by rw [← q1, st2_nj (Ne.symm hne)]; exact a10 _ (by omega)
  rw [e1, n1, nI_add]
  generalize q2 : st2 s1 (g + 11 + 1) (ot A k) (nI (ld A (ot A k) + 1)) = s2
  refine bind_x (row_set hL.2.2.2.1 (show k < 40 by omega) (by omega)) ?_
  generalize q3 : st2 s2 (g + 7 + 1) k (nI (ot A k)) = s3
  refine bind_x (row_inc hL.2.2.2.2.1 (show k < 40 by omega) (by omega)) ?_
  have e3 : s3 (g + 9 + 1) k = nI (A (176 + k)) := by
    rw [← q3, ← q2, ← q1]; simp (disch := omega) only [st2_nk]; exact a9 k hk
  rw [e3, nI_add]
  generalize q4 : st2 s3 (g + 9 + 1) k (nI (A (176 + k) + 1)) = s4
  have e4 : s4 g = σ g := by
    funext j
    rw [← q4, ← q3, ← q2, ← q1]; simp (disch := omega) only [st2_nk]
  refine bnd_x (fun s5 q5 => ?_)
  rw [e4, a4, nI_add] at q5
  refine some_x ⟨rfl, ⟨?_, ?_, ?_, ?_, fun j hj => ?_, fun j hj => ?_, fun j hj => ?_, fun j hj => ?_, fun j hj => ?_, fun v hv => ?_, fun v hv => ?_⟩, ?_⟩
  · show s5 g 7 = _
    rw [q5]; simp (disch := omega) only [st2_nj]; rw [e4, a1, trn_o (by omega) (by omega) (by omega)]
  · show s5 g 8 = _
    rw [q5]; simp (disch := omega) only [st2_nj]; rw [e4, a2, trn_o (by omega) (by omega) (by omega)]
  · show s5 g 9 = _
    rw [q5]; simp (disch := omega) only [st2_nj]; rw [e4, a3, trn_o (by omega) (by omega) (by omega)]
  · show s5 g 10 = _
    rw [q5, st2_ss]; unfold trnA; rw [up_s]
  · show s5 (g + 1 + 1) j = _
    rw [trn_o (by omega) (by omega) (by omega)] at hj
    rw [q5, ← q4, ← q3, ← q2, ← q1]; simp (disch := omega) only [st2_nk]
    rw [a5 j hj, trn_o (by omega) (by omega) (by omega)]
  · show s5 (g + 3 + 1) j = _
    rw [trn_o (by omega) (by omega) (by omega)] at hj
    rw [q5, ← q4, ← q3, ← q2, ← q1]; simp (disch := omega) only [st2_nk]
    rw [a6 j hj, trn_o (by omega) (by omega) (by omega)]
  · show s5 (g + 5 + 1) j = _
    rw [trn_o (by omega) (by omega) (by omega)] at hj
    rw [q5, ← q4, ← q3, ← q2, ← q1]; simp (disch := omega) only [st2_nk]
    rw [a7 j hj, trn_o (by omega) (by omega) (by omega)]
  · show s5 (g + 7 + 1) j = _
    rw [trn_o (by omega) (by omega) (by omega)] at hj
    rw [hd_trn w hk hj, q5, ← q4, ← q3]; simp (disch := omega) only [st2_nk]
    by_cases e : j = k
    · subst e; rw [st2_ss, if_pos rfl]
    · rw [st2_nj e, if_neg e, ← q2, ← q1, st2_nk (by omega), st2_nk (by omega), a8 j hj]
  · show s5 (g + 9 + 1) j = _
    rw [trn_o (by omega) (by omega) (by omega)] at hj
    rw [q5, ← q4]; simp (disch := omega) only [st2_nk]
    by_cases e : j = k
    · subst e; rw [st2_ss]; unfold trnA; rw [up_o (by omega), up_s]
    · rw [st2_nj e, ← q3, ← q2, ← q1, st2_nk (by omega), st2_nk (by omega), st2_nk (by omega), a9 j hj, trn_o (by omega) (by omega) (by omega)]
  · show s5 (g + 11 + 1) v = _
    have hr := ld_trn w hk v
    rw [q5, ← q4, ← q3, ← q2]; simp (disch := omega) only [st2_nk]
    by_cases e : v = ot A k
    · subst e
      rw [st2_ss]
      unfold b1 at hr
      rw [if_neg (by simp [hne]), if_pos (by simp)] at hr
      congr 1
      omega
    · rw [st2_nj e, ← q1]
      by_cases e2 : v = hd A k
      · subst e2
        rw [st2_ss]
        unfold b1 at hr
        rw [if_pos (by simp), if_neg (by simp [Ne.symm hne])] at hr
        congr 1
        omega
      · rw [st2_nj e2, a10 v hv]
        unfold b1 at hr
        rw [if_neg (by simp [Ne.symm e2]), if_neg (by simp [Ne.symm e])] at hr
        congr 1
        omega
  · show s5 (g + 13 + 1) v = _
    rw [q5, ← q4, ← q3, ← q2, ← q1]; simp (disch := omega) only [st2_nk]
    rw [a11 v hv, trn_o (by omega) (by omega) (by omega)]
  · show FG g σ s5
    rw [q5, ← q4, ← q3, ← q2, ← q1]
    exact FG_st (FG_st (FG_st (FG_st (FG_st FG_rf (by omega) _ _) (by omega) _ _) (by omega) _ _) (by omega) _ _) (by omega) _ _
