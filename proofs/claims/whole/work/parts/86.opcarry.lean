/-! ===== carryOut, answered alike ===== -/
theorem op_carryOut {σ τ : cS} {B Nf : Nat} (hB : B + 100 < 2 ^ 30) (hf : 300000 < Nf) (x1 x2 x3 : Int32) (h hm0 : Int64) (iv : IV σ τ B) : ∃ r, gL_c25 Nf x1 x2 x3 h σ hm0 τ = some r ∧ PI4 B r := by
  obtain ⟨A, Hs, q, c, len, hm, hg, w, hh, ht, hp⟩ := iv
  obtain ⟨ht1, ht2, ht3, ht4⟩ := ht
  have hT : ∀ i, i < len → (σ (102 + 1 + 1) i).toNatClampNeg ≤ 127 ∧ σ (102 + 1 + 1) i = nI (σ (102 + 1 + 1) i).toNatClampNeg ∧ τ 4 i = nI (σ (102 + 1 + 1) i).toNatClampNeg := fun i hi => by
    obtain ⟨t, a1, a2, a3⟩ := ht4 i hi
    rw [a2, a3, nI_clamp (by omega)]
    exact ⟨a1, rfl, rfl⟩
  have tc1 : TC (st2 (st2 σ 102 2 0) 102 3 (-1)) (fun i => (σ (102 + 1 + 1) i).toNatClampNeg) len := TC_st (TC_st ⟨ht1, ht2, fun i hi => ⟨(hT i hi).1, (hT i hi).2.1⟩⟩ (by omega) _) (by omega) _
  have sc1 : SC (st2 (st2 σ 102 2 0) 102 3 (-1)) (.inl 0) := ⟨by rw [st2_nj (by omega), st2_ss]; rfl, st2_ss, by omega⟩
  have tm1 : TM (st2 (st2 τ 0 7 0) 0 12 0) (fun i => (σ (102 + 1 + 1) i).toNatClampNeg) len := TM_st (TM_st ⟨ht1, ht3, fun i hi => ⟨(hT i hi).1, (hT i hi).2.2⟩⟩ (by omega) _) (by omega) _
  have sm1 : SM (st2 (st2 τ 0 7 0) 0 12 0) (.inl 0) := ⟨by rw [st2_ss]; rfl, by omega⟩
  generalize (fun i => (σ (102 + 1 + 1) i).toNatClampNeg) = T at tc1 tm1
  obtain ⟨σ2, c1, c2, c3⟩ := c_find (Nf := Nf) (by omega) 101 0 0 Nf _ (by omega) (by omega) (by omega) (by omega) tc1 sc1
  have mf := m_find (Nf := Nf) (by omega) 101 0 Nf _ (by omega) (by omega) (by omega) tm1 sm1
  have o2 : ∀ x, x ≠ 102 → σ2 x = σ x := fun x hx => by rw [c2.1 x hx, st2_out hx, st2_out hx]
  have o21 : σ2 102 1 = σ 102 1 := by rw [c2.2, st2_nj (by omega), st2_nj (by omega)]
  have ec : fX6_carryOut (lCt ()) Nf σ 107 = if plI (scn T len 101 0) = (-1 : Int32) then (Option.bind (fX1_save (lCt ()) Nf σ2 105 0) (fun r2 => Option.bind (fX3_forget r2 97) (fun r3 => Option.bind (fX2_rewind r3 102) (fun r4 => fX6_carryOut_45 (lCt ()) Nf 107 Nf (0 : Int32) r4)))) else (some (((-10 : Int32) - plI (scn T len 101 0)), σ2)) := by
    unfold fX6_carryOut fX6_carryOut_0 fX2_findSyntaxError fX2_findSyntaxError_0
    rw [show fX2_rewind σ 102 = some (st2 (st2 σ 102 2 0) 102 3 (-1)) from rfl, Option.bind_some]
    rw [show fX2_findSyntaxError_8 (lCt ()) Nf 102 Nf (1 : Int32) (0 : Int32) (st2 (st2 σ 102 2 0) 102 3 (-1)) = some (plI (scn T len 101 0), σ2) from c1, Option.bind_some]
  have em : fX7_carryOut (lMt ()) Nf τ 0 = fX7_carryOut_10 (lMt ()) Nf 0 Nf (st2 (st2 τ 0 7 0) 0 12 0) := rfl
  unfold gL_c25
  cases e : scn T len 101 0 with
  | some er =>
    rw [e] at ec mf
    obtain ⟨τ2, m1, m2⟩ := mf
    have he := c3 er e
    rw [if_neg (show ¬ plI (some er) = (-1 : Int32) from nI_ne1 (by omega))] at ec
    have n2 : ∀ x, x ≠ 0 → τ2 x = τ x := fun x hx => by rw [m2.1 x hx, st2_out hx, st2_out hx]
    have j2 : ∀ j, j ≤ 6 → τ2 0 j = τ 0 j := fun j hj => by rw [m2.2 j (by omega), st2_nj (by omega), st2_nj (by omega)]
    refine bind_x ec ?_
    refine bind_x (em.trans m1) ?_
    refine grd_x (decide_eq_true rfl) (some_x ?_)
    show IV σ2 τ2 (B + 100)
    exact ⟨A, Hs, q, c, len, MR_ext hm (n2 1 (by omega)), GR_keep hg (fun x _ _ => o2 x (by omega)), WF_up w (by omega), HS_keep hh (by omega) (fun x _ _ => o2 x (by omega)) (o2 105 (by omega)) (j2 4 (by omega)) (j2 5 (by omega)) (n2 3 (by omega)), ⟨ht1, by rw [o21]; exact ht2, by rw [j2 6 (by omega)]; exact ht3, fun i hi => by rw [o2 (102 + 1 + 1) (by omega), n2 4 (by omega)]; exact ht4 i hi⟩, PT_keep hp (o2 97 (by omega)) (o2 98 (by omega)) rfl (fun _ => rfl)⟩
  | none =>
    rw [e] at ec mf
    obtain ⟨τ2, m1, m2⟩ := mf
    rw [if_pos (show plI none = (-1 : Int32) from rfl)] at ec
    have n2 : ∀ x, x ≠ 0 → τ2 x = τ x := fun x hx => by rw [m2.1 x hx, st2_out hx, st2_out hx]
    have j2 : ∀ j, j ≤ 6 → τ2 0 j = τ 0 j := fun j hj => by rw [m2.2 j (by omega), st2_nj (by omega), st2_nj (by omega)]
    have hh2 : HS σ2 τ2 Hs q c B := HS_keep hh (Nat.le_refl _) (fun x _ _ => o2 x (by omega)) (o2 105 (by omega)) (j2 4 (by omega)) (j2 5 (by omega)) (n2 3 (by omega))
    obtain ⟨σ3, τ3, k1, k2, k3, k4, ⟨Hs1, q1, c1', k5⟩, k6, k7, k8⟩ := both_save (Nf := Nf) (MR_ext hm (n2 1 (by omega))) (GR_keep hg (fun x _ _ => o2 x (by omega))) w hh2 (by omega)
    have k6a : σ3 102 = σ2 102 := k6 102 (by omega) (by omega)
    have k6b : σ3 (102 + 1 + 1) = σ2 (102 + 1 + 1) := k6 _ (by omega) (by omega)
    have tc2 := TC_FT tc1 c2
    have tm2 := TM_FY tm1 m2
    have tc3 : TC σ3 T len := ⟨tc2.1, by rw [k6a]; exact tc2.2.1, fun i hi => ⟨(tc2.2.2 i hi).1, by rw [k6b]; exact (tc2.2.2 i hi).2⟩⟩
    have tm3 : TM τ3 T len := ⟨tm2.1, by rw [k7 6 (by omega) (by omega)]; exact tm2.2.1, fun i hi => ⟨(tm2.2.2 i hi).1, by rw [k8 4 (by omega) (by omega)]; exact (tm2.2.2 i hi).2⟩⟩
    have tc4 : TC (st2 (st2 (st2 σ3 97 6 0) 102 2 0) 102 3 (-1)) T len := TC_st (TC_st ⟨tc3.1, by rw [st2_nk (by omega)]; exact tc3.2.1, fun i hi => ⟨(tc3.2.2 i hi).1, by rw [st2_nk (by omega)]; exact (tc3.2.2 i hi).2⟩⟩ (by omega) _) (by omega) _
    have sc4 : SC (st2 (st2 (st2 σ3 97 6 0) 102 2 0) 102 3 (-1)) (.inl 0) := ⟨by rw [st2_nj (by omega), st2_ss]; rfl, st2_ss, by omega⟩
    have gr4 : GR (st2 (st2 (st2 σ3 97 6 0) 102 2 0) 102 3 (-1)) 0 A := GR_keep k4 (fun x _ _ => by rw [st2_out (by omega), st2_out (by omega), st2_out (by omega)])
    obtain ⟨cc, σ', τ', A', r1, r2, r3, r4, r5, r6, r7⟩ := both_run (T := T) (len := len) (B := B) (Nf := Nf) hB hf 101 0 0 Nf Nf _ (st2 τ3 0 12 0) A (by omega) e (by omega) (by omega) (by omega) (by omega) tc4 sc4 (TM_st tm3 (by omega) _) ⟨by rw [st2_ss]; rfl, by omega⟩ (MR_out k3 (by omega)) gr4 (WF_up w (by omega))
    have ec2 : fX6_carryOut (lCt ()) Nf σ 107 = some (cc, σ') := by
      rw [ec, k1, Option.bind_some]
      exact r1
    have em2 : fX7_carryOut (lMt ()) Nf τ 0 = some (cc, τ') := by
      rw [em, m1, k2, Option.bind_some, bnd_e]
      exact r2
    have p1 : ∀ x, 15 ≤ x → (x < 90 ∨ 97 ≤ x) → x ≠ 102 → x ≠ 97 → σ' x = σ3 x := fun x h1 h2 h3 h4 => by
      rw [r6.1 x h1 h2 h3, st2_out h3, st2_out h3, st2_out h4]
    have p2 : σ' 102 1 = σ 102 1 := by
      rw [r6.2, st2_nj (by omega), st2_nj (by omega), st2_nk (by omega), k6a]
      exact o21
    have p3 : ∀ x, x ≠ 0 → x ≠ 1 → x ≠ 5 → x ≠ 6 → τ' x = τ3 x := fun x h1 h2 h3 h4 => by rw [r7.1 x h1 h2 h3 h4, st2_out h1]
    have p4 : ∀ j, j ≤ 6 → τ' 0 j = τ3 0 j := fun j hj => by rw [r7.2 j hj, st2_nj (by omega)]
    refine bind_x ec2 ?_
    refine bind_x em2 ?_
    refine grd_x (decide_eq_true rfl) (some_x ?_)
    show IV σ' τ' (B + 100)
    refine ⟨A', Hs1, q1, c1', len, r3, r4, r5, HS_keep k5 (by omega) (fun x _ _ => p1 x (by omega) (by omega) (by omega) (by omega)) (p1 105 (by omega) (by omega) (by omega) (by omega)) (p4 4 (by omega)) (p4 5 (by omega)) (p3 3 (by omega) (by omega) (by omega) (by omega)), ⟨ht1, by rw [p2]; exact ht2, ?_, fun i hi => ?_⟩, Or.inl ?_⟩
    · rw [p4 6 (by omega), k7 6 (by omega) (by omega), j2 6 (by omega)]
      exact ht3
    · rw [p1 (102 + 1 + 1) (by omega) (by omega) (by omega) (by omega), k6b, o2 (102 + 1 + 1) (by omega), p3 4 (by omega) (by omega) (by omega) (by omega), k8 4 (by omega) (by omega), n2 4 (by omega)]
      exact ht4 i hi
    · rw [r6.1 97 (by omega) (by omega) (by omega), st2_nk (by omega), st2_nk (by omega), st2_ss]
      rfl
