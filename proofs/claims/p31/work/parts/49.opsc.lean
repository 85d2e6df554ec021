/-! ===== orders: capacity, edges, text, undo ===== -/
theorem in_pred {x : Int32} {M : Nat} (hM : M < 2 ^ 31) : inI x (nI 0) (nI M - nI 1) = decide (¬ x < nI 0 ∧ x < nI M) := by
  unfold inI
  cases M with
  | zero =>
    by_cases h : x < nI 0
    · rw [decide_eq_false (fun q => q.1 h), decide_eq_false (fun q => q.1 h)]
    · rw [show decide (¬ x < nI 0 ∧ x < nI 0) = false from decide_eq_false (fun q => h q.2)]
      refine decide_eq_false (fun q => q.2 ?_)
      have e : (nI 0 - nI 1 : Int32).toInt = -1 := by decide
      have e0 : (nI 0 : Int32).toInt = 0 := by decide
      rw [Int32.lt_iff_toInt_lt, e0] at h
      rw [Int32.lt_iff_toInt_lt, e]
      omega
  | succ m =>
    rw [show nI (m + 1) - nI 1 = nI m from nI_pred m]
    have e : (nI m < x) = ¬ (x < nI (m + 1)) := by
      have h1 := ge_pred (x := x) (n := m + 1) (by omega) hM
      rw [Nat.add_sub_cancel] at h1
      rw [← h1]
      exact propext Int32.not_lt.symm
    by_cases h : x < nI 0
    · rw [decide_eq_false (fun q => q.1 h), decide_eq_false (fun q => q.1 h)]
    · by_cases h2 : x < nI (m + 1)
      · rw [decide_eq_true ⟨h, fun q => by rw [e] at q; exact q h2⟩, decide_eq_true ⟨h, h2⟩]
      · rw [decide_eq_false (fun q => q.2 (by rw [e]; exact h2)), decide_eq_false (fun q => h2 q.2)]
theorem cap_o {A : Nat → Nat} {v c j : Nat} (hv : v < 12) (hj : j < 4 ∨ 16 ≤ j) : up A (4 + v) c j = A j := up_o (by omega)
theorem cap_hd {A : Nat → Nat} {v c k : Nat} (hv : v < 12) : hd (up A (4 + v) c) k = hd A k := by
  unfold hd
  rw [cap_o hv (by omega), cap_o hv (by omega), cap_o hv (by omega)]
theorem cap_ld {A : Nat → Nat} {v c u : Nat} (hv : v < 12) : ld (up A (4 + v) c) u = ld A u := by
  unfold ld
  rw [cap_o hv (by omega)]
  exact cnt_ext (fun k _ => by rw [cap_hd hv])
theorem cap_inn {A : Nat → Nat} {v c s : Nat} (hv : v < 12) : inn (up A (4 + v) c) s = inn A s := by
  unfold inn
  rw [cap_o hv (by omega)]
  exact cnt_ext (fun k _ => by rw [cap_o hv (by omega), cap_o hv (by omega)])
theorem cap_WF {A : Nat → Nat} {B v c : Nat} (w : WF A B) (hv : v < 12) (hc : c ≤ 40) : WF (up A (4 + v) c) B := by
  obtain ⟨w1, w2, w3, w4, w5, w6, w7⟩ := w
  refine ⟨?_, ?_, ?_, ?_, fun k hk => ?_, fun j k hj hk => ?_, fun u hu => ?_⟩
  · rw [cap_o hv (by omega)]; exact w1
  · rw [cap_o hv (by omega)]; exact w2
  · rw [cap_o hv (by omega)]; exact w3
  · rw [cap_o hv (by omega)]; exact w4
  · rw [cap_o hv (by omega)] at hk
    rw [cap_o hv (by omega), cap_o hv (by omega), cap_o hv (by omega), cap_o hv (by omega), cap_o hv (by omega), cap_o hv (by omega)]
    exact w5 k hk
  · rw [cap_o hv (by omega)] at hk
    rw [cap_o hv (by omega), cap_o hv (by omega)]
    exact w6 j k hj hk
  · by_cases e : u = v
    · subst e; rw [up_s]; exact hc
    · rw [up_o (by omega)]; exact w7 u hu
theorem cap_GR {σ : cS} {A : Nat → Nat} {v c : Nat} (h : GR σ 0 A) (hv : v < 12) : GR (st2 σ (0 + 13 + 1) v (nI c)) 0 (up A (4 + v) c) := by
  obtain ⟨a1, a2, a3, a4, a5, a6, a7, a8, a9, a10, a11⟩ := h
  refine ⟨?_, ?_, ?_, ?_, fun k hk => ?_, fun k hk => ?_, fun k hk => ?_, fun k hk => ?_, fun k hk => ?_, fun u hu => ?_, fun u hu => ?_⟩
  · rw [st2_nk (by omega), cap_o hv (by omega)]; exact a1
  · rw [st2_nk (by omega), cap_o hv (by omega)]; exact a2
  · rw [st2_nk (by omega), cap_o hv (by omega)]; exact a3
  · rw [st2_nk (by omega), cap_o hv (by omega)]; exact a4
  · rw [cap_o hv (by omega)] at hk; rw [st2_nk (by omega), cap_o hv (by omega)]; exact a5 k hk
  · rw [cap_o hv (by omega)] at hk; rw [st2_nk (by omega), cap_o hv (by omega)]; exact a6 k hk
  · rw [cap_o hv (by omega)] at hk; rw [st2_nk (by omega), cap_o hv (by omega)]; exact a7 k hk
  · rw [cap_o hv (by omega)] at hk; rw [st2_nk (by omega), cap_hd hv]; exact a8 k hk
  · rw [cap_o hv (by omega)] at hk; rw [st2_nk (by omega), cap_o hv (by omega)]; exact a9 k hk
  · rw [st2_nk (by omega), cap_ld hv]; exact a10 u hu
  · by_cases e : u = v
    · subst e; rw [st2_ss, up_s]
    · rw [st2_nj e, up_o (by omega)]; exact a11 u hu
