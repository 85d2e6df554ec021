/-! ===== the law: the start, each call, all calls ===== -/
theorem mI_row : ∀ i, i < 216 → mI 1 i = nI (zrA 6 i) := by decide +kernel
theorem start_0 : σI 0 7 = nI 6 ∧ σI 0 8 = nI 0 ∧ σI 0 9 = nI 0 ∧ σI 0 10 = nI 0 ∧ (∀ v, v < 12 → σI (0 + 11 + 1) v = nI 0) ∧ (∀ v, v < 12 → σI (0 + 13 + 1) v = nI 3) ∧ σI 105 1 = nI 0 ∧ σI 105 2 = nI 0 ∧ mI 0 5 = nI 0 ∧ mI 0 4 = nI 0 ∧ σI 102 1 = nI 0 ∧ mI 0 6 = nI 0 ∧ σI 97 6 = nI 0 := by decide +kernel
theorem IV_start : IV σI mI 0 := by
  obtain ⟨a1, a2, a3, a4, a5, a6, a7, a8, a9, a10, a11, a12, a13⟩ := start_0
  refine ⟨zrA 6, fun _ _ => 0, 0, 0, 0, mI_row, ⟨a1, a2, a3, a4, fun k hk => absurd hk (Nat.not_lt_zero _), fun k hk => absurd hk (Nat.not_lt_zero _), fun k hk => absurd hk (Nat.not_lt_zero _), fun k hk => absurd hk (Nat.not_lt_zero _), fun k hk => absurd hk (Nat.not_lt_zero _), fun v hv => a5 v hv, fun v hv => ?_⟩, zr_WF (by omega) (by omega), ⟨by omega, by omega, a7, a8, a9, a10, fun d i h1 h2 => by omega⟩, ⟨by omega, a11, a12, fun i hi => absurd hi (Nat.not_lt_zero _)⟩, Or.inl a13⟩
  rw [a6 v hv]
  unfold zrA
  rw [if_neg (by omega), if_pos (by omega)]
theorem it_ok {Nf B : Nat} (hf : 300000 < Nf) (hB : B + 100 < 2 ^ 30) (v x1 x2 x3 : Int32) (S : Int64 × cS × Int64 × cS) (iv : IV S.2.1 S.2.2.2 B) : ∃ r, gL_it Nf v x1 x2 x3 S = some r ∧ PI4 B r := by
  have h1 : 1000 < Nf := by omega
  have h5 : 5000 < Nf := by omega
  unfold gL_it
  split
  · exact op_begin h1 _ _ _ _ _ iv
  · exact op_add h1 _ _ _ _ _ iv
  · exact op_remove h1 _ _ _ _ _ iv
  · exact op_turn h1 _ _ _ _ _ iv
  · exact op_relieve h1 _ _ _ _ _ iv
  · exact op_balance hf _ _ _ _ _ iv
  · exact op_setCap h1 _ _ _ _ _ iv
  · exact op_node h1 _ _ _ _ _ iv
  · exact op_edge h1 _ _ _ _ _ iv
  · exact op_edgeAt h1 _ _ _ _ _ iv
  · exact op_value h1 _ _ _ _ _ iv
  · exact op_path h1 _ _ _ _ _ iv
  · exact op_step h1 _ _ _ _ _ iv
  · exact op_inner h1 _ _ _ _ _ iv
  · exact op_densest h5 _ _ _ _ _ iv
  · exact op_least h5 _ _ _ _ _ iv
  · exact op_tooDense h5 _ _ _ _ _ iv
  · exact op_leastWith h5 _ _ _ _ _ iv
  · exact op_leastWithout h5 _ _ _ _ _ iv
  · exact op_critical h5 _ _ _ _ _ iv
  · exact op_turnsToBalance hf _ _ _ _ _ iv
  · exact op_leastCap h5 _ _ _ _ _ iv
  · exact op_density h5 _ _ _ _ _ iv
  · exact op_append _ _ _ _ _ iv
  · exact op_clear _ _ _ _ _ iv
  · exact op_carryOut hB hf _ _ _ _ _ iv
  · exact op_undo h1 _ _ _ _ _ iv
  · exact op_digest (by omega) h5 _ _ _ _ _ iv
  · exact ⟨S, rfl, IV_look iv (by omega) (fun _ _ => rfl) FM_rf⟩
theorem run_ok {Nf L : Nat} (hf : 300000 < Nf) (xs : Nat → Int32) : ∀ (d n T B : Nat) (S : Int64 × cS × Int64 × cS), d < n → L ≤ T + 4 * d + 3 → B + 100 * d < 100000 → IV S.2.1 S.2.2.2 B → gL_run Nf xs L n T S = some () := by
  intro d
  induction d with
  | zero =>
    intro n T B S hn hL hB iv
    obtain ⟨n, rfl⟩ : ∃ z, n = z + 1 := ⟨n - 1, by omega⟩
    rw [gL_run, if_neg (by omega)]
  | succ d ih =>
    intro n T B S hn hL hB iv
    obtain ⟨n, rfl⟩ : ∃ z, n = z + 1 := ⟨n - 1, by omega⟩
    rw [gL_run]
    by_cases e : T + 4 ≤ L
    · rw [if_pos e]
      obtain ⟨r, r1, r2⟩ := it_ok hf (by omega) (xs T) (xs (T + 1)) (xs (T + 2)) (xs (T + 3)) S iv
      rw [r1, Option.bind_some]
      exact ih n (T + 4) (B + 100) r (by omega) (by omega) (by omega) r2
    · rw [if_neg e]
def NF : Nat := 400000
theorem NF_big : 300000 < NF := by unfold NF; omega
theorem run_513 {Nf L : Nat} (hf : 300000 < Nf) (hL : L ≤ 2048) (xs : Nat → Int32) (σ τ : cS) (iv : IV σ τ 0) : gL_run Nf xs L 513 0 (0, σ, 0, τ) = some () := run_ok hf xs 512 513 0 0 (0, σ, 0, τ) (by omega) (by omega) (by omega) iv
theorem law_true (xs : Nat → Int32) (L : Nat) (hL : L ≤ 2048) : gL_run NF xs L 513 0 (0, σI, 0, mI) = some () := run_513 NF_big hL xs σI mI IV_start
