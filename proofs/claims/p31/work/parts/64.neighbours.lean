/-! ===== a node's neighbours: both sides ===== -/
def cac (A : Nat → Nat) (v : Nat) : Nat → Nat
  | 0 => 0
  | k + 1 => if dgP A v k = true then cac A v k ||| (2 ^ A (56 + k) ||| 2 ^ A (96 + k)) else cac A v k
def ngb (A : Nat → Nat) (v : Nat) : Nat → Nat
  | 0 => 0
  | k + 1 => ngb A v k ||| (if A (56 + k) = v then 2 ^ A (96 + k) else if A (96 + k) = v then 2 ^ A (56 + k) else 0)
theorem mk0 : ∀ a, a < 12 → ∀ b, b < 12 → a ≠ b → (2 ^ a ||| 2 ^ b) &&& (4095 ^^^ 2 ^ a) = 2 ^ b ∧ (2 ^ a ||| 2 ^ b) &&& (4095 ^^^ 2 ^ b) = 2 ^ a := by decide +kernel
theorem mk1 : ∀ a, a < 64 → ∀ b, b < 64 → ∀ v, v < 12 → (nI (64 * a + b) &&& (nI (2 ^ v) ^^^ (-1 : Int32))) = nI ((64 * a + b) &&& (4095 ^^^ 2 ^ v)) := by decide +kernel
theorem mk2 {s v : Nat} (hs : s < 4096) (hv : v < 12) : (nI s &&& (nI (2 ^ v) ^^^ (-1 : Int32))) = nI (s &&& (4095 ^^^ 2 ^ v)) := by
  have h := mk1 (s / 64) (by omega) (s % 64) (Nat.mod_lt _ (by omega)) v hv
  rw [show 64 * (s / 64) + s % 64 = s from Nat.div_add_mod s 64] at h
  exact h
theorem pw12 : ∀ a, a < 12 → 2 ^ a < 2 ^ 12 := by decide +kernel
theorem cac_lt {A : Nat → Nat} {B v : Nat} (w : WF A B) : ∀ k, k ≤ A 3 → cac A v k < 2 ^ 12 := by
  have w2 := w.2.1
  intro k
  induction k with
  | zero => intro _; exact (by decide : (0 : Nat) < 2 ^ 12)
  | succ k ih =>
    intro hk
    have wk := w.2.2.2.2.1 k (by omega)
    simp only [cac]
    split
    · exact Nat.or_lt_two_pow (ih (by omega)) (Nat.or_lt_two_pow (pw12 _ (by omega)) (pw12 _ (by omega)))
    · exact ih (by omega)
theorem ngb_lt {A : Nat → Nat} {B v : Nat} (w : WF A B) : ∀ k, k ≤ A 3 → ngb A v k < 2 ^ 12 := by
  have w2 := w.2.1
  intro k
  induction k with
  | zero => intro _; exact (by decide : (0 : Nat) < 2 ^ 12)
  | succ k ih =>
    intro hk
    have wk := w.2.2.2.2.1 k (by omega)
    simp only [ngb]
    refine Nat.or_lt_two_pow (ih (by omega)) ?_
    split
    · exact pw12 _ (by omega)
    · split
      · exact pw12 _ (by omega)
      · exact (by decide : (0 : Nat) < 2 ^ 12)
theorem cac_ngb {A : Nat → Nat} {B v : Nat} (w : WF A B) : ∀ k, k ≤ A 3 → cac A v k &&& (4095 ^^^ 2 ^ v) = ngb A v k := by
  have w2 := w.2.1
  intro k
  induction k with
  | zero => intro _; exact Nat.zero_and _
  | succ k ih =>
    intro hk
    have wk := w.2.2.2.2.1 k (by omega)
    have hi := ih (by omega)
    simp only [cac, ngb]
    by_cases e1 : A (56 + k) = v
    · rw [if_pos (show dgP A v k = true by unfold dgP; rw [e1, beq_self_eq_true]; rfl), if_pos e1, Nat.and_or_distrib_right, hi, ← e1, (mk0 _ (by omega) _ (by omega) wk.2.2.1).1]
    · by_cases e2 : A (96 + k) = v
      · rw [if_pos (show dgP A v k = true by unfold dgP; rw [e2, beq_self_eq_true, Bool.or_true]), if_neg e1, if_pos e2, Nat.and_or_distrib_right, hi, ← e2, (mk0 _ (by omega) _ (by omega) wk.2.2.1).2]
      · rw [if_neg (show ¬ dgP A v k = true by unfold dgP; rw [beq_eq_false_iff_ne.mpr e1, beq_eq_false_iff_ne.mpr e2]; decide), if_neg e1, if_neg e2, hi, Nat.or_zero]
theorem c_ngb_loop {σ : cS} {g : Nat} {A : Nat → Nat} {B v Nf : Nat} (hL : LG g) (hg : GR σ g A) (w : WF A B) (hv : v < 12) : ∀ (d i n : Nat), i + d = A 3 → d < n → fX0_neighboursOf_4 (lCt ()) Nf σ g n (nI v) (nI (cac A v i)) (nI i) = some (nI (ngb A v (A 3))) := by
  have w2 := w.2.1
  have w3 := w.2.2.1
  intro d
  induction d with
  | zero =>
    intro i n h1 hn
    obtain ⟨n, rfl⟩ : ∃ z, n = z + 1 := ⟨n - 1, by omega⟩
    have hl := cac_lt (v := v) w i (by omega)
    unfold fX0_neighboursOf_4
    rw [hg.2.1, if_pos ((nI_leI (by omega) (by omega)).mpr (by omega)), show ((1 : Int32) <<< (nI v &&& 31)) = nI (2 ^ v) from sh1 _ (by omega), mk2 (by omega) hv, cac_ngb w i (by omega), show i = A 3 by omega]
  | succ d ih =>
    intro i n h1 hn
    obtain ⟨n, rfl⟩ : ∃ z, n = z + 1 := ⟨n - 1, by omega⟩
    have wk := w.2.2.2.2.1 i (by omega)
    have h2 := ih (i + 1) n (by omega) (by omega)
    simp only [cac] at h2
    unfold fX0_neighboursOf_4
    rw [hg.2.1, if_neg (fun q => absurd ((nI_leI (by omega) (by omega)).mp q) (by omega)), c_endsOf hL hg w (by omega), Option.bind_some, show ((1 : Int32) <<< (nI v &&& 31)) = nI (2 ^ v) from sh1 _ (by omega)]
    unfold fX0_neighboursOf_32
    by_cases e : dgP A v i = true
    · rw [if_neg (fun q => (en_1 (by omega) (by omega) hv).mp q e), Option.bind_some, nI_or, bnd_e, n1, nI_add, bnd_e]
      rw [if_pos e] at h2
      exact h2
    · rw [if_pos ((en_1 (by omega) (by omega) hv).mpr e), n1, nI_add, bnd_e]
      rw [if_neg e] at h2
      exact h2
theorem c_ngb {σ : cS} {g : Nat} {A : Nat → Nat} {B v Nf : Nat} (hL : LG g) (hg : GR σ g A) (w : WF A B) (hv : v < 12) (hf : 40 < Nf) : fX0_neighboursOf (lCt ()) Nf σ g (nI v) = some (nI (ngb A v (A 3))) := by
  have w3 := w.2.2.1
  unfold fX0_neighboursOf fX0_neighboursOf_0
  rw [n0]
  exact c_ngb_loop hL hg w hv (A 3) 0 Nf (by omega) (by omega)
