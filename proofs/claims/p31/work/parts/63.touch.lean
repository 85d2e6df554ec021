/-! ===== a node's edges and neighbours: both sides ===== -/
def dgP (A : Nat → Nat) (v : Nat) : Nat → Bool := fun k => A (56 + k) == v || A (96 + k) == v
theorem en0 : ∀ a, a < 12 → ∀ b, b < 12 → ∀ v, v < 12 → decide ((nI (2 ^ a ||| 2 ^ b) &&& nI (2 ^ v)) = 0) = !(a == v || b == v) := by decide +kernel
theorem en_1 {A : Nat → Nat} {k v : Nat} (ha : A (56 + k) < 12) (hb : A (96 + k) < 12) (hv : v < 12) : ((nI (2 ^ A (56 + k) ||| 2 ^ A (96 + k)) &&& nI (2 ^ v)) = 0) ↔ ¬ dgP A v k = true := by
  have h := en0 _ ha _ hb v hv
  unfold dgP
  constructor
  · intro q z
    rw [decide_eq_true q, z] at h
    cases h
  · intro q
    refine of_decide_eq_true ?_
    rw [h, Bool.eq_false_iff.mpr q]; rfl
theorem c_endsOf {σ : cS} {g : Nat} {A : Nat → Nat} {B k : Nat} (hL : LG g) (hg : GR σ g A) (w : WF A B) (hk : k < A 3) : fX0_endsOf (lCt ()) σ g (nI k) = some (nI (2 ^ A (56 + k) ||| 2 ^ A (96 + k))) := by
  have w2 := w.2.1
  have w3 := w.2.2.1
  have wk := w.2.2.2.2.1 k hk
  unfold fX0_endsOf fX0_endsOf_0
  rw [row_get hL.2.1 (show k < 40 by omega) (by omega), hg.2.2.2.2.2.1 k hk, Option.bind_some, row_get hL.2.2.1 (show k < 40 by omega) (by omega), hg.2.2.2.2.2.2.1 k hk, Option.bind_some, show ((1 : Int32) <<< (nI (A (56 + k)) &&& 31)) = nI (2 ^ A (56 + k)) from sh1 _ (by omega), show ((1 : Int32) <<< (nI (A (96 + k)) &&& 31)) = nI (2 ^ A (96 + k)) from sh1 _ (by omega), nI_or]
theorem c_deg_loop {σ : cS} {g : Nat} {A : Nat → Nat} {B v Nf : Nat} (hL : LG g) (hg : GR σ g A) (w : WF A B) (hv : v < 12) : ∀ (d i n : Nat), i + d = A 3 → d < n → fX0_edgesOf_4 (lCt ()) Nf σ g n (nI v) (nI (cnt (dgP A v) i)) (nI i) = some (nI (cnt (dgP A v) (A 3))) := by
  have w2 := w.2.1
  have w3 := w.2.2.1
  intro d
  induction d with
  | zero =>
    intro i n h1 hn
    obtain ⟨n, rfl⟩ : ∃ z, n = z + 1 := ⟨n - 1, by omega⟩
    unfold fX0_edgesOf_4
    rw [hg.2.1, if_pos ((nI_leI (by omega) (by omega)).mpr (by omega)), show i = A 3 by omega]
  | succ d ih =>
    intro i n h1 hn
    obtain ⟨n, rfl⟩ : ∃ z, n = z + 1 := ⟨n - 1, by omega⟩
    have wk := w.2.2.2.2.1 i (by omega)
    have h2 := ih (i + 1) n (by omega) (by omega)
    simp only [cnt] at h2
    unfold fX0_edgesOf_4
    rw [hg.2.1, if_neg (fun q => absurd ((nI_leI (by omega) (by omega)).mp q) (by omega)), c_endsOf hL hg w (by omega), Option.bind_some, show ((1 : Int32) <<< (nI v &&& 31)) = nI (2 ^ v) from sh1 _ (by omega)]
    unfold fX0_edgesOf_27
    by_cases e : dgP A v i = true
    · rw [if_neg (fun q => (en_1 (by omega) (by omega) hv).mp q e), n1, nI_add, bnd_e, nI_add, bnd_e]
      rw [if_pos e] at h2
      exact h2
    · rw [if_pos ((en_1 (by omega) (by omega) hv).mpr e), n1, nI_add, bnd_e]
      rw [if_neg e] at h2
      exact h2
theorem c_deg {σ : cS} {g : Nat} {A : Nat → Nat} {B v Nf : Nat} (hL : LG g) (hg : GR σ g A) (w : WF A B) (hv : v < 12) (hf : 40 < Nf) : fX0_edgesOf (lCt ()) Nf σ g (nI v) = some (nI (cnt (dgP A v) (A 3))) := by
  have w3 := w.2.2.1
  unfold fX0_edgesOf fX0_edgesOf_0
  rw [n0]
  exact c_deg_loop hL hg w hv (A 3) 0 Nf (by omega) (by omega)
