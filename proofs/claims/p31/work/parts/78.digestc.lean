/-! ===== digest: what is mixed in, and the class's way ===== -/
def hx (h : Int64) (v : Int32) : Int64 := (31 : Int64) * h + v.toInt64
def hvs (A : Nat → Nat) : Nat → Nat → Int64 → Int64
  | 0, _, h => h
  | d + 1, i, h => hvs A d (i + 1) (hx h (vI A i))
def hns (A : Nat → Nat) (s : Nat) : Nat → Nat → Int64 → Int64
  | 0, _, h => h
  | d + 1, j, h => hns A s d (j + 1) (hx h (ndI A s j))
def hnn (A : Nat → Nat) : Nat → Nat → Int64 → Int64
  | 0, _, h => h
  | d + 1, s, h => hnn A d (s + 1) (hns A s 5 0 h)
def hes (A : Nat → Nat) (k : Nat) : Nat → Nat → Int64 → Int64
  | 0, _, h => h
  | d + 1, j, h => hes A k d (j + 1) (hx h (eI A k (nI j)))
def hee (A : Nat → Nat) : Nat → Nat → Int64 → Int64
  | 0, _, h => h
  | d + 1, k, h => hee A d (k + 1) (hes A k 4 0 (hx h (nI (A (16 + k)))))
theorem ibn_l {α β γ : Type} {a : α} {f : α → Option γ} : ibn (some (.inl a) : Option (α ⊕ β)) f = f a := rfl
theorem isN_y {A : Nat → Nat} {B s : Nat} (w : WF A B) (hs : s < A 0) : isN A (nI s) = true := by
  have w2 := w.2.1
  exact inI_y (by omega) (by omega) (by omega) (by omega) (by omega)
theorem fnd_at {p : Nat → Bool} {k : Nat} : ∀ (d i : Nat), i ≤ k → k < i + d → (∀ j, i ≤ j → j < k → p j = false) → p k = true → fnd p i d = some k := by
  intro d
  induction d with
  | zero => intro i h1 h2; omega
  | succ d ih =>
    intro i h1 h2 h3 h4
    simp only [fnd]
    by_cases e : i = k
    · subst e; rw [if_pos h4]
    · rw [h3 i (Nat.le_refl _) (by omega), if_neg (by decide)]
      exact ih (i + 1) (by omega) (by omega) (fun j j1 j2 => h3 j (by omega) j2) h4
theorem plc_own {A : Nat → Nat} {B k : Nat} (w : WF A B) (hB : B < 2 ^ 30) (hk : k < A 3) : plc A (nI (A (16 + k))) = some k := by
  obtain ⟨w1, w2, w3, w4, w5, w6, w7⟩ := w
  have hkk := (w5 k hk).2.2.2.2
  refine fnd_at (A 3) 0 (by omega) (by omega) (fun j _ hj => ?_) (decide_eq_true rfl)
  have h1 := w6 j k hj hk
  exact decide_eq_false (fun q => by
    have := (nI_eq (by omega) (by omega)).mp q
    omega)
/-- the four last values -/
def dnI (A : Nat → Nat) : Int32 := nI (dns (inn A) (2 ^ A 0 - 1)).1
def ltI (A : Nat → Nat) : Int32 := nI (lst A (inn A))
def tdI (A : Nat → Nat) : Int32 := (tds (inn A) (cps A) (2 ^ A 0 - 1)).1
theorem c_densest {A : Nat → Nat} {B Nf : Nat} {σ : cS} (w : WF A B) (hF : 5000 < Nf) (hg : GR σ 0 A) (hp : PT σ A) : ∃ σ', fX6_densest (lCt ()) Nf σ 107 = some (dnI A, σ') ∧ TB σ' A ∧ σ' 97 6 = nI 1 ∧ ∀ c, c ≠ 97 → c ≠ 98 → c ≠ 99 → c ≠ 100 + 1 → σ' c = σ c := by
  obtain ⟨σ', g1, g2, g3, g4⟩ := c_learn (Nf := Nf) w hF hg hp
  refine ⟨σ', ?_, g2, g3, fun c h1 h2 _ h4 => g4 c h1 h2 h4⟩
  unfold fX6_densest fX6_densest_0
  rw [g1, Option.bind_some, g2.2.2.1]
  rfl
theorem c_leastL {A : Nat → Nat} {B Nf : Nat} {σ : cS} (w : WF A B) (hF : 5000 < Nf) (hg : GR σ 0 A) (hp : PT σ A) : ∃ σ', fX6_least (lCt ()) Nf σ 107 = some (ltI A, σ') ∧ TB σ' A ∧ σ' 97 6 = nI 1 ∧ ∀ c, c ≠ 97 → c ≠ 98 → c ≠ 99 → c ≠ 100 + 1 → σ' c = σ c := by
  obtain ⟨σ', g1, g2, g3, g4⟩ := c_learn (Nf := Nf) w hF hg hp
  refine ⟨σ', ?_, g2, g3, fun c h1 h2 _ h4 => g4 c h1 h2 h4⟩
  unfold fX6_least fX6_least_0
  rw [g1, Option.bind_some, g2.2.2.2]
  rfl
theorem c_tooD {A : Nat → Nat} {B Nf : Nat} {σ : cS} (w : WF A B) (hF : 5000 < Nf) (hg : GR σ 0 A) (hp : PT σ A) : ∃ σ', fX6_tooDense (lCt ()) Nf σ 107 = some (tdI A, σ') ∧ TB σ' A ∧ σ' 97 6 = nI 1 ∧ ∀ c, c ≠ 97 → c ≠ 98 → c ≠ 99 → c ≠ 100 + 1 → σ' c = σ c := by
  have w2 := w.2.1
  have hpw : 2 ^ A 0 ≤ 4096 := Nat.pow_le_pow_right (by omega) w2 (n := 2)
  have hp1 : 1 ≤ 2 ^ A 0 := Nat.one_le_two_pow
  obtain ⟨σ', g1, g2, g3, g4⟩ := c_learn (Nf := Nf) w hF hg hp
  have hg' : GR σ' 0 A := GR_keep hg (fun c _ _ => g4 c (by omega) (by omega) (by omega))
  obtain ⟨σ2, k1, k2, k3, k4⟩ := c_sums (k0 := 97 + 2) (k2 := 13) (fr := 0) (nd := A 0) (Nf := Nf) (σ := σ') (W := fun v => A (4 + v)) (by omega) rfl rfl w2 (by omega) hF hg'.2.2.2.2.2.2.2.2.2.2
  have m1 := c_full_loop (σ := σ2) (Nf := Nf) (g := inn A) (h := cps A) (by rw [k3 97 (by omega)]; exact g2.1) w (fun s hs => by rw [k3 (97 + 1) (by omega)]; exact g2.2.1 s hs) (fun s hs => by have := k2 s hs; rw [Nat.zero_add] at this; exact this) (inn_le w) (cps_le w) (2 ^ A 0 - 1) 0 Nf (by omega) (by omega)
  refine ⟨σ2, ?_, TB_keep g2 (k3 97 (by omega)) (k3 98 (by omega)) rfl (fun _ => rfl), by rw [k3 97 (by omega)]; exact g3, fun c h1 h2 h5 h4 => by rw [k3 c h5, g4 c h1 h2 h4]⟩
  unfold fX6_tooDense fX6_tooDense_0 fX3_mostOverfull fX3_mostOverfull_0
  rw [g1, Option.bind_some, hg'.1, n0, k1, Option.bind_some]
  show Option.bind (fX3_mostOverfull_18 (lCt ()) Nf 97 13 Nf (tds (inn A) (cps A) 0).1 (nI (tds (inn A) (cps A) 0).2) (nI (0 + 1)) σ2) _ = _
  rw [m1]; rfl
