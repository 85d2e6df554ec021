/-! ===== tooDense, answered alike ===== -/
def tds (g h : Nat → Nat) : Nat → Int32 × Nat
  | 0 => ((-1 : Int32), 0)
  | n + 1 => if h (n + 1) + (tds g h n).2 < g (n + 1) then (nI (n + 1), g (n + 1) - h (n + 1)) else tds g h n
theorem tds_le {g h : Nat → Nat} (hg : ∀ s, g s ≤ 40) : ∀ n, (tds g h n).2 ≤ 40 := by
  intro n
  induction n with
  | zero => exact Nat.zero_le _
  | succ n ih =>
    rw [tds]
    split
    · exact Nat.le_trans (Nat.sub_le _ _) (hg _)
    · exact ih
theorem sb_le {a b m : Nat} (ha : a < 1000) (hb : b < 1000) (hm : m < 1000) : (nI a - nI b ≤ nI m) ↔ a ≤ b + m := by
  rw [Int32.le_iff_toInt_le, sb_int ha hb, nI_toInt (by omega)]
  omega
theorem sm_le {W : Nat → Nat} {s n : Nat} (h : ∀ v, v < n → W v ≤ 40) : sm W s n ≤ 40 * n := by
  induction n with
  | zero => exact Nat.le_refl _
  | succ n ih =>
    have h1 := ih (fun v hv => h v (by omega))
    have h2 := h n (by omega)
    simp only [sm]
    split <;> omega
def cps (A : Nat → Nat) (s : Nat) : Nat := sm (fun v => A (4 + v)) s (A 0)
theorem cps_le {A : Nat → Nat} {B : Nat} (w : WF A B) (s : Nat) : cps A s ≤ 480 := by
  have w2 := w.2.1
  have := sm_le (W := fun v => A (4 + v)) (s := s) (n := A 0) (fun v hv => w.2.2.2.2.2.2 v (by omega))
  unfold cps
  omega
theorem c_full_loop {σ : cS} {A : Nat → Nat} {B Nf : Nat} {g h : Nat → Nat} (h3 : σ 97 3 = nI (2 ^ A 0)) (w : WF A B) (hg : ∀ s, s < 2 ^ A 0 → σ (97 + 1) s = nI (g s)) (hh : ∀ s, s < 2 ^ A 0 → σ (97 + 2) s = nI (h s)) (lg : ∀ s, g s ≤ 40) (lh : ∀ s, h s ≤ 480) : ∀ (d i n : Nat), i + 1 + d = 2 ^ A 0 → d < n → fX3_mostOverfull_18 (lCt ()) Nf 97 13 n (tds g h i).1 (nI (tds g h i).2) (nI (i + 1)) σ = some ((tds g h (2 ^ A 0 - 1)).1, σ) := by
  have w2 := w.2.1
  have hpw : 2 ^ A 0 ≤ 4096 := Nat.pow_le_pow_right (by omega) w2 (n := 2)
  intro d
  induction d with
  | zero =>
    intro i n h1 hn
    obtain ⟨n, rfl⟩ : ∃ z, n = z + 1 := ⟨n - 1, by omega⟩
    unfold fX3_mostOverfull_18 fX3_mostOverfull_84
    rw [h3, if_pos ((nI_leI (by omega) (by omega)).mpr (by omega)), show 2 ^ A 0 - 1 = i by omega]
  | succ d ih =>
    intro i n h1 hn
    obtain ⟨n, rfl⟩ : ∃ z, n = z + 1 := ⟨n - 1, by omega⟩
    have h2 := ih (i + 1) n (by omega) (by omega)
    have t1 := tds_le (h := h) lg i
    have t2 := lg (i + 1)
    have t3 := lh (i + 1)
    unfold fX3_mostOverfull_18
    rw [h3, if_neg (fun q => absurd ((nI_leI (by omega) (by omega)).mp q) (by omega)), lt98, show lCt () (97 + 2) = 4096 from rfl, ofNat_n, if_neg (fun q => absurd ((nI_leI (by omega) (by omega)).mp q) (by omega)), if_neg (fun q => absurd ((nI_leI (by omega) (by omega)).mp q) (by omega)), inb_n (by omega) (by omega), grd_t, grd_t, nI_clamp (by omega), hg (i + 1) (by omega), hh (i + 1) (by omega), bnd_e]
    unfold fX3_mostOverfull_78
    rw [n1, nI_add, bnd_e, bnd_e]
    rw [tds] at h2
    by_cases e : h (i + 1) + (tds g h i).2 < g (i + 1)
    · rw [if_neg (fun q => absurd ((sb_le (by omega) (by omega) (by omega)).mp q) (by omega)), nI_sub (by omega)]
      rw [if_pos e] at h2
      exact h2
    · rw [if_pos ((sb_le (by omega) (by omega) (by omega)).mpr (by omega))]
      rw [if_neg e] at h2
      exact h2
theorem sb_sb (x : Int32) (p q : Nat) : x - nI p - nI q = x - nI (p + q) := by
  rw [← nI_add]
  simp only [Int32.sub_eq_add_neg, Int32.neg_add, Int32.add_assoc]
theorem m_td_in {τ : cS} {A : Nat → Nat} {B Nf : Nat} {self : Int32 → Int32 → Int32 → cS → Option (Int32 × cS)} {best : Int32} {most p a : Nat} (hm : MR τ A) (w : WF A B) (hp : p < 4096) (ha : a ≤ 40) (hmo : most ≤ 40) : ∀ (d i n : Nat), i + d = A 0 → d < n → fX7_tooDense_35 (lMt ()) Nf 0 self n best (nI most) (nI p) (nI a - nI (sm (fun v => A (4 + v)) p i)) (nI i) τ = if cps A p + most < a then self (nI p) (nI (a - cps A p)) (nI (p + 1)) τ else self best (nI most) (nI (p + 1)) τ := by
  have w2 := w.2.1
  have hc := cps_le w p
  intro d
  induction d with
  | zero =>
    intro i n h1 hn
    obtain ⟨n, rfl⟩ : ∃ z, n = z + 1 := ⟨n - 1, by omega⟩
    have e : sm (fun v => A (4 + v)) p i = cps A p := by rw [show i = A 0 by omega]; rfl
    unfold fX7_tooDense_35 fX7_tooDense_91 fX7_tooDense_104
    rw [show inb (0 : Int32) (lMt () (0 + 1)) = true from rfl, grd_t, show τ (0 + 1) (0 : Int32).toNatClampNeg = nI (A 0) from hm 0 (by omega), if_pos ((nI_leI (by omega) (by omega)).mpr (by omega)), e, n1, nI_add, bnd_e, bnd_e, bnd_e, bnd_e]
    by_cases c1 : cps A p + most < a
    · rw [if_neg (fun q => absurd ((sb_le (by omega) (by omega) (by omega)).mp q) (by omega)), if_neg (fun q => absurd ((sb_le (by omega) (by omega) (by omega)).mp q) (by omega)), if_pos c1, nI_sub (by omega)]
    · rw [if_pos ((sb_le (by omega) (by omega) (by omega)).mpr (by omega)), if_pos ((sb_le (by omega) (by omega) (by omega)).mpr (by omega)), if_neg c1]
  | succ d ih =>
    intro i n h1 hn
    obtain ⟨n, rfl⟩ : ∃ z, n = z + 1 := ⟨n - 1, by omega⟩
    have h2 := ih (i + 1) n (by omega) (by omega)
    have s1 : ((nI p >>> (nI i &&& 31)) &&& (1 : Int32)) = nI (if p.testBit i = true then 1 else 0) := shr hp (by omega)
    simp only [sm] at h2
    unfold fX7_tooDense_35 fX7_tooDense_71
    rw [show inb (0 : Int32) (lMt () (0 + 1)) = true from rfl, grd_t, show τ (0 + 1) (0 : Int32).toNatClampNeg = nI (A 0) from hm 0 (by omega), if_neg (fun q => absurd ((nI_leI (by omega) (by omega)).mp q) (by omega)), s1]
    cases e : p.testBit i with
    | true =>
      rw [e, if_pos rfl] at h2
      rw [if_pos rfl, if_pos (by decide), show (4 : Int32) = nI 4 from rfl, nI_add, show lMt () (0 + 1) = 216 from rfl, inb_n (by omega) (by omega), grd_t, nI_clamp (by omega), show τ (0 + 1) (4 + i) = nI (A (4 + i)) from hm _ (by omega), sb_sb, n1, nI_add, bnd_e, bnd_e]
      exact h2
    | false =>
      rw [e, if_neg (by decide)] at h2
      rw [if_neg (show ¬ (false = true) by decide), if_neg (by decide), show (0 : Int32) = nI 0 from rfl, sb_sb, n1, nI_add, bnd_e, bnd_e]
      exact h2
theorem m_td_loop {τ : cS} {A : Nat → Nat} {B Nf : Nat} (hm : MR τ A) (w : WF A B) (hF : 5000 < Nf) : ∀ (d i n : Nat), i + 1 + d = 2 ^ A 0 → d < n → fX7_tooDense_11 (lMt ()) Nf 0 n (tds (inn A) (cps A) i).1 (nI (tds (inn A) (cps A) i).2) (nI (i + 1)) τ = some ((tds (inn A) (cps A) (2 ^ A 0 - 1)).1, τ) := by
  have w2 := w.2.1
  have hpw : 2 ^ A 0 ≤ 4096 := Nat.pow_le_pow_right (by omega) w2 (n := 2)
  have sv : ((1 : Int32) <<< (nI (A 0) &&& 31)) = nI (2 ^ A 0) := sh1 _ (by omega)
  have e0 : τ (0 + 1) (0 : Int32).toNatClampNeg = nI (A 0) := hm 0 (by omega)
  have ib : inb (0 : Int32) (lMt () (0 + 1)) = true := rfl
  intro d
  induction d with
  | zero =>
    intro i n h1 hn
    obtain ⟨n, rfl⟩ : ∃ z, n = z + 1 := ⟨n - 1, by omega⟩
    unfold fX7_tooDense_11
    rw [ib, grd_t, e0, sv, if_pos ((nI_leI (by omega) (by omega)).mpr (by omega)), show 2 ^ A 0 - 1 = i by omega]
  | succ d ih =>
    intro i n h1 hn
    obtain ⟨n, rfl⟩ : ∃ z, n = z + 1 := ⟨n - 1, by omega⟩
    have h2 := ih (i + 1) n (by omega) (by omega)
    have t1 := tds_le (h := cps A) (inn_le w) i
    have t2 := inn_le w (i + 1)
    have h4 := m_td_in (Nf := Nf) (self := fX7_tooDense_11 (lMt ()) Nf 0 n) (best := (tds (inn A) (cps A) i).1) (most := (tds (inn A) (cps A) i).2) (p := i + 1) (a := inn A (i + 1)) hm w (by omega) t2 t1 (A 0) 0 Nf (by omega) (by omega)
    unfold fX7_tooDense_11
    rw [ib, grd_t, e0, sv, if_neg (fun q => absurd ((nI_leI (by omega) (by omega)).mp q) (by omega)), m_innerOf hm w (by omega) (by omega), Option.bind_some]
    have z : nI (inn A (i + 1)) - nI (sm (fun v => A (4 + v)) (i + 1) 0) = nI (inn A (i + 1)) := nI_sub (b := 0) (Nat.zero_le _)
    rw [z] at h4
    rw [n0, h4]
    rw [tds] at h2
    by_cases e : cps A (i + 1) + (tds (inn A) (cps A) i).2 < inn A (i + 1)
    · rw [if_pos e] at h2 ⊢
      exact h2
    · rw [if_neg e] at h2 ⊢
      exact h2
theorem op_tooDense {σ τ : cS} {B Nf : Nat} (hf : 5000 < Nf) (x1 x2 x3 : Int32) (h hm0 : Int64) (iv : IV σ τ B) : ∃ r, gL_c16 Nf x1 x2 x3 h σ hm0 τ = some r ∧ PI4 B r := by
  obtain ⟨A, Hs, q, c, len, hm, hg, w, hh, ht, hp⟩ := iv
  have w2 := w.2.1
  have hpw : 2 ^ A 0 ≤ 4096 := Nat.pow_le_pow_right (by omega) w2 (n := 2)
  have hp1 : 1 ≤ 2 ^ A 0 := Nat.one_le_two_pow
  obtain ⟨σ', g1, g2, g3, g4⟩ := c_learn (Nf := Nf) w hf hg hp
  have hg' : GR σ' 0 A := GR_keep hg (fun c _ _ => g4 c (by omega) (by omega) (by omega))
  obtain ⟨σ2, k1, k2, k3, k4⟩ := c_sums (k0 := 97 + 2) (k2 := 13) (fr := 0) (nd := A 0) (Nf := Nf) (σ := σ') (W := fun v => A (4 + v)) (by omega) rfl rfl w2 (by omega) hf hg'.2.2.2.2.2.2.2.2.2.2
  have m1 := c_full_loop (σ := σ2) (Nf := Nf) (g := inn A) (h := cps A) (by rw [k3 97 (by omega)]; exact g2.1) w (fun s hs => by rw [k3 (97 + 1) (by omega)]; exact g2.2.1 s hs) (fun s hs => by have := k2 s hs; rw [Nat.zero_add] at this; exact this) (inn_le w) (cps_le w) (2 ^ A 0 - 1) 0 Nf (by omega) (by omega)
  have m2 := m_td_loop (τ := st2 τ 0 7 (nI 0)) (Nf := Nf) (MR_out hm (by omega)) w hf (2 ^ A 0 - 1) 0 Nf (by omega) (by omega)
  unfold gL_c16
  refine bind_x (a := ((tds (inn A) (cps A) (2 ^ A 0 - 1)).1, σ2)) ?_ ?_
  · unfold fX6_tooDense fX6_tooDense_0 fX3_mostOverfull fX3_mostOverfull_0
    rw [g1, Option.bind_some, hg'.1, n0, k1, Option.bind_some]
    show Option.bind (fX3_mostOverfull_18 (lCt ()) Nf 97 13 Nf (tds (inn A) (cps A) 0).1 (nI (tds (inn A) (cps A) 0).2) (nI (0 + 1)) σ2) _ = _
    rw [m1]; rfl
  refine bind_x (a := ((tds (inn A) (cps A) (2 ^ A 0 - 1)).1, st2 τ 0 7 (nI 0))) ?_ ?_
  · exact m2
  exact grd_x (decide_eq_true rfl) (some_x (IV_lrn hm hg w hh ht (TB_keep g2 (k3 97 (by omega)) (k3 98 (by omega)) rfl (fun _ => rfl)) (by rw [k3 97 (by omega)]; exact g3) (fun c h1 h2 h5 h4 => by rw [k3 c h5, g4 c h1 h2 h4]) _))
