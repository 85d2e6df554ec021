/-! ===== digest: the model's way, and the call, answered alike ===== -/
theorem m_dg18 {τ : cS} {A : Nat → Nat} {B Nf : Nat} (hm : MR τ A) (w : WF A B) (hF : 5000 < Nf) : ∀ (d i n : Nat) (h : Int64), i + d = 8 → d < n → fX7_digest_18 (lMt ()) Nf 0 n (nI i) h τ = fX7_digest_42 (lMt ()) Nf 0 Nf (nI 0) (hvs A d i h) τ := by
  intro d
  induction d with
  | zero =>
    intro i n h h1 hn
    obtain ⟨n, rfl⟩ : ∃ z, n = z + 1 := ⟨n - 1, by omega⟩
    unfold fX7_digest_18
    rw [n8, if_pos ((nI_leI (by omega) (by omega)).mpr (by omega))]
    rfl
  | succ d ih =>
    intro i n h h1 hn
    obtain ⟨n, rfl⟩ : ∃ z, n = z + 1 := ⟨n - 1, by omega⟩
    unfold fX7_digest_18
    rw [n8, if_neg (fun q => absurd ((nI_leI (by omega) (by omega)).mp q) (by omega)), m_valueOf hm w (by omega) (by omega), Option.bind_some, hsh_e, Option.bind_some, n1, nI_add, bnd_e, ih (i + 1) n _ (by omega) (by omega)]
    rfl
def hnx (A : Nat → Nat) : Nat → Nat → Int64 → Int64
  | 0, _, h => h
  | d + 1, i, h => hnx A d (i + 1) (hx h (ndI A (i / 5) (i % 5)))
theorem hnx_5 (A : Nat → Nat) : ∀ (d s : Nat) (h : Int64), hnx A (5 * d) (5 * s) h = hnn A d s h := by
  intro d
  induction d with
  | zero => intro s h; rfl
  | succ d ih =>
    intro s h
    have e := ih (s + 1) (hns A s 5 0 h)
    show hnx A (5 * d + 5) (5 * s) h = hnn A d (s + 1) (hns A s 5 0 h)
    rw [← e]
    simp only [hnx, hns]
    rw [show 5 * s / 5 = s by omega, show (5 * s) % 5 = 0 by omega, show (5 * s + 1) / 5 = s by omega, show (5 * s + 1) % 5 = 1 by omega, show (5 * s + 1 + 1) / 5 = s by omega, show (5 * s + 1 + 1) % 5 = 2 by omega, show (5 * s + 1 + 1 + 1) / 5 = s by omega, show (5 * s + 1 + 1 + 1) % 5 = 3 by omega, show (5 * s + 1 + 1 + 1 + 1) / 5 = s by omega, show (5 * s + 1 + 1 + 1 + 1) % 5 = 4 by omega]
    rfl
theorem m_dg42 {A : Nat → Nat} {B Nf : Nat} {P : Int64 × (Int64 × cS) → Prop} (w : WF A B) (hF : 5000 < Nf) : ∀ (d i n : Nat) (h : Int64) (τ : cS), i + d = 5 * A 0 → d < n → MR τ A → (∀ τ', FM τ τ' → MR τ' A → ∃ r, fX7_digest_77 (lMt ()) Nf 0 Nf (nI 0) (hnx A d i h) τ' = some r ∧ P r) → ∃ r, fX7_digest_42 (lMt ()) Nf 0 n (nI i) h τ = some r ∧ P r := by
  have w2 := w.2.1
  intro d
  induction d with
  | zero =>
    intro i n h τ h1 hn hm go
    obtain ⟨n, rfl⟩ : ∃ z, n = z + 1 := ⟨n - 1, by omega⟩
    unfold fX7_digest_42
    rw [show inb (0 : Int32) (lMt () (0 + 1)) = true from rfl, grd_t, show τ (0 + 1) (0 : Int32).toNatClampNeg = nI (A 0) from hm 0 (by omega), n5, nI_mul, if_pos ((nI_leI (by omega) (by omega)).mpr (by omega))]
    exact go τ FM_rf hm
  | succ d ih =>
    intro i n h τ h1 hn hm go
    obtain ⟨n, rfl⟩ : ∃ z, n = z + 1 := ⟨n - 1, by omega⟩
    obtain ⟨τ1, s1, s2⟩ := m_nodeOf (Nf := Nf) (s := i / 5) (j := i % 5) hm w (by omega) (by omega) (by omega)
    unfold fX7_digest_42
    rw [show inb (0 : Int32) (lMt () (0 + 1)) = true from rfl, grd_t, show τ (0 + 1) (0 : Int32).toNatClampNeg = nI (A 0) from hm 0 (by omega), n5, nI_mul, if_neg (fun q => absurd ((nI_leI (by omega) (by omega)).mp q) (by omega)), nz_n (by omega) (by omega), grd_t, grd_t, nI_dv (by omega) (by omega) (by omega), nI_mul, nI_sub (by omega), show i - i / 5 * 5 = i % 5 by omega, s1, Option.bind_some]
    show ∃ r, Option.bind (fX7_hashes h τ1 0 (ndI A (i / 5) (i % 5)).toInt64) (fun r2 => bnd (nI i + (1 : Int32)) (fun t3 => fX7_digest_42 (lMt ()) Nf 0 n t3 r2.1 r2.2)) = some r ∧ P r
    rw [hsh_e, Option.bind_some, n1, nI_add, bnd_e]
    exact ih (i + 1) n _ τ1 (by omega) (by omega) (MR_ext hm (s2.1 1 (by omega) (by omega) (by omega))) (fun τ' f' m' => go τ' (FM_tr s2 f') m')
theorem m_dg103 {A : Nat → Nat} {B k Nf : Nat} {τ : cS} {self : Int32 → Int64 → cS → Option (Int64 × (Int64 × cS))} (w : WF A B) (hm : MR τ A) (hk : k < A 3) : ∀ (d j n : Nat) (h : Int64), j + d = 4 → d < n → fX7_digest_103 (lMt ()) Nf 0 self n (nI k) (nI j) h τ = self (nI (k + 1)) (hes A k d j h) τ := by
  intro d
  induction d with
  | zero =>
    intro j n h h1 hn
    obtain ⟨n, rfl⟩ : ∃ z, n = z + 1 := ⟨n - 1, by omega⟩
    unfold fX7_digest_103
    rw [n4, if_pos ((nI_leI (by omega) (by omega)).mpr (by omega)), n1, nI_add, bnd_e]
    rfl
  | succ d ih =>
    intro j n h h1 hn
    obtain ⟨n, rfl⟩ : ∃ z, n = z + 1 := ⟨n - 1, by omega⟩
    unfold fX7_digest_103
    rw [n4, if_neg (fun q => absurd ((nI_leI (by omega) (by omega)).mp q) (by omega)), m_edgeOf hm w hk, Option.bind_some, hsh_e, Option.bind_some, n1, nI_add, bnd_e, ih (j + 1) n _ (by omega) (by omega)]
    rfl
/-- only the code is written -/
def FC (τ τ' : cS) : Prop := (∀ c, c ≠ 0 → τ' c = τ c) ∧ ∀ j, j ≠ 7 → τ' 0 j = τ 0 j
theorem FC_st (τ : cS) (v : Int32) : FC τ (st2 τ 0 7 v) := ⟨fun c hc => st2_out hc, fun j hj => st2_nj hj⟩
theorem FC_tr {τ τ' τ'' : cS} (h : FC τ τ') (h' : FC τ' τ'') : FC τ τ'' := ⟨fun c hc => (h'.1 c hc).trans (h.1 c hc), fun j hj => (h'.2 j hj).trans (h.2 j hj)⟩
theorem FC_MR {τ τ' : cS} {A : Nat → Nat} (h : FC τ τ') (hm : MR τ A) : MR τ' A := MR_ext hm (h.1 1 (by omega))
theorem m_densD {τ : cS} {A : Nat → Nat} {B Nf : Nat} (hm : MR τ A) (w : WF A B) (hF : 5000 < Nf) : fX7_densest (lMt ()) Nf τ 0 = some (dnI A, st2 τ 0 7 (nI 0)) := by
  unfold fX7_densest fX7_densest_0
  rw [bnd_e, m_densestOf (MR_out hm (by omega)) w (fun s => Nat.le_trans (inn_le w s) (by omega)) (m_inner00 hm w hF _) hF]
  rfl
theorem m_leastD {τ : cS} {A : Nat → Nat} {B Nf : Nat} (hm : MR τ A) (w : WF A B) (hF : 5000 < Nf) : fX7_least (lMt ()) Nf τ 0 = some (ltI A, st2 τ 0 7 (nI 0)) := by
  unfold fX7_least fX7_least_0
  rw [bnd_e, m_leastOf (MR_out hm (by omega)) w (fun s => Nat.le_trans (inn_le w s) (by omega)) (m_inner00 hm w hF _) hF]
  rfl
theorem m_tooD {τ : cS} {A : Nat → Nat} {B Nf : Nat} (hm : MR τ A) (w : WF A B) (hF : 5000 < Nf) : fX7_tooDense (lMt ()) Nf τ 0 = some (tdI A, st2 τ 0 7 (nI 0)) := by
  have w2 := w.2.1
  have hpw : 2 ^ A 0 ≤ 4096 := Nat.pow_le_pow_right (by omega) w2 (n := 2)
  have hp1 : 1 ≤ 2 ^ A 0 := Nat.one_le_two_pow
  exact m_td_loop (τ := st2 τ 0 7 (nI 0)) (Nf := Nf) (MR_out hm (by omega)) w hF (2 ^ A 0 - 1) 0 Nf (by omega) (by omega)
theorem m_dg77 {A : Nat → Nat} {B Nf : Nat} {τ : cS} {x : Int32} (w : WF A B) (hm : MR τ A) (hx4 : τ 0 4 = x) (hF : 5000 < Nf) : ∀ (d k n : Nat) (h : Int64), k + d = A 3 → d < n → ∃ τ', fX7_digest_77 (lMt ()) Nf 0 n (nI k) h τ = some (hx (hx (hx (hx (hee A d k h) (dnI A)) (ltI A)) (tdI A)) x, hx (hx (hx (hx (hee A d k h) (dnI A)) (ltI A)) (tdI A)) x, τ') ∧ FC τ τ' := by
  have w3 := w.2.2.1
  intro d
  induction d with
  | zero =>
    intro k n h h1 hn
    obtain ⟨n, rfl⟩ : ∃ z, n = z + 1 := ⟨n - 1, by omega⟩
    have f1 := FC_st τ (nI 0)
    have f2 := FC_tr f1 (FC_st _ (nI 0))
    have f3 := FC_tr f2 (FC_st _ (nI 0))
    have f4 := FC_tr f3 (FC_st _ (nI 0))
    refine ⟨_, ?_, f4⟩
    unfold fX7_digest_77
    rw [show inb (3 : Int32) (lMt () (0 + 1)) = true from rfl, grd_t, show τ (0 + 1) (3 : Int32).toNatClampNeg = nI (A 3) from hm 3 (by omega), if_pos ((nI_leI (by omega) (by omega)).mpr (by omega)), m_densD hm w hF, Option.bind_some, hsh_e, Option.bind_some, m_leastD (FC_MR f1 hm) w hF, Option.bind_some, hsh_e, Option.bind_some, m_tooD (FC_MR f2 hm) w hF, Option.bind_some, hsh_e, Option.bind_some, hsh_e, Option.bind_some, bnd_e]
    show some (hx _ (st2 (st2 (st2 τ 0 7 (nI 0)) 0 7 (nI 0)) 0 7 (nI 0) 0 4), hx _ (st2 (st2 (st2 τ 0 7 (nI 0)) 0 7 (nI 0)) 0 7 (nI 0) 0 4), _) = _
    rw [f3.2 4 (by omega), hx4]
    rfl
  | succ d ih =>
    intro k n h h1 hn
    obtain ⟨n, rfl⟩ : ∃ z, n = z + 1 := ⟨n - 1, by omega⟩
    unfold fX7_digest_77
    rw [show inb (3 : Int32) (lMt () (0 + 1)) = true from rfl, grd_t, show τ (0 + 1) (3 : Int32).toNatClampNeg = nI (A 3) from hm 3 (by omega), if_neg (fun q => absurd ((nI_leI (by omega) (by omega)).mp q) (by omega)), show (16 : Int32) = nI 16 from rfl, nI_add, show lMt () (0 + 1) = 216 from rfl, inb_n (by omega) (by omega), grd_t, nI_clamp (by omega), show τ (0 + 1) (16 + k) = nI (A (16 + k)) from hm _ (by omega), hsh_e, Option.bind_some, n0, m_dg103 w hm (by omega) 4 0 Nf _ (by omega) (by omega)]
    exact ih (k + 1) n _ (by omega) (by omega)
theorem m_digest {A : Nat → Nat} {B Nf len : Nat} {τ : cS} {x : Int32} {hm0 : Int64} (w : WF A B) (hm : MR τ A) (hx4 : τ 0 4 = x) (hl : τ 0 6 = nI len) (hF : 5000 < Nf) : ∃ r, fX7_digest (lMt ()) Nf hm0 τ 0 = some r ∧ (r.1 = hx (hx (hx (hx (hee A (A 3) 0 (hnn A (A 0) 0 (hvs A 8 0 (hx 3779 (nI len))))) (dnI A)) (ltI A)) (tdI A)) x ∧ ∃ τ1, FM τ τ1 ∧ FC τ1 r.2.2) := by
  have w2 := w.2.1
  have w3 := w.2.2.1
  unfold fX7_digest fX7_digest_0
  rw [bnd_e, hl, hsh_e, Option.bind_some, n0, m_dg18 hm w hF 8 0 Nf _ (by omega) (by omega)]
  refine m_dg42 w hF (5 * A 0) 0 Nf _ τ (by omega) (by omega) hm (fun τ1 f1 m1 => ?_)
  rw [show hnx A (5 * A 0) 0 (hvs A 8 0 (hx 3779 (nI len))) = hnn A (A 0) 0 (hvs A 8 0 (hx 3779 (nI len))) from hnx_5 A (A 0) 0 _]
  obtain ⟨τ', k1, k2⟩ := m_dg77 (Nf := Nf) (x := x) w m1 (by rw [f1.2 4 (by omega) (by omega)]; exact hx4) hF (A 3) 0 Nf (hnn A (A 0) 0 (hvs A 8 0 (hx 3779 (nI len)))) (by omega) (by omega)
  exact ⟨_, k1, rfl, τ1, f1, k2⟩
theorem op_digest {σ τ : cS} {B Nf : Nat} (hB : B < 2 ^ 30) (hf : 5000 < Nf) (x1 x2 x3 : Int32) (h hm0 : Int64) (iv : IV σ τ B) : ∃ r, gL_c27 Nf x1 x2 x3 h σ hm0 τ = some r ∧ PI4 B r := by
  obtain ⟨A, Hs, q, c, len, hm, hg, w, hh, ht, hp⟩ := iv
  have hh' := hh
  obtain ⟨h1, h2, h3, h4, h5, h6, h7⟩ := hh'
  obtain ⟨rm, m1, m2, τ1, m3, m4⟩ := m_digest (Nf := Nf) (hm0 := hm0) w hm h6 ht.2.2.1 hf
  obtain ⟨rc, c1, c2, c3⟩ := c_digest (P := fun r => r.1 = hx (hx (hx (hx (hee A (A 3) 0 (hnn A (A 0) 0 (hvs A 8 0 (hx 3779 (nI len))))) (dnI A)) (ltI A)) (tdI A)) (nI c) ∧ IV r.2 rm.2.2 (B + 100)) w hB hg hp h4 ht.2.1 hf (fun σ1 σ' f t k o => ⟨rfl, by
    have o' : ∀ c, (c < 90 ∨ 102 ≤ c) → σ' c = σ c := fun c hc => (o c (by omega) (by omega) (by omega) (by omega)).trans (f c (by omega))
    have n' : ∀ c, c ≠ 0 → c ≠ 5 → c ≠ 6 → rm.2.2 c = τ c := fun c y1 y2 y3 => (m4.1 c y1).trans (m3.1 c y1 y2 y3)
    have j' : ∀ j, j ≠ 7 → j ≠ 10 → j ≠ 11 → rm.2.2 0 j = τ 0 j := fun j y1 y2 y3 => (m4.2 j y1).trans (m3.2 j y2 y3)
    exact ⟨A, Hs, q, c, len, MR_ext hm (n' 1 (by omega) (by omega) (by omega)), GR_keep hg (fun x _ _ => o' x (by omega)), WF_up w (by omega), HS_keep hh (by omega) (fun x _ _ => o' x (by omega)) (o' 105 (by omega)) (j' 4 (by omega) (by omega) (by omega)) (j' 5 (by omega) (by omega) (by omega)) (n' 3 (by omega) (by omega) (by omega)), TX_keep ht (o' 102 (by omega)) (o' (102 + 1 + 1) (by omega)) (j' 6 (by omega) (by omega) (by omega)) (n' 4 (by omega) (by omega) (by omega)), Or.inr ⟨k, t⟩⟩⟩)
  unfold gL_c27
  refine bind_x c1 ?_
  refine bind_x m1 ?_
  refine grd_x (decide_eq_true (by rw [c2, m2])) (some_x ?_)
  exact c3
