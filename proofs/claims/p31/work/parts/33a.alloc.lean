/-! ===== methods that make cells: what a run makes is told with its answer ===== -/
set_option maxHeartbeats 4000000 in
set_option maxRecDepth 100000 in
theorem z_dadd {K : MCx} {G : Lay} {own : String} {cc : ByteArray} {nL : Nat} {ret : Option FieldType} {rf rl : Nat} {ρ : Type} {P : ρ → Prop} {Q : ρ → State → Prop} {pc : Nat} {lv : List (Nat × Value)} {st : List Value} {h : Int64} {σ : cS} {E : Option ρ} (X : Cx K G own cc nL ret rf rl) {x y : UInt64} (hdg : decode cc pc = .ok (.dadd, 1)) (k : Sm K G P Q nL (pc + 1) lv (.double (FP.dadd x y) :: st) h σ (E)) : Sm K G P Q nL (pc) lv (.double y :: .double x :: st) h σ (grd (n64b (FP.dadd x y)) E) := z_grd (fun q r hr hp H locs ls hP hS hl => lv_dadd X.1 X.2.1 hdg (n64_of q) (k r hr hp H locs ls hP hS hl))
set_option maxHeartbeats 4000000 in
set_option maxRecDepth 100000 in
theorem z_dsub {K : MCx} {G : Lay} {own : String} {cc : ByteArray} {nL : Nat} {ret : Option FieldType} {rf rl : Nat} {ρ : Type} {P : ρ → Prop} {Q : ρ → State → Prop} {pc : Nat} {lv : List (Nat × Value)} {st : List Value} {h : Int64} {σ : cS} {E : Option ρ} (X : Cx K G own cc nL ret rf rl) {x y : UInt64} (hdg : decode cc pc = .ok (.dsub, 1)) (k : Sm K G P Q nL (pc + 1) lv (.double (FP.dsub x y) :: st) h σ (E)) : Sm K G P Q nL (pc) lv (.double y :: .double x :: st) h σ (grd (n64b (FP.dsub x y)) E) := z_grd (fun q r hr hp H locs ls hP hS hl => lv_dsub X.1 X.2.1 hdg (n64_of q) (k r hr hp H locs ls hP hS hl))
set_option maxHeartbeats 4000000 in
set_option maxRecDepth 100000 in
theorem z_dmul {K : MCx} {G : Lay} {own : String} {cc : ByteArray} {nL : Nat} {ret : Option FieldType} {rf rl : Nat} {ρ : Type} {P : ρ → Prop} {Q : ρ → State → Prop} {pc : Nat} {lv : List (Nat × Value)} {st : List Value} {h : Int64} {σ : cS} {E : Option ρ} (X : Cx K G own cc nL ret rf rl) {x y : UInt64} (hdg : decode cc pc = .ok (.dmul, 1)) (k : Sm K G P Q nL (pc + 1) lv (.double (FP.dmul x y) :: st) h σ (E)) : Sm K G P Q nL (pc) lv (.double y :: .double x :: st) h σ (grd (n64b (FP.dmul x y)) E) := z_grd (fun q r hr hp H locs ls hP hS hl => lv_dmul X.1 X.2.1 hdg (n64_of q) (k r hr hp H locs ls hP hS hl))
set_option maxHeartbeats 4000000 in
set_option maxRecDepth 100000 in
theorem z_dcmp {K : MCx} {G : Lay} {own : String} {cc : ByteArray} {nL : Nat} {ret : Option FieldType} {rf rl : Nat} {ρ : Type} {P : ρ → Prop} {Q : ρ → State → Prop} {pc : Nat} {lv : List (Nat × Value)} {st : List Value} {h : Int64} {σ : cS} {E : Option ρ} (X : Cx K G own cc nL ret rf rl) {x y : UInt64} {op : CmpOp} (hdg : decode cc pc = .ok (.dcmp op, 1)) (k : Sm K G P Q nL (pc + 1) lv (.int (Op.cmpValue (FP.dcmp x y) op) :: st) h σ (E)) : Sm K G P Q nL (pc) lv (.double y :: .double x :: st) h σ (E) := fun r hr hp H locs ls hP hS hl => lv_dcmp X.1 X.2.1 hdg (k r hr hp H locs ls hP hS hl)
set_option maxHeartbeats 4000000 in
set_option maxRecDepth 100000 in
theorem z_lcmp {K : MCx} {G : Lay} {own : String} {cc : ByteArray} {nL : Nat} {ret : Option FieldType} {rf rl : Nat} {ρ : Type} {P : ρ → Prop} {Q : ρ → State → Prop} {pc : Nat} {lv : List (Nat × Value)} {st : List Value} {h : Int64} {σ : cS} {E : Option ρ} (X : Cx K G own cc nL ret rf rl) {x y : Int64} (hdg : decode cc pc = .ok (.lcmp, 1)) (k : Sm K G P Q nL (pc + 1) lv (.int (lg_cmp x y) :: st) h σ (E)) : Sm K G P Q nL (pc) lv (.long y :: .long x :: st) h σ (E) := fun r hr hp H locs ls hP hS hl => W.lcmp X.1 X.2.1 hdg (k r hr hp H locs ls hP hS hl)
set_option maxHeartbeats 4000000 in
set_option maxRecDepth 100000 in
theorem z_ldc2d {K : MCx} {G : Lay} {own : String} {cc : ByteArray} {nL : Nat} {ret : Option FieldType} {rf rl : Nat} {ρ : Type} {P : ρ → Prop} {Q : ρ → State → Prop} {pc : Nat} {lv : List (Nat × Value)} {st : List Value} {h : Int64} {σ : cS} {E : Option ρ} (X : Cx K G own cc nL ret rf rl) {index : Nat} {v : UInt64} (hw : Jvm.Cond.constantDouble own index v ∈ wsL_law) (hdg : decode cc pc = .ok (.ldc2_w index, 3)) (k : Sm K G P Q nL (pc + 3) lv (.double v :: st) h σ (E)) : Sm K G P Q nL (pc) lv (st) h σ (E) := fun r hr hp H locs ls hP hS hl => lv_ldc2d X.1 X.2.1 X.2.2.2.1 (X.2.2.2.2.1 _ hw) hdg (k r hr hp H locs ls hP hS hl)
set_option maxHeartbeats 4000000 in
set_option maxRecDepth 100000 in
theorem ts_out_0_17 {x : Int32} (c0 : ¬ x = (0 : Int32)) (c1 : ¬ x = (1 : Int32)) (c2 : ¬ x = (2 : Int32)) (c3 : ¬ x = (3 : Int32)) (c4 : ¬ x = (4 : Int32)) (c5 : ¬ x = (5 : Int32)) (c6 : ¬ x = (6 : Int32)) (c7 : ¬ x = (7 : Int32)) (c8 : ¬ x = (8 : Int32)) (c9 : ¬ x = (9 : Int32)) (c10 : ¬ x = (10 : Int32)) (c11 : ¬ x = (11 : Int32)) (c12 : ¬ x = (12 : Int32)) (c13 : ¬ x = (13 : Int32)) (c14 : ¬ x = (14 : Int32)) (c15 : ¬ x = (15 : Int32)) (c16 : ¬ x = (16 : Int32)) (c17 : ¬ x = (17 : Int32)) : x.toInt < 0 ∨ 17 < x.toInt := by
  have h0 := lv_neT c0 (a := 0) (by decide)
  have h1 := lv_neT c1 (a := 1) (by decide)
  have h2 := lv_neT c2 (a := 2) (by decide)
  have h3 := lv_neT c3 (a := 3) (by decide)
  have h4 := lv_neT c4 (a := 4) (by decide)
  have h5 := lv_neT c5 (a := 5) (by decide)
  have h6 := lv_neT c6 (a := 6) (by decide)
  have h7 := lv_neT c7 (a := 7) (by decide)
  have h8 := lv_neT c8 (a := 8) (by decide)
  have h9 := lv_neT c9 (a := 9) (by decide)
  have h10 := lv_neT c10 (a := 10) (by decide)
  have h11 := lv_neT c11 (a := 11) (by decide)
  have h12 := lv_neT c12 (a := 12) (by decide)
  have h13 := lv_neT c13 (a := 13) (by decide)
  have h14 := lv_neT c14 (a := 14) (by decide)
  have h15 := lv_neT c15 (a := 15) (by decide)
  have h16 := lv_neT c16 (a := 16) (by decide)
  have h17 := lv_neT c17 (a := 17) (by decide)
  omega
abbrev rmA (fr n lo : Nat) : Room := { frames := fr, cells := n, slots := 12 * n, locals := lo }
def CN (l : Launch) (y : MethodName) (bytes : ByteArray) (maxL : Nat) (rt : Option FieldType) (fr lo n : Nat) (G : Lay) (av : List Value) (h : Int64) (σ : cS) (o : Option Value × Int64 × cS) : Prop :=
  Met l y (mws y bytes maxL rt) (rmA fr n lo) (PCX G av h σ) (QC G o) n (12 * n) (FA G)
def PN (K : MCx) {β : Type} : β × Nat → Prop := fun r => ku K + r.2 ≤ (kR K).cells ∧ 12 * (ku K + r.2) ≤ (kR K).slots ∧ SX (kA K) (ks K) (ks K).heap ∧ (kl K).stackTraces = false
def QN (K : MCx) (G : Lay) {β : Type} (g : β → Option Value × Int64 × cS) : β × Nat → State → Prop := fun r => MQ (kb K) (QA (kA K) G (g r.1)) (ka K) (ks K) (kR K).cells (kR K).slots (kA K)
def wbn {α β : Type} (x : Option (α × Nat)) (f : α → Option (β × Nat)) : Option (β × Nat) := x.bind (fun a => (f a.1).map (fun b => (b.1, a.2 + b.2)))
def w1n {α : Type} (x : Option α) : Option (α × Nat) := x.map (fun a => (a, 1))
set_option maxHeartbeats 4000000 in
set_option maxRecDepth 100000 in
theorem wbn_some {α β : Type} {x : Option (α × Nat)} {f : α → Option (β × Nat)} {r : β × Nat} (h : wbn x f = some r) : ∃ a n b m, x = some (a, n) ∧ f a = some (b, m) ∧ r = (b, n + m) := by
  obtain ⟨⟨a, n⟩, h1, h2⟩ := Option.bind_eq_some_iff.mp h
  obtain ⟨⟨b, m⟩, h3, h4⟩ := Option.map_eq_some_iff.mp h2
  exact ⟨a, n, b, m, h1, h3, h4.symm⟩
set_option maxHeartbeats 4000000 in
set_option maxRecDepth 100000 in
theorem w1n_some {α : Type} {x : Option α} {a : α} {n : Nat} (h : w1n x = some (a, n)) : x = some a ∧ n = 1 := by
  obtain ⟨c, h1, h2⟩ := Option.map_eq_some_iff.mp h
  cases h2
  exact ⟨h1, rfl⟩
/-- what a judgement's start and end must bear: cells made on the way -/
def PQok {β : Type} (P : MCx → β × Nat → Prop) (Q : MCx → β × Nat → State → Prop) : Prop := (∀ K r, P K r → PN K r) ∧ ∀ K n b m, P K (b, n + m) → P (kad K n) (b, m) ∧ ∀ t, Q (kad K n) (b, m) t → Q K (b, n + m) t
set_option maxHeartbeats 4000000 in
set_option maxRecDepth 100000 in
theorem pq_N (G : Lay) {β : Type} (g : β → Option Value × Int64 × cS) : PQok (fun K => PN K) (fun K => QN K G g) := ⟨fun _ _ h => h, fun K n b m h => ⟨⟨by have := h.1; show ku K + n + m ≤ (kR K).cells; have h1 : ku K + (n + m) ≤ (kR K).cells := this; omega, by have := h.2.1; show 12 * (ku K + n + m) ≤ (kR K).slots; have h1 : 12 * (ku K + (n + m)) ≤ (kR K).slots := this; omega, h.2.2⟩, fun _ q => q⟩⟩
set_option maxHeartbeats 4000000 in
set_option maxRecDepth 100000 in
theorem Cx_ad {K : MCx} {G : Lay} {own : String} {cc : ByteArray} {nL : Nat} {ret : Option FieldType} {rf rl : Nat} (X : Cx K G own cc nL ret rf rl) {n : Nat} (h1 : ku K + n ≤ (kR K).cells) (h2 : 12 * (ku K + n) ≤ (kR K).slots) : Cx (kad K n) G own cc nL ret rf rl := ⟨X.1, X.2.1, X.2.2.1, X.2.2.2.1, X.2.2.2.2.1, X.2.2.2.2.2.1, X.2.2.2.2.2.2.1, X.2.2.2.2.2.2.2.1, X.2.2.2.2.2.2.2.2.1, X.2.2.2.2.2.2.2.2.2.1, X.2.2.2.2.2.2.2.2.2.2.1, X.2.2.2.2.2.2.2.2.2.2.2.1, X.2.2.2.2.2.2.2.2.2.2.2.2.1, h1, h2⟩
set_option maxHeartbeats 4000000 in
set_option maxRecDepth 100000 in
theorem cn_of {l : Launch} {G : Lay} {y : MethodName} {cc : ByteArray} {maxL : Nat} {ret : Option FieldType} {fr lo : Nat} {β : Type} {g : β → Option Value × Int64 × cS} {av : List Value} {h : Int64} {σ : cS} {E : Option (β × Nat)} (hy : plainName y.cls = true) (hi : Inj G) (hfl : l.stackTraces = false) (hlen : (lg_sl av).length ≤ maxL) (hS : ∀ K, kl K = l → Cx K G y.cls cc maxL ret fr lo → Sm K G (PN K) (QN K G g) maxL 0 (lv_args 0 av) [] h σ E) : ∀ r, E = some r → CN l y cc maxL ret fr lo r.2 G av h σ (g r.1) := by
  intro r hr
  refine Met.ofW (cc := cc) (maxL := maxL) (ret := ret) hy rfl ?_
  intro p e s m args below meth c s₁ B hml hv
  obtain ⟨rfl, ⟨hP, hK, hN⟩, hX⟩ := hv
  have hts := atoms_spec (ws := mws y cc maxL ret) B.pre
  have hl := lv_entry av hlen
  rw [lg_entry_eq]
  exact hS (p, l, e, (headSpec (mws y cc maxL ret) (rmA fr r.2 lo)).room, s, m, av.toArray, below, meth, c, FA G, 0) rfl ⟨B.exec, B.bytes, hml, findClass_of_methodNamed B.named, fun w h => hts w (List.mem_cons_of_mem _ h), hK, B.notSynchronized, hi, B.returns, rfl, rfl, hN, fun _ h => h, Nat.zero_le _, Nat.zero_le _⟩ r hr ⟨by show 0 + r.2 ≤ r.2; omega, by show 12 * (0 + r.2) ≤ 12 * r.2; omega, hX, hfl⟩ s.heap [] _ hP va_S.rf hl
set_option maxHeartbeats 4000000 in
set_option maxRecDepth 100000 in
theorem z_callW {K : MCx} {G : Lay} {own : String} {cc : ByteArray} {nL : Nat} {ret : Option FieldType} {rf rl : Nat} {β : Type} {P : MCx → β × Nat → Prop} {Q : MCx → β × Nat → State → Prop} (hpq : PQok P Q) {pc : Nat} {lv : List (Nat × Value)} {st : List Value} {h : Int64} {σ : cS} (X : Cx K G own cc nL ret rf rl) {y : MethodName} {bytes : ByteArray} {maxL fr lo n index : Nat} {hh : List (Nat × Nat × Nat × Nat)} {Ec : Option (Int32 × cS)} {f : Int32 × cS → Option (β × Nat)} {st0 : List Value} (As : List Value) (hM : (kl K).stackTraces = false → ∀ rc, Ec = some rc → HM (kl K) y bytes maxL hh fr lo G As h σ (some (.int rc.1), h, rc.2)) (hcode : Cond.codeWith y bytes maxL (some .int) hh ∈ wsL_law) (hstat : Cond.static y ∈ wsL_law) (hini : Cond.initialized y.cls ∈ wsL_law) (hlink : Cond.methodLink own index y ∈ wsL_law) (hd : y.cls ≠ "java/lang/invoke/MethodHandle" ∧ y.cls ≠ "java/lang/invoke/VarHandle" ∧ (parseMethodDescriptor y.desc).map (fun d => d.parameters.length) = some n) (hR : fr + 1 ≤ rf ∧ 8 + (maxL + 11) + lo ≤ rl) (hst : st0 = As.reverse ++ st) (hn : As.length = n) (hcat : (st.map fun v => v.category).sum ≤ 8) (hdg : decode cc pc = .ok (.invokestatic index, 3)) (k : ∀ rc : Int32 × cS, Cx (kad K 1) G own cc nL ret rf rl → Sm (kad K 1) G (P (kad K 1)) (Q (kad K 1)) nL (pc + 3) lv (.int rc.1 :: st) h rc.2 (f rc)) : Sm K G (P K) (Q K) nL pc lv st0 h σ (wbn (w1n Ec) f) := by
  subst hst
  intro r hr hp H locs ls hP hS hl
  obtain ⟨rc, n1, b, m, h1, h2, rfl⟩ := wbn_some hr
  obtain ⟨h3, rfl⟩ := w1n_some h1
  obtain ⟨p1, p2, hsx, hfl⟩ := hpq.1 K _ hp
  obtain ⟨hp', hq'⟩ := hpq.2 K 1 b m hp
  have hts := X.2.2.2.2.1
  have hK := X.2.2.2.2.2.1
  have hN := X.2.2.2.2.2.2.2.2.2.2.2.1
  have hGI : GoodIn wsL_law (va_wsS own index y (mwsH y bytes maxL (some .int) hh)) := law_GI (fun w hw => by
    rcases List.mem_append.mp hw with q | q
    · simp only [List.mem_cons, List.mem_nil_iff, or_false] at q
      rcases q with rfl | rfl | rfl
      · exact hlink
      · exact hstat
      · exact hini
    · rcases List.mem_cons.mp q with rfl | q
      · exact hcode
      · exact q)
  have p1' : ku K + (1 + m) ≤ (kR K).cells := p1
  have p2' : 12 * (ku K + (1 + m)) ≤ (kR K).slots := p2
  have hrun := vx_runSW (cells := ku K) (slots := 12 * ku K) (R := kR K) (locs := locs) (H := H) (p := kp K) (l := kl K) (e := ke K) (below := kb K) (meth := kme K) (g := F0 (km K) pc ls (As.reverse ++ st)) (As := As) (rest := st) ⟨X.1, X.2.1, X.2.2.1, X.2.2.2.1, hts⟩ (hM hfl rc h3) (vx_cwSW n hts hGI rfl rfl rfl hd (by rw [X.2.2.2.2.2.2.2.2.2.1, X.2.2.2.2.2.2.2.2.2.2.1]; exact hR)) ⟨PCX_blind, fun U hU hW => ⟨rfl, ⟨by rw [hU]; exact hP, va_K.moved hW.alike hK, NW_warm hW hN⟩, by rw [hU]; exact SX_narrow X.2.2.2.2.2.2.2.2.2.2.2.2.1 (SX_warm hW hsx hS.2.1)⟩⟩ rfl hn hl.1 rfl (lv_room hcat) hdg ⟨by omega, by omega⟩
  intro T0 hT XX
  obtain ⟨v, sa, t, T', L, h0, X', hL, e1, e2, ⟨hv, hP1, hF⟩, stp⟩ := hrun T0 hT XX
  cases hv
  have w0 := k rc (Cx_ad X (by omega) (by omega)) (b, m) h2 hp' T'.heap (locs ++ L) ls (by rw [e1]; exact hP1) (va_S_call X.2.2.2.2.2.2.2.2.2.2.2.2.1 hS h0 e1 hF hL) hl
  have w1 := W.widen (cells := ku K + 1) (slots := 12 * ku K + 6) (Nat.le_refl _) (by show 12 * ku K + 6 ≤ 12 * (ku K + 1); omega) w0
  obtain ⟨t2, a1, b1⟩ := w1 T' rfl X'
  exact ⟨t2, stp t2 a1, hq' _ b1⟩
set_option maxHeartbeats 4000000 in
set_option maxRecDepth 100000 in
theorem z_callA {K : MCx} {G : Lay} {own : String} {cc : ByteArray} {nL : Nat} {ret : Option FieldType} {rf rl : Nat} {β γ : Type} {P : MCx → β × Nat → Prop} {Q : MCx → β × Nat → State → Prop} (hpq : PQok P Q) {pc : Nat} {lv : List (Nat × Value)} {st : List Value} {h : Int64} {σ : cS} (X : Cx K G own cc nL ret rf rl) {y : MethodName} {bytes : ByteArray} {maxL fr lo n index : Nat} {rt : Option FieldType} {Ec : Option (γ × Nat)} {g : γ → Option Value × Int64 × cS} {f : γ → Option (β × Nat)} {st0 : List Value} {st1 : γ → List Value} (As : List Value) (hM : (kl K).stackTraces = false → ∀ rc, Ec = some rc → CN (kl K) y bytes maxL rt fr lo rc.2 G As h σ (g rc.1)) (hy : CalS y bytes maxL rt n) (hlink : Cond.methodLink own index y ∈ wsL_law) (hR : fr + 1 ≤ rf ∧ 8 + (maxL + 11) + lo ≤ rl) (hst : st0 = As.reverse ++ st) (hn : As.length = n) (hcat : (st.map fun v => v.category).sum ≤ 8) (hdg : decode cc pc = .ok (.invokestatic index, 3)) (hst1 : ∀ rc, (g rc).1.toList ++ st = st1 rc) (k : ∀ (rc : γ) (n1 : Nat), Cx (kad K n1) G own cc nL ret rf rl → Sm (kad K n1) G (P (kad K n1)) (Q (kad K n1)) nL (pc + 3) lv (st1 rc) (g rc).2.1 (g rc).2.2 (f rc)) : Sm K G (P K) (Q K) nL pc lv st0 h σ (wbn Ec f) := by
  subst hst
  intro r hr hp H locs ls hP hS hl
  obtain ⟨rc, n1, b, m, h1, h2, rfl⟩ := wbn_some hr
  obtain ⟨p1, p2, hsx, hfl⟩ := hpq.1 K _ hp
  obtain ⟨hp', hq'⟩ := hpq.2 K n1 b m hp
  have hts := X.2.2.2.2.1
  have hK := X.2.2.2.2.2.1
  have hN := X.2.2.2.2.2.2.2.2.2.2.2.1
  have p1' : ku K + (n1 + m) ≤ (kR K).cells := p1
  have p2' : 12 * (ku K + (n1 + m)) ≤ (kR K).slots := p2
  have hrun := va_runS (cells := ku K) (slots := 12 * ku K) (R := kR K) (locs := locs) (H := H) (p := kp K) (l := kl K) (e := ke K) (below := kb K) (meth := kme K) (g := F0 (km K) pc ls (As.reverse ++ st)) (As := As) (rest := st) ⟨X.1, X.2.1, X.2.2.1, X.2.2.2.1, hts⟩ (hM hfl (rc, n1) h1) (cal_S (fr := 0) (lo := 0) hts hy hlink (rm := rmA fr n1 lo) rfl rfl (by rw [X.2.2.2.2.2.2.2.2.2.1, X.2.2.2.2.2.2.2.2.2.2.1]; exact hR)) ⟨PCX_blind, fun U hU hW => ⟨rfl, ⟨by rw [hU]; exact hP, va_K.moved hW.alike hK, NW_warm hW hN⟩, by rw [hU]; exact SX_narrow X.2.2.2.2.2.2.2.2.2.2.2.2.1 (SX_warm hW hsx hS.2.1)⟩⟩ rfl hn hl.1 rfl (lv_room hcat) hdg ⟨by show ku K + n1 ≤ _; omega, by show 12 * ku K + 12 * n1 ≤ _; omega⟩
  intro T0 hT XX
  obtain ⟨v, sa, t, T', L, h0, X', hL, e1, e2, ⟨hv, hP1, hF⟩, stp⟩ := hrun T0 hT XX
  cases hv
  have w0 := k rc n1 (Cx_ad X (by omega) (by omega)) (b, m) h2 hp' T'.heap (locs ++ L) ls (by rw [e1]; exact hP1) (va_S_call X.2.2.2.2.2.2.2.2.2.2.2.2.1 hS h0 e1 hF hL) hl
  have w1 := W.widen (cells := ku K + n1) (slots := 12 * ku K + 12 * n1) (Nat.le_refl _) (by show 12 * ku K + 12 * n1 ≤ 12 * (ku K + n1); omega) w0
  obtain ⟨t2, a1, b1⟩ := w1 T' rfl X'
  rw [← hst1 rc] at a1
  exact ⟨t2, stp t2 a1, hq' _ b1⟩
set_option maxHeartbeats 4000000 in
set_option maxRecDepth 100000 in
theorem z_nzret {K : MCx} {G : Lay} {own : String} {cc : ByteArray} {nL : Nat} {rf rl : Nat} {β : Type} {P : β × Nat → Prop} {pc : Nat} {lv : List (Nat × Value)} {h : Int64} {σ : cS} (X : Cx K G own cc nL (some .boolean) rf rl) {g : β → Option Value × Int64 × cS} {v : Int32} {r0 : β} (hg : g r0 = (some (.int v), h, σ)) (hdg : decode cc pc = .ok (.ireturn, 1)) : Sm K G P (QN K G g) nL pc lv [.int v] h σ (grd (isb v) (some (r0, 0))) := by
  refine z_grd (fun q => ?_)
  intro r hr hp H locs ls hP hS hl
  cases hr
  exact W.widen X.2.2.2.2.2.2.2.2.2.2.2.2.2.1 X.2.2.2.2.2.2.2.2.2.2.2.2.2.2 (W.zret X.1 X.2.1 X.2.2.2.2.2.2.2.2.1 (isb_nar q) (fun t ht hW => ⟨by rw [hg], by rw [hg, ht]; exact hP, hS.F ht⟩) hS.2.2 hdg X.2.2.2.2.2.2.1)
