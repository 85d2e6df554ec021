/-! ===== the law's helpers: calls that catch ===== -/
def mwsH (y : MethodName) (bytes : ByteArray) (maxL : Nat) (rt : Option FieldType) (hh : List (Nat × Nat × Nat × Nat)) : List Cond := Cond.codeWith y bytes maxL rt hh :: wsL_law
def HM (l : Launch) (y : MethodName) (bytes : ByteArray) (maxL : Nat) (hh : List (Nat × Nat × Nat × Nat)) (fr lo : Nat) (G : Lay) (av : List Value) (h : Int64) (σ : cS) (o : Option Value × Int64 × cS) : Prop :=
  Met l y (mwsH y bytes maxL (some .int) hh) (rmX fr lo) (PCX G av h σ) (QC G o) 1 6 (FA G)
def QH (K : MCx) (G : Lay) (h : Int64) : (Int32 × cS) → State → Prop := fun r => MQ (kb K) (QA (kA K) G (some (.int r.1), h, r.2)) (ka K) (ks K) (ku K + 1) (12 * ku K + 6) (kA K)
def PH (K : MCx) (G : Lay) (hh : List (Nat × Nat × Nat × Nat)) : (Int32 × cS) → Prop := fun _ => ku K + 1 ≤ (kR K).cells ∧ 12 * ku K + 6 ≤ (kR K).slots ∧ SX (kA K) (ks K) (ks K).heap ∧ (kc K).exceptionTable.toList = tableOf hh ∧ (kl K).stackTraces = false
theorem met_ofWH {l : Launch} {y : MethodName} {ws ws' : List Cond} {rm : Room} {Pc : Array Value → State → Prop} {Qc : Array Value → State → Outcome → State → Prop} {mc ms : Nat} {free : Addr → Prop} {cc : ByteArray} {maxL : Nat} {ret : Option FieldType} {hh : List (Nat × Nat × Nat × Nat)}
    (hy : plainName y.cls = true) (hw : ws = Cond.codeWith y cc maxL ret hh :: ws')
    (body : ∀ p e s m args below meth c s₁, BodyLoose p l y (headSpec ws rm) cc maxL ret e s m args below meth c s₁ → c.maxLocals = maxL → Pc args s →
      W p l e (headSpec ws rm).room s m args below meth c s.heap [] 0 0 (MQ below Qc args s mc ms free) (entryFrame m args maxL)) : Met l y ws rm Pc Qc mc ms free := by
  refine MetFree.of_bodyS (code := cc) (maxLocals := maxL) (ret := ret) hy ?_ ?_
  · intro args s m h hn
    obtain ⟨m9, meth, c, hn9, h1, h2, h3, h4, -, h5, h6, -⟩ := Cond.codeWith_spec (atoms_spec (ws := ws) h _ (by rw [hw]; exact List.mem_cons_self))
    cases hn.symm.trans hn9
    exact ⟨meth, c, h1, h2, h3, h4, h5, h6⟩
  · intro p e s m args below meth c s₁ B hml hP _
    have hh0 : s₁.heap = s.heap := by rw [B.state]; rfl
    obtain ⟨t, a1, o, b1, b2, b3⟩ := body p e s m args below meth c s₁ B hml hP s₁ hh0 (Stand.of_body B)
    exact ⟨t, o, a1, b1, b2, b3⟩
theorem hm_of {l : Launch} {G : Lay} {y : MethodName} {cc : ByteArray} {maxL : Nat} {hh : List (Nat × Nat × Nat × Nat)} {fr lo : Nat} {av : List Value} {h : Int64} {σ : cS} {E : Option (Int32 × cS)} (hy : plainName y.cls = true) (hi : Inj G) (hfl : l.stackTraces = false) (hlen : (lg_sl av).length ≤ maxL) (hS : ∀ K, kl K = l → Cx K G y.cls cc maxL (some .int) fr lo → Sm K G (PH K G hh) (QH K G h) maxL 0 (lv_args 0 av) [] h σ E) : ∀ r, E = some r → HM l y cc maxL hh fr lo G av h σ (some (.int r.1), h, r.2) := by
  intro r hr
  refine met_ofWH (cc := cc) (maxL := maxL) (ret := some .int) (hh := hh) hy rfl ?_
  intro p e s m args below meth c s₁ B hml hv
  obtain ⟨rfl, ⟨hP, hK, hN⟩, hX⟩ := hv
  have hts := atoms_spec (ws := mwsH y cc maxL (some .int) hh) B.pre
  have htab := vx_table (x := y) B (hts _ List.mem_cons_self)
  have hl := lv_entry av hlen
  rw [lg_entry_eq]
  exact hS (p, l, e, (headSpec (mwsH y cc maxL (some .int) hh) (rmX fr lo)).room, s, m, av.toArray, below, meth, c, FA G, 0) rfl ⟨B.exec, B.bytes, hml, findClass_of_methodNamed B.named, fun w h => hts w (List.mem_cons_of_mem _ h), hK, B.notSynchronized, hi, B.returns, rfl, rfl, hN, fun _ h => h, Nat.zero_le _, Nat.zero_le _⟩ r hr ⟨Nat.le_refl _, Nat.le_refl _, hX, htab, hfl⟩ s.heap [] _ hP va_S.rf hl
/-- behind a throw: the handler's part -/
def HX (K : MCx) (G : Lay) (hh : List (Nat × Nat × Nat × Nat)) (nL pc : Nat) (lv : List (Nat × Value)) (o : String × Int64 × cS) (E : Option (Int32 × cS)) : Prop :=
  ∀ r, E = some r → PH K G hh r → ∀ (H : Heap) (locs : List Loc) (ls : Array Slot) (rest : List Value) (q : Addr) (ce9 : Cell), va_P (lD G) vwCl (wd G o.2.1 o.2.2) H → va_S (kA K) (ks K).heap H locs → lv_has ls nL lv → H[q]? = some ce9 → ce9.vm = .none → (ks K).vm.findClass o.1 = some ce9.cls → vx_W (kp K) (kl K) (ke K) (kR K) (ks K) (km K) (ka K) (kb K) (kme K) (kc K) H locs (ku K + 1) (12 * ku K + 6) (QH K G o.2.1 r) (F0 (km K) pc ls rest) q
theorem h_no {K : MCx} {G : Lay} {hh : List (Nat × Nat × Nat × Nat)} {nL pc : Nat} {lv : List (Nat × Value)} {o : String × Int64 × cS} : HX K G hh nL pc lv o none := fun r hr => nomatch hr
theorem h_or {K : MCx} {G : Lay} {hh : List (Nat × Nat × Nat × Nat)} {nL pc : Nat} {lv : List (Nat × Value)} {o : String × Int64 × cS} {E E' : Option (Int32 × cS)} {c n : Nat} (h1 : c = n → HX K G hh nL pc lv o E) (h2 : HX K G hh nL pc lv o E') : HX K G hh nL pc lv o (if c = n then E else E') := by
  by_cases e : c = n
  · rw [if_pos e]; exact h1 e
  · rw [if_neg e]; exact h2
set_option maxHeartbeats 4000000 in
theorem h_catch {K : MCx} {G : Lay} {cc : ByteArray} {nL : Nat} {rf rl : Nat} {hh : List (Nat × Nat × Nat × Nat)} {pc : Nat} {lv : List (Nat × Value)} {o : String × Int64 × cS} {x : Int32} (X : Cx K G RL cc nL (some .int) rf rl) (n : Nat) (ho : o.1 = exN n) (pre : List (Nat × Nat × Nat × Nat)) (a b hp ct : Nat) (suf : List (Nat × Nat × Nat × Nat)) (hhe : hh = pre ++ (a, b, hp, ct) :: suf) (hpass : ∀ z ∈ pre, z.2.2.2 ≠ 0 ∧ ∃ m : Nat, Cond.classLink RL z.2.2.2 (exN m) ∈ wsL_law ∧ (n, m) ∈ ncs) (hx : covers (⟨a, b, hp, ct⟩ : ExceptionTableEntry) pc = true) (h0 : ct ≠ 0) (hlink : Cond.classLink RL ct (exN n) ∈ wsL_law) (hcast : Cond.castable (exN n) (exN n) ∈ thW)
    (k : ∀ (q : Nat) (H : Heap) (locs : List Loc) (ls : Array Slot), va_P (lD G) vwCl (wd G o.2.1 o.2.2) H → va_S (kA K) (ks K).heap H locs → lv_has ls nL lv → W (kp K) (kl K) (ke K) (kR K) (ks K) (km K) (ka K) (kb K) (kme K) (kc K) H locs (ku K + 1) (12 * ku K + 6) (QH K G o.2.1 (x, o.2.2)) (F0 (km K) hp ls [.ref q])) : HX K G hh nL pc lv o (some (x, o.2.2)) := by
  intro r hr hp9 H locs ls rest q ce9 hP hS hl hce hcv hcl
  cases hr
  obtain ⟨p1, p2, hsx, hT, hfl⟩ := hp9
  rw [ho] at hcl
  refine vx_catch (E := exN n) (ce := ce9) (name := exN n) X.2.2.2.1 (tableOf pre) ⟨a, b, hp, ct⟩ (tableOf suf) (by rw [hT, hhe]; simp [tableOf]) (fun z hz => ?_) hx h0 (X.2.2.2.2.1 _ hlink) (va_Nw.use (thW_tab hcast) (hsx.2.2.1 _ hcast)) hce hcv hcl (k q H locs ls hP hS hl)
  obtain ⟨w, hw, rfl⟩ := List.mem_map.mp hz
  obtain ⟨h1, m, h2, h3⟩ := hpass w hw
  exact Or.inr ⟨h1, exN m, X.2.2.2.2.1 _ h2, hsx.2.2.2.2 (n, m) h3⟩
set_option maxHeartbeats 4000000 in
theorem h_end {K : MCx} {G : Lay} {cc : ByteArray} {nL : Nat} {rf rl : Nat} {o : String × Int64 × cS} {x : Int32} {i : Int} {pc : Nat} {H : Heap} {locs : List Loc} {ls : Array Slot} (X : Cx K G RL cc nL (some .int) rf rl) (hP : va_P (lD G) vwCl (wd G o.2.1 o.2.2) H) (hS : va_S (kA K) (ks K).heap H locs) (d2 : decode cc pc = .ok (.sipush i, 3)) (hv : (Int16.ofInt i).toInt32 = x) (d3 : decode cc (pc + 3) = .ok (.ireturn, 1)) : W (kp K) (kl K) (ke K) (kR K) (ks K) (km K) (ka K) (kb K) (kme K) (kc K) H locs (ku K + 1) (12 * ku K + 6) (QH K G o.2.1 (x, o.2.2)) (F0 (km K) pc ls []) :=
  lv_sipush X.1 X.2.1 d2 hv (W.iret X.1 X.2.1 X.2.2.2.2.2.2.2.2.1 (fun t ht hW => ⟨rfl, by rw [ht]; exact hP, hS.F ht⟩) hS.2.2 d3 X.2.2.2.2.2.2.1)
set_option maxHeartbeats 4000000 in
theorem z_hret {K : MCx} {G : Lay} {cc : ByteArray} {nL : Nat} {rf rl : Nat} {hh : List (Nat × Nat × Nat × Nat)} {pc : Nat} {lv : List (Nat × Value)} {h : Int64} {σ : cS} {v : Int32} (X : Cx K G RL cc nL (some .int) rf rl) (hdg : decode cc pc = .ok (.ireturn, 1)) : Sm K G (PH K G hh) (QH K G h) nL pc lv [.int v] h σ (some (v, σ)) := by
  intro r hr hp H locs ls hP hS hl
  cases hr
  exact W.widen (Nat.le_succ _) (Nat.le_add_right _ 6) (W.iret X.1 X.2.1 X.2.2.2.2.2.2.2.2.1 (fun t ht hW => ⟨rfl, by rw [ht]; exact hP, hS.F ht⟩) hS.2.2 hdg X.2.2.2.2.2.2.1)
set_option maxHeartbeats 4000000 in
theorem z_hcall {K : MCx} {G : Lay} {own : String} {cc : ByteArray} {nL : Nat} {ret : Option FieldType} {rf rl : Nat} {hh : List (Nat × Nat × Nat × Nat)} {pc : Nat} {lv : List (Nat × Value)} {st : List Value} {h : Int64} {σ : cS} (X : Cx K G own cc nL ret rf rl) {α1 β1 : Type} {y : MethodName} {bytes : ByteArray} {maxL n : Nat} {rt : Option FieldType} {index rmf rml : Nat} {Ec : Option (α1 ⊕ β1)} {g : α1 → Option Value × Int64 × cS} {gx : β1 → String × Int64 × cS} {f : α1 ⊕ β1 → Option (Int32 × cS)} {C : String} {T : u_T} {nf ci : Nat} {fs : List Value} {st0 : List Value} {st1 : α1 → List Value} (As : List Value) (kk : Nat) (hy : Cal y C bytes maxL rt n) (hlink : Cond.methodLink own index y ∈ wsL_law) (hR : rmf + 1 ≤ rf ∧ 8 + (maxL + 11) + rml ≤ rl) (hst : st0 = As.reverse ++ .ref (la G kk) :: st) (hn : As.length = n) (hcat : (st.map fun v => v.category).sum ≤ 8) (hc : vwCl[ci]? = some (C, T, nf)) (o : Ob G kk ci) (hw : ce G h σ kk = .inr (ci, fs)) (hM : ∀ rc, Ec = some (.inl rc) → CM (kl K) y bytes maxL rt rmf rml G (.ref (la G kk) :: As) h σ (g rc)) (hX : (kl K).stackTraces = false → ∀ rc, Ec = some (.inr rc) → CX (kl K) y bytes maxL rt rmf rml G (.ref (la G kk) :: As) h σ (gx rc)) (hdg : decode cc pc = .ok (.invokevirtual index, 3)) (hst1 : ∀ rc, (g rc).1.toList ++ st = st1 rc) (hgh : ∀ b, (gx b).2.1 = h) (kx : ∀ b, HX K G hh nL pc lv (gx b) (f (.inr b))) (k : ∀ rc, Sm K G (PH K G hh) (QH K G h) nL (pc + 3) lv (st1 rc) (g rc).2.1 (g rc).2.2 (f (.inl rc))) : Sm K G (PH K G hh) (QH K G h) nL pc lv st0 h σ (Ec.bind f) := by
  intro r hr hp
  rcases he : Ec with _ | ⟨a⟩ | ⟨b⟩
  · rw [he] at hr; cases hr
  · have hr' : (Option.some a).bind (fun a => f (.inl a)) = some r := by rw [he] at hr; exact hr
    exact z_callV0 (Ec := some a) (f := fun a => f (.inl a)) (g := g) (st1 := st1) X As kk hy hlink hR hst hn hcat hc o hw (fun rc h9 => hM rc (by rw [he]; cases h9; rfl)) hdg hst1 k r hr' hp
  · intro H locs ls hP hS hl
    have hr' : f (.inr b) = some r := by rw [he] at hr; exact hr
    have hp' := hp
    obtain ⟨p1, p2, hsx, hT, hfl⟩ := hp
    have hK := X.2.2.2.2.2.1
    have hN := X.2.2.2.2.2.2.2.2.2.2.2.1
    have hrun := vx_runV (cells := ku K) (slots := 12 * ku K) (R := kR K) (locs := locs) (H := H) (p := kp K) (l := kl K) (e := ke K) (below := kb K) (meth := kme K) (g := F0 (km K) pc ls st0) (As := As) (rest := st) (b := la G kk) ⟨X.1, X.2.1, X.2.2.1, X.2.2.2.1, X.2.2.2.2.1⟩ (hX hfl b he) (cal_V (fr := 0) (lo := 0) X.2.2.2.2.1 hy hlink (rm := rmX rmf rml) rfl rfl (by rw [X.2.2.2.2.2.2.2.2.2.1, X.2.2.2.2.2.2.2.2.2.2.1]; exact hR)) ⟨PCX_blind, va_recv hK hP hc (by rw [fw_get o.1, hw]), fun U hU hW => ⟨rfl, ⟨by rw [hU]; exact hP, va_K.moved hW.alike hK, NW_warm hW hN⟩, by rw [hU]; exact SX_narrow X.2.2.2.2.2.2.2.2.2.2.2.2.1 (SX_warm hW hsx hS.2.1)⟩⟩ rfl hn hl.1 hst (lv_room hcat) hdg ⟨p1, p2⟩
    intro T0 hT0 XX
    rcases hrun T0 hT0 XX with ⟨v, sa, t, T', L, h0, X', hL, e1, e2, hq, stp⟩ | ⟨q, sa, t, T', L, E, ce9, h0, X', hL, e1, e2, ⟨hE, hP1, hF⟩, hce, hcv9, hcl, stp⟩
    · exact hq.elim
    · have hS1 := va_S_call X.2.2.2.2.2.2.2.2.2.2.2.2.1 hS h0 e1 hF hL
      have kx0 := kx b
      have out := kx0 r hr' hp' T'.heap (locs ++ L) ls st q ce9 (by rw [e1]; exact hP1) hS1 hl (by rw [e1]; exact hce) hcv9 (by rw [← hE]; exact hcl)
      obtain ⟨t2, a1, b1⟩ := out T' rfl X'
      exact ⟨t2, stp.trans a1, by rw [← hgh b]; exact b1⟩
theorem cast_1 : Cond.castable (exN 1) (exN 1) ∈ thW := by decide +kernel
theorem cast_2 : Cond.castable (exN 2) (exN 2) ∈ thW := by decide +kernel
theorem cast_3 : Cond.castable (exN 3) (exN 3) ∈ thW := by decide +kernel
theorem cast_4 : Cond.castable (exN 4) (exN 4) ∈ thW := by decide +kernel
theorem q_5_0 : Cond.classLink RL 23 "java/lang/IllegalStateException" ∈ wsL_law := seg_5 _ (List.mem_of_getElem? (i := 0) rfl)
theorem q_5_1 : Cond.methodLink RL 70 yX6_undo ∈ wsL_law := seg_5 _ (List.mem_of_getElem? (i := 1) rfl)
theorem q_5_2 : Cond.instanceMethod yX6_undo ∈ wsL_law := seg_5 _ (List.mem_of_getElem? (i := 2) rfl)
theorem q_5_3 : Cond.selects RX6 yX6_undo yX6_undo ∈ wsL_law := seg_5 _ (List.mem_of_getElem? (i := 3) rfl)
theorem q_5_4 : Cond.code yX6_undo cX6_undo 1 (some .int) ∈ wsL_law := seg_5 _ (List.mem_of_getElem? (i := 4) rfl)
theorem q_6_2 : Cond.methodLink RL 48 yX6_value ∈ wsL_law := seg_6 _ (List.mem_of_getElem? (i := 2) rfl)
theorem q_6_3 : Cond.instanceMethod yX6_value ∈ wsL_law := seg_6 _ (List.mem_of_getElem? (i := 3) rfl)
theorem q_6_4 : Cond.selects RX6 yX6_value yX6_value ∈ wsL_law := seg_6 _ (List.mem_of_getElem? (i := 4) rfl)
theorem q_6_5 : Cond.code yX6_value cX6_value 2 (some .int) ∈ wsL_law := seg_6 _ (List.mem_of_getElem? (i := 5) rfl)
theorem q_17_3 : Cond.methodLink RL 39 yX6_node ∈ wsL_law := seg_17 _ (List.mem_of_getElem? (i := 3) rfl)
theorem q_17_4 : Cond.instanceMethod yX6_node ∈ wsL_law := seg_17 _ (List.mem_of_getElem? (i := 4) rfl)
theorem q_17_5 : Cond.selects RX6 yX6_node yX6_node ∈ wsL_law := seg_17 _ (List.mem_of_getElem? (i := 5) rfl)
theorem q_17_6 : Cond.code yX6_node cX6_node 3 (some .int) ∈ wsL_law := seg_17 _ (List.mem_of_getElem? (i := 6) rfl)
theorem q_17_22 : Cond.methodLink RL 45 yX6_edgeAt ∈ wsL_law := seg_17 _ (List.mem_of_getElem? (i := 22) rfl)
theorem q_17_23 : Cond.instanceMethod yX6_edgeAt ∈ wsL_law := seg_17 _ (List.mem_of_getElem? (i := 23) rfl)
theorem q_18_0 : Cond.selects RX6 yX6_edgeAt yX6_edgeAt ∈ wsL_law := seg_18 _ (List.mem_of_getElem? (i := 0) rfl)
theorem q_18_1 : Cond.code yX6_edgeAt cX6_edgeAt 2 (some .int) ∈ wsL_law := seg_18 _ (List.mem_of_getElem? (i := 1) rfl)
theorem q_18_2 : Cond.methodLink RL 42 yX6_edge ∈ wsL_law := seg_18 _ (List.mem_of_getElem? (i := 2) rfl)
theorem q_18_3 : Cond.instanceMethod yX6_edge ∈ wsL_law := seg_18 _ (List.mem_of_getElem? (i := 3) rfl)
theorem q_18_4 : Cond.selects RX6 yX6_edge yX6_edge ∈ wsL_law := seg_18 _ (List.mem_of_getElem? (i := 4) rfl)
theorem q_18_5 : Cond.code yX6_edge cX6_edge 4 (some .int) ∈ wsL_law := seg_18 _ (List.mem_of_getElem? (i := 5) rfl)
theorem q_18_15 : Cond.classLink RL 15 "java/lang/IllegalArgumentException" ∈ wsL_law := seg_18 _ (List.mem_of_getElem? (i := 15) rfl)
theorem q_18_16 : Cond.methodLink RL 9 yX6_begin ∈ wsL_law := seg_18 _ (List.mem_of_getElem? (i := 16) rfl)
theorem q_18_17 : Cond.instanceMethod yX6_begin ∈ wsL_law := seg_18 _ (List.mem_of_getElem? (i := 17) rfl)
theorem q_18_18 : Cond.selects RX6 yX6_begin yX6_begin ∈ wsL_law := seg_18 _ (List.mem_of_getElem? (i := 18) rfl)
theorem q_18_19 : Cond.code yX6_begin cX6_begin 3 (some .int) ∈ wsL_law := seg_18 _ (List.mem_of_getElem? (i := 19) rfl)
theorem q_19_0 : Cond.classLink RL 21 "java/lang/IndexOutOfBoundsException" ∈ wsL_law := seg_19 _ (List.mem_of_getElem? (i := 0) rfl)
theorem q_19_1 : Cond.methodLink RL 17 yX6_add ∈ wsL_law := seg_19 _ (List.mem_of_getElem? (i := 1) rfl)
theorem q_19_2 : Cond.instanceMethod yX6_add ∈ wsL_law := seg_19 _ (List.mem_of_getElem? (i := 2) rfl)
theorem q_19_3 : Cond.selects RX6 yX6_add yX6_add ∈ wsL_law := seg_19 _ (List.mem_of_getElem? (i := 3) rfl)
theorem q_19_4 : Cond.code yX6_add cX6_add 3 (some .int) ∈ wsL_law := seg_19 _ (List.mem_of_getElem? (i := 4) rfl)
theorem q_19_11 : Cond.classLink RL 28 "java/util/NoSuchElementException" ∈ wsL_law := seg_19 _ (List.mem_of_getElem? (i := 11) rfl)
theorem q_19_12 : Cond.methodLink RL 25 yX6_remove ∈ wsL_law := seg_19 _ (List.mem_of_getElem? (i := 12) rfl)
theorem q_19_13 : Cond.instanceMethod yX6_remove ∈ wsL_law := seg_19 _ (List.mem_of_getElem? (i := 13) rfl)
theorem q_19_14 : Cond.selects RX6 yX6_remove yX6_remove ∈ wsL_law := seg_19 _ (List.mem_of_getElem? (i := 14) rfl)
theorem q_19_15 : Cond.code yX6_remove cX6_remove 3 (some .int) ∈ wsL_law := seg_19 _ (List.mem_of_getElem? (i := 15) rfl)
theorem q_19_19 : Cond.methodLink RL 30 yX6_turn ∈ wsL_law := seg_19 _ (List.mem_of_getElem? (i := 19) rfl)
theorem q_19_20 : Cond.instanceMethod yX6_turn ∈ wsL_law := seg_19 _ (List.mem_of_getElem? (i := 20) rfl)
theorem q_19_21 : Cond.selects RX6 yX6_turn yX6_turn ∈ wsL_law := seg_19 _ (List.mem_of_getElem? (i := 21) rfl)
theorem q_19_22 : Cond.code yX6_turn cX6_turn 3 (some .int) ∈ wsL_law := seg_19 _ (List.mem_of_getElem? (i := 22) rfl)
theorem q_20_2 : Cond.methodLink RL 33 yX6_relieve ∈ wsL_law := seg_20 _ (List.mem_of_getElem? (i := 2) rfl)
theorem q_20_3 : Cond.instanceMethod yX6_relieve ∈ wsL_law := seg_20 _ (List.mem_of_getElem? (i := 3) rfl)
theorem q_20_4 : Cond.selects RX6 yX6_relieve yX6_relieve ∈ wsL_law := seg_20 _ (List.mem_of_getElem? (i := 4) rfl)
theorem q_20_5 : Cond.code yX6_relieve cX6_relieve 3 (some .int) ∈ wsL_law := seg_20 _ (List.mem_of_getElem? (i := 5) rfl)
theorem q_20_11 : Cond.methodLink RL 36 yX6_setCapacity ∈ wsL_law := seg_20 _ (List.mem_of_getElem? (i := 11) rfl)
theorem q_20_12 : Cond.instanceMethod yX6_setCapacity ∈ wsL_law := seg_20 _ (List.mem_of_getElem? (i := 12) rfl)
theorem q_20_13 : Cond.selects RX6 yX6_setCapacity yX6_setCapacity ∈ wsL_law := seg_20 _ (List.mem_of_getElem? (i := 13) rfl)
theorem q_20_14 : Cond.code yX6_setCapacity cX6_setCapacity 4 (some .int) ∈ wsL_law := seg_20 _ (List.mem_of_getElem? (i := 14) rfl)
theorem q_21_6 : Cond.methodLink RL 51 yX6_path ∈ wsL_law := seg_21 _ (List.mem_of_getElem? (i := 6) rfl)
theorem q_21_7 : Cond.instanceMethod yX6_path ∈ wsL_law := seg_21 _ (List.mem_of_getElem? (i := 7) rfl)
theorem q_21_8 : Cond.selects RX6 yX6_path yX6_path ∈ wsL_law := seg_21 _ (List.mem_of_getElem? (i := 8) rfl)
theorem q_21_9 : Cond.code yX6_path cX6_path 3 (some .int) ∈ wsL_law := seg_21 _ (List.mem_of_getElem? (i := 9) rfl)
theorem q_21_14 : Cond.methodLink RL 54 yX6_step ∈ wsL_law := seg_21 _ (List.mem_of_getElem? (i := 14) rfl)
theorem q_21_15 : Cond.instanceMethod yX6_step ∈ wsL_law := seg_21 _ (List.mem_of_getElem? (i := 15) rfl)
theorem q_21_16 : Cond.selects RX6 yX6_step yX6_step ∈ wsL_law := seg_21 _ (List.mem_of_getElem? (i := 16) rfl)
theorem q_21_17 : Cond.code yX6_step cX6_step 5 (some .int) ∈ wsL_law := seg_21 _ (List.mem_of_getElem? (i := 17) rfl)
theorem q_22_1 : Cond.methodLink RL 58 yX6_inner ∈ wsL_law := seg_22 _ (List.mem_of_getElem? (i := 1) rfl)
theorem q_22_2 : Cond.instanceMethod yX6_inner ∈ wsL_law := seg_22 _ (List.mem_of_getElem? (i := 2) rfl)
theorem q_22_3 : Cond.selects RX6 yX6_inner yX6_inner ∈ wsL_law := seg_22 _ (List.mem_of_getElem? (i := 3) rfl)
theorem q_22_4 : Cond.code yX6_inner cX6_inner 2 (some .int) ∈ wsL_law := seg_22 _ (List.mem_of_getElem? (i := 4) rfl)
theorem q_22_8 : Cond.methodLink RL 61 yX6_leastWith ∈ wsL_law := seg_22 _ (List.mem_of_getElem? (i := 8) rfl)
theorem q_22_9 : Cond.instanceMethod yX6_leastWith ∈ wsL_law := seg_22 _ (List.mem_of_getElem? (i := 9) rfl)
theorem q_22_10 : Cond.selects RX6 yX6_leastWith yX6_leastWith ∈ wsL_law := seg_22 _ (List.mem_of_getElem? (i := 10) rfl)
theorem q_22_11 : Cond.code yX6_leastWith cX6_leastWith 3 (some .int) ∈ wsL_law := seg_22 _ (List.mem_of_getElem? (i := 11) rfl)
theorem q_22_19 : Cond.methodLink RL 64 yX6_leastWithout ∈ wsL_law := seg_22 _ (List.mem_of_getElem? (i := 19) rfl)
theorem q_22_20 : Cond.instanceMethod yX6_leastWithout ∈ wsL_law := seg_22 _ (List.mem_of_getElem? (i := 20) rfl)
theorem q_22_21 : Cond.selects RX6 yX6_leastWithout yX6_leastWithout ∈ wsL_law := seg_22 _ (List.mem_of_getElem? (i := 21) rfl)
theorem q_22_22 : Cond.code yX6_leastWithout cX6_leastWithout 3 (some .int) ∈ wsL_law := seg_22 _ (List.mem_of_getElem? (i := 22) rfl)
theorem q_23_3 : Cond.methodLink RL 67 yX6_append ∈ wsL_law := seg_23 _ (List.mem_of_getElem? (i := 3) rfl)
theorem q_23_4 : Cond.instanceMethod yX6_append ∈ wsL_law := seg_23 _ (List.mem_of_getElem? (i := 4) rfl)
theorem q_23_5 : Cond.selects RX6 yX6_append yX6_append ∈ wsL_law := seg_23 _ (List.mem_of_getElem? (i := 5) rfl)
theorem q_23_6 : Cond.code yX6_append cX6_append 2 (some .int) ∈ wsL_law := seg_23 _ (List.mem_of_getElem? (i := 6) rfl)
theorem cal_X6_begin : Cal yX6_begin RX6 cX6_begin 3 (some .int) 1 := ⟨q_18_19, q_18_17, q_18_18, q_1_2, by decide +kernel⟩
theorem cal_X6_add : Cal yX6_add RX6 cX6_add 3 (some .int) 2 := ⟨q_19_4, q_19_2, q_19_3, q_1_2, by decide +kernel⟩
theorem cal_X6_remove : Cal yX6_remove RX6 cX6_remove 3 (some .int) 1 := ⟨q_19_15, q_19_13, q_19_14, q_1_2, by decide +kernel⟩
theorem cal_X6_turn : Cal yX6_turn RX6 cX6_turn 3 (some .int) 1 := ⟨q_19_22, q_19_20, q_19_21, q_1_2, by decide +kernel⟩
theorem cal_X6_relieve : Cal yX6_relieve RX6 cX6_relieve 3 (some .int) 1 := ⟨q_20_5, q_20_3, q_20_4, q_1_2, by decide +kernel⟩
theorem cal_X6_setCapacity : Cal yX6_setCapacity RX6 cX6_setCapacity 4 (some .int) 2 := ⟨q_20_14, q_20_12, q_20_13, q_1_2, by decide +kernel⟩
theorem cal_X6_node : Cal yX6_node RX6 cX6_node 3 (some .int) 2 := ⟨q_17_6, q_17_4, q_17_5, q_1_2, by decide +kernel⟩
theorem cal_X6_edge : Cal yX6_edge RX6 cX6_edge 4 (some .int) 2 := ⟨q_18_5, q_18_3, q_18_4, q_1_2, by decide +kernel⟩
theorem cal_X6_edgeAt : Cal yX6_edgeAt RX6 cX6_edgeAt 2 (some .int) 1 := ⟨q_18_1, q_17_23, q_18_0, q_1_2, by decide +kernel⟩
theorem cal_X6_value : Cal yX6_value RX6 cX6_value 2 (some .int) 1 := ⟨q_6_5, q_6_3, q_6_4, q_1_2, by decide +kernel⟩
theorem cal_X6_path : Cal yX6_path RX6 cX6_path 3 (some .int) 2 := ⟨q_21_9, q_21_7, q_21_8, q_1_2, by decide +kernel⟩
theorem cal_X6_step : Cal yX6_step RX6 cX6_step 5 (some .int) 3 := ⟨q_21_17, q_21_15, q_21_16, q_1_2, by decide +kernel⟩
theorem cal_X6_inner : Cal yX6_inner RX6 cX6_inner 2 (some .int) 1 := ⟨q_22_4, q_22_2, q_22_3, q_1_2, by decide +kernel⟩
theorem cal_X6_leastWith : Cal yX6_leastWith RX6 cX6_leastWith 3 (some .int) 2 := ⟨q_22_11, q_22_9, q_22_10, q_1_2, by decide +kernel⟩
theorem cal_X6_leastWithout : Cal yX6_leastWithout RX6 cX6_leastWithout 3 (some .int) 1 := ⟨q_22_22, q_22_20, q_22_21, q_1_2, by decide +kernel⟩
theorem cal_X6_append : Cal yX6_append RX6 cX6_append 2 (some .int) 1 := ⟨q_23_6, q_23_4, q_23_5, q_1_2, by decide +kernel⟩
theorem cal_X6_undo : Cal yX6_undo RX6 cX6_undo 1 (some .int) 0 := ⟨q_5_4, q_5_2, q_5_3, q_1_2, by decide +kernel⟩
def gL_begin (σ : cS) : (Int32 × cS) ⊕ (Nat × cS) → Option (Int32 × cS) := fun r => match r with
  | .inl a => some (a.1, a.2)
  | .inr b => if b.1 = 1 then some ((-2051 : Int32), b.2) else none
def fL_begin (L : Nat → Nat) (Nf : Nat) (σ : cS) (k : Nat) (x1 : Int32) : Option (Int32 × cS) := (fX6_begin L Nf σ k x1).bind (gL_begin σ)
set_option maxHeartbeats 4000000 in
set_option maxRecDepth 100000 in
theorem hL_begin (l : Launch) (hfl : l.stackTraces = false) (G : Lay) (hi : Inj G) (Nf : Nat) (h : Int64) (σ : cS) (k : Nat) (hk : isEH G k) (x1 : Int32) : ∀ r, fL_begin (ll G) Nf σ k x1 = some r → HM l yL_begin cL_begin 4 [(0, 6, 9, 15)] 7 112 G [.ref (la G k), .int x1] h σ (some (.int r.1), h, r.2) := by
  refine hm_of (by decide) hi hfl (Nat.le_of_ble_eq_true rfl) (fun K hKl X => ?_)
  unfold fL_begin
  refine z_aload_n X dL_begin_0 0 rfl ?_
  refine z_iload_n X dL_begin_1 1 rfl ?_
  refine z_hcall X (g := (fun r : (Int32 × cS) => ((some (.int r.1), h, r.2) : Option Value × Int64 × cS))) (gx := (fun r : Nat × cS => ((exN r.1, h, r.2) : String × Int64 × cS))) (f := gL_begin σ) (st := []) (st1 := (fun r : (Int32 × cS) => [.int r.1])) (rmf := 6) (rml := 90) [.int x1] k cal_X6_begin q_18_16 ⟨Nat.le_of_ble_eq_true rfl, Nat.le_of_ble_eq_true rfl⟩ rfl rfl (Nat.le_of_ble_eq_true rfl) rfl hk.1 (ce6 hk.1 _ _) (ctX6_begin_n (kl K) G X.2.2.2.2.2.2.2.1 Nf h σ k hk x1) (ctX6_begin_x (kl K) G X.2.2.2.2.2.2.2.1 Nf h σ k hk x1) dL_begin_2 (fun _ => rfl) (fun _ => rfl) (fun b => ?_) (fun a => ?_)
  · show HX K G _ _ _ _ _ (if b.1 = 1 then some ((-2051 : Int32), b.2) else none)
    refine h_or (fun e => h_catch X 1 (congrArg exN e) [] 0 6 9 15 [] rfl (fun z hz => absurd hz List.not_mem_nil) (by decide) (by decide) q_18_15 cast_1 (fun q H locs ls hP hS hl => lv_astore_n X.1 X.2.1 dL_begin_9 rfl hl (by decide) rfl (fun _ _ => h_end X hP hS dL_begin_10 (by decide) dL_begin_13))) ?_
    exact h_no
  · refine z_istore_n X [(2, .int a.1), (0, .ref (la G k)), (1, .int x1)] dL_begin_5 (by decide) rfl ?_
    refine z_goto X 14 dL_begin_6 (by decide) ?_
    refine z_iload_n X dL_begin_14 0 rfl ?_
    exact z_hret X dL_begin_15
def gL_add (σ : cS) : (Int32 × cS) ⊕ (Nat × cS) → Option (Int32 × cS) := fun r => match r with
  | .inl a => some (a.1, a.2)
  | .inr b => if b.1 = 3 then some ((-2053 : Int32), b.2) else if b.1 = 1 then some ((-2051 : Int32), b.2) else if b.1 = 2 then some ((-2052 : Int32), b.2) else none
def fL_add (L : Nat → Nat) (Nf : Nat) (σ : cS) (k : Nat) (x1 : Int32) (x2 : Int32) : Option (Int32 × cS) := (fX6_add L Nf σ k x1 x2).bind (gL_add σ)
set_option maxHeartbeats 4000000 in
set_option maxRecDepth 100000 in
theorem hL_add (l : Launch) (hfl : l.stackTraces = false) (G : Lay) (hi : Inj G) (Nf : Nat) (h : Int64) (σ : cS) (k : Nat) (hk : isEH G k) (x1 : Int32) (x2 : Int32) : ∀ r, fL_add (ll G) Nf σ k x1 x2 = some r → HM l yL_add cL_add 5 [(0, 7, 10, 21), (0, 7, 16, 15), (0, 7, 22, 23)] 8 133 G [.ref (la G k), .int x1, .int x2] h σ (some (.int r.1), h, r.2) := by
  refine hm_of (by decide) hi hfl (Nat.le_of_ble_eq_true rfl) (fun K hKl X => ?_)
  unfold fL_add
  refine z_aload_n X dL_add_0 0 rfl ?_
  refine z_iload_n X dL_add_1 1 rfl ?_
  refine z_iload_n X dL_add_2 2 rfl ?_
  refine z_hcall X (g := (fun r : (Int32 × cS) => ((some (.int r.1), h, r.2) : Option Value × Int64 × cS))) (gx := (fun r : Nat × cS => ((exN r.1, h, r.2) : String × Int64 × cS))) (f := gL_add σ) (st := []) (st1 := (fun r : (Int32 × cS) => [.int r.1])) (rmf := 7) (rml := 111) [.int x1, .int x2] k cal_X6_add q_19_1 ⟨Nat.le_of_ble_eq_true rfl, Nat.le_of_ble_eq_true rfl⟩ rfl rfl (Nat.le_of_ble_eq_true rfl) rfl hk.1 (ce6 hk.1 _ _) (ctX6_add_n (kl K) G X.2.2.2.2.2.2.2.1 Nf h σ k hk x1 x2) (ctX6_add_x (kl K) G X.2.2.2.2.2.2.2.1 Nf h σ k hk x1 x2) dL_add_3 (fun _ => rfl) (fun _ => rfl) (fun b => ?_) (fun a => ?_)
  · show HX K G _ _ _ _ _ (if b.1 = 3 then some ((-2053 : Int32), b.2) else if b.1 = 1 then some ((-2051 : Int32), b.2) else if b.1 = 2 then some ((-2052 : Int32), b.2) else none)
    refine h_or (fun e => h_catch X 3 (congrArg exN e) [] 0 7 10 21 [(0, 7, 16, 15), (0, 7, 22, 23)] rfl (fun z hz => absurd hz List.not_mem_nil) (by decide) (by decide) q_19_0 cast_3 (fun q H locs ls hP hS hl => lv_astore X.1 X.2.1 dL_add_10 hl (by decide) rfl (fun _ _ => h_end X hP hS dL_add_12 (by decide) dL_add_15))) ?_
    refine h_or (fun e => h_catch X 1 (congrArg exN e) [(0, 7, 10, 21)] 0 7 16 15 [(0, 7, 22, 23)] rfl (List.forall_mem_cons.mpr ⟨⟨by decide, 3, q_19_0, by decide⟩, fun z hz => absurd hz List.not_mem_nil⟩) (by decide) (by decide) q_18_15 cast_1 (fun q H locs ls hP hS hl => lv_astore X.1 X.2.1 dL_add_16 hl (by decide) rfl (fun _ _ => h_end X hP hS dL_add_18 (by decide) dL_add_21))) ?_
    refine h_or (fun e => h_catch X 2 (congrArg exN e) [(0, 7, 10, 21), (0, 7, 16, 15)] 0 7 22 23 [] rfl (List.forall_mem_cons.mpr ⟨⟨by decide, 3, q_19_0, by decide⟩, List.forall_mem_cons.mpr ⟨⟨by decide, 1, q_18_15, by decide⟩, fun z hz => absurd hz List.not_mem_nil⟩⟩) (by decide) (by decide) q_5_0 cast_2 (fun q H locs ls hP hS hl => lv_astore X.1 X.2.1 dL_add_22 hl (by decide) rfl (fun _ _ => h_end X hP hS dL_add_24 (by decide) dL_add_27))) ?_
    exact h_no
  · refine z_istore_n X [(3, .int a.1), (0, .ref (la G k)), (1, .int x1), (2, .int x2)] dL_add_6 (by decide) rfl ?_
    refine z_goto X 28 dL_add_7 (by decide) ?_
    refine z_iload_n X dL_add_28 0 rfl ?_
    exact z_hret X dL_add_29
def gL_remove (σ : cS) : (Int32 × cS) ⊕ (Nat × cS) → Option (Int32 × cS) := fun r => match r with
  | .inl a => some (a.1, a.2)
  | .inr b => if b.1 = 4 then some ((-2054 : Int32), b.2) else none
def fL_remove (L : Nat → Nat) (Nf : Nat) (σ : cS) (k : Nat) (x1 : Int32) : Option (Int32 × cS) := (fX6_remove L Nf σ k x1).bind (gL_remove σ)
set_option maxHeartbeats 4000000 in
set_option maxRecDepth 100000 in
theorem hL_remove (l : Launch) (hfl : l.stackTraces = false) (G : Lay) (hi : Inj G) (Nf : Nat) (h : Int64) (σ : cS) (k : Nat) (hk : isEH G k) (x1 : Int32) : ∀ r, fL_remove (ll G) Nf σ k x1 = some r → HM l yL_remove cL_remove 4 [(0, 6, 9, 28)] 8 134 G [.ref (la G k), .int x1] h σ (some (.int r.1), h, r.2) := by
  refine hm_of (by decide) hi hfl (Nat.le_of_ble_eq_true rfl) (fun K hKl X => ?_)
  unfold fL_remove
  refine z_aload_n X dL_remove_0 0 rfl ?_
  refine z_iload_n X dL_remove_1 1 rfl ?_
  refine z_hcall X (g := (fun r : (Int32 × cS) => ((some (.int r.1), h, r.2) : Option Value × Int64 × cS))) (gx := (fun r : Nat × cS => ((exN r.1, h, r.2) : String × Int64 × cS))) (f := gL_remove σ) (st := []) (st1 := (fun r : (Int32 × cS) => [.int r.1])) (rmf := 7) (rml := 112) [.int x1] k cal_X6_remove q_19_12 ⟨Nat.le_of_ble_eq_true rfl, Nat.le_of_ble_eq_true rfl⟩ rfl rfl (Nat.le_of_ble_eq_true rfl) rfl hk.1 (ce6 hk.1 _ _) (ctX6_remove_n (kl K) G X.2.2.2.2.2.2.2.1 Nf h σ k hk x1) (ctX6_remove_x (kl K) G X.2.2.2.2.2.2.2.1 Nf h σ k hk x1) dL_remove_2 (fun _ => rfl) (fun _ => rfl) (fun b => ?_) (fun a => ?_)
  · show HX K G _ _ _ _ _ (if b.1 = 4 then some ((-2054 : Int32), b.2) else none)
    refine h_or (fun e => h_catch X 4 (congrArg exN e) [] 0 6 9 28 [] rfl (fun z hz => absurd hz List.not_mem_nil) (by decide) (by decide) q_19_11 cast_4 (fun q H locs ls hP hS hl => lv_astore_n X.1 X.2.1 dL_remove_9 rfl hl (by decide) rfl (fun _ _ => h_end X hP hS dL_remove_10 (by decide) dL_remove_13))) ?_
    exact h_no
  · refine z_istore_n X [(2, .int a.1), (0, .ref (la G k)), (1, .int x1)] dL_remove_5 (by decide) rfl ?_
    refine z_goto X 14 dL_remove_6 (by decide) ?_
    refine z_iload_n X dL_remove_14 0 rfl ?_
    exact z_hret X dL_remove_15
def gL_turn (σ : cS) : (Int32 × cS) ⊕ (Nat × cS) → Option (Int32 × cS) := fun r => match r with
  | .inl a => some (a.1, a.2)
  | .inr b => if b.1 = 4 then some ((-2054 : Int32), b.2) else none
def fL_turn (L : Nat → Nat) (Nf : Nat) (σ : cS) (k : Nat) (x1 : Int32) : Option (Int32 × cS) := (fX6_turn L Nf σ k x1).bind (gL_turn σ)
set_option maxHeartbeats 4000000 in
set_option maxRecDepth 100000 in
theorem hL_turn (l : Launch) (hfl : l.stackTraces = false) (G : Lay) (hi : Inj G) (Nf : Nat) (h : Int64) (σ : cS) (k : Nat) (hk : isEH G k) (x1 : Int32) : ∀ r, fL_turn (ll G) Nf σ k x1 = some r → HM l yL_turn cL_turn 4 [(0, 6, 9, 28)] 8 134 G [.ref (la G k), .int x1] h σ (some (.int r.1), h, r.2) := by
  refine hm_of (by decide) hi hfl (Nat.le_of_ble_eq_true rfl) (fun K hKl X => ?_)
  unfold fL_turn
  refine z_aload_n X dL_turn_0 0 rfl ?_
  refine z_iload_n X dL_turn_1 1 rfl ?_
  refine z_hcall X (g := (fun r : (Int32 × cS) => ((some (.int r.1), h, r.2) : Option Value × Int64 × cS))) (gx := (fun r : Nat × cS => ((exN r.1, h, r.2) : String × Int64 × cS))) (f := gL_turn σ) (st := []) (st1 := (fun r : (Int32 × cS) => [.int r.1])) (rmf := 7) (rml := 112) [.int x1] k cal_X6_turn q_19_19 ⟨Nat.le_of_ble_eq_true rfl, Nat.le_of_ble_eq_true rfl⟩ rfl rfl (Nat.le_of_ble_eq_true rfl) rfl hk.1 (ce6 hk.1 _ _) (ctX6_turn_n (kl K) G X.2.2.2.2.2.2.2.1 Nf h σ k hk x1) (ctX6_turn_x (kl K) G X.2.2.2.2.2.2.2.1 Nf h σ k hk x1) dL_turn_2 (fun _ => rfl) (fun _ => rfl) (fun b => ?_) (fun a => ?_)
  · show HX K G _ _ _ _ _ (if b.1 = 4 then some ((-2054 : Int32), b.2) else none)
    refine h_or (fun e => h_catch X 4 (congrArg exN e) [] 0 6 9 28 [] rfl (fun z hz => absurd hz List.not_mem_nil) (by decide) (by decide) q_19_11 cast_4 (fun q H locs ls hP hS hl => lv_astore_n X.1 X.2.1 dL_turn_9 rfl hl (by decide) rfl (fun _ _ => h_end X hP hS dL_turn_10 (by decide) dL_turn_13))) ?_
    exact h_no
  · refine z_istore_n X [(2, .int a.1), (0, .ref (la G k)), (1, .int x1)] dL_turn_5 (by decide) rfl ?_
    refine z_goto X 14 dL_turn_6 (by decide) ?_
    refine z_iload_n X dL_turn_14 0 rfl ?_
    exact z_hret X dL_turn_15
def gL_relieve (σ : cS) : (Int32 × cS) ⊕ (Nat × cS) → Option (Int32 × cS) := fun r => match r with
  | .inl a => some (a.1, a.2)
  | .inr b => if b.1 = 3 then some ((-2053 : Int32), b.2) else if b.1 = 2 then some ((-2052 : Int32), b.2) else none
def fL_relieve (L : Nat → Nat) (Nf : Nat) (σ : cS) (k : Nat) (x1 : Int32) : Option (Int32 × cS) := (fX6_relieve L Nf σ k x1).bind (gL_relieve σ)
set_option maxHeartbeats 4000000 in
set_option maxRecDepth 100000 in
theorem hL_relieve (l : Launch) (hfl : l.stackTraces = false) (G : Lay) (hi : Inj G) (Nf : Nat) (h : Int64) (σ : cS) (k : Nat) (hk : isEH G k) (x1 : Int32) : ∀ r, fL_relieve (ll G) Nf σ k x1 = some r → HM l yL_relieve cL_relieve 4 [(0, 6, 9, 21), (0, 6, 14, 23)] 8 133 G [.ref (la G k), .int x1] h σ (some (.int r.1), h, r.2) := by
  refine hm_of (by decide) hi hfl (Nat.le_of_ble_eq_true rfl) (fun K hKl X => ?_)
  unfold fL_relieve
  refine z_aload_n X dL_relieve_0 0 rfl ?_
  refine z_iload_n X dL_relieve_1 1 rfl ?_
  refine z_hcall X (g := (fun r : (Int32 × cS) => ((some (.int r.1), h, r.2) : Option Value × Int64 × cS))) (gx := (fun r : Nat × cS => ((exN r.1, h, r.2) : String × Int64 × cS))) (f := gL_relieve σ) (st := []) (st1 := (fun r : (Int32 × cS) => [.int r.1])) (rmf := 7) (rml := 111) [.int x1] k cal_X6_relieve q_20_2 ⟨Nat.le_of_ble_eq_true rfl, Nat.le_of_ble_eq_true rfl⟩ rfl rfl (Nat.le_of_ble_eq_true rfl) rfl hk.1 (ce6 hk.1 _ _) (ctX6_relieve_n (kl K) G X.2.2.2.2.2.2.2.1 Nf h σ k hk x1) (ctX6_relieve_x (kl K) G X.2.2.2.2.2.2.2.1 Nf h σ k hk x1) dL_relieve_2 (fun _ => rfl) (fun _ => rfl) (fun b => ?_) (fun a => ?_)
  · show HX K G _ _ _ _ _ (if b.1 = 3 then some ((-2053 : Int32), b.2) else if b.1 = 2 then some ((-2052 : Int32), b.2) else none)
    refine h_or (fun e => h_catch X 3 (congrArg exN e) [] 0 6 9 21 [(0, 6, 14, 23)] rfl (fun z hz => absurd hz List.not_mem_nil) (by decide) (by decide) q_19_0 cast_3 (fun q H locs ls hP hS hl => lv_astore_n X.1 X.2.1 dL_relieve_9 rfl hl (by decide) rfl (fun _ _ => h_end X hP hS dL_relieve_10 (by decide) dL_relieve_13))) ?_
    refine h_or (fun e => h_catch X 2 (congrArg exN e) [(0, 6, 9, 21)] 0 6 14 23 [] rfl (List.forall_mem_cons.mpr ⟨⟨by decide, 3, q_19_0, by decide⟩, fun z hz => absurd hz List.not_mem_nil⟩) (by decide) (by decide) q_5_0 cast_2 (fun q H locs ls hP hS hl => lv_astore_n X.1 X.2.1 dL_relieve_14 rfl hl (by decide) rfl (fun _ _ => h_end X hP hS dL_relieve_15 (by decide) dL_relieve_18))) ?_
    exact h_no
  · refine z_istore_n X [(2, .int a.1), (0, .ref (la G k)), (1, .int x1)] dL_relieve_5 (by decide) rfl ?_
    refine z_goto X 19 dL_relieve_6 (by decide) ?_
    refine z_iload_n X dL_relieve_19 0 rfl ?_
    exact z_hret X dL_relieve_20
def gL_setCapacity (σ : cS) : (Int32 × cS) ⊕ (Nat × cS) → Option (Int32 × cS) := fun r => match r with
  | .inl a => some (a.1, a.2)
  | .inr b => if b.1 = 3 then some ((-2053 : Int32), b.2) else if b.1 = 1 then some ((-2051 : Int32), b.2) else none
def fL_setCapacity (L : Nat → Nat) (Nf : Nat) (σ : cS) (k : Nat) (x1 : Int32) (x2 : Int32) : Option (Int32 × cS) := (fX6_setCapacity L Nf σ k x1 x2).bind (gL_setCapacity σ)
set_option maxHeartbeats 4000000 in
set_option maxRecDepth 100000 in
theorem hL_setCapacity (l : Launch) (hfl : l.stackTraces = false) (G : Lay) (hi : Inj G) (Nf : Nat) (h : Int64) (σ : cS) (k : Nat) (hk : isEH G k) (x1 : Int32) (x2 : Int32) : ∀ r, fL_setCapacity (ll G) Nf σ k x1 x2 = some r → HM l yL_setCapacity cL_setCapacity 5 [(0, 7, 10, 21), (0, 7, 16, 15)] 8 134 G [.ref (la G k), .int x1, .int x2] h σ (some (.int r.1), h, r.2) := by
  refine hm_of (by decide) hi hfl (Nat.le_of_ble_eq_true rfl) (fun K hKl X => ?_)
  unfold fL_setCapacity
  refine z_aload_n X dL_setCapacity_0 0 rfl ?_
  refine z_iload_n X dL_setCapacity_1 1 rfl ?_
  refine z_iload_n X dL_setCapacity_2 2 rfl ?_
  refine z_hcall X (g := (fun r : (Int32 × cS) => ((some (.int r.1), h, r.2) : Option Value × Int64 × cS))) (gx := (fun r : Nat × cS => ((exN r.1, h, r.2) : String × Int64 × cS))) (f := gL_setCapacity σ) (st := []) (st1 := (fun r : (Int32 × cS) => [.int r.1])) (rmf := 7) (rml := 111) [.int x1, .int x2] k cal_X6_setCapacity q_20_11 ⟨Nat.le_of_ble_eq_true rfl, Nat.le_of_ble_eq_true rfl⟩ rfl rfl (Nat.le_of_ble_eq_true rfl) rfl hk.1 (ce6 hk.1 _ _) (ctX6_setCapacity_n (kl K) G X.2.2.2.2.2.2.2.1 Nf h σ k hk x1 x2) (ctX6_setCapacity_x (kl K) G X.2.2.2.2.2.2.2.1 Nf h σ k hk x1 x2) dL_setCapacity_3 (fun _ => rfl) (fun _ => rfl) (fun b => ?_) (fun a => ?_)
  · show HX K G _ _ _ _ _ (if b.1 = 3 then some ((-2053 : Int32), b.2) else if b.1 = 1 then some ((-2051 : Int32), b.2) else none)
    refine h_or (fun e => h_catch X 3 (congrArg exN e) [] 0 7 10 21 [(0, 7, 16, 15)] rfl (fun z hz => absurd hz List.not_mem_nil) (by decide) (by decide) q_19_0 cast_3 (fun q H locs ls hP hS hl => lv_astore X.1 X.2.1 dL_setCapacity_10 hl (by decide) rfl (fun _ _ => h_end X hP hS dL_setCapacity_12 (by decide) dL_setCapacity_15))) ?_
    refine h_or (fun e => h_catch X 1 (congrArg exN e) [(0, 7, 10, 21)] 0 7 16 15 [] rfl (List.forall_mem_cons.mpr ⟨⟨by decide, 3, q_19_0, by decide⟩, fun z hz => absurd hz List.not_mem_nil⟩) (by decide) (by decide) q_18_15 cast_1 (fun q H locs ls hP hS hl => lv_astore X.1 X.2.1 dL_setCapacity_16 hl (by decide) rfl (fun _ _ => h_end X hP hS dL_setCapacity_18 (by decide) dL_setCapacity_21))) ?_
    exact h_no
  · refine z_istore_n X [(3, .int a.1), (0, .ref (la G k)), (1, .int x1), (2, .int x2)] dL_setCapacity_6 (by decide) rfl ?_
    refine z_goto X 22 dL_setCapacity_7 (by decide) ?_
    refine z_iload_n X dL_setCapacity_22 0 rfl ?_
    exact z_hret X dL_setCapacity_23
def gL_node (σ : cS) : (Int32 × cS) ⊕ (Nat × cS) → Option (Int32 × cS) := fun r => match r with
  | .inl a => some (a.1, a.2)
  | .inr b => if b.1 = 3 then some ((-2053 : Int32), b.2) else if b.1 = 1 then some ((-2051 : Int32), b.2) else none
def fL_node (L : Nat → Nat) (Nf : Nat) (σ : cS) (k : Nat) (x1 : Int32) (x2 : Int32) : Option (Int32 × cS) := (fX6_node L Nf σ k x1 x2).bind (gL_node σ)
set_option maxHeartbeats 4000000 in
set_option maxRecDepth 100000 in
theorem hL_node (l : Launch) (hfl : l.stackTraces = false) (G : Lay) (hi : Inj G) (Nf : Nat) (h : Int64) (σ : cS) (k : Nat) (hk : isEH G k) (x1 : Int32) (x2 : Int32) : ∀ r, fL_node (ll G) Nf σ k x1 x2 = some r → HM l yL_node cL_node 5 [(0, 7, 10, 21), (0, 7, 16, 15)] 8 133 G [.ref (la G k), .int x1, .int x2] h σ (some (.int r.1), h, r.2) := by
  refine hm_of (by decide) hi hfl (Nat.le_of_ble_eq_true rfl) (fun K hKl X => ?_)
  unfold fL_node
  refine z_aload_n X dL_node_0 0 rfl ?_
  refine z_iload_n X dL_node_1 1 rfl ?_
  refine z_iload_n X dL_node_2 2 rfl ?_
  refine z_hcall X (g := (fun r : (Int32 × cS) => ((some (.int r.1), h, r.2) : Option Value × Int64 × cS))) (gx := (fun r : Nat × cS => ((exN r.1, h, r.2) : String × Int64 × cS))) (f := gL_node σ) (st := []) (st1 := (fun r : (Int32 × cS) => [.int r.1])) (rmf := 7) (rml := 111) [.int x1, .int x2] k cal_X6_node q_17_3 ⟨Nat.le_of_ble_eq_true rfl, Nat.le_of_ble_eq_true rfl⟩ rfl rfl (Nat.le_of_ble_eq_true rfl) rfl hk.1 (ce6 hk.1 _ _) (ctX6_node_n (kl K) G X.2.2.2.2.2.2.2.1 Nf h σ k hk x1 x2) (ctX6_node_x (kl K) G X.2.2.2.2.2.2.2.1 Nf h σ k hk x1 x2) dL_node_3 (fun _ => rfl) (fun _ => rfl) (fun b => ?_) (fun a => ?_)
  · show HX K G _ _ _ _ _ (if b.1 = 3 then some ((-2053 : Int32), b.2) else if b.1 = 1 then some ((-2051 : Int32), b.2) else none)
    refine h_or (fun e => h_catch X 3 (congrArg exN e) [] 0 7 10 21 [(0, 7, 16, 15)] rfl (fun z hz => absurd hz List.not_mem_nil) (by decide) (by decide) q_19_0 cast_3 (fun q H locs ls hP hS hl => lv_astore X.1 X.2.1 dL_node_10 hl (by decide) rfl (fun _ _ => h_end X hP hS dL_node_12 (by decide) dL_node_15))) ?_
    refine h_or (fun e => h_catch X 1 (congrArg exN e) [(0, 7, 10, 21)] 0 7 16 15 [] rfl (List.forall_mem_cons.mpr ⟨⟨by decide, 3, q_19_0, by decide⟩, fun z hz => absurd hz List.not_mem_nil⟩) (by decide) (by decide) q_18_15 cast_1 (fun q H locs ls hP hS hl => lv_astore X.1 X.2.1 dL_node_16 hl (by decide) rfl (fun _ _ => h_end X hP hS dL_node_18 (by decide) dL_node_21))) ?_
    exact h_no
  · refine z_istore_n X [(3, .int a.1), (0, .ref (la G k)), (1, .int x1), (2, .int x2)] dL_node_6 (by decide) rfl ?_
    refine z_goto X 22 dL_node_7 (by decide) ?_
    refine z_iload_n X dL_node_22 0 rfl ?_
    exact z_hret X dL_node_23
def gL_edge (σ : cS) : Int32 ⊕ Nat → Option (Int32 × cS) := fun r => match r with
  | .inl a => some (a, σ)
  | .inr b => if b = 4 then some ((-2054 : Int32), σ) else if b = 1 then some ((-2051 : Int32), σ) else none
def fL_edge (L : Nat → Nat) (Nf : Nat) (σ : cS) (k : Nat) (x1 : Int32) (x2 : Int32) : Option (Int32 × cS) := (fX6_edge L Nf σ k x1 x2).bind (gL_edge σ)
set_option maxHeartbeats 4000000 in
set_option maxRecDepth 100000 in
theorem hL_edge (l : Launch) (hfl : l.stackTraces = false) (G : Lay) (hi : Inj G) (Nf : Nat) (h : Int64) (σ : cS) (k : Nat) (hk : isEH G k) (x1 : Int32) (x2 : Int32) : ∀ r, fL_edge (ll G) Nf σ k x1 x2 = some r → HM l yL_edge cL_edge 5 [(0, 7, 10, 28), (0, 7, 16, 15)] 8 135 G [.ref (la G k), .int x1, .int x2] h σ (some (.int r.1), h, r.2) := by
  refine hm_of (by decide) hi hfl (Nat.le_of_ble_eq_true rfl) (fun K hKl X => ?_)
  unfold fL_edge
  refine z_aload_n X dL_edge_0 0 rfl ?_
  refine z_iload_n X dL_edge_1 1 rfl ?_
  refine z_iload_n X dL_edge_2 2 rfl ?_
  refine z_hcall X (g := (fun r : Int32 => ((some (.int r), h, σ) : Option Value × Int64 × cS))) (gx := (fun r : Nat => ((exN r, h, σ) : String × Int64 × cS))) (f := gL_edge σ) (st := []) (st1 := (fun r : Int32 => [.int r])) (rmf := 7) (rml := 112) [.int x1, .int x2] k cal_X6_edge q_18_2 ⟨Nat.le_of_ble_eq_true rfl, Nat.le_of_ble_eq_true rfl⟩ rfl rfl (Nat.le_of_ble_eq_true rfl) rfl hk.1 (ce6 hk.1 _ _) (ctX6_edge_n (kl K) G X.2.2.2.2.2.2.2.1 Nf h σ k hk x1 x2) (ctX6_edge_x (kl K) G X.2.2.2.2.2.2.2.1 Nf h σ k hk x1 x2) dL_edge_3 (fun _ => rfl) (fun _ => rfl) (fun b => ?_) (fun a => ?_)
  · show HX K G _ _ _ _ _ (if b = 4 then some ((-2054 : Int32), σ) else if b = 1 then some ((-2051 : Int32), σ) else none)
    refine h_or (fun e => h_catch X 4 (congrArg exN e) [] 0 7 10 28 [(0, 7, 16, 15)] rfl (fun z hz => absurd hz List.not_mem_nil) (by decide) (by decide) q_19_11 cast_4 (fun q H locs ls hP hS hl => lv_astore X.1 X.2.1 dL_edge_10 hl (by decide) rfl (fun _ _ => h_end X hP hS dL_edge_12 (by decide) dL_edge_15))) ?_
    refine h_or (fun e => h_catch X 1 (congrArg exN e) [(0, 7, 10, 28)] 0 7 16 15 [] rfl (List.forall_mem_cons.mpr ⟨⟨by decide, 4, q_19_11, by decide⟩, fun z hz => absurd hz List.not_mem_nil⟩) (by decide) (by decide) q_18_15 cast_1 (fun q H locs ls hP hS hl => lv_astore X.1 X.2.1 dL_edge_16 hl (by decide) rfl (fun _ _ => h_end X hP hS dL_edge_18 (by decide) dL_edge_21))) ?_
    exact h_no
  · refine z_istore_n X [(3, .int a), (0, .ref (la G k)), (1, .int x1), (2, .int x2)] dL_edge_6 (by decide) rfl ?_
    refine z_goto X 22 dL_edge_7 (by decide) ?_
    refine z_iload_n X dL_edge_22 0 rfl ?_
    exact z_hret X dL_edge_23
def gL_edgeAt (σ : cS) : Int32 ⊕ Nat → Option (Int32 × cS) := fun r => match r with
  | .inl a => some (a, σ)
  | .inr b => if b = 3 then some ((-2053 : Int32), σ) else none
def fL_edgeAt (L : Nat → Nat) (Nf : Nat) (σ : cS) (k : Nat) (x1 : Int32) : Option (Int32 × cS) := (fX6_edgeAt L σ k x1).bind (gL_edgeAt σ)
set_option maxHeartbeats 4000000 in
set_option maxRecDepth 100000 in
theorem hL_edgeAt (l : Launch) (hfl : l.stackTraces = false) (G : Lay) (hi : Inj G) (Nf : Nat) (h : Int64) (σ : cS) (k : Nat) (hk : isEH G k) (x1 : Int32) : ∀ r, fL_edgeAt (ll G) Nf σ k x1 = some r → HM l yL_edgeAt cL_edgeAt 4 [(0, 6, 9, 21)] 7 111 G [.ref (la G k), .int x1] h σ (some (.int r.1), h, r.2) := by
  refine hm_of (by decide) hi hfl (Nat.le_of_ble_eq_true rfl) (fun K hKl X => ?_)
  unfold fL_edgeAt
  refine z_aload_n X dL_edgeAt_0 0 rfl ?_
  refine z_iload_n X dL_edgeAt_1 1 rfl ?_
  refine z_hcall X (g := (fun r : Int32 => ((some (.int r), h, σ) : Option Value × Int64 × cS))) (gx := (fun r : Nat => ((exN r, h, σ) : String × Int64 × cS))) (f := gL_edgeAt σ) (st := []) (st1 := (fun r : Int32 => [.int r])) (rmf := 6) (rml := 90) [.int x1] k cal_X6_edgeAt q_17_22 ⟨Nat.le_of_ble_eq_true rfl, Nat.le_of_ble_eq_true rfl⟩ rfl rfl (Nat.le_of_ble_eq_true rfl) rfl hk.1 (ce6 hk.1 _ _) (ctX6_edgeAt_n (kl K) G X.2.2.2.2.2.2.2.1 h σ k hk x1) (ctX6_edgeAt_x (kl K) G X.2.2.2.2.2.2.2.1 h σ k hk x1) dL_edgeAt_2 (fun _ => rfl) (fun _ => rfl) (fun b => ?_) (fun a => ?_)
  · show HX K G _ _ _ _ _ (if b = 3 then some ((-2053 : Int32), σ) else none)
    refine h_or (fun e => h_catch X 3 (congrArg exN e) [] 0 6 9 21 [] rfl (fun z hz => absurd hz List.not_mem_nil) (by decide) (by decide) q_19_0 cast_3 (fun q H locs ls hP hS hl => lv_astore_n X.1 X.2.1 dL_edgeAt_9 rfl hl (by decide) rfl (fun _ _ => h_end X hP hS dL_edgeAt_10 (by decide) dL_edgeAt_13))) ?_
    exact h_no
  · refine z_istore_n X [(2, .int a), (0, .ref (la G k)), (1, .int x1)] dL_edgeAt_5 (by decide) rfl ?_
    refine z_goto X 14 dL_edgeAt_6 (by decide) ?_
    refine z_iload_n X dL_edgeAt_14 0 rfl ?_
    exact z_hret X dL_edgeAt_15
def gL_value (σ : cS) : Int32 ⊕ Nat → Option (Int32 × cS) := fun r => match r with
  | .inl a => some (a, σ)
  | .inr b => if b = 1 then some ((-2051 : Int32), σ) else none
def fL_value (L : Nat → Nat) (Nf : Nat) (σ : cS) (k : Nat) (x1 : Int32) : Option (Int32 × cS) := (fX6_value L Nf σ k x1).bind (gL_value σ)
set_option maxHeartbeats 4000000 in
set_option maxRecDepth 100000 in
theorem hL_value (l : Launch) (hfl : l.stackTraces = false) (G : Lay) (hi : Inj G) (Nf : Nat) (h : Int64) (σ : cS) (k : Nat) (hk : isEH G k) (x1 : Int32) : ∀ r, fL_value (ll G) Nf σ k x1 = some r → HM l yL_value cL_value 4 [(0, 6, 9, 15)] 7 111 G [.ref (la G k), .int x1] h σ (some (.int r.1), h, r.2) := by
  refine hm_of (by decide) hi hfl (Nat.le_of_ble_eq_true rfl) (fun K hKl X => ?_)
  unfold fL_value
  refine z_aload_n X dL_value_0 0 rfl ?_
  refine z_iload_n X dL_value_1 1 rfl ?_
  refine z_hcall X (g := (fun r : Int32 => ((some (.int r), h, σ) : Option Value × Int64 × cS))) (gx := (fun r : Nat => ((exN r, h, σ) : String × Int64 × cS))) (f := gL_value σ) (st := []) (st1 := (fun r : Int32 => [.int r])) (rmf := 6) (rml := 90) [.int x1] k cal_X6_value q_6_2 ⟨Nat.le_of_ble_eq_true rfl, Nat.le_of_ble_eq_true rfl⟩ rfl rfl (Nat.le_of_ble_eq_true rfl) rfl hk.1 (ce6 hk.1 _ _) (ctX6_value_n (kl K) G X.2.2.2.2.2.2.2.1 Nf h σ k hk x1) (ctX6_value_x (kl K) G X.2.2.2.2.2.2.2.1 Nf h σ k hk x1) dL_value_2 (fun _ => rfl) (fun _ => rfl) (fun b => ?_) (fun a => ?_)
  · show HX K G _ _ _ _ _ (if b = 1 then some ((-2051 : Int32), σ) else none)
    refine h_or (fun e => h_catch X 1 (congrArg exN e) [] 0 6 9 15 [] rfl (fun z hz => absurd hz List.not_mem_nil) (by decide) (by decide) q_18_15 cast_1 (fun q H locs ls hP hS hl => lv_astore_n X.1 X.2.1 dL_value_9 rfl hl (by decide) rfl (fun _ _ => h_end X hP hS dL_value_10 (by decide) dL_value_13))) ?_
    exact h_no
  · refine z_istore_n X [(2, .int a), (0, .ref (la G k)), (1, .int x1)] dL_value_5 (by decide) rfl ?_
    refine z_goto X 14 dL_value_6 (by decide) ?_
    refine z_iload_n X dL_value_14 0 rfl ?_
    exact z_hret X dL_value_15
def gL_path (σ : cS) : (Int32 × cS) ⊕ (Nat × cS) → Option (Int32 × cS) := fun r => match r with
  | .inl a => some (a.1, a.2)
  | .inr b => if b.1 = 3 then some ((-2053 : Int32), b.2) else none
def fL_path (L : Nat → Nat) (Nf : Nat) (σ : cS) (k : Nat) (x1 : Int32) (x2 : Int32) : Option (Int32 × cS) := (fX6_path L Nf σ k x1 x2).bind (gL_path σ)
set_option maxHeartbeats 4000000 in
set_option maxRecDepth 100000 in
theorem hL_path (l : Launch) (hfl : l.stackTraces = false) (G : Lay) (hi : Inj G) (Nf : Nat) (h : Int64) (σ : cS) (k : Nat) (hk : isEH G k) (x1 : Int32) (x2 : Int32) : ∀ r, fL_path (ll G) Nf σ k x1 x2 = some r → HM l yL_path cL_path 5 [(0, 7, 10, 21)] 8 133 G [.ref (la G k), .int x1, .int x2] h σ (some (.int r.1), h, r.2) := by
  refine hm_of (by decide) hi hfl (Nat.le_of_ble_eq_true rfl) (fun K hKl X => ?_)
  unfold fL_path
  refine z_aload_n X dL_path_0 0 rfl ?_
  refine z_iload_n X dL_path_1 1 rfl ?_
  refine z_iload_n X dL_path_2 2 rfl ?_
  refine z_hcall X (g := (fun r : (Int32 × cS) => ((some (.int r.1), h, r.2) : Option Value × Int64 × cS))) (gx := (fun r : Nat × cS => ((exN r.1, h, r.2) : String × Int64 × cS))) (f := gL_path σ) (st := []) (st1 := (fun r : (Int32 × cS) => [.int r.1])) (rmf := 7) (rml := 111) [.int x1, .int x2] k cal_X6_path q_21_6 ⟨Nat.le_of_ble_eq_true rfl, Nat.le_of_ble_eq_true rfl⟩ rfl rfl (Nat.le_of_ble_eq_true rfl) rfl hk.1 (ce6 hk.1 _ _) (ctX6_path_n (kl K) G X.2.2.2.2.2.2.2.1 Nf h σ k hk x1 x2) (ctX6_path_x (kl K) G X.2.2.2.2.2.2.2.1 Nf h σ k hk x1 x2) dL_path_3 (fun _ => rfl) (fun _ => rfl) (fun b => ?_) (fun a => ?_)
  · show HX K G _ _ _ _ _ (if b.1 = 3 then some ((-2053 : Int32), b.2) else none)
    refine h_or (fun e => h_catch X 3 (congrArg exN e) [] 0 7 10 21 [] rfl (fun z hz => absurd hz List.not_mem_nil) (by decide) (by decide) q_19_0 cast_3 (fun q H locs ls hP hS hl => lv_astore X.1 X.2.1 dL_path_10 hl (by decide) rfl (fun _ _ => h_end X hP hS dL_path_12 (by decide) dL_path_15))) ?_
    exact h_no
  · refine z_istore_n X [(3, .int a.1), (0, .ref (la G k)), (1, .int x1), (2, .int x2)] dL_path_6 (by decide) rfl ?_
    refine z_goto X 16 dL_path_7 (by decide) ?_
    refine z_iload_n X dL_path_16 0 rfl ?_
    exact z_hret X dL_path_17
def gL_step (σ : cS) : (Int32 × cS) ⊕ (Nat × cS) → Option (Int32 × cS) := fun r => match r with
  | .inl a => some (a.1, a.2)
  | .inr b => if b.1 = 3 then some ((-2053 : Int32), b.2) else none
def fL_step (L : Nat → Nat) (Nf : Nat) (σ : cS) (k : Nat) (x1 : Int32) (x2 : Int32) (x3 : Int32) : Option (Int32 × cS) := (fX6_step L Nf σ k x1 x2 x3).bind (gL_step σ)
set_option maxHeartbeats 4000000 in
set_option maxRecDepth 100000 in
theorem hL_step (l : Launch) (hfl : l.stackTraces = false) (G : Lay) (hi : Inj G) (Nf : Nat) (h : Int64) (σ : cS) (k : Nat) (hk : isEH G k) (x1 : Int32) (x2 : Int32) (x3 : Int32) : ∀ r, fL_step (ll G) Nf σ k x1 x2 x3 = some r → HM l yL_step cL_step 6 [(0, 9, 12, 21)] 8 135 G [.ref (la G k), .int x1, .int x2, .int x3] h σ (some (.int r.1), h, r.2) := by
  refine hm_of (by decide) hi hfl (Nat.le_of_ble_eq_true rfl) (fun K hKl X => ?_)
  unfold fL_step
  refine z_aload_n X dL_step_0 0 rfl ?_
  refine z_iload_n X dL_step_1 1 rfl ?_
  refine z_iload_n X dL_step_2 2 rfl ?_
  refine z_iload_n X dL_step_3 3 rfl ?_
  refine z_hcall X (g := (fun r : (Int32 × cS) => ((some (.int r.1), h, r.2) : Option Value × Int64 × cS))) (gx := (fun r : Nat × cS => ((exN r.1, h, r.2) : String × Int64 × cS))) (f := gL_step σ) (st := []) (st1 := (fun r : (Int32 × cS) => [.int r.1])) (rmf := 7) (rml := 111) [.int x1, .int x2, .int x3] k cal_X6_step q_21_14 ⟨Nat.le_of_ble_eq_true rfl, Nat.le_of_ble_eq_true rfl⟩ rfl rfl (Nat.le_of_ble_eq_true rfl) rfl hk.1 (ce6 hk.1 _ _) (ctX6_step_n (kl K) G X.2.2.2.2.2.2.2.1 Nf h σ k hk x1 x2 x3) (ctX6_step_x (kl K) G X.2.2.2.2.2.2.2.1 Nf h σ k hk x1 x2 x3) dL_step_4 (fun _ => rfl) (fun _ => rfl) (fun b => ?_) (fun a => ?_)
  · show HX K G _ _ _ _ _ (if b.1 = 3 then some ((-2053 : Int32), b.2) else none)
    refine h_or (fun e => h_catch X 3 (congrArg exN e) [] 0 9 12 21 [] rfl (fun z hz => absurd hz List.not_mem_nil) (by decide) (by decide) q_19_0 cast_3 (fun q H locs ls hP hS hl => lv_astore X.1 X.2.1 dL_step_12 hl (by decide) rfl (fun _ _ => h_end X hP hS dL_step_14 (by decide) dL_step_17))) ?_
    exact h_no
  · refine z_istore X [(4, .int a.1), (0, .ref (la G k)), (1, .int x1), (2, .int x2), (3, .int x3)] dL_step_7 (by decide) rfl ?_
    refine z_goto X 18 dL_step_9 (by decide) ?_
    refine z_iload X dL_step_18 0 rfl ?_
    exact z_hret X dL_step_20
def gL_inner (σ : cS) : Int32 ⊕ Nat → Option (Int32 × cS) := fun r => match r with
  | .inl a => some (a, σ)
  | .inr b => if b = 1 then some ((-2051 : Int32), σ) else none
def fL_inner (L : Nat → Nat) (Nf : Nat) (σ : cS) (k : Nat) (x1 : Int32) : Option (Int32 × cS) := (fX6_inner L Nf σ k x1).bind (gL_inner σ)
set_option maxHeartbeats 4000000 in
set_option maxRecDepth 100000 in
theorem hL_inner (l : Launch) (hfl : l.stackTraces = false) (G : Lay) (hi : Inj G) (Nf : Nat) (h : Int64) (σ : cS) (k : Nat) (hk : isEH G k) (x1 : Int32) : ∀ r, fL_inner (ll G) Nf σ k x1 = some r → HM l yL_inner cL_inner 4 [(0, 6, 9, 15)] 7 111 G [.ref (la G k), .int x1] h σ (some (.int r.1), h, r.2) := by
  refine hm_of (by decide) hi hfl (Nat.le_of_ble_eq_true rfl) (fun K hKl X => ?_)
  unfold fL_inner
  refine z_aload_n X dL_inner_0 0 rfl ?_
  refine z_iload_n X dL_inner_1 1 rfl ?_
  refine z_hcall X (g := (fun r : Int32 => ((some (.int r), h, σ) : Option Value × Int64 × cS))) (gx := (fun r : Nat => ((exN r, h, σ) : String × Int64 × cS))) (f := gL_inner σ) (st := []) (st1 := (fun r : Int32 => [.int r])) (rmf := 6) (rml := 90) [.int x1] k cal_X6_inner q_22_1 ⟨Nat.le_of_ble_eq_true rfl, Nat.le_of_ble_eq_true rfl⟩ rfl rfl (Nat.le_of_ble_eq_true rfl) rfl hk.1 (ce6 hk.1 _ _) (ctX6_inner_n (kl K) G X.2.2.2.2.2.2.2.1 Nf h σ k hk x1) (ctX6_inner_x (kl K) G X.2.2.2.2.2.2.2.1 Nf h σ k hk x1) dL_inner_2 (fun _ => rfl) (fun _ => rfl) (fun b => ?_) (fun a => ?_)
  · show HX K G _ _ _ _ _ (if b = 1 then some ((-2051 : Int32), σ) else none)
    refine h_or (fun e => h_catch X 1 (congrArg exN e) [] 0 6 9 15 [] rfl (fun z hz => absurd hz List.not_mem_nil) (by decide) (by decide) q_18_15 cast_1 (fun q H locs ls hP hS hl => lv_astore_n X.1 X.2.1 dL_inner_9 rfl hl (by decide) rfl (fun _ _ => h_end X hP hS dL_inner_10 (by decide) dL_inner_13))) ?_
    exact h_no
  · refine z_istore_n X [(2, .int a), (0, .ref (la G k)), (1, .int x1)] dL_inner_5 (by decide) rfl ?_
    refine z_goto X 14 dL_inner_6 (by decide) ?_
    refine z_iload_n X dL_inner_14 0 rfl ?_
    exact z_hret X dL_inner_15
def gL_leastWith (σ : cS) : (Int32 × cS) ⊕ (Nat × cS) → Option (Int32 × cS) := fun r => match r with
  | .inl a => some (a.1, a.2)
  | .inr b => if b.1 = 3 then some ((-2053 : Int32), b.2) else if b.1 = 1 then some ((-2051 : Int32), b.2) else none
def fL_leastWith (L : Nat → Nat) (Nf : Nat) (σ : cS) (k : Nat) (x1 : Int32) (x2 : Int32) : Option (Int32 × cS) := (fX6_leastWith L Nf σ k x1 x2).bind (gL_leastWith σ)
set_option maxHeartbeats 4000000 in
set_option maxRecDepth 100000 in
theorem hL_leastWith (l : Launch) (hfl : l.stackTraces = false) (G : Lay) (hi : Inj G) (Nf : Nat) (h : Int64) (σ : cS) (k : Nat) (hk : isEH G k) (x1 : Int32) (x2 : Int32) : ∀ r, fL_leastWith (ll G) Nf σ k x1 x2 = some r → HM l yL_leastWith cL_leastWith 5 [(0, 7, 10, 21), (0, 7, 16, 15)] 8 133 G [.ref (la G k), .int x1, .int x2] h σ (some (.int r.1), h, r.2) := by
  refine hm_of (by decide) hi hfl (Nat.le_of_ble_eq_true rfl) (fun K hKl X => ?_)
  unfold fL_leastWith
  refine z_aload_n X dL_leastWith_0 0 rfl ?_
  refine z_iload_n X dL_leastWith_1 1 rfl ?_
  refine z_iload_n X dL_leastWith_2 2 rfl ?_
  refine z_hcall X (g := (fun r : (Int32 × cS) => ((some (.int r.1), h, r.2) : Option Value × Int64 × cS))) (gx := (fun r : Nat × cS => ((exN r.1, h, r.2) : String × Int64 × cS))) (f := gL_leastWith σ) (st := []) (st1 := (fun r : (Int32 × cS) => [.int r.1])) (rmf := 7) (rml := 111) [.int x1, .int x2] k cal_X6_leastWith q_22_8 ⟨Nat.le_of_ble_eq_true rfl, Nat.le_of_ble_eq_true rfl⟩ rfl rfl (Nat.le_of_ble_eq_true rfl) rfl hk.1 (ce6 hk.1 _ _) (ctX6_leastWith_n (kl K) G X.2.2.2.2.2.2.2.1 Nf h σ k hk x1 x2) (ctX6_leastWith_x (kl K) G X.2.2.2.2.2.2.2.1 Nf h σ k hk x1 x2) dL_leastWith_3 (fun _ => rfl) (fun _ => rfl) (fun b => ?_) (fun a => ?_)
  · show HX K G _ _ _ _ _ (if b.1 = 3 then some ((-2053 : Int32), b.2) else if b.1 = 1 then some ((-2051 : Int32), b.2) else none)
    refine h_or (fun e => h_catch X 3 (congrArg exN e) [] 0 7 10 21 [(0, 7, 16, 15)] rfl (fun z hz => absurd hz List.not_mem_nil) (by decide) (by decide) q_19_0 cast_3 (fun q H locs ls hP hS hl => lv_astore X.1 X.2.1 dL_leastWith_10 hl (by decide) rfl (fun _ _ => h_end X hP hS dL_leastWith_12 (by decide) dL_leastWith_15))) ?_
    refine h_or (fun e => h_catch X 1 (congrArg exN e) [(0, 7, 10, 21)] 0 7 16 15 [] rfl (List.forall_mem_cons.mpr ⟨⟨by decide, 3, q_19_0, by decide⟩, fun z hz => absurd hz List.not_mem_nil⟩) (by decide) (by decide) q_18_15 cast_1 (fun q H locs ls hP hS hl => lv_astore X.1 X.2.1 dL_leastWith_16 hl (by decide) rfl (fun _ _ => h_end X hP hS dL_leastWith_18 (by decide) dL_leastWith_21))) ?_
    exact h_no
  · refine z_istore_n X [(3, .int a.1), (0, .ref (la G k)), (1, .int x1), (2, .int x2)] dL_leastWith_6 (by decide) rfl ?_
    refine z_goto X 22 dL_leastWith_7 (by decide) ?_
    refine z_iload_n X dL_leastWith_22 0 rfl ?_
    exact z_hret X dL_leastWith_23
def gL_leastWithout (σ : cS) : (Int32 × cS) ⊕ (Nat × cS) → Option (Int32 × cS) := fun r => match r with
  | .inl a => some (a.1, a.2)
  | .inr b => if b.1 = 4 then some ((-2054 : Int32), b.2) else none
def fL_leastWithout (L : Nat → Nat) (Nf : Nat) (σ : cS) (k : Nat) (x1 : Int32) : Option (Int32 × cS) := (fX6_leastWithout L Nf σ k x1).bind (gL_leastWithout σ)
set_option maxHeartbeats 4000000 in
set_option maxRecDepth 100000 in
theorem hL_leastWithout (l : Launch) (hfl : l.stackTraces = false) (G : Lay) (hi : Inj G) (Nf : Nat) (h : Int64) (σ : cS) (k : Nat) (hk : isEH G k) (x1 : Int32) : ∀ r, fL_leastWithout (ll G) Nf σ k x1 = some r → HM l yL_leastWithout cL_leastWithout 4 [(0, 6, 9, 28)] 8 134 G [.ref (la G k), .int x1] h σ (some (.int r.1), h, r.2) := by
  refine hm_of (by decide) hi hfl (Nat.le_of_ble_eq_true rfl) (fun K hKl X => ?_)
  unfold fL_leastWithout
  refine z_aload_n X dL_leastWithout_0 0 rfl ?_
  refine z_iload_n X dL_leastWithout_1 1 rfl ?_
  refine z_hcall X (g := (fun r : (Int32 × cS) => ((some (.int r.1), h, r.2) : Option Value × Int64 × cS))) (gx := (fun r : Nat × cS => ((exN r.1, h, r.2) : String × Int64 × cS))) (f := gL_leastWithout σ) (st := []) (st1 := (fun r : (Int32 × cS) => [.int r.1])) (rmf := 7) (rml := 112) [.int x1] k cal_X6_leastWithout q_22_19 ⟨Nat.le_of_ble_eq_true rfl, Nat.le_of_ble_eq_true rfl⟩ rfl rfl (Nat.le_of_ble_eq_true rfl) rfl hk.1 (ce6 hk.1 _ _) (ctX6_leastWithout_n (kl K) G X.2.2.2.2.2.2.2.1 Nf h σ k hk x1) (ctX6_leastWithout_x (kl K) G X.2.2.2.2.2.2.2.1 Nf h σ k hk x1) dL_leastWithout_2 (fun _ => rfl) (fun _ => rfl) (fun b => ?_) (fun a => ?_)
  · show HX K G _ _ _ _ _ (if b.1 = 4 then some ((-2054 : Int32), b.2) else none)
    refine h_or (fun e => h_catch X 4 (congrArg exN e) [] 0 6 9 28 [] rfl (fun z hz => absurd hz List.not_mem_nil) (by decide) (by decide) q_19_11 cast_4 (fun q H locs ls hP hS hl => lv_astore_n X.1 X.2.1 dL_leastWithout_9 rfl hl (by decide) rfl (fun _ _ => h_end X hP hS dL_leastWithout_10 (by decide) dL_leastWithout_13))) ?_
    exact h_no
  · refine z_istore_n X [(2, .int a.1), (0, .ref (la G k)), (1, .int x1)] dL_leastWithout_5 (by decide) rfl ?_
    refine z_goto X 14 dL_leastWithout_6 (by decide) ?_
    refine z_iload_n X dL_leastWithout_14 0 rfl ?_
    exact z_hret X dL_leastWithout_15
def gL_append (σ : cS) : (Int32 × cS) ⊕ (Nat × cS) → Option (Int32 × cS) := fun r => match r with
  | .inl a => some (a.1, a.2)
  | .inr b => if b.1 = 1 then some ((-2051 : Int32), b.2) else if b.1 = 2 then some ((-2052 : Int32), b.2) else none
def fL_append (L : Nat → Nat) (Nf : Nat) (σ : cS) (k : Nat) (x1 : Int32) : Option (Int32 × cS) := (fX6_append L σ k x1).bind (gL_append σ)
set_option maxHeartbeats 4000000 in
set_option maxRecDepth 100000 in
theorem hL_append (l : Launch) (hfl : l.stackTraces = false) (G : Lay) (hi : Inj G) (Nf : Nat) (h : Int64) (σ : cS) (k : Nat) (hk : isEH G k) (x1 : Int32) : ∀ r, fL_append (ll G) Nf σ k x1 = some r → HM l yL_append cL_append 4 [(0, 6, 9, 15), (0, 6, 14, 23)] 7 111 G [.ref (la G k), .int x1] h σ (some (.int r.1), h, r.2) := by
  refine hm_of (by decide) hi hfl (Nat.le_of_ble_eq_true rfl) (fun K hKl X => ?_)
  unfold fL_append
  refine z_aload_n X dL_append_0 0 rfl ?_
  refine z_iload_n X dL_append_1 1 rfl ?_
  refine z_hcall X (g := (fun r : (Int32 × cS) => ((some (.int r.1), h, r.2) : Option Value × Int64 × cS))) (gx := (fun r : Nat × cS => ((exN r.1, h, r.2) : String × Int64 × cS))) (f := gL_append σ) (st := []) (st1 := (fun r : (Int32 × cS) => [.int r.1])) (rmf := 6) (rml := 90) [.int x1] k cal_X6_append q_23_3 ⟨Nat.le_of_ble_eq_true rfl, Nat.le_of_ble_eq_true rfl⟩ rfl rfl (Nat.le_of_ble_eq_true rfl) rfl hk.1 (ce6 hk.1 _ _) (ctX6_append_n (kl K) G X.2.2.2.2.2.2.2.1 h σ k hk x1) (ctX6_append_x (kl K) G X.2.2.2.2.2.2.2.1 h σ k hk x1) dL_append_2 (fun _ => rfl) (fun _ => rfl) (fun b => ?_) (fun a => ?_)
  · show HX K G _ _ _ _ _ (if b.1 = 1 then some ((-2051 : Int32), b.2) else if b.1 = 2 then some ((-2052 : Int32), b.2) else none)
    refine h_or (fun e => h_catch X 1 (congrArg exN e) [] 0 6 9 15 [(0, 6, 14, 23)] rfl (fun z hz => absurd hz List.not_mem_nil) (by decide) (by decide) q_18_15 cast_1 (fun q H locs ls hP hS hl => lv_astore_n X.1 X.2.1 dL_append_9 rfl hl (by decide) rfl (fun _ _ => h_end X hP hS dL_append_10 (by decide) dL_append_13))) ?_
    refine h_or (fun e => h_catch X 2 (congrArg exN e) [(0, 6, 9, 15)] 0 6 14 23 [] rfl (List.forall_mem_cons.mpr ⟨⟨by decide, 1, q_18_15, by decide⟩, fun z hz => absurd hz List.not_mem_nil⟩) (by decide) (by decide) q_5_0 cast_2 (fun q H locs ls hP hS hl => lv_astore_n X.1 X.2.1 dL_append_14 rfl hl (by decide) rfl (fun _ _ => h_end X hP hS dL_append_15 (by decide) dL_append_18))) ?_
    exact h_no
  · refine z_istore_n X [(2, .int a.1), (0, .ref (la G k)), (1, .int x1)] dL_append_5 (by decide) rfl ?_
    refine z_goto X 19 dL_append_6 (by decide) ?_
    refine z_iload_n X dL_append_19 0 rfl ?_
    exact z_hret X dL_append_20
def gL_undo (σ : cS) : (Int32 × cS) ⊕ (Nat × cS) → Option (Int32 × cS) := fun r => match r with
  | .inl a => some (a.1, a.2)
  | .inr b => if b.1 = 2 then some ((-2052 : Int32), b.2) else none
def fL_undo (L : Nat → Nat) (Nf : Nat) (σ : cS) (k : Nat) : Option (Int32 × cS) := (fX6_undo L Nf σ k).bind (gL_undo σ)
set_option maxHeartbeats 4000000 in
set_option maxRecDepth 100000 in
theorem hL_undo (l : Launch) (hfl : l.stackTraces = false) (G : Lay) (hi : Inj G) (Nf : Nat) (h : Int64) (σ : cS) (k : Nat) (hk : isEH G k) : ∀ r, fL_undo (ll G) Nf σ k = some r → HM l yL_undo cL_undo 3 [(0, 5, 8, 23)] 7 110 G [.ref (la G k)] h σ (some (.int r.1), h, r.2) := by
  refine hm_of (by decide) hi hfl (Nat.le_of_ble_eq_true rfl) (fun K hKl X => ?_)
  unfold fL_undo
  refine z_aload_n X dL_undo_0 0 rfl ?_
  refine z_hcall X (g := (fun r : (Int32 × cS) => ((some (.int r.1), h, r.2) : Option Value × Int64 × cS))) (gx := (fun r : Nat × cS => ((exN r.1, h, r.2) : String × Int64 × cS))) (f := gL_undo σ) (st := []) (st1 := (fun r : (Int32 × cS) => [.int r.1])) (rmf := 6) (rml := 90) [] k cal_X6_undo q_5_1 ⟨Nat.le_of_ble_eq_true rfl, Nat.le_of_ble_eq_true rfl⟩ rfl rfl (Nat.le_of_ble_eq_true rfl) rfl hk.1 (ce6 hk.1 _ _) (ctX6_undo_n (kl K) G X.2.2.2.2.2.2.2.1 Nf h σ k hk ) (ctX6_undo_x (kl K) G X.2.2.2.2.2.2.2.1 Nf h σ k hk ) dL_undo_1 (fun _ => rfl) (fun _ => rfl) (fun b => ?_) (fun a => ?_)
  · show HX K G _ _ _ _ _ (if b.1 = 2 then some ((-2052 : Int32), b.2) else none)
    refine h_or (fun e => h_catch X 2 (congrArg exN e) [] 0 5 8 23 [] rfl (fun z hz => absurd hz List.not_mem_nil) (by decide) (by decide) q_5_0 cast_2 (fun q H locs ls hP hS hl => lv_astore_n X.1 X.2.1 dL_undo_8 rfl hl (by decide) rfl (fun _ _ => h_end X hP hS dL_undo_9 (by decide) dL_undo_12))) ?_
    exact h_no
  · refine z_istore_n X [(1, .int a.1), (0, .ref (la G k))] dL_undo_4 (by decide) rfl ?_
    refine z_goto X 13 dL_undo_5 (by decide) ?_
    refine z_iload_n X dL_undo_13 0 rfl ?_
    exact z_hret X dL_undo_14
