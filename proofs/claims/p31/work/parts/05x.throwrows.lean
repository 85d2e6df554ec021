/-! ===== methods that throw ===== -/
def exN (n : Nat) : String := match n with
  | 1 => "java/lang/IllegalArgumentException"
  | 2 => "java/lang/IllegalStateException"
  | 3 => "java/lang/IndexOutOfBoundsException"
  | _ => "java/util/NoSuchElementException"
def exNs : List String := ["java/lang/RuntimeException", "java/lang/Exception"]
def strs : List (Nat × String) := [(49, "nodes is out of range"), (82, "there are 40 edges"), (107, "the node cannot be relieved"), (116, "capacity is out of range"), (147, "what is out of range"), (163, "there are not so many edges"), (197, "the path has not so many edges"), (199, "part is empty or has a node that there is not"), (231, "value is out of range"), (236, "the text has 100 bytes"), (259, "there is no saved state"), (294, "there is no such node"), (296, "both nodes are the same"), (303, "there is no such edge")]
def thN : List Cond := nx_at RX6 305 "java/util/NoSuchElementException" "java/lang/RuntimeException" ["java/lang/Exception"] 13 b13
def thL (ic : Nat) (E : String) : List Cond := vx_atS RX6 ic E exNs
def thW : List Cond := (thL 51 "java/lang/IllegalArgumentException").filter (fun w => !goodWord w) ++ (thL 84 "java/lang/IllegalStateException").filter (fun w => !goodWord w) ++ (thL 165 "java/lang/IndexOutOfBoundsException").filter (fun w => !goodWord w) ++ thN.filter (fun w => !goodWord w)
def isCD : Cond → Bool
  | .castable _ _ => true
  | .declares _ => true
  | _ => false
theorem thW_cd : thW.all isCD = true := by decide +kernel
theorem isCD_of {w : Cond} (h : isCD w = true) : (∃ C T, w = .castable C T) ∨ ∃ x, w = .declares x := by
  cases w <;> first | exact Or.inl ⟨_, _, rfl⟩ | exact Or.inr ⟨_, rfl⟩ | cases h
theorem thW_warm {s U : State} (hW : s.WarmedH U.vm) {w : Cond} (hw : w ∈ thW) (h : va_Nw w s) : va_Nw w U := by
  rcases isCD_of (List.all_eq_true.mp thW_cd w hw) with ⟨C, T, rfl⟩ | ⟨x, rfl⟩
  · exact va_Nw.warmC hW h
  · exact va_Nw.warmD hW h
theorem thW_tab {w : Cond} (hw : w ∈ thW) : w.onTables = true := by
  rcases isCD_of (List.all_eq_true.mp thW_cd w hw) with ⟨C, T, rfl⟩ | ⟨x, rfl⟩ <;> rfl
/-- pairs of exceptions: the first is not of the second's class -/
def ncs : List (Nat × Nat) := [(1, 2), (1, 3), (1, 4), (2, 1), (2, 3), (2, 4), (3, 1), (3, 2), (3, 4), (4, 1), (4, 2), (4, 3)]
/-- what a throw asks of the state: two statics, words, texts -/
def SX (A : Nat → Prop) (U : State) (H : Heap) : Prop := vx_Zq Bundle.tN "UNASSIGNED_STACK" Bundle.steD A U H ∧ vx_Zq Bundle.tN "SUPPRESSED_SENTINEL" Bundle.listD A U H ∧ (∀ w ∈ thW, va_Nw w U) ∧ (∀ q ∈ strs, ∃ a, vk_R RX6 q.1 q.2 a U) ∧ (∀ q ∈ ncs, va_Nc (exN q.1) (exN q.2) U)
theorem SX_narrow {A A0 : Nat → Prop} {U : State} {H : Heap} (hA : ∀ q, A0 q → A q) (h : SX A U H) : SX A0 U H := ⟨h.1.narrow hA, h.2.1.narrow hA, h.2.2⟩
theorem SX_warm {A : Nat → Prop} {s U : State} {H H1 : Heap} (hW : s.WarmedH U.vm) (h : SX A s H) (hq : ∀ a : Nat, a < H.size → ¬ A a → H1[a]? = H[a]?) : SX A U H1 := by
  obtain ⟨h1, h2, h3, h4, h5⟩ := h
  exact ⟨(h1.moved hW.alike).kept hq, (h2.moved hW.alike).kept hq, fun w hw => thW_warm hW hw (h3 w hw), fun q hq => by obtain ⟨a, ha⟩ := h4 q hq; exact ⟨a, ha.warm hW⟩, fun q hq => (h5 q hq).moved hW.alike⟩
theorem SX_same {A : Nat → Prop} {u U : State} {H : Heap} (hv : U.vm = u.vm) (h : SX A u H) : SX A U H := by
  obtain ⟨h1, h2, h3, h4, h5⟩ := h
  have hA : u.vm.Alike U.vm := by rw [hv]; exact Vm.Alike.refl _
  exact ⟨h1.moved hA, h2.moved hA, fun w hw => va_Nw.same (thW_tab hw) hv.symm (h3 w hw), fun q hq => by obtain ⟨a, ha⟩ := h4 q hq; exact ⟨a, ha.same hv⟩, fun q hq => (h5 q hq).moved hA⟩
def XA (A : Nat → Prop) (G : Lay) (o : String × Int64 × cS) : String → State → State → Prop := fun E st t => E = o.1 ∧ va_P (lD G) vwCl (wd G o.2.1 o.2.2) t.heap ∧ va_F A st t
abbrev XC (G : Lay) (o : String × Int64 × cS) : String → State → State → Prop := XA (FA G) G o
abbrev rmX (fr lo : Nat) : Room := { frames := fr, cells := 1, slots := 6, locals := lo }
def PCX (G : Lay) (av : List Value) (h : Int64) (σ : cS) : Array Value → State → Prop := va_Pc av (fun U => (va_P (lD G) vwCl (wd G h σ) U.heap ∧ va_K (lD G) vwCl (ltys G) U ∧ NW U) ∧ SX (FA G) U U.heap)
theorem PCX_blind {G : Lay} {av : List Value} {h : Int64} {σ : cS} : FrameBlind (PCX G av h σ) := fun a U g mk q => ⟨q.1, ⟨q.2.1.1, va_K.moved (u := U) (U := U.calling g mk a) (Vm.Alike.refl U.vm) q.2.1.2.1, NW_same (u := U) rfl q.2.1.2.2⟩, SX_same (u := U) (U := U.calling g mk a) rfl q.2.2⟩
def CX (l : Launch) (y : MethodName) (bytes : ByteArray) (maxL : Nat) (rt : Option FieldType) (fr lo : Nat) (G : Lay) (av : List Value) (h : Int64) (σ : cS) (o : String × Int64 × cS) : Prop :=
  vx_Met l y (mws y bytes maxL rt) (rmX fr lo) (PCX G av h σ) (fun _ _ _ _ => False) (XC G o) 1 6 (FA G)
def QX (K : MCx) (G : Lay) {α β : Type} (g : α → Option Value × Int64 × cS) (gx : β → String × Int64 × cS) : α ⊕ β → State → Prop := fun r => match r with
  | .inl a => MQ (kb K) (QA (kA K) G (g a)) (ka K) (ks K) (ku K) (12 * ku K) (kA K)
  | .inr b => vx_MQ (kb K) (fun _ _ _ _ => False) (XA (kA K) G (gx b)) (ka K) (ks K) (ku K + 1) (12 * ku K + 6) (kA K)
def PX (K : MCx) (G : Lay) {α β : Type} : α ⊕ β → Prop := fun r => match r with
  | .inl _ => True
  | .inr _ => ku K + 1 ≤ (kR K).cells ∧ 12 * ku K + 6 ≤ (kR K).slots ∧ SX (kA K) (ks K) (ks K).heap ∧ (∀ x ∈ (kc K).exceptionTable.toList, False) ∧ (kl K).stackTraces = false
def xbn {α β β' γ : Type} (x : Option (α ⊕ β)) (cv : β → β') (f : α → Option (γ ⊕ β')) : Option (γ ⊕ β') := match x with
  | none => none
  | some (.inl a) => f a
  | some (.inr b) => some (.inr (cv b))
def ibn {α β γ : Type} (x : Option (α ⊕ β)) (f : α → Option γ) : Option γ := match x with
  | some (.inl a) => f a
  | _ => none
theorem cm_ofX {l : Launch} {G : Lay} {y : MethodName} {cc : ByteArray} {maxL : Nat} {ret : Option FieldType} {fr lo : Nat} {α β : Type} {g : α → Option Value × Int64 × cS} {gx : β → String × Int64 × cS} {av : List Value} {h : Int64} {σ : cS} {E : Option (α ⊕ β)} (hy : plainName y.cls = true) (hi : Inj G) (hlen : (lg_sl av).length ≤ maxL) (hS : ∀ K, kl K = l → Cx K G y.cls cc maxL ret fr lo → Sm K G (PX K G) (QX K G g gx) maxL 0 (lv_args 0 av) [] h σ E) : ∀ r, E = some (.inl r) → CM l y cc maxL ret fr lo G av h σ (g r) := by
  intro r hr
  refine Met.ofW (cc := cc) (maxL := maxL) (ret := ret) hy rfl ?_
  intro p e s m args below meth c s₁ B hml hv
  obtain ⟨rfl, hP, hK, hN⟩ := hv
  have hts := atoms_spec (ws := mws y cc maxL ret) B.pre
  have hl := lv_entry av hlen
  rw [lg_entry_eq]
  exact hS (p, l, e, (headSpec (mws y cc maxL ret) (rmP fr lo)).room, s, m, av.toArray, below, meth, c, FA G, 0) rfl ⟨B.exec, B.bytes, hml, findClass_of_methodNamed B.named, fun w h => hts w (List.mem_cons_of_mem _ h), hK, B.notSynchronized, hi, B.returns, rfl, rfl, hN, fun _ h => h, Nat.zero_le _, Nat.zero_le _⟩ (.inl r) hr trivial s.heap [] _ hP va_S.rf hl
theorem cx_of {l : Launch} {G : Lay} {y : MethodName} {cc : ByteArray} {maxL : Nat} {ret : Option FieldType} {fr lo : Nat} {α β : Type} {g : α → Option Value × Int64 × cS} {gx : β → String × Int64 × cS} {av : List Value} {h : Int64} {σ : cS} {E : Option (α ⊕ β)} (hy : plainName y.cls = true) (hi : Inj G) (hfl : l.stackTraces = false) (hlen : (lg_sl av).length ≤ maxL) (hS : ∀ K, kl K = l → Cx K G y.cls cc maxL ret fr lo → Sm K G (PX K G) (QX K G g gx) maxL 0 (lv_args 0 av) [] h σ E) : ∀ r, E = some (.inr r) → CX l y cc maxL ret fr lo G av h σ (gx r) := by
  intro r hr
  refine vx_ofW (cc := cc) (maxL := maxL) (ret := ret) hy rfl ?_
  intro p e s m args below meth c s₁ B hml htab hv
  obtain ⟨rfl, ⟨hP, hK, hN⟩, hX⟩ := hv
  have hts := atoms_spec (ws := mws y cc maxL ret) B.pre
  have hl := lv_entry av hlen
  rw [lg_entry_eq]
  exact hS (p, l, e, (headSpec (mws y cc maxL ret) (rmX fr lo)).room, s, m, av.toArray, below, meth, c, FA G, 0) rfl ⟨B.exec, B.bytes, hml, findClass_of_methodNamed B.named, fun w h => hts w (List.mem_cons_of_mem _ h), hK, B.notSynchronized, hi, B.returns, rfl, rfl, hN, fun _ h => h, Nat.zero_le _, Nat.zero_le _⟩ (.inr r) hr ⟨Nat.le_refl _, Nat.le_refl _, hX, htab, hfl⟩ s.heap [] _ hP va_S.rf hl
/-- what is asked of an exception's class -/
def TH (ik : Nat) (E : String) (L : List Cond) : Prop := Bundle.fit E = true ∧ (∀ n ∈ exNs, Bundle.fit n = true) ∧ (∀ w ∈ L.filter goodWord, w ∈ wsL_law) ∧ (∀ w ∈ L.filter (fun w => !goodWord w), w ∈ thW) ∧ (∀ w ∈ Cond.classLink RX6 ik E :: Cond.initialized E :: L, vx_ot w = true)
theorem th_1 : TH 47 "java/lang/IllegalArgumentException" (thL 51 "java/lang/IllegalArgumentException") := ⟨by decide +kernel, by decide +kernel, fun w h => law_x0 w h, fun w h => List.mem_append_left _ (List.mem_append_left _ (List.mem_append_left _ h)), by decide +kernel⟩
theorem th_2 : TH 80 "java/lang/IllegalStateException" (thL 84 "java/lang/IllegalStateException") := ⟨by decide +kernel, by decide +kernel, fun w h => law_x1 w h, fun w h => List.mem_append_left _ (List.mem_append_left _ (List.mem_append_right _ h)), by decide +kernel⟩
theorem th_3 : TH 161 "java/lang/IndexOutOfBoundsException" (thL 165 "java/lang/IndexOutOfBoundsException") := ⟨by decide +kernel, by decide +kernel, fun w h => law_x2 w h, fun w h => List.mem_append_left _ (List.mem_append_right _ h), by decide +kernel⟩
theorem th_4 : TH 301 "java/util/NoSuchElementException" thN := ⟨by decide +kernel, by decide +kernel, fun w h => law_x3 w h, fun w h => List.mem_append_right _ h, by decide +kernel⟩
theorem va_P_later {D : va_G} {cl : List vw_C} {ws : va_W} {H H1 : Heap} (h : va_P D cl ws H) (hq : ∀ q : Nat, q < H.size → H1[q]? = H[q]?) : va_P D cl ws H1 := h.kept (fun k q hk => hq q.1 (h k q hk).lt)

set_option maxHeartbeats 4000000 in
theorem z_throw {K : MCx} {G : Lay} {cc : ByteArray} {nL : Nat} {ret : Option FieldType} {rf rl : Nat} {α β : Type} {g : α → Option Value × Int64 × cS} {gx : β → String × Int64 × cS} {pc : Nat} {lv : List (Nat × Value)} {st : List Value} {h : Int64} {σ : cS} (X : Cx K G RX6 cc nL ret rf rl) {cls text : String} {ik is ic : Nat} {b : β} (hm : (is, text) ∈ strs) (th : TH ik cls (thL ic cls)) (hw : Cond.classLink RX6 ik cls ∈ wsL_law) (hini : Cond.initialized cls ∈ wsL_law) (d0 : decode cc pc = .ok (.new ik, 3)) (d3 : decode cc (pc + 3) = .ok (.dup, 1)) (d4 : decode cc (pc + 4) = .ok (.ldc is, 2)) (d6 : decode cc (pc + 6) = .ok (.invokespecial ic, 3)) (d9 : decode cc (pc + 9) = .ok (.athrow, 1)) (hgx : gx b = (cls, h, σ)) (hrf : 6 ≤ rf) (hrl : (st.map fun v => v.category).sum + 82 ≤ rl) : Sm K G (PX K G) (QX K G g gx) nL pc lv st h σ (some (.inr b)) := by
  intro r hr hp H locs ls hP hS hl
  cases hr
  obtain ⟨p1, p2, ⟨sU, sN, sW, sS, -⟩, hT, hfl⟩ := hp
  obtain ⟨sa, hstr⟩ := sS _ hm
  obtain ⟨t1, t2, t3, t4, t5⟩ := th
  have hts := X.2.2.2.2.1
  exact vx_throwS X.1 X.2.1 hfl X.2.2.2.1 t1 t2 (hts _ hw) (hts _ hini) hstr (vx_hat (fun w hw => hts w (t3 w hw)) t4 (fun w hw => va_Nw.use (thW_tab hw) (sW w hw))) t5 sU sN hS (hl.1.trans X.2.2.1.symm) d0 d3 d4 d6 d9 (fun x hx => (hT x hx).elim)
    (by rw [X.2.2.2.2.2.2.2.2.2.1]; exact hrf) (by rw [X.2.2.2.2.2.2.2.2.2.2.1]; exact hrl) p1 p2 X.2.2.2.2.2.2.1
    (fun t hA hz hq => ⟨by rw [hgx], by rw [hgx]; exact va_P_later hP hq, Nat.le_trans hS.1 hz, fun q h1 h2 => (hq q (Nat.lt_of_lt_of_le h1 hS.1)).trans (hS.2.1 q h1 h2)⟩) hS.2.2 (Nat.le_refl _) (Nat.le_refl _)
set_option maxHeartbeats 4000000 in
theorem z_throwW {K : MCx} {G : Lay} {cc : ByteArray} {nL : Nat} {ret : Option FieldType} {rf rl : Nat} {α β : Type} {g : α → Option Value × Int64 × cS} {gx : β → String × Int64 × cS} {pc : Nat} {lv : List (Nat × Value)} {st : List Value} {h : Int64} {σ : cS} (X : Cx K G RX6 cc nL ret rf rl) {cls text : String} {ik is ic : Nat} {b : β} (hm : (is, text) ∈ strs) (th : TH ik cls (thL ic cls)) (hw : Cond.classLink RX6 ik cls ∈ wsL_law) (hini : Cond.initialized cls ∈ wsL_law) (d0 : decode cc pc = .ok (.new ik, 3)) (d3 : decode cc (pc + 3) = .ok (.dup, 1)) (d4 : decode cc (pc + 4) = .ok (.ldc_w is, 3)) (d7 : decode cc (pc + 7) = .ok (.invokespecial ic, 3)) (d10 : decode cc (pc + 10) = .ok (.athrow, 1)) (hgx : gx b = (cls, h, σ)) (hrf : 6 ≤ rf) (hrl : (st.map fun v => v.category).sum + 82 ≤ rl) : Sm K G (PX K G) (QX K G g gx) nL pc lv st h σ (some (.inr b)) := by
  intro r hr hp H locs ls hP hS hl
  cases hr
  obtain ⟨p1, p2, ⟨sU, sN, sW, sS, -⟩, hT, hfl⟩ := hp
  obtain ⟨sa, hstr⟩ := sS _ hm
  obtain ⟨t1, t2, t3, t4, t5⟩ := th
  have hts := X.2.2.2.2.1
  exact vx_throwSW X.1 X.2.1 hfl X.2.2.2.1 t1 t2 (hts _ hw) (hts _ hini) hstr (vx_hat (fun w hw => hts w (t3 w hw)) t4 (fun w hw => va_Nw.use (thW_tab hw) (sW w hw))) t5 sU sN hS (hl.1.trans X.2.2.1.symm) d0 d3 d4 d7 d10 (fun x hx => (hT x hx).elim)
    (by rw [X.2.2.2.2.2.2.2.2.2.1]; exact hrf) (by rw [X.2.2.2.2.2.2.2.2.2.2.1]; exact hrl) p1 p2 X.2.2.2.2.2.2.1
    (fun t hA hz hq => ⟨by rw [hgx], by rw [hgx]; exact va_P_later hP hq, Nat.le_trans hS.1 hz, fun q h1 h2 => (hq q (Nat.lt_of_lt_of_le h1 hS.1)).trans (hS.2.1 q h1 h2)⟩) hS.2.2 (Nat.le_refl _) (Nat.le_refl _)
set_option maxHeartbeats 4000000 in
theorem z_throwNW {K : MCx} {G : Lay} {cc : ByteArray} {nL : Nat} {ret : Option FieldType} {rf rl : Nat} {α β : Type} {g : α → Option Value × Int64 × cS} {gx : β → String × Int64 × cS} {pc : Nat} {lv : List (Nat × Value)} {st : List Value} {h : Int64} {σ : cS} (X : Cx K G RX6 cc nL ret rf rl) {text : String} {ik is : Nat} {b : β} (hm : (is, text) ∈ strs) (th : TH ik "java/util/NoSuchElementException" thN) (hw : Cond.classLink RX6 ik "java/util/NoSuchElementException" ∈ wsL_law) (hini : Cond.initialized "java/util/NoSuchElementException" ∈ wsL_law) (d0 : decode cc pc = .ok (.new ik, 3)) (d3 : decode cc (pc + 3) = .ok (.dup, 1)) (d4 : decode cc (pc + 4) = .ok (.ldc_w is, 3)) (d7 : decode cc (pc + 7) = .ok (.invokespecial 305, 3)) (d10 : decode cc (pc + 10) = .ok (.athrow, 1)) (hgx : gx b = ("java/util/NoSuchElementException", h, σ)) (hrf : 6 ≤ rf) (hrl : (st.map fun v => v.category).sum + 82 ≤ rl) : Sm K G (PX K G) (QX K G g gx) nL pc lv st h σ (some (.inr b)) := by
  intro r hr hp H locs ls hP hS hl
  cases hr
  obtain ⟨p1, p2, ⟨sU, sN, sW, sS, -⟩, hT, hfl⟩ := hp
  obtain ⟨sa, hstr⟩ := sS _ hm
  obtain ⟨t1, t2, t3, t4, t5⟩ := th
  have hts := X.2.2.2.2.1
  exact nx_throwW (r := ["java/lang/Exception"]) (Y := "java/lang/RuntimeException") (i0 := 13) (b0 := b13) X.1 X.2.1 hfl X.2.2.2.1 t1 (t2 _ (by decide)) (fun n hn => t2 n (List.mem_cons_of_mem _ hn)) (by decide +kernel) (by decide +kernel) (by decide +kernel) (by decide +kernel) (hts _ hw) (hts _ hini) hstr (vx_hat (fun w hw => hts w (t3 w hw)) t4 (fun w hw => va_Nw.use (thW_tab hw) (sW w hw))) t5 sU sN hS (hl.1.trans X.2.2.1.symm) d0 d3 d4 d7 d10 (fun x hx => (hT x hx).elim)
    (by rw [X.2.2.2.2.2.2.2.2.2.1]; exact hrf) (by rw [X.2.2.2.2.2.2.2.2.2.2.1]; exact hrl) p1 p2 X.2.2.2.2.2.2.1
    (fun t hA hz hq => ⟨by rw [hgx], by rw [hgx]; exact va_P_later hP hq, Nat.le_trans hS.1 hz, fun q h1 h2 => (hq q (Nat.lt_of_lt_of_le h1 hS.1)).trans (hS.2.1 q h1 h2)⟩) hS.2.2 (Nat.le_refl _) (Nat.le_refl _)
set_option maxHeartbeats 4000000 in
theorem z_xiret {K : MCx} {G : Lay} {own : String} {cc : ByteArray} {nL : Nat} {rf rl : Nat} {α β : Type} {g : α → Option Value × Int64 × cS} {gx : β → String × Int64 × cS} {pc : Nat} {lv : List (Nat × Value)} {h : Int64} {σ : cS} (X : Cx K G own cc nL (some .int) rf rl) {v : Int32} {r0 : α} (hg : g r0 = (some (.int v), h, σ)) (hdg : decode cc pc = .ok (.ireturn, 1)) : Sm K G (PX K G) (QX K G g gx) nL pc lv [.int v] h σ (some (.inl r0)) := by
  intro r hr hp H locs ls hP hS hl
  cases hr
  exact W.iret X.1 X.2.1 X.2.2.2.2.2.2.2.2.1 (fun t ht hW => ⟨by rw [hg], by rw [hg, ht]; exact hP, hS.F ht⟩) hS.2.2 hdg X.2.2.2.2.2.2.1
set_option maxHeartbeats 4000000 in
theorem z_xvret {K : MCx} {G : Lay} {own : String} {cc : ByteArray} {nL : Nat} {rf rl : Nat} {α β : Type} {g : α → Option Value × Int64 × cS} {gx : β → String × Int64 × cS} {pc : Nat} {lv : List (Nat × Value)} {h : Int64} {σ : cS} (X : Cx K G own cc nL none rf rl) {r0 : α} (hg : g r0 = (none, h, σ)) (hdg : decode cc pc = .ok (.return_, 1)) : Sm K G (PX K G) (QX K G g gx) nL pc lv [] h σ (some (.inl r0)) := by
  intro r hr hp H locs ls hP hS hl
  cases hr
  exact W.vret X.1 X.2.1 X.2.2.2.2.2.2.2.2.1 (fun t ht hW => ⟨by rw [hg], by rw [hg, ht]; exact hP, hS.F ht⟩) hS.2.2 hdg X.2.2.2.2.2.2.1
set_option maxHeartbeats 4000000 in
theorem z_callVX {K : MCx} {G : Lay} {own : String} {cc : ByteArray} {nL : Nat} {ret : Option FieldType} {rf rl : Nat} {α β : Type} {gm : α → Option Value × Int64 × cS} {gxm : β → String × Int64 × cS} {pc : Nat} {lv : List (Nat × Value)} {st : List Value} {h : Int64} {σ : cS} (X : Cx K G own cc nL ret rf rl) {α1 β1 : Type} {y : MethodName} {bytes : ByteArray} {maxL n : Nat} {rt : Option FieldType} {index rmf rml : Nat} {Ec : Option (α1 ⊕ β1)} {g : α1 → Option Value × Int64 × cS} {gx : β1 → String × Int64 × cS} {cv : β1 → β} {f : α1 → Option (α ⊕ β)} {C : String} {T : u_T} {nf ci : Nat} {fs : List Value} {st0 : List Value} {st1 : α1 → List Value} (As : List Value) (kk : Nat) (hy : Cal y C bytes maxL rt n) (hlink : Cond.methodLink own index y ∈ wsL_law) (hR : rmf + 1 ≤ rf ∧ 8 + (maxL + 11) + rml ≤ rl) (hst : st0 = As.reverse ++ .ref (la G kk) :: st) (hn : As.length = n) (hcat : (st.map fun v => v.category).sum ≤ 8) (hc : vwCl[ci]? = some (C, T, nf)) (o : Ob G kk ci) (hw : ce G h σ kk = .inr (ci, fs)) (hM : ∀ rc, Ec = some (.inl rc) → CM (kl K) y bytes maxL rt rmf rml G (.ref (la G kk) :: As) h σ (g rc)) (hX : (kl K).stackTraces = false → ∀ rc, Ec = some (.inr rc) → CX (kl K) y bytes maxL rt rmf rml G (.ref (la G kk) :: As) h σ (gx rc)) (hdg : decode cc pc = .ok (.invokevirtual index, 3)) (hst1 : ∀ rc, (g rc).1.toList ++ st = st1 rc) (hcv : ∀ b, gxm (cv b) = gx b) (k : ∀ rc, Sm K G (PX K G) (QX K G gm gxm) nL (pc + 3) lv (st1 rc) (g rc).2.1 (g rc).2.2 (f rc)) : Sm K G (PX K G) (QX K G gm gxm) nL pc lv st0 h σ (xbn Ec cv f) := by
  intro r hr hp
  rcases he : Ec with _ | ⟨a⟩ | ⟨b⟩
  · rw [he] at hr; cases hr
  · have hr' : (Option.some a).bind f = some r := by rw [he] at hr; exact hr
    exact z_callV0 (Ec := some a) (f := f) (g := g) (st1 := st1) X As kk hy hlink hR hst hn hcat hc o hw (fun rc h9 => hM rc (by rw [he]; cases h9; rfl)) hdg hst1 k r hr' hp
  · intro H locs ls hP hS hl
    have hr' : r = .inr (cv b) := by rw [he] at hr; exact (Option.some.inj hr).symm
    subst hr'
    obtain ⟨p1, p2, hsx, hT, hfl⟩ := hp
    have hK := X.2.2.2.2.2.1
    have hN := X.2.2.2.2.2.2.2.2.2.2.2.1
    have hrun := vx_runV (cells := ku K) (slots := 12 * ku K) (R := kR K) (locs := locs) (H := H) (p := kp K) (l := kl K) (e := ke K) (below := kb K) (meth := kme K) (g := F0 (km K) pc ls st0) (As := As) (rest := st) (b := la G kk) ⟨X.1, X.2.1, X.2.2.1, X.2.2.2.1, X.2.2.2.2.1⟩ (hX hfl b he) (cal_V (fr := 0) (lo := 0) X.2.2.2.2.1 hy hlink (rm := rmX rmf rml) rfl rfl (by rw [X.2.2.2.2.2.2.2.2.2.1, X.2.2.2.2.2.2.2.2.2.2.1]; exact hR)) ⟨PCX_blind, va_recv hK hP hc (by rw [fw_get o.1, hw]), fun U hU hW => ⟨rfl, ⟨by rw [hU]; exact hP, va_K.moved hW.alike hK, NW_warm hW hN⟩, by rw [hU]; exact SX_narrow X.2.2.2.2.2.2.2.2.2.2.2.2.1 (SX_warm hW hsx hS.2.1)⟩⟩ rfl hn hl.1 hst (lv_room hcat) hdg ⟨p1, p2⟩
    intro T0 hT0 XX
    rcases hrun T0 hT0 XX with ⟨v, sa, t, T', L, h0, X', hL, e1, e2, hq, stp⟩ | ⟨q, sa, t, T', L, E, ce9, h0, X', hL, e1, e2, ⟨hE, hP1, hF⟩, hce, hcv9, hcl, stp⟩
    · exact hq.elim
    · have hS1 := va_S_call X.2.2.2.2.2.2.2.2.2.2.2.2.1 hS h0 e1 hF hL
      have out := vx_out (p := kp K) (l := kl K) (e := ke K) (R := kR K) (s := ks K) (m := km K) (args := ka K) (below := kb K) (meth := kme K) (c := kc K) (H := T'.heap) (locs := locs ++ L) (cells := ku K + 1) (slots := 12 * ku K + 6) (free := kA K) (ls := ls) (rest := st) (Qc := fun _ _ _ _ => False) (XC := XA (kA K) G (gxm (cv b))) (pc := pc) (E := E) (ce := ce9) (q := q) (mc := ku K + 1) (ms := 12 * ku K + 6) (fun x hx => (hT x hx).elim) X.2.2.2.2.2.2.1 (by rw [e1]; exact hce) hcv9 hcl (fun t9 ht9 _ => ⟨by rw [hcv]; exact hE, by rw [hcv, ht9, e1]; exact hP1, hS1.F ht9⟩) hS1.2.2 (Nat.le_refl _) (Nat.le_refl _)
      obtain ⟨t2, a1, b1⟩ := out T' rfl X'
      exact ⟨t2, stp.trans a1, b1⟩
set_option maxHeartbeats 4000000 in
theorem z_callVN {K : MCx} {G : Lay} {own : String} {cc : ByteArray} {nL : Nat} {ret : Option FieldType} {rf rl : Nat} {ρ : Type} {P : ρ → Prop} {Q : ρ → State → Prop} {pc : Nat} {lv : List (Nat × Value)} {st : List Value} {h : Int64} {σ : cS} (X : Cx K G own cc nL ret rf rl) {α1 β1 : Type} {y : MethodName} {bytes : ByteArray} {maxL n : Nat} {rt : Option FieldType} {index rmf rml : Nat} {Ec : Option (α1 ⊕ β1)} {g : α1 → Option Value × Int64 × cS} {f : α1 → Option ρ} {C : String} {T : u_T} {nf ci : Nat} {fs : List Value} {st0 : List Value} {st1 : α1 → List Value} (As : List Value) (kk : Nat) (hy : Cal y C bytes maxL rt n) (hlink : Cond.methodLink own index y ∈ wsL_law) (hR : rmf + 1 ≤ rf ∧ 8 + (maxL + 11) + rml ≤ rl) (hst : st0 = As.reverse ++ .ref (la G kk) :: st) (hn : As.length = n) (hcat : (st.map fun v => v.category).sum ≤ 8) (hc : vwCl[ci]? = some (C, T, nf)) (o : Ob G kk ci) (hw : ce G h σ kk = .inr (ci, fs)) (hM : ∀ rc, Ec = some (.inl rc) → CM (kl K) y bytes maxL rt rmf rml G (.ref (la G kk) :: As) h σ (g rc)) (hdg : decode cc pc = .ok (.invokevirtual index, 3)) (hst1 : ∀ rc, (g rc).1.toList ++ st = st1 rc) (k : ∀ rc, Sm K G P Q nL (pc + 3) lv (st1 rc) (g rc).2.1 (g rc).2.2 (f rc)) : Sm K G P Q nL pc lv st0 h σ (ibn Ec f) := by
  intro r hr hp
  rcases he : Ec with _ | ⟨a⟩ | ⟨b⟩
  · rw [he] at hr; cases hr
  · have hr' : (Option.some a).bind f = some r := by rw [he] at hr; exact hr
    exact z_callV0 (Ec := some a) (f := f) (g := g) (st1 := st1) X As kk hy hlink hR hst hn hcat hc o hw (fun rc h9 => hM rc (by rw [he]; cases h9; rfl)) hdg hst1 k r hr' hp
  · rw [he] at hr; cases hr
set_option maxHeartbeats 4000000 in
theorem z_callSX {K : MCx} {G : Lay} {own : String} {cc : ByteArray} {nL : Nat} {ret : Option FieldType} {rf rl : Nat} {α β : Type} {gm : α → Option Value × Int64 × cS} {gxm : β → String × Int64 × cS} {pc : Nat} {lv : List (Nat × Value)} {st : List Value} {h : Int64} {σ : cS} (X : Cx K G own cc nL ret rf rl) {α1 β1 : Type} {y : MethodName} {bytes : ByteArray} {maxL n : Nat} {rt : Option FieldType} {index rmf rml : Nat} {Ec : Option (α1 ⊕ β1)} {g : α1 → Option Value × Int64 × cS} {gx : β1 → String × Int64 × cS} {cv : β1 → β} {f : α1 → Option (α ⊕ β)} {st0 : List Value} {st1 : α1 → List Value} (As : List Value) (hy : CalS y bytes maxL rt n) (hlink : Cond.methodLink own index y ∈ wsL_law) (hR : rmf + 1 ≤ rf ∧ 8 + (maxL + 11) + rml ≤ rl) (hst : st0 = As.reverse ++ st) (hn : As.length = n) (hcat : (st.map fun v => v.category).sum ≤ 8) (hM : ∀ rc, Ec = some (.inl rc) → CM (kl K) y bytes maxL rt rmf rml G As h σ (g rc)) (hX : (kl K).stackTraces = false → ∀ rc, Ec = some (.inr rc) → CX (kl K) y bytes maxL rt rmf rml G As h σ (gx rc)) (hdg : decode cc pc = .ok (.invokestatic index, 3)) (hst1 : ∀ rc, (g rc).1.toList ++ st = st1 rc) (hcv : ∀ b, gxm (cv b) = gx b) (k : ∀ rc, Sm K G (PX K G) (QX K G gm gxm) nL (pc + 3) lv (st1 rc) (g rc).2.1 (g rc).2.2 (f rc)) : Sm K G (PX K G) (QX K G gm gxm) nL pc lv st0 h σ (xbn Ec cv f) := by
  intro r hr hp
  rcases he : Ec with _ | ⟨a⟩ | ⟨b⟩
  · rw [he] at hr; cases hr
  · have hr' : (Option.some a).bind f = some r := by rw [he] at hr; exact hr
    exact z_callS0 (Ec := some a) (f := f) (g := g) (st1 := st1) X As hy hlink hR hst hn hcat (fun rc h9 => hM rc (by rw [he]; cases h9; rfl)) hdg hst1 k r hr' hp
  · intro H locs ls hP hS hl
    have hr' : r = .inr (cv b) := by rw [he] at hr; exact (Option.some.inj hr).symm
    subst hr'
    obtain ⟨p1, p2, hsx, hT, hfl⟩ := hp
    have hK := X.2.2.2.2.2.1
    have hN := X.2.2.2.2.2.2.2.2.2.2.2.1
    have hrun := vx_runS (cells := ku K) (slots := 12 * ku K) (R := kR K) (locs := locs) (H := H) (p := kp K) (l := kl K) (e := ke K) (below := kb K) (meth := kme K) (g := F0 (km K) pc ls st0) (As := As) (rest := st) ⟨X.1, X.2.1, X.2.2.1, X.2.2.2.1, X.2.2.2.2.1⟩ (hX hfl b he) (cal_S (fr := 0) (lo := 0) X.2.2.2.2.1 hy hlink (rm := rmX rmf rml) rfl rfl (by rw [X.2.2.2.2.2.2.2.2.2.1, X.2.2.2.2.2.2.2.2.2.2.1]; exact hR)) ⟨PCX_blind, fun U hU hW => ⟨rfl, ⟨by rw [hU]; exact hP, va_K.moved hW.alike hK, NW_warm hW hN⟩, by rw [hU]; exact SX_narrow X.2.2.2.2.2.2.2.2.2.2.2.2.1 (SX_warm hW hsx hS.2.1)⟩⟩ rfl hn hl.1 hst (lv_room hcat) hdg ⟨p1, p2⟩
    intro T0 hT0 XX
    rcases hrun T0 hT0 XX with ⟨v, sa, t, T', L, h0, X', hL, e1, e2, hq, stp⟩ | ⟨q, sa, t, T', L, E, ce9, h0, X', hL, e1, e2, ⟨hE, hP1, hF⟩, hce, hcv9, hcl, stp⟩
    · exact hq.elim
    · have hS1 := va_S_call X.2.2.2.2.2.2.2.2.2.2.2.2.1 hS h0 e1 hF hL
      have out := vx_out (p := kp K) (l := kl K) (e := ke K) (R := kR K) (s := ks K) (m := km K) (args := ka K) (below := kb K) (meth := kme K) (c := kc K) (H := T'.heap) (locs := locs ++ L) (cells := ku K + 1) (slots := 12 * ku K + 6) (free := kA K) (ls := ls) (rest := st) (Qc := fun _ _ _ _ => False) (XC := XA (kA K) G (gxm (cv b))) (pc := pc) (E := E) (ce := ce9) (q := q) (mc := ku K + 1) (ms := 12 * ku K + 6) (fun x hx => (hT x hx).elim) X.2.2.2.2.2.2.1 (by rw [e1]; exact hce) hcv9 hcl (fun t9 ht9 _ => ⟨by rw [hcv]; exact hE, by rw [hcv, ht9, e1]; exact hP1, hS1.F ht9⟩) hS1.2.2 (Nat.le_refl _) (Nat.le_refl _)
      obtain ⟨t2, a1, b1⟩ := out T' rfl X'
      exact ⟨t2, stp.trans a1, b1⟩
set_option maxHeartbeats 4000000 in
theorem z_callSN {K : MCx} {G : Lay} {own : String} {cc : ByteArray} {nL : Nat} {ret : Option FieldType} {rf rl : Nat} {ρ : Type} {P : ρ → Prop} {Q : ρ → State → Prop} {pc : Nat} {lv : List (Nat × Value)} {st : List Value} {h : Int64} {σ : cS} (X : Cx K G own cc nL ret rf rl) {α1 β1 : Type} {y : MethodName} {bytes : ByteArray} {maxL n : Nat} {rt : Option FieldType} {index rmf rml : Nat} {Ec : Option (α1 ⊕ β1)} {g : α1 → Option Value × Int64 × cS} {f : α1 → Option ρ} {st0 : List Value} {st1 : α1 → List Value} (As : List Value) (hy : CalS y bytes maxL rt n) (hlink : Cond.methodLink own index y ∈ wsL_law) (hR : rmf + 1 ≤ rf ∧ 8 + (maxL + 11) + rml ≤ rl) (hst : st0 = As.reverse ++ st) (hn : As.length = n) (hcat : (st.map fun v => v.category).sum ≤ 8) (hM : ∀ rc, Ec = some (.inl rc) → CM (kl K) y bytes maxL rt rmf rml G As h σ (g rc)) (hdg : decode cc pc = .ok (.invokestatic index, 3)) (hst1 : ∀ rc, (g rc).1.toList ++ st = st1 rc) (k : ∀ rc, Sm K G P Q nL (pc + 3) lv (st1 rc) (g rc).2.1 (g rc).2.2 (f rc)) : Sm K G P Q nL pc lv st0 h σ (ibn Ec f) := by
  intro r hr hp
  rcases he : Ec with _ | ⟨a⟩ | ⟨b⟩
  · rw [he] at hr; cases hr
  · have hr' : (Option.some a).bind f = some r := by rw [he] at hr; exact hr
    exact z_callS0 (Ec := some a) (f := f) (g := g) (st1 := st1) X As hy hlink hR hst hn hcat (fun rc h9 => hM rc (by rw [he]; cases h9; rfl)) hdg hst1 k r hr' hp
  · rw [he] at hr; cases hr
