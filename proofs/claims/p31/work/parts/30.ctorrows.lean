/-! ===== making cells ===== -/
abbrev tyk (cI cG cL : ClassId) : List (ClassId × FieldType) := [(cI, .int), (cG, .object "EdgeHolders$Graph")]
def Cy (K : MCx) (D : va_G) (cI cG cL : ClassId) (A : Nat → Prop) (own : String) (cc : ByteArray) (nL rf rc rs rl : Nat) : Prop :=
  (kp K).tables.exec = Jvm.exec ∧ (kc K).code = cc ∧ (kc K).maxLocals = nL ∧ (ks K).vm.findClass own = some (km K).cls ∧ (∀ w ∈ wsL_law, w.before (ka K) (ks K) = true) ∧ va_K D vwCl (tyk cI cG cL) (ks K) ∧ (kme K).locks = false ∧ (∀ q : Nat, (ks K).heap.size ≤ q → A q) ∧ kR K = { frames := rf, cells := rc, slots := rs, locals := rl } ∧ NW (ks K)
def Sk (K : MCx) (D : va_G) (A : Nat → Prop) (Q : State → Prop) (nL pc : Nat) (lv : List (Nat × Value)) (st : List Value) (ws : va_W) (cn sn : Nat) : Prop :=
  ∀ (H : Heap) (locs : List Loc) (ls : Array Slot), va_P D vwCl ws H → va_D A ws → va_S A (ks K).heap H locs → lv_has ls nL lv → W (kp K) (kl K) (ke K) (kR K) (ks K) (km K) (ka K) (kb K) (kme K) (kc K) H locs cn sn Q (F0 (km K) pc ls st)
def kGt (_ : Unit) : Nat → Nat := fun i => match i with
  | 0 => 0
  | 1 => 4
  | 2 => 8
  | 3 => 4
  | 4 => 8
  | 5 => 4
  | 6 => 8
  | 7 => 4
  | 8 => 8
  | 9 => 4
  | 10 => 8
  | 11 => 4
  | 12 => 8
  | 13 => 4
  | _ => 8
def lGt (_ : Unit) : Nat → Nat := fun i => match i with
  | 12 => 12
  | 14 => 12
  | _ => 40
def σz : cS := fun _ _ => 0
/-- the layout of one graph alone -/
abbrev Gm (D : va_G) (cI cG cL : ClassId) (a : Nat → Nat) : Lay := (D, 15, a, kGt (), lGt (), cI, cG, cL)
def gI : cS := (fX0_restart (lGt ()) 50 σz 0 6).getD σz
theorem gI_is : fX0_restart (lGt ()) 50 σz 0 6 = some gI := by
  have h : (fX0_restart (lGt ()) 50 σz 0 6).isSome = true := by decide +kernel
  unfold gI
  cases e : fX0_restart (lGt ()) 50 σz 0 6 with
  | none => rw [e] at h; cases h
  | some x => rfl
theorem isGm (D : va_G) (cI cG cL : ClassId) (a : Nat → Nat) : isGraph (Gm D cI cG cL a) 0 := by
  refine ⟨⟨Nat.le_of_ble_eq_true rfl, rfl⟩, ⟨⟨Nat.le_of_ble_eq_true rfl, rfl⟩, ⟨Nat.le_of_ble_eq_true rfl, rfl⟩⟩, ⟨⟨Nat.le_of_ble_eq_true rfl, rfl⟩, ⟨Nat.le_of_ble_eq_true rfl, rfl⟩⟩, ⟨⟨Nat.le_of_ble_eq_true rfl, rfl⟩, ⟨Nat.le_of_ble_eq_true rfl, rfl⟩⟩, ⟨⟨Nat.le_of_ble_eq_true rfl, rfl⟩, ⟨Nat.le_of_ble_eq_true rfl, rfl⟩⟩, ⟨⟨Nat.le_of_ble_eq_true rfl, rfl⟩, ⟨Nat.le_of_ble_eq_true rfl, rfl⟩⟩, ⟨⟨Nat.le_of_ble_eq_true rfl, rfl⟩, ⟨Nat.le_of_ble_eq_true rfl, rfl⟩⟩, ⟨⟨Nat.le_of_ble_eq_true rfl, rfl⟩, ⟨Nat.le_of_ble_eq_true rfl, rfl⟩⟩⟩
/-- the worlds behind the constructors -/
def w4 (cI : ClassId) (n : Nat) (a : Nat → Nat) : va_W := [(a 0, .inr (4, [.ref (a 1)])), (a 1, .inl (cI, n, .inl (fun _ => 0)))]
def w0 (D : va_G) (cI cG cL : ClassId) (a : Nat → Nat) : va_W := fw (Gm D cI cG cL a) (ce (Gm D cI cG cL a) 0 gI)
def w5 (cI : ClassId) (a : Nat → Nat) : va_W := [(a 0, .inr (5, [.ref (a 1), .ref (a 3), .ref (a 5), .int 0, .int 0, .int 0]))] ++ w4 cI 12 (fun i => a (1 + i)) ++ w4 cI 12 (fun i => a (3 + i)) ++ w4 cI 12 (fun i => a (5 + i))
def w3 (cI : ClassId) (a : Nat → Nat) : va_W := [(a 0, .inr (3, [.ref (a 1), .ref (a 2), .ref (a 3), .int 0, .int 0, .int 0, .int 0])), (a 1, .inl (cI, 4096, .inl (fun _ => 0))), (a 2, .inl (cI, 4096, .inl (fun _ => 0)))] ++ w4 cI 12 (fun i => a (3 + i))
def w2 (cI : ClassId) (a : Nat → Nat) : va_W := [(a 0, .inr (2, [.ref (a 1), .int 0, .int 0, .int (-1), .int 0, .int 0, .int 0, .int 0]))] ++ w4 cI 100 (fun i => a (1 + i))
def w1 (D : va_G) (cI cG cL : ClassId) (a : Nat → Nat) : va_W := [(a 0, .inr (1, [.ref (a 1), .int 0, .int 0])), (a 1, .inl (cG, 4, .inr (.inr (.inr (.inr (va_up (va_up (va_up (va_up (fun _ => none) 0 (some (a 2))) 1 (some (a 17))) 2 (some (a 32))) 3 (some (a 47))))))))] ++ w0 D cI cG cL (fun i => a (2 + i)) ++ w0 D cI cG cL (fun i => a (17 + i)) ++ w0 D cI cG cL (fun i => a (32 + i)) ++ w0 D cI cG cL (fun i => a (47 + i))
def w6 (D : va_G) (cI cG cL : ClassId) (a : Nat → Nat) : va_W := [(a 0, .inr (6, [.ref (a 1), .ref (a 16), .ref (a 31), .ref (a 38), .ref (a 43), .ref (a 46)]))] ++ w0 D cI cG cL (fun i => a (1 + i)) ++ w0 D cI cG cL (fun i => a (16 + i)) ++ w5 cI (fun i => a (31 + i)) ++ w3 cI (fun i => a (38 + i)) ++ w2 cI (fun i => a (43 + i)) ++ w1 D cI cG cL (fun i => a (46 + i))
/-- two addresses' functions, one behind the other from n on -/
def acat (n : Nat) (a b : Nat → Nat) : Nat → Nat := fun i => if i < n then a i else b (i - n)
theorem acat_lo {n i : Nat} {a b : Nat → Nat} (h : i < n) : acat n a b i = a i := by unfold acat; rw [if_pos h]
theorem acat_hi {n i : Nat} {a b : Nat → Nat} : acat n a b (n + i) = b i := by
  unfold acat
  rw [if_neg (by omega), Nat.add_sub_cancel_left]
theorem w4_ext {cI : ClassId} {n : Nat} {a b : Nat → Nat} (h : ∀ i, i < 2 → a i = b i) : w4 cI n a = w4 cI n b := by
  unfold w4
  rw [h 0 (by omega), h 1 (by omega)]
theorem fw_ext {G G' : Lay} {f f' : Nat → va_E} (hn : gN G = gN G') (ha : ∀ i, i < gN G → la G i = la G' i) (hf : ∀ i, i < gN G → f i = f' i) : fw G f = fw G' f' := by
  unfold fw
  rw [← hn]
  refine List.map_congr_left (fun k hk => ?_)
  have h := List.mem_range.mp hk
  rw [ha k h, hf k h]
theorem ce_Gm {D : va_G} {cI cG cL : ClassId} {a b : Nat → Nat} (h : ∀ i, i < 15 → a i = b i) (v : Int64) (σ : cS) : ∀ i, i < 15 → ce (Gm D cI cG cL a) v σ i = ce (Gm D cI cG cL b) v σ i := by
  intro i hi
  have h2 : ∀ j, j < 15 → la (Gm D cI cG cL a) j = la (Gm D cI cG cL b) j := h
  rcases (show i = 0 ∨ i = 1 ∨ i = 2 ∨ i = 3 ∨ i = 4 ∨ i = 5 ∨ i = 6 ∨ i = 7 ∨ i = 8 ∨ i = 9 ∨ i = 10 ∨ i = 11 ∨ i = 12 ∨ i = 13 ∨ i = 14 by omega) with rfl | rfl | rfl | rfl | rfl | rfl | rfl | rfl | rfl | rfl | rfl | rfl | rfl | rfl | rfl
  · rw [ce0 (isGm D cI cG cL a).1, ce0 (isGm D cI cG cL b).1]
    simp only [h2 _ (show 0 + 1 < 15 by omega), h2 _ (show 0 + 3 < 15 by omega), h2 _ (show 0 + 5 < 15 by omega), h2 _ (show 0 + 7 < 15 by omega), h2 _ (show 0 + 9 < 15 by omega), h2 _ (show 0 + 11 < 15 by omega), h2 _ (show 0 + 13 < 15 by omega)]
  all_goals first
    | rfl
    | (unfold ce
       show (Sum.inr (4, [Value.ref _]) : va_E) = Sum.inr (4, [Value.ref _])
       rw [h2 _ (by omega)])
theorem w0_ext {D : va_G} {cI cG cL : ClassId} {a b : Nat → Nat} (h : ∀ i, i < 15 → a i = b i) : w0 D cI cG cL a = w0 D cI cG cL b := fw_ext rfl h (ce_Gm h 0 gI)
theorem w5_ext {cI : ClassId} {a b : Nat → Nat} (h : ∀ i, i < 7 → a i = b i) : w5 cI a = w5 cI b := by
  unfold w5
  rw [h 0 (by omega), h 1 (by omega), h 3 (by omega), h 5 (by omega), w4_ext (fun i hi => h (1 + i) (by omega)), w4_ext (fun i hi => h (3 + i) (by omega)), w4_ext (fun i hi => h (5 + i) (by omega))]
theorem w3_ext {cI : ClassId} {a b : Nat → Nat} (h : ∀ i, i < 5 → a i = b i) : w3 cI a = w3 cI b := by
  unfold w3
  rw [h 0 (by omega), h 1 (by omega), h 2 (by omega), h 3 (by omega), w4_ext (fun i hi => h (3 + i) (by omega))]
theorem w2_ext {cI : ClassId} {a b : Nat → Nat} (h : ∀ i, i < 3 → a i = b i) : w2 cI a = w2 cI b := by
  unfold w2
  rw [h 0 (by omega), h 1 (by omega), w4_ext (fun i hi => h (1 + i) (by omega))]
theorem w1_ext {D : va_G} {cI cG cL : ClassId} {a b : Nat → Nat} (h : ∀ i, i < 62 → a i = b i) : w1 D cI cG cL a = w1 D cI cG cL b := by
  unfold w1
  rw [h 0 (by omega), h 1 (by omega), h 2 (by omega), h 17 (by omega), h 32 (by omega), h 47 (by omega), w0_ext (fun i hi => h (2 + i) (by omega)), w0_ext (fun i hi => h (17 + i) (by omega)), w0_ext (fun i hi => h (32 + i) (by omega)), w0_ext (fun i hi => h (47 + i) (by omega))]
theorem inj_of_D {G : Lay} {f : Nat → va_E} {A : Nat → Prop} (h : va_D A (fw G f)) : Inj G := fun i j hi hj e => h.1 i j _ _ (fw_get hi) (fw_get hj) e
theorem FA_of_D {G : Lay} {f : Nat → va_E} {A : Nat → Prop} (h : va_D A (fw G f)) : ∀ q, FA G q → A q := fun q ⟨k, hk, e⟩ => by
  rw [e]
  exact h.2 k _ (fw_get hk)
theorem D_of_FA {G : Lay} {f g : Nat → va_E} {A : Nat → Prop} (h : va_D A (fw G f)) : va_D A (fw G g) := (fw_D (inj_of_D h) g).weaken (fun k q _ hq => FA_of_D h q.1 hq)
theorem app_join {A0 : Nat → Prop} {D : va_G} {cl : List vw_C} {ws w1 : va_W} {q : Nat} {c0 : va_E} {H H1 : Heap} (hP : va_P D cl (ws ++ [(q, c0)]) H) (hD : va_D A0 (ws ++ [(q, c0)])) (hk : ∀ z : Nat, z < H.size → ¬ va_A [(q, c0)] H.size z → H1[z]? = H[z]?) (hF : ∀ z, va_A [(q, c0)] H.size z → A0 z) (hP1 : va_P D cl w1 H1) (hD1 : va_D (va_A [(q, c0)] H.size) w1) : va_P D cl (ws ++ w1) H1 ∧ va_D A0 (ws ++ w1) := by
  have hin : ∀ (k : Nat) (x : Nat × va_E), ws[k]? = some x → (ws ++ [(q, c0)])[k]? = some x := fun k x hx => by
    rw [List.getElem?_append_left (List.getElem?_eq_some_iff.mp hx).1]; exact hx
  have hlast : (ws ++ [(q, c0)])[ws.length]? = some (q, c0) := by
    rw [List.getElem?_append_right (Nat.le_refl _), Nat.sub_self]; rfl
  have hnot : ∀ (k : Nat) (x : Nat × va_E), ws[k]? = some x → x.1 < H.size ∧ ¬ va_A [(q, c0)] H.size x.1 := by
    intro k x hx
    have hl := (hP k x (hin k x hx)).lt
    refine ⟨hl, fun h => ?_⟩
    rcases h with ⟨j, e, hj⟩ | h
    · have hj0 : j = 0 := by
        have := (List.getElem?_eq_some_iff.mp hj).1
        simpa using this
      subst hj0
      have e1 : (q, c0) = (x.1, e) := Option.some.inj hj
      have e2 : x.1 = q := (congrArg Prod.fst e1).symm
      have := hD.1 k ws.length x (q, c0) (hin k x hx) hlast e2
      have := (List.getElem?_eq_some_iff.mp hx).1
      omega
    · omega
  refine ⟨va_P.app (fun k x hx => (hP k x (hin k x hx)).kept (hk x.1 (hnot k x hx).1 (hnot k x hx).2)) hP1, va_D.app ⟨fun i j p r hi hj e => hD.1 i j p r (hin i p hi) (hin j r hj) e, fun k x hx => hD.2 k x (hin k x hx)⟩ (hD1.weaken (fun k x _ h => hF x.1 h)) (fun i j p r hi hj e => ?_)⟩
  exact (hnot i p hi).2 (by rw [e]; exact hD1.2 j r hj)
def CQ (K : MCx) (D : va_G) (A : Nat → Prop) (h0 : Nat) (w : (Nat → Nat) → va_W) (mc ms : Nat) : State → Prop := MQ (kb K) (va_Qv (fun a : Nat → Nat => a 0 = h0) (fun a t => va_P D vwCl (w a) t.heap ∧ va_D A (w a)) A) (ka K) (ks K) mc ms A
abbrev rmC (fr mc ms lo : Nat) : Room := { frames := fr, cells := mc, slots := ms, locals := lo }
def PI (D : va_G) (cI cG cL : ClassId) (As : List Value) (h0 : Nat) (c0 : va_E) (sz : Nat) : Array Value → State → Prop := va_Pc (.ref h0 :: As) (fun U => U.heap.size = sz ∧ va_P D vwCl [(h0, c0)] U.heap ∧ va_K D vwCl (tyk cI cG cL) U ∧ NW U)
theorem PI_blind {D : va_G} {cI cG cL : ClassId} {As : List Value} {h0 sz : Nat} {c0 : va_E} : FrameBlind (PI D cI cG cL As h0 c0 sz) := fun a U g mk q => ⟨q.1, q.2.1, q.2.2.1, va_K.moved (u := U) (U := U.calling g mk a) (Vm.Alike.refl U.vm) q.2.2.2.1, NW_same (u := U) rfl q.2.2.2.2⟩
/-- a constructor's contract: one cell, made already, becomes the world w -/
def CI (l : Launch) (y : MethodName) (bytes : ByteArray) (maxL fr mc ms lo : Nat) (D : va_G) (cI cG cL : ClassId) (As : List Value) (h0 : Nat) (c0 : va_E) (w : (Nat → Nat) → va_W) : Prop :=
  ∀ sz : Nat, Met l y (mws y bytes maxL none) (rmC fr mc ms lo) (PI D cI cG cL As h0 c0 sz) (va_Qv (fun a : Nat → Nat => a 0 = h0) (fun a t => va_P D vwCl (w a) t.heap ∧ va_D (va_A [(h0, c0)] sz) (w a)) (va_A [(h0, c0)] sz)) mc ms (va_A [(h0, c0)] sz)
theorem one_D {h0 sz : Nat} {c0 : va_E} : va_D (va_A [(h0, c0)] sz) [(h0, c0)] := by
  refine ⟨fun i j p q h1 h2 _ => ?_, fun k q h => va_A.in h⟩
  have := (List.getElem?_eq_some_iff.mp h1).1
  have := (List.getElem?_eq_some_iff.mp h2).1
  simp only [List.length_singleton] at *
  omega
theorem ci_of {l : Launch} {y : MethodName} {cc : ByteArray} {maxL fr mc ms lo : Nat} {D : va_G} {cI cG cL : ClassId} {As : List Value} {h0 : Nat} {c0 : va_E} {w : (Nat → Nat) → va_W} (hy : plainName y.cls = true) (hn : y.name = "<init>") (hlen : (lg_sl (.ref h0 :: As)).length ≤ maxL) (hS : ∀ K A, kl K = l → Cy K D cI cG cL A y.cls cc maxL fr mc ms lo → (kme K).sig.returnType = none → (kme K).name = "<init>" → Sk K D A (CQ K D A h0 w mc ms) maxL 0 (lv_args 0 (.ref h0 :: As)) [] [(h0, c0)] 0 0) : CI l y cc maxL fr mc ms lo D cI cG cL As h0 c0 w := by
  intro sz
  refine Met.ofW (cc := cc) (maxL := maxL) (ret := none) hy rfl ?_
  intro p e s m args below meth c s₁ B hml hv
  obtain ⟨rfl, hsz, hP, hK, hN⟩ := hv
  subst hsz
  have hts := atoms_spec (ws := mws y cc maxL none) B.pre
  have hl := lv_entry (.ref h0 :: As) hlen
  rw [lg_entry_eq]
  have hnm : meth.name = "<init>" := by rw [(name_of_methodNamed B.named B.method).1]; exact hn
  exact hS (p, l, e, rmC fr mc ms lo, s, m, (.ref h0 :: As).toArray, below, meth, c, fun _ => True, 0) (va_A [(h0, c0)] s.heap.size) rfl ⟨B.exec, B.bytes, hml, findClass_of_methodNamed B.named, fun w h => hts w (List.mem_cons_of_mem _ h), hK, B.notSynchronized, fun q h => Or.inr h, rfl, hN⟩ B.returns hnm s.heap [] _ hP one_D va_S.rf hl

set_option maxHeartbeats 4000000 in
theorem k_iconst {K : MCx} {D : va_G} {cI cG cL : ClassId} {A : Nat → Prop} {own : String} {cc : ByteArray} {nL rf rc rs rl : Nat} {Q : State → Prop} {pc : Nat} {lv : List (Nat × Value)} {st : List Value} {ws : va_W} {cn sn : Nat} (X : Cy K D cI cG cL A own cc nL rf rc rs rl) {n : Int} {v : Int32} (hdg : decode cc pc = .ok (.iconst n, 1)) (hv : Int32.ofInt n = v) (k : Sk K D A Q nL (pc + 1) (lv) (.int v :: st) (ws) (cn) (sn)) : Sk K D A Q nL (pc) (lv) (st) (ws) (cn) (sn) := fun H locs ls hP hD hS hl => lv_iconst X.1 X.2.1 hdg hv (k H locs ls hP hD hS hl)
set_option maxHeartbeats 4000000 in
theorem k_bipush {K : MCx} {D : va_G} {cI cG cL : ClassId} {A : Nat → Prop} {own : String} {cc : ByteArray} {nL rf rc rs rl : Nat} {Q : State → Prop} {pc : Nat} {lv : List (Nat × Value)} {st : List Value} {ws : va_W} {cn sn : Nat} (X : Cy K D cI cG cL A own cc nL rf rc rs rl) {n : Int} {v : Int32} (hdg : decode cc pc = .ok (.bipush n, 2)) (hv : (Int8.ofInt n).toInt32 = v) (k : Sk K D A Q nL (pc + 2) (lv) (.int v :: st) (ws) (cn) (sn)) : Sk K D A Q nL (pc) (lv) (st) (ws) (cn) (sn) := fun H locs ls hP hD hS hl => lv_bipush X.1 X.2.1 hdg hv (k H locs ls hP hD hS hl)
set_option maxHeartbeats 4000000 in
theorem k_sipush {K : MCx} {D : va_G} {cI cG cL : ClassId} {A : Nat → Prop} {own : String} {cc : ByteArray} {nL rf rc rs rl : Nat} {Q : State → Prop} {pc : Nat} {lv : List (Nat × Value)} {st : List Value} {ws : va_W} {cn sn : Nat} (X : Cy K D cI cG cL A own cc nL rf rc rs rl) {n : Int} {v : Int32} (hdg : decode cc pc = .ok (.sipush n, 3)) (hv : (Int16.ofInt n).toInt32 = v) (k : Sk K D A Q nL (pc + 3) (lv) (.int v :: st) (ws) (cn) (sn)) : Sk K D A Q nL (pc) (lv) (st) (ws) (cn) (sn) := fun H locs ls hP hD hS hl => lv_sipush X.1 X.2.1 hdg hv (k H locs ls hP hD hS hl)
set_option maxHeartbeats 4000000 in
theorem k_iload_n {K : MCx} {D : va_G} {cI cG cL : ClassId} {A : Nat → Prop} {own : String} {cc : ByteArray} {nL rf rc rs rl : Nat} {Q : State → Prop} {pc : Nat} {lv : List (Nat × Value)} {st : List Value} {ws : va_W} {cn sn : Nat} (X : Cy K D cI cG cL A own cc nL rf rc rs rl) {n : Fin 4} {x : Int32} (hdg : decode cc pc = .ok (.iload_n n, 1)) (j : Nat) (hj : lv[j]? = some ((n : Nat), .int x)) (k : Sk K D A Q nL (pc + 1) (lv) (.int x :: st) (ws) (cn) (sn)) : Sk K D A Q nL (pc) (lv) (st) (ws) (cn) (sn) := fun H locs ls hP hD hS hl => lv_iload_n X.1 X.2.1 hdg rfl (lv_at hl j hj) (k H locs ls hP hD hS hl)
set_option maxHeartbeats 4000000 in
theorem k_aload_n {K : MCx} {D : va_G} {cI cG cL : ClassId} {A : Nat → Prop} {own : String} {cc : ByteArray} {nL rf rc rs rl : Nat} {Q : State → Prop} {pc : Nat} {lv : List (Nat × Value)} {st : List Value} {ws : va_W} {cn sn : Nat} (X : Cy K D cI cG cL A own cc nL rf rc rs rl) {n : Fin 4} {x : Nat} (hdg : decode cc pc = .ok (.aload_n n, 1)) (j : Nat) (hj : lv[j]? = some ((n : Nat), .ref x)) (k : Sk K D A Q nL (pc + 1) (lv) (.ref x :: st) (ws) (cn) (sn)) : Sk K D A Q nL (pc) (lv) (st) (ws) (cn) (sn) := fun H locs ls hP hD hS hl => lv_aload_n X.1 X.2.1 hdg rfl (lv_at hl j hj) (k H locs ls hP hD hS hl)
set_option maxHeartbeats 4000000 in
theorem k_istore_n {K : MCx} {D : va_G} {cI cG cL : ClassId} {A : Nat → Prop} {own : String} {cc : ByteArray} {nL rf rc rs rl : Nat} {Q : State → Prop} {pc : Nat} {lv : List (Nat × Value)} {st : List Value} {ws : va_W} {cn sn : Nat} (X : Cy K D cI cG cL A own cc nL rf rc rs rl) {n : Fin 4} {x : Int32} (lv' : List (Nat × Value)) (hdg : decode cc pc = .ok (.istore_n n, 1)) (hn : (n : Nat) < nL) (hl' : ((n : Nat), Value.int x) :: lv.filter (fun q => !(q.1 == (n : Nat)) && !(q.1 + 1 == (n : Nat) && q.2.category == 2)) = lv') (k : Sk K D A Q nL (pc + 1) (lv') (st) (ws) (cn) (sn)) : Sk K D A Q nL (pc) (lv) (.int x :: st) (ws) (cn) (sn) := fun H locs ls hP hD hS hl => lv_istore_n X.1 X.2.1 hdg rfl hl hn hl' (fun ls' hl'' => k H locs ls' hP hD hS hl'')
set_option maxHeartbeats 4000000 in
theorem k_istore {K : MCx} {D : va_G} {cI cG cL : ClassId} {A : Nat → Prop} {own : String} {cc : ByteArray} {nL rf rc rs rl : Nat} {Q : State → Prop} {pc : Nat} {lv : List (Nat × Value)} {st : List Value} {ws : va_W} {cn sn : Nat} (X : Cy K D cI cG cL A own cc nL rf rc rs rl) {n : Nat} {x : Int32} (lv' : List (Nat × Value)) (hdg : decode cc pc = .ok (.istore n, 2)) (hn : n < nL) (hl' : (n, Value.int x) :: lv.filter (fun q => !(q.1 == n) && !(q.1 + 1 == n && q.2.category == 2)) = lv') (k : Sk K D A Q nL (pc + 2) (lv') (st) (ws) (cn) (sn)) : Sk K D A Q nL (pc) (lv) (.int x :: st) (ws) (cn) (sn) := fun H locs ls hP hD hS hl => lv_istore X.1 X.2.1 hdg hl hn hl' (fun ls' hl'' => k H locs ls' hP hD hS hl'')
set_option maxHeartbeats 4000000 in
theorem k_astore_n {K : MCx} {D : va_G} {cI cG cL : ClassId} {A : Nat → Prop} {own : String} {cc : ByteArray} {nL rf rc rs rl : Nat} {Q : State → Prop} {pc : Nat} {lv : List (Nat × Value)} {st : List Value} {ws : va_W} {cn sn : Nat} (X : Cy K D cI cG cL A own cc nL rf rc rs rl) {n : Fin 4} {x : Nat} (lv' : List (Nat × Value)) (hdg : decode cc pc = .ok (.astore_n n, 1)) (hn : (n : Nat) < nL) (hl' : ((n : Nat), Value.ref x) :: lv.filter (fun q => !(q.1 == (n : Nat)) && !(q.1 + 1 == (n : Nat) && q.2.category == 2)) = lv') (k : Sk K D A Q nL (pc + 1) (lv') (st) (ws) (cn) (sn)) : Sk K D A Q nL (pc) (lv) (.ref x :: st) (ws) (cn) (sn) := fun H locs ls hP hD hS hl => lv_astore_n X.1 X.2.1 hdg rfl hl hn hl' (fun ls' hl'' => k H locs ls' hP hD hS hl'')
set_option maxHeartbeats 4000000 in
theorem k_astore {K : MCx} {D : va_G} {cI cG cL : ClassId} {A : Nat → Prop} {own : String} {cc : ByteArray} {nL rf rc rs rl : Nat} {Q : State → Prop} {pc : Nat} {lv : List (Nat × Value)} {st : List Value} {ws : va_W} {cn sn : Nat} (X : Cy K D cI cG cL A own cc nL rf rc rs rl) {n : Nat} {x : Nat} (lv' : List (Nat × Value)) (hdg : decode cc pc = .ok (.astore n, 2)) (hn : n < nL) (hl' : (n, Value.ref x) :: lv.filter (fun q => !(q.1 == n) && !(q.1 + 1 == n && q.2.category == 2)) = lv') (k : Sk K D A Q nL (pc + 2) (lv') (st) (ws) (cn) (sn)) : Sk K D A Q nL (pc) (lv) (.ref x :: st) (ws) (cn) (sn) := fun H locs ls hP hD hS hl => lv_astore X.1 X.2.1 hdg hl hn hl' (fun ls' hl'' => k H locs ls' hP hD hS hl'')
set_option maxHeartbeats 4000000 in
theorem k_iinc {K : MCx} {D : va_G} {cI cG cL : ClassId} {A : Nat → Prop} {own : String} {cc : ByteArray} {nL rf rc rs rl : Nat} {Q : State → Prop} {pc : Nat} {lv : List (Nat × Value)} {st : List Value} {ws : va_W} {cn sn : Nat} (X : Cy K D cI cG cL A own cc nL rf rc rs rl) {i : Nat} {n : Int} {x v : Int32} (lv' : List (Nat × Value)) (hdg : decode cc pc = .ok (.iinc i n, 3)) (j : Nat) (hj : lv[j]? = some (i, .int x)) (hn : i < nL) (hv : x + Int32.ofInt n = v) (hl' : (i, Value.int v) :: lv.filter (fun q => !(q.1 == i) && !(q.1 + 1 == i && q.2.category == 2)) = lv') (k : Sk K D A Q nL (pc + 3) (lv') (st) (ws) (cn) (sn)) : Sk K D A Q nL (pc) (lv) (st) (ws) (cn) (sn) := fun H locs ls hP hD hS hl => lv_iinc X.1 X.2.1 hdg hl hj hv hn hl' (fun ls' hl'' => k H locs ls' hP hD hS hl'')
set_option maxHeartbeats 4000000 in
theorem k_dup {K : MCx} {D : va_G} {cI cG cL : ClassId} {A : Nat → Prop} {own : String} {cc : ByteArray} {nL rf rc rs rl : Nat} {Q : State → Prop} {pc : Nat} {lv : List (Nat × Value)} {st : List Value} {ws : va_W} {cn sn : Nat} (X : Cy K D cI cG cL A own cc nL rf rc rs rl) {va : Value} (hdg : decode cc pc = .ok (.dup, 1)) (hva : va.category = 1) (k : Sk K D A Q nL (pc + 1) (lv) (va :: va :: st) (ws) (cn) (sn)) : Sk K D A Q nL (pc) (lv) (va :: st) (ws) (cn) (sn) := fun H locs ls hP hD hS hl => lv_dup X.1 X.2.1 hdg hva (k H locs ls hP hD hS hl)
set_option maxHeartbeats 4000000 in
theorem k_goto {K : MCx} {D : va_G} {cI cG cL : ClassId} {A : Nat → Prop} {own : String} {cc : ByteArray} {nL rf rc rs rl : Nat} {Q : State → Prop} {pc : Nat} {lv : List (Nat × Value)} {st : List Value} {ws : va_W} {cn sn : Nat} (X : Cy K D cI cG cL A own cc nL rf rc rs rl) {off : Int} (tgt : Nat) (hdg : decode cc pc = .ok (.goto off, 3)) (ht : (pc : Int) + off = (tgt : Int)) (k : Sk K D A Q nL (tgt) (lv) (st) (ws) (cn) (sn)) : Sk K D A Q nL (pc) (lv) (st) (ws) (cn) (sn) := fun H locs ls hP hD hS hl => lv_goto X.1 X.2.1 hdg ht (k H locs ls hP hD hS hl)
set_option maxHeartbeats 4000000 in
theorem k_geT {K : MCx} {D : va_G} {cI cG cL : ClassId} {A : Nat → Prop} {own : String} {cc : ByteArray} {nL rf rc rs rl : Nat} {Q : State → Prop} {pc : Nat} {lv : List (Nat × Value)} {st : List Value} {ws : va_W} {cn sn : Nat} (X : Cy K D cI cG cL A own cc nL rf rc rs rl) {x y : Int32} {off : Int} (tgt : Nat) (hdg : decode cc pc = .ok (.if_icmp .ge off, 3)) (ht : (pc : Int) + off = (tgt : Int)) (hc : y ≤ x) (k : Sk K D A Q nL (tgt) (lv) (st) (ws) (cn) (sn)) : Sk K D A Q nL (pc) (lv) (.int y :: .int x :: st) (ws) (cn) (sn) := fun H locs ls hP hD hS hl => lv_icmp_ge X.1 X.2.1 hdg ht (fun _ => (k H locs ls hP hD hS hl)) (fun h => absurd hc h)
set_option maxHeartbeats 4000000 in
theorem k_geF {K : MCx} {D : va_G} {cI cG cL : ClassId} {A : Nat → Prop} {own : String} {cc : ByteArray} {nL rf rc rs rl : Nat} {Q : State → Prop} {pc : Nat} {lv : List (Nat × Value)} {st : List Value} {ws : va_W} {cn sn : Nat} (X : Cy K D cI cG cL A own cc nL rf rc rs rl) {x y : Int32} {off : Int} (tgt : Nat) (hdg : decode cc pc = .ok (.if_icmp .ge off, 3)) (ht : (pc : Int) + off = (tgt : Int)) (hc : ¬ y ≤ x) (k : Sk K D A Q nL (pc + 3) (lv) (st) (ws) (cn) (sn)) : Sk K D A Q nL (pc) (lv) (.int y :: .int x :: st) (ws) (cn) (sn) := fun H locs ls hP hD hS hl => lv_icmp_ge X.1 X.2.1 hdg ht (fun h => absurd h hc) (fun _ => (k H locs ls hP hD hS hl))
set_option maxHeartbeats 4000000 in
theorem k_ge0T {K : MCx} {D : va_G} {cI cG cL : ClassId} {A : Nat → Prop} {own : String} {cc : ByteArray} {nL rf rc rs rl : Nat} {Q : State → Prop} {pc : Nat} {lv : List (Nat × Value)} {st : List Value} {ws : va_W} {cn sn : Nat} (X : Cy K D cI cG cL A own cc nL rf rc rs rl) {x : Int32} {off : Int} (tgt : Nat) (hdg : decode cc pc = .ok (.ifCond .ge off, 3)) (ht : (pc : Int) + off = (tgt : Int)) (hc : 0 ≤ x) (k : Sk K D A Q nL (tgt) (lv) (st) (ws) (cn) (sn)) : Sk K D A Q nL (pc) (lv) (.int x :: st) (ws) (cn) (sn) := fun H locs ls hP hD hS hl => lv_if_ge X.1 X.2.1 hdg ht (fun _ => (k H locs ls hP hD hS hl)) (fun h => absurd hc h)
set_option maxHeartbeats 4000000 in
theorem k_objInit {K : MCx} {D : va_G} {cI cG cL : ClassId} {A : Nat → Prop} {own : String} {cc : ByteArray} {nL rf rc rs rl : Nat} {Q : State → Prop} {pc : Nat} {lv : List (Nat × Value)} {st : List Value} {ws : va_W} {cn sn : Nat} (X : Cy K D cI cG cL A own cc nL rf rc rs rl) {a index : Nat} (hlink : Cond.methodLink own index Lib.objectInit ∈ wsL_law) (hin : Cond.instanceMethod Lib.objectInit ∈ wsL_law) (hc : Cond.code Lib.objectInit ⟨#[0xb1]⟩ 1 none ∈ wsL_law) (hdg : decode cc pc = .ok (.invokespecial index, 3)) (hf : 1 ≤ rf) (hlo : 2 * 0 + (st.map fun v => v.category).sum + 12 ≤ rl) (k : Sk K D A Q nL (pc + 3) (lv) (st) (ws) (cn) (sn)) : Sk K D A Q nL (pc) (lv) (.ref a :: st) (ws) (cn) (sn) := fun H locs ls hP hD hS hl => W.objInit X.1 X.2.1 X.2.2.2.1 (X.2.2.2.2.1 _ hlink) (X.2.2.2.2.1 _ hin) (X.2.2.2.2.1 _ hc) rfl (by rw [X.2.2.1]; exact hl.1) rfl hdg (by rw [X.2.2.2.2.2.2.2.2.1]; exact hf) (by rw [X.2.2.2.2.2.2.2.2.1]; exact hlo) (k H locs ls hP hD hS hl)
set_option maxHeartbeats 4000000 in
theorem k_new {K : MCx} {D : va_G} {cI cG cL : ClassId} {A : Nat → Prop} {own : String} {cc : ByteArray} {nL rf rc rs rl : Nat} {Q : State → Prop} {pc : Nat} {lv : List (Nat × Value)} {st : List Value} {ws : va_W} {cn sn : Nat} (X : Cy K D cI cG cL A own cc nL rf rc rs rl) {C : String} {T : u_T} {n ci index : Nat} (fs : List Value) (hin : ∀ w ∈ u_ws C T n, w ∈ wsL_law) (ty : Nat → FieldType) (hty : ∀ k, k < n → parseFieldDescriptor (T k).2.2.1 = some (ty k)) (hcl : Cond.classLink own index C ∈ wsL_law) (hinst : Cond.instantiable C n ∈ wsL_law) (hini : Cond.initialized C ∈ wsL_law) (hc : vwCl[ci]? = some (C, T, n)) (hfs : ∀ j, j < n → defaultValue (ty j) = vp_V fs j) (hce : cn + 1 ≤ rc) (hsl : sn + n ≤ rs) (hdg : decode cc pc = .ok (.new index, 3)) (k : ∀ q, Sk K D A Q nL (pc + 3) (lv) (.ref q :: st) (ws ++ [(q, .inr (ci, fs))]) (cn + 1) (sn + n)) : Sk K D A Q nL (pc) (lv) (st) (ws) (cn) (sn) := fun H locs ls hP hD hS hl => va_new X.1 X.2.1 X.2.2.2.2.1 hin ty hty X.2.2.2.1 (X.2.2.2.2.1 _ hcl) (X.2.2.2.2.1 _ hinst) (X.2.2.2.2.1 _ hini) X.2.2.2.2.2.1 hP hD hS X.2.2.2.2.2.2.2.1 hc hfs (by rw [X.2.2.2.2.2.2.2.2.1]; exact hce) (by rw [X.2.2.2.2.2.2.2.2.1]; exact hsl) hdg (fun q H1 hP1 hD1 hS1 => k q H1 locs ls hP1 hD1 hS1 hl)
set_option maxHeartbeats 4000000 in
theorem k_newa {K : MCx} {D : va_G} {cI cG cL : ClassId} {A : Nat → Prop} {own : String} {cc : ByteArray} {nL rf rc rs rl : Nat} {Q : State → Prop} {pc : Nat} {lv : List (Nat × Value)} {st : List Value} {ws : va_W} {cn sn : Nat} (X : Cy K D cI cG cL A own cc nL rf rc rs rl) {n : Int32} (N' : Nat) (harr : Cond.arrayClass .int ∈ wsL_law) (hn : ¬ n < 0) (hN : n.toNatClampNeg = N') (hb : N' * 4 ≤ 536870912) (hce : cn + 1 ≤ rc) (hsl : sn + N' ≤ rs) (hdg : decode cc pc = .ok (.newarray .int, 2)) (k : ∀ q, Sk K D A Q nL (pc + 2) (lv) (.ref q :: st) (ws ++ [(q, .inl (cI, N', .inl (fun _ => 0)))]) (cn + 1) (sn + N')) : Sk K D A Q nL (pc) (lv) (.int n :: st) (ws) (cn) (sn) := fun H locs ls hP hD hS hl => va_newa (atype := .int) (ty := .int) (a0 := (N', .inl (fun _ => 0))) X.1 X.2.1 (X.2.2.2.2.1 _ harr) rfl X.2.2.2.2.2.1 hP hD hS X.2.2.2.2.2.2.2.1 (fun _ => rfl) hn hN hb (by rw [X.2.2.2.2.2.2.2.2.1]; exact hce) (by rw [X.2.2.2.2.2.2.2.2.1]; exact hsl) hdg (fun q cA H1 hK1 hP1 hD1 hS1 => by
    have e1 := (hK1.2 2 _ rfl).2
    have e2 := (X.2.2.2.2.2.1.2 0 _ rfl).2
    have e3 : cA = cI := Option.some.inj (e1.symm.trans e2)
    subst e3
    exact k q H1 locs ls hP1 hD1 hS1 hl)
set_option maxHeartbeats 4000000 in
theorem k_newq {K : MCx} {D : va_G} {cI cG cL : ClassId} {A : Nat → Prop} {own : String} {cc : ByteArray} {nL rf rc rs rl : Nat} {Q : State → Prop} {pc : Nat} {lv : List (Nat × Value)} {st : List Value} {ws : va_W} {cn sn : Nat} (X : Cy K D cI cG cL A own cc nL rf rc rs rl) {n : Int32} {index : Nat} (N' : Nat) (hcl : Cond.classLink own index "EdgeHolders$Graph" ∈ wsL_law) (hn : ¬ n < 0) (hN : n.toNatClampNeg = N') (hb : N' * 4 ≤ 536870912) (hce : cn + 1 ≤ rc) (hsl : sn + N' ≤ rs) (hdg : decode cc pc = .ok (.anewarray index, 3)) (k : ∀ q, Sk K D A Q nL (pc + 3) (lv) (.ref q :: st) (ws ++ [(q, .inl (cG, N', .inr (.inr (.inr (.inr (fun _ => none))))))]) (cn + 1) (sn + N')) : Sk K D A Q nL (pc) (lv) (.int n :: st) (ws) (cn) (sn) := fun H locs ls hP hD hS hl => va_newq (C := "EdgeHolders$Graph") X.1 X.2.1 X.2.2.2.1 (X.2.2.2.2.1 _ hcl) X.2.2.2.2.2.2.2.2.2.2 X.2.2.2.2.2.1 hP hD hS X.2.2.2.2.2.2.2.1 hn hN hb (by rw [X.2.2.2.2.2.2.2.2.1]; exact hce) (by rw [X.2.2.2.2.2.2.2.2.1]; exact hsl) hdg (fun q cA H1 hK1 hP1 hD1 hS1 => by
    obtain ⟨_, _, -, -, -, e1⟩ := (hK1.2 2 _ rfl).2
    obtain ⟨_, _, -, -, -, e2⟩ := (X.2.2.2.2.2.1.2 1 _ rfl).2
    have e3 : cA = cG := Option.some.inj (e1.symm.trans e2)
    subst e3
    exact k q H1 locs ls hP1 hD1 hS1 hl)
set_option maxHeartbeats 4000000 in
theorem k_putF {K : MCx} {D : va_G} {cI cG cL : ClassId} {A : Nat → Prop} {own : String} {cc : ByteArray} {nL rf rc rs rl : Nat} {Q : State → Prop} {pc : Nat} {lv : List (Nat × Value)} {st : List Value} {ws : va_W} {cn sn : Nat} (X : Cy K D cI cG cL A own cc nL rf rc rs rl) {ci : Nat} {C : String} {T : u_T} {n a : Nat} {fs : List Value} (hin : ∀ w ∈ u_ws C T n, w ∈ wsL_law) (hc : vwCl[ci]? = some (C, T, n)) (q0 : Nat) (he : ws[q0]? = some (a, .inr (ci, fs))) (j : Nat) (hj : j < n) {index : Nat} (hlink : Cond.fieldLink own index (T j).1 (T j).2.1 (T j).2.2.1 ∈ wsL_law) (ty0 : Nat → FieldType) (hty : ∀ k, k < n → parseFieldDescriptor (T k).2.2.1 = some (ty0 k)) (hnm : ∀ a, a < n → ∀ b, b < n → a ≠ b → (T a).2.1 ≠ (T b).2.1) {v : Value} (hn : narrow (ty0 j) v = v) (hfit : fits (ty0 j) v = true) (hlen : j < fs.length) (ws' : va_W) (hws : ws.set q0 (a, .inr (ci, fs.set j v)) = ws') (hnm2 : (kme K).name = "<init>") (hdecl : (T j).1 = own) (hfin : (T j).2.2.2 = true) (hdg : decode cc pc = .ok (.putfield index, 3)) (k : Sk K D A Q nL (pc + 3) (lv) (st) (ws') (cn) (sn)) : Sk K D A Q nL (pc) (lv) (v :: .ref a :: st) (ws) (cn) (sn) := fun H locs ls hP hD hS hl => va_putF X.1 X.2.1 X.2.2.2.2.1 hin ty0 hty hnm X.2.2.2.1 X.2.2.2.2.2.1 hP hD hS q0 he hc j hj (X.2.2.2.2.1 _ hlink) (fun _ z => z) hfin hnm2 hdecl (hty j hj) hn hfit hlen hdg (fun H1 locs1 hP1 hD1 hS1 => k H1 locs1 ls (by rw [hws] at hP1; exact hP1) (by rw [hws] at hD1; exact hD1) hS1 hl)
set_option maxHeartbeats 4000000 in
theorem k_put {K : MCx} {D : va_G} {cI cG cL : ClassId} {A : Nat → Prop} {own : String} {cc : ByteArray} {nL rf rc rs rl : Nat} {Q : State → Prop} {pc : Nat} {lv : List (Nat × Value)} {st : List Value} {ws : va_W} {cn sn : Nat} (X : Cy K D cI cG cL A own cc nL rf rc rs rl) {ci : Nat} {C : String} {T : u_T} {n a : Nat} {fs : List Value} (hin : ∀ w ∈ u_ws C T n, w ∈ wsL_law) (hc : vwCl[ci]? = some (C, T, n)) (q0 : Nat) (he : ws[q0]? = some (a, .inr (ci, fs))) (j : Nat) (hj : j < n) {index : Nat} (hlink : Cond.fieldLink own index (T j).1 (T j).2.1 (T j).2.2.1 ∈ wsL_law) (ty0 : Nat → FieldType) (hty : ∀ k, k < n → parseFieldDescriptor (T k).2.2.1 = some (ty0 k)) (hnm : ∀ a, a < n → ∀ b, b < n → a ≠ b → (T a).2.1 ≠ (T b).2.1) {v : Value} (hn : narrow (ty0 j) v = v) (hfit : fits (ty0 j) v = true) (hlen : j < fs.length) (ws' : va_W) (hws : ws.set q0 (a, .inr (ci, fs.set j v)) = ws') (hfin : (T j).2.2.2 = false) (hdg : decode cc pc = .ok (.putfield index, 3)) (k : Sk K D A Q nL (pc + 3) (lv) (st) (ws') (cn) (sn)) : Sk K D A Q nL (pc) (lv) (v :: .ref a :: st) (ws) (cn) (sn) := fun H locs ls hP hD hS hl => va_put X.1 X.2.1 X.2.2.2.2.1 hin ty0 hty hnm X.2.2.2.1 X.2.2.2.2.2.1 hP hD hS q0 he hc j hj (X.2.2.2.2.1 _ hlink) (fun _ z => z) hfin (hty j hj) hn hfit hlen hdg (fun H1 locs1 hP1 hD1 hS1 => k H1 locs1 ls (by rw [hws] at hP1; exact hP1) (by rw [hws] at hD1; exact hD1) hS1 hl)
set_option maxHeartbeats 4000000 in
theorem k_get {K : MCx} {D : va_G} {cI cG cL : ClassId} {A : Nat → Prop} {own : String} {cc : ByteArray} {nL rf rc rs rl : Nat} {Q : State → Prop} {pc : Nat} {lv : List (Nat × Value)} {st : List Value} {ws : va_W} {cn sn : Nat} (X : Cy K D cI cG cL A own cc nL rf rc rs rl) {ci : Nat} {C : String} {T : u_T} {n a : Nat} {fs : List Value} (hin : ∀ w ∈ u_ws C T n, w ∈ wsL_law) (hc : vwCl[ci]? = some (C, T, n)) (q0 : Nat) (he : ws[q0]? = some (a, .inr (ci, fs))) (j : Nat) (hj : j < n) {index : Nat} (hlink : Cond.fieldLink own index (T j).1 (T j).2.1 (T j).2.2.1 ∈ wsL_law) {v : Value} (hv : fs[j]? = some v) (hdg : decode cc pc = .ok (.getfield index, 3)) (k : Sk K D A Q nL (pc + 3) (lv) (v :: st) (ws) (cn) (sn)) : Sk K D A Q nL (pc) (lv) (.ref a :: st) (ws) (cn) (sn) := fun H locs ls hP hD hS hl => va_get X.1 X.2.1 X.2.2.2.2.1 hin X.2.2.2.1 X.2.2.2.2.2.1 hP q0 he hc j hj (X.2.2.2.2.1 _ hlink) (fun _ z => z) hv hdg (k H locs ls hP hD hS hl)
set_option maxHeartbeats 4000000 in
theorem k_alenq {K : MCx} {D : va_G} {cI cG cL : ClassId} {A : Nat → Prop} {own : String} {cc : ByteArray} {nL rf rc rs rl : Nat} {Q : State → Prop} {pc : Nat} {lv : List (Nat × Value)} {st : List Value} {ws : va_W} {cn sn : Nat} (X : Cy K D cI cG cL A own cc nL rf rc rs rl) {a n : Nat} {f : Nat → Option Nat} (q0 : Nat) (he : ws[q0]? = some (a, .inl (cG, n, .inr (.inr (.inr (.inr f)))))) {v : Int32} (hv : Int32.ofNat n = v) (hdg : decode cc pc = .ok (.arraylength, 1)) (k : Sk K D A Q nL (pc + 1) (lv) (.int v :: st) (ws) (cn) (sn)) : Sk K D A Q nL (pc) (lv) (.ref a :: st) (ws) (cn) (sn) := fun H locs ls hP hD hS hl => va_alen X.1 X.2.1 X.2.2.2.2.2.1 hP q0 1 he rfl hv hdg (k H locs ls hP hD hS hl)
set_option maxHeartbeats 4000000 in
theorem k_aast {K : MCx} {D : va_G} {cI cG cL : ClassId} {A : Nat → Prop} {own : String} {cc : ByteArray} {nL rf rc rs rl : Nat} {Q : State → Prop} {pc : Nat} {lv : List (Nat × Value)} {st : List Value} {ws : va_W} {cn sn : Nat} (X : Cy K D cI cG cL A own cc nL rf rc rs rl) {a n v : Nat} {f : Nat → Option Nat} {vs : List Value} {i : Int32} (q0 qk : Nat) (he : ws[q0]? = some (a, .inl (cG, n, .inr (.inr (.inr (.inr f)))))) (hv : ws[qk]? = some (v, .inr (0, vs))) (hi : vp_in i n) (ws' : va_W) (hws : ws.set q0 (a, .inl (cG, n, .inr (.inr (.inr (.inr (va_up f i.toNatClampNeg (some v))))))) = ws') (hdg : decode cc pc = .ok (.aastore, 1)) (k : Sk K D A Q nL (pc + 1) (lv) (st) (ws') (cn) (sn)) : Sk K D A Q nL (pc) (lv) (.ref v :: .int i :: .ref a :: st) (ws) (cn) (sn) := fun H locs ls hP hD hS hl => va_astq (ci := 0) (r := (RX0, TX0, 11)) X.1 X.2.1 X.2.2.2.2.2.1 hP hD hS q0 1 qk he rfl hv rfl hi hdg (fun H1 locs1 hP1 hD1 hS1 => k H1 locs1 ls (by rw [hws] at hP1; exact hP1) (by rw [hws] at hD1; exact hD1) hS1 hl)
set_option maxHeartbeats 4000000 in
theorem k_ws {K : MCx} {D : va_G} {A : Nat → Prop} {nL : Nat} {Q : State → Prop} {pc : Nat} {lv : List (Nat × Value)} {st : List Value} {ws : va_W} {cn sn : Nat} {ws' : va_W} (e : ws = ws') (k : Sk K D A Q nL (pc) (lv) (st) (ws') (cn) (sn)) : Sk K D A Q nL (pc) (lv) (st) (ws) (cn) (sn) := by rw [e]; exact k
set_option maxHeartbeats 4000000 in
theorem k_sub {K : MCx} {D : va_G} {A : Nat → Prop} {nL : Nat} {Q : State → Prop} {pc : Nat} {lv : List (Nat × Value)} {st : List Value} {ws : va_W} {cn sn : Nat} {lv' : List (Nat × Value)} (is : List Nat) (e : lv_pick lv is = lv') (k : Sk K D A Q nL (pc) (lv') (st) (ws) (cn) (sn)) : Sk K D A Q nL (pc) (lv) (st) (ws) (cn) (sn) := fun H locs ls hP hD hS hl => k H locs ls hP hD hS (lv_sub hl is e)
set_option maxHeartbeats 4000000 in
theorem k_init {K : MCx} {D : va_G} {cI cG cL : ClassId} {A : Nat → Prop} {own : String} {cc : ByteArray} {nL rf rc rs rl : Nat} {Q : State → Prop} {pc : Nat} {lv : List (Nat × Value)} {st : List Value} {ws : va_W} {cn sn : Nat} (X : Cy K D cI cG cL A own cc nL rf rc rs rl) {y : MethodName} {bytes : ByteArray} {maxL fr mc ms lo n index q : Nat} {As : List Value} {c0 : va_E} {w : (Nat → Nat) → va_W} {st0 : List Value} (hM : CI (kl K) y bytes maxL fr mc ms lo D cI cG cL As q c0 w) (hcode : Cond.code y bytes maxL none ∈ wsL_law) (hinst : Cond.instanceMethod y ∈ wsL_law) (hini : Cond.initialized y.cls ∈ wsL_law) (hlink : Cond.methodLink own index y ∈ wsL_law) (hd : y.cls ≠ "java/lang/invoke/MethodHandle" ∧ y.cls ≠ "java/lang/invoke/VarHandle" ∧ (parseMethodDescriptor y.desc).map (fun d => d.parameters.length) = some n) (hy1 : y.name = "<init>") (hR : fr + 1 ≤ rf ∧ 8 + (maxL + 11) + lo ≤ rl) (hst : st0 = As.reverse ++ .ref q :: st) (hn : As.length = n) (hcat : (st.map fun v => v.category).sum ≤ 8) (hf : cn + mc ≤ rc ∧ sn + ms ≤ rs) (hdg : decode cc pc = .ok (.invokespecial index, 3)) (k : ∀ a : Nat → Nat, a 0 = q → Sk K D A Q nL (pc + 3) (lv) (st) (ws ++ w a) (cn + mc) (sn + ms)) : Sk K D A Q nL (pc) (lv) (st0) (ws ++ [(q, c0)]) (cn) (sn) := by
  subst hst
  intro H locs ls hP hD hS hl
  have hts := X.2.2.2.2.1
  have hK := X.2.2.2.2.2.1
  have hN := X.2.2.2.2.2.2.2.2.2
  have hR' : (rmC fr mc ms lo).frames + 1 ≤ (kR K).frames ∧ 8 + (maxL + 11) + (rmC fr mc ms lo).locals ≤ (kR K).locals := by rw [X.2.2.2.2.2.2.2.2.1]; exact hR
  have hlast : (ws ++ [(q, c0)])[ws.length]? = some (q, c0) := by
    rw [List.getElem?_append_right (Nat.le_refl _), Nat.sub_self]; rfl
  have hPc : va_P D vwCl [(q, c0)] H := fun j x hx => by
    have hz := (List.getElem?_eq_some_iff.mp hx).1
    rw [show j = 0 by simpa using hz] at hx
    cases hx
    exact hP ws.length _ hlast
  have hF : ∀ z, va_A [(q, c0)] H.size z → A z := fun z hz => by
    rcases hz with ⟨j, e, hj⟩ | hz
    · have hj0 : j = 0 := by
        have := (List.getElem?_eq_some_iff.mp hj).1
        simpa using this
      subst hj0
      have e1 : (q, c0) = (z, e) := Option.some.inj hj
      rw [show z = q from (congrArg Prod.fst e1).symm]
      exact hD.2 _ _ hlast
    · exact X.2.2.2.2.2.2.2.1 z (Nat.le_trans hS.1 hz)
  refine va_callv (va_runI (p := kp K) (l := kl K) (e := ke K) (R := kR K) (locs := locs) (cells := cn) (slots := sn) (below := kb K) (meth := kme K) (g := F0 (km K) pc ls (As.reverse ++ .ref q :: st)) (As := As) (rest := st) (b := q) ⟨X.1, X.2.1, X.2.2.1, X.2.2.2.1, hts⟩ (hM H.size) (cwI n hts (law_GI (mws_in hcode)) rfl rfl rfl (hts _ hini) (hts _ hlink) (hts _ hinst) hy1 hd hR') ⟨PI_blind, fun U hU hW => ⟨rfl, by rw [hU], by rw [hU]; exact hPc, va_K.moved hW.alike hK, NW_warm hW hN⟩⟩ rfl hn hl.1 rfl (lv_room hcat) hdg (by rw [X.2.2.2.2.2.2.2.2.1]; exact hf)) hS (fun z _ h => hF z h) hF (fun a t H1 locs1 ht hvm hp hB hz hk hS1 => ?_)
  obtain ⟨hP1, hD1⟩ := hB
  rw [ht] at hP1
  obtain ⟨hP2, hD2⟩ := app_join hP hD hk hF hP1 hD1
  exact k a hp H1 locs1 ls hP2 hD2 hS1 hl
set_option maxHeartbeats 4000000 in
theorem k_initN {K : MCx} {D : va_G} {cI cG cL : ClassId} {A : Nat → Prop} {own : String} {cc : ByteArray} {nL rf rc rs rl : Nat} {Q : State → Prop} {pc : Nat} {lv : List (Nat × Value)} {st : List Value} {ws : va_W} {cn sn : Nat} (X : Cy K D cI cG cL A own cc nL rf rc rs rl) {y : MethodName} {bytes : ByteArray} {maxL fr mc ms lo n index q : Nat} {As : List Value} {c0 : va_E} {w : (Nat → Nat) → va_W} {st0 : List Value} (hM : CI (kl K) y bytes maxL fr mc ms lo D cI cG cL As q c0 w) (hcode : Cond.code y bytes maxL none ∈ wsL_law) (hinst : Cond.instanceMethod y ∈ wsL_law) (hini : Cond.initialized y.cls ∈ wsL_law) (hlink : Cond.methodLinkNest own index y "EdgeHolders" ∈ nstW) (hd : y.cls ≠ "java/lang/invoke/MethodHandle" ∧ y.cls ≠ "java/lang/invoke/VarHandle" ∧ (parseMethodDescriptor y.desc).map (fun d => d.parameters.length) = some n) (hy1 : y.name = "<init>") (hR : fr + 1 ≤ rf ∧ 8 + (maxL + 11) + lo ≤ rl) (hst : st0 = As.reverse ++ .ref q :: st) (hn : As.length = n) (hcat : (st.map fun v => v.category).sum ≤ 8) (hf : cn + mc ≤ rc ∧ sn + ms ≤ rs) (hdg : decode cc pc = .ok (.invokespecial index, 3)) (k : ∀ a : Nat → Nat, a 0 = q → Sk K D A Q nL (pc + 3) (lv) (st) (ws ++ w a) (cn + mc) (sn + ms)) : Sk K D A Q nL (pc) (lv) (st0) (ws ++ [(q, c0)]) (cn) (sn) := by
  subst hst
  intro H locs ls hP hD hS hl
  have hts := X.2.2.2.2.1
  have hK := X.2.2.2.2.2.1
  have hN := X.2.2.2.2.2.2.2.2.2
  have hR' : (rmC fr mc ms lo).frames + 1 ≤ (kR K).frames ∧ 8 + (maxL + 11) + (rmC fr mc ms lo).locals ≤ (kR K).locals := by rw [X.2.2.2.2.2.2.2.2.1]; exact hR
  have hlast : (ws ++ [(q, c0)])[ws.length]? = some (q, c0) := by
    rw [List.getElem?_append_right (Nat.le_refl _), Nat.sub_self]; rfl
  have hPc : va_P D vwCl [(q, c0)] H := fun j x hx => by
    have hz := (List.getElem?_eq_some_iff.mp hx).1
    rw [show j = 0 by simpa using hz] at hx
    cases hx
    exact hP ws.length _ hlast
  have hF : ∀ z, va_A [(q, c0)] H.size z → A z := fun z hz => by
    rcases hz with ⟨j, e, hj⟩ | hz
    · have hj0 : j = 0 := by
        have := (List.getElem?_eq_some_iff.mp hj).1
        simpa using this
      subst hj0
      have e1 : (q, c0) = (z, e) := Option.some.inj hj
      rw [show z = q from (congrArg Prod.fst e1).symm]
      exact hD.2 _ _ hlast
    · exact X.2.2.2.2.2.2.2.1 z (Nat.le_trans hS.1 hz)
  refine va_callv (va_runIN (p := kp K) (l := kl K) (e := ke K) (R := kR K) (locs := locs) (cells := cn) (slots := sn) (below := kb K) (meth := kme K) (g := F0 (km K) pc ls (As.reverse ++ .ref q :: st)) (As := As) (rest := st) (b := q) ⟨X.1, X.2.1, X.2.2.1, X.2.2.2.1, hts⟩ (hM H.size) ⟨va_cnB n hts (law_GI (mws_in hcode)) rfl rfl rfl (X.2.2.2.2.2.2.2.2.2.1 _ hlink) (hts _ hini) hd hR', hy1, hts _ hinst⟩ ⟨PI_blind, fun U hU hW => ⟨rfl, by rw [hU], by rw [hU]; exact hPc, va_K.moved hW.alike hK, NW_warm hW hN⟩⟩ rfl hn hl.1 rfl (lv_room hcat) hdg (by rw [X.2.2.2.2.2.2.2.2.1]; exact hf)) hS (fun z _ h => hF z h) hF (fun a t H1 locs1 ht hvm hp hB hz hk hS1 => ?_)
  obtain ⟨hP1, hD1⟩ := hB
  rw [ht] at hP1
  obtain ⟨hP2, hD2⟩ := app_join hP hD hk hF hP1 hD1
  exact k a hp H1 locs1 ls hP2 hD2 hS1 hl
set_option maxHeartbeats 4000000 in
theorem k_callCM {K : MCx} {D : va_G} {cI cG cL : ClassId} {A : Nat → Prop} {own : String} {cc : ByteArray} {nL rf rc rs rl : Nat} {Q : State → Prop} {pc : Nat} {lv : List (Nat × Value)} {st : List Value} {ws : va_W} {cn sn : Nat} (X : Cy K D cI cG cL A own cc nL rf rc rs rl) {y : MethodName} {bytes : ByteArray} {maxL fr lo n index : Nat} {G : Lay} {h : Int64} {σ : cS} {o : Option Value × Int64 × cS} {As : List Value} {st0 : List Value} {C : String} {T : u_T} {nf ci : Nat} {fs : List Value} (kk : Nat) (hG : lD G = D ∧ ltys G = tyk cI cG cL) (hws : ws = wd G h σ) (hM : Inj G → CM (kl K) y bytes maxL none fr lo G (.ref (la G kk) :: As) h σ o) (ho : o.1 = none) (hy : Cal y C bytes maxL none n) (hlink : Cond.methodLink own index y ∈ wsL_law) (hR : fr + 1 ≤ rf ∧ 8 + (maxL + 11) + lo ≤ rl) (hst : st0 = As.reverse ++ .ref (la G kk) :: st) (hn : As.length = n) (hcat : (st.map fun v => v.category).sum ≤ 8) (hf : cn ≤ rc ∧ sn ≤ rs) (hc : vwCl[ci]? = some (C, T, nf)) (ob : Ob G kk ci) (hw : ce G h σ kk = .inr (ci, fs)) (hdg : decode cc pc = .ok (.invokevirtual index, 3)) (k : Sk K D A Q nL (pc + 3) (lv) (st) (wd G o.2.1 o.2.2) (cn) (sn)) : Sk K D A Q nL (pc) (lv) (st0) (ws) (cn) (sn) := by
  subst hst
  subst hws
  obtain ⟨hG1, hG2⟩ := hG
  subst hG1
  intro H locs ls hP hD hS hl
  have hts := X.2.2.2.2.1
  have hK : va_K (lD G) vwCl (ltys G) (ks K) := by rw [hG2]; exact X.2.2.2.2.2.1
  have hN := X.2.2.2.2.2.2.2.2.2
  have hrun := va_runV (cells := cn) (slots := sn) (R := kR K) (locs := locs) (H := H) (p := kp K) (l := kl K) (e := ke K) (below := kb K) (meth := kme K) (g := F0 (km K) pc ls (As.reverse ++ .ref (la G kk) :: st)) (As := As) (rest := st) (b := la G kk) ⟨X.1, X.2.1, X.2.2.1, X.2.2.2.1, hts⟩ (hM (inj_of_D hD)) (cal_V (fr := 0) (lo := 0) hts hy hlink (rm := rmP fr lo) rfl rfl (by rw [X.2.2.2.2.2.2.2.2.1]; exact hR)) ⟨PC_blind, va_recv hK hP hc (by rw [fw_get ob.1, hw]), fun U hU hW => ⟨rfl, by rw [hU]; exact hP, va_K.moved hW.alike hK, NW_warm hW hN⟩⟩ rfl hn hl.1 rfl (lv_room hcat) hdg (by rw [X.2.2.2.2.2.2.2.2.1]; exact hf)
  intro T0 hT XX
  obtain ⟨v, sa, t, T', L, h0, X', hL, e1, e2, ⟨hv, hP1, hF⟩, stp⟩ := hrun T0 hT XX
  rw [ho] at hv
  cases hv
  have hFA : ∀ q, FA G q → A q := FA_of_D hD
  obtain ⟨t2, a1, b1⟩ := k T'.heap (locs ++ L) ls (by rw [e1]; exact hP1) (D_of_FA hD) (vx_keep h0 e1 hS (fun q _ z => hFA q z) hFA hL hF).2.2 hl T' rfl X'
  exact ⟨t2, stp t2 a1, b1⟩
set_option maxHeartbeats 4000000 in
theorem k_vret {K : MCx} {D : va_G} {cI cG cL : ClassId} {A : Nat → Prop} {own : String} {cc : ByteArray} {nL rf rc rs rl : Nat} {pc : Nat} {lv : List (Nat × Value)} {ws : va_W} {cn sn : Nat} (X : Cy K D cI cG cL A own cc nL rf rc rs rl) {h0 : Nat} {w : (Nat → Nat) → va_W} (a : Nat → Nat) (ha : a 0 = h0) (hws : ws = w a) (hr : (kme K).sig.returnType = none) (hc : cn ≤ rc) (hs : sn ≤ rs) (hdg : decode cc pc = .ok (.return_, 1)) : Sk K D A (CQ K D A h0 w rc rs) nL pc lv [] ws cn sn := fun H locs ls hP hD hS hl => W.widen hc hs (W.vret X.1 X.2.1 hr (fun t ht hW => ⟨⟨a, rfl, ha, by rw [ht, ← hws]; exact hP, by rw [← hws]; exact hD⟩, hS.F ht⟩) hS.2.2 hdg X.2.2.2.2.2.2.1)
abbrev nf0 : List Value := [.null, .null, .null, .null, .null, .null, .null, .int 0, .int 0, .int 0, .int 0]
theorem nf0_ok : ∀ j, j < 11 → defaultValue (tyX0 j) = vp_V nf0 j := by
  intro j hj
  rcases (show j = 0 ∨ j = 1 ∨ j = 2 ∨ j = 3 ∨ j = 4 ∨ j = 5 ∨ j = 6 ∨ j = 7 ∨ j = 8 ∨ j = 9 ∨ j = 10 by omega) with rfl | rfl | rfl | rfl | rfl | rfl | rfl | rfl | rfl | rfl | rfl <;> rfl
abbrev nf1 : List Value := [.null, .int 0, .int 0]
theorem nf1_ok : ∀ j, j < 3 → defaultValue (tyX1 j) = vp_V nf1 j := by
  intro j hj
  rcases (show j = 0 ∨ j = 1 ∨ j = 2 by omega) with rfl | rfl | rfl <;> rfl
abbrev nf2 : List Value := [.null, .int 0, .int 0, .int 0, .int 0, .int 0, .int 0, .int 0]
theorem nf2_ok : ∀ j, j < 8 → defaultValue (tyX2 j) = vp_V nf2 j := by
  intro j hj
  rcases (show j = 0 ∨ j = 1 ∨ j = 2 ∨ j = 3 ∨ j = 4 ∨ j = 5 ∨ j = 6 ∨ j = 7 by omega) with rfl | rfl | rfl | rfl | rfl | rfl | rfl | rfl <;> rfl
abbrev nf3 : List Value := [.null, .null, .null, .int 0, .int 0, .int 0, .int 0]
theorem nf3_ok : ∀ j, j < 7 → defaultValue (tyX3 j) = vp_V nf3 j := by
  intro j hj
  rcases (show j = 0 ∨ j = 1 ∨ j = 2 ∨ j = 3 ∨ j = 4 ∨ j = 5 ∨ j = 6 by omega) with rfl | rfl | rfl | rfl | rfl | rfl | rfl <;> rfl
abbrev nf4 : List Value := [.null]
theorem nf4_ok : ∀ j, j < 1 → defaultValue (tyX4 j) = vp_V nf4 j := by
  intro j hj
  rcases (show j = 0 by omega) with rfl <;> rfl
abbrev nf5 : List Value := [.null, .null, .null, .int 0, .int 0, .int 0]
theorem nf5_ok : ∀ j, j < 6 → defaultValue (tyX5 j) = vp_V nf5 j := by
  intro j hj
  rcases (show j = 0 ∨ j = 1 ∨ j = 2 ∨ j = 3 ∨ j = 4 ∨ j = 5 by omega) with rfl | rfl | rfl | rfl | rfl | rfl <;> rfl
abbrev nf6 : List Value := [.null, .null, .null, .null, .null, .null]
theorem nf6_ok : ∀ j, j < 6 → defaultValue (tyX6 j) = vp_V nf6 j := by
  intro j hj
  rcases (show j = 0 ∨ j = 1 ∨ j = 2 ∨ j = 3 ∨ j = 4 ∨ j = 5 by omega) with rfl | rfl | rfl | rfl | rfl | rfl <;> rfl
