/-! ===== the law's own rows ===== -/
set_option maxHeartbeats 4000000 in
theorem k_iload {K : MCx} {D : va_G} {cI cG cL : ClassId} {A : Nat → Prop} {own : String} {cc : ByteArray} {nL rf rc rs rl : Nat} {Q : State → Prop} {pc : Nat} {lv : List (Nat × Value)} {st : List Value} {ws : va_W} {cn sn : Nat} (X : Cy K D cI cG cL A own cc nL rf rc rs rl) {i : Nat} {x : Int32} (hdg : decode cc pc = .ok (.iload i, 2)) (j : Nat) (hj : lv[j]? = some (i, .int x)) (k : Sk K D A Q nL (pc + 2) (lv) (.int x :: st) ws cn sn) : Sk K D A Q nL pc lv (st) ws cn sn := fun H locs ls hP hD hS hl => lv_iload X.1 X.2.1 hdg (lv_at hl j hj) (k H locs ls hP hD hS hl)
set_option maxHeartbeats 4000000 in
theorem k_iadd {K : MCx} {D : va_G} {cI cG cL : ClassId} {A : Nat → Prop} {own : String} {cc : ByteArray} {nL rf rc rs rl : Nat} {Q : State → Prop} {pc : Nat} {lv : List (Nat × Value)} {st : List Value} {ws : va_W} {cn sn : Nat} (X : Cy K D cI cG cL A own cc nL rf rc rs rl) {x y : Int32} (hdg : decode cc pc = .ok (.iadd, 1)) (k : Sk K D A Q nL (pc + 1) (lv) (.int (x + y) :: st) ws cn sn) : Sk K D A Q nL pc lv (.int y :: .int x :: st) ws cn sn := fun H locs ls hP hD hS hl => lv_iadd X.1 X.2.1 hdg (k H locs ls hP hD hS hl)
set_option maxHeartbeats 4000000 in
theorem k_isub {K : MCx} {D : va_G} {cI cG cL : ClassId} {A : Nat → Prop} {own : String} {cc : ByteArray} {nL rf rc rs rl : Nat} {Q : State → Prop} {pc : Nat} {lv : List (Nat × Value)} {st : List Value} {ws : va_W} {cn sn : Nat} (X : Cy K D cI cG cL A own cc nL rf rc rs rl) {x y : Int32} (hdg : decode cc pc = .ok (.isub, 1)) (k : Sk K D A Q nL (pc + 1) (lv) (.int (x - y) :: st) ws cn sn) : Sk K D A Q nL pc lv (.int y :: .int x :: st) ws cn sn := fun H locs ls hP hD hS hl => lv_isub X.1 X.2.1 hdg (k H locs ls hP hD hS hl)
set_option maxHeartbeats 4000000 in
theorem k_iand {K : MCx} {D : va_G} {cI cG cL : ClassId} {A : Nat → Prop} {own : String} {cc : ByteArray} {nL rf rc rs rl : Nat} {Q : State → Prop} {pc : Nat} {lv : List (Nat × Value)} {st : List Value} {ws : va_W} {cn sn : Nat} (X : Cy K D cI cG cL A own cc nL rf rc rs rl) {x y : Int32} (hdg : decode cc pc = .ok (.iand, 1)) (k : Sk K D A Q nL (pc + 1) (lv) (.int (x &&& y) :: st) ws cn sn) : Sk K D A Q nL pc lv (.int y :: .int x :: st) ws cn sn := fun H locs ls hP hD hS hl => lv_iand X.1 X.2.1 hdg (k H locs ls hP hD hS hl)
set_option maxHeartbeats 4000000 in
theorem k_i2l {K : MCx} {D : va_G} {cI cG cL : ClassId} {A : Nat → Prop} {own : String} {cc : ByteArray} {nL rf rc rs rl : Nat} {Q : State → Prop} {pc : Nat} {lv : List (Nat × Value)} {st : List Value} {ws : va_W} {cn sn : Nat} (X : Cy K D cI cG cL A own cc nL rf rc rs rl) {x : Int32} (hdg : decode cc pc = .ok (.i2l, 1)) (k : Sk K D A Q nL (pc + 1) (lv) (.long x.toInt64 :: st) ws cn sn) : Sk K D A Q nL pc lv (.int x :: st) ws cn sn := fun H locs ls hP hD hS hl => lv_i2l X.1 X.2.1 hdg rfl (k H locs ls hP hD hS hl)
set_option maxHeartbeats 4000000 in
theorem k_lcmp {K : MCx} {D : va_G} {cI cG cL : ClassId} {A : Nat → Prop} {own : String} {cc : ByteArray} {nL rf rc rs rl : Nat} {Q : State → Prop} {pc : Nat} {lv : List (Nat × Value)} {st : List Value} {ws : va_W} {cn sn : Nat} (X : Cy K D cI cG cL A own cc nL rf rc rs rl) {x y : Int64} (hdg : decode cc pc = .ok (.lcmp, 1)) (k : Sk K D A Q nL (pc + 1) (lv) (.int (lg_cmp x y) :: st) ws cn sn) : Sk K D A Q nL pc lv (.long y :: .long x :: st) ws cn sn := fun H locs ls hP hD hS hl => W.lcmp X.1 X.2.1 hdg (k H locs ls hP hD hS hl)
set_option maxHeartbeats 4000000 in
theorem k_dcmp {K : MCx} {D : va_G} {cI cG cL : ClassId} {A : Nat → Prop} {own : String} {cc : ByteArray} {nL rf rc rs rl : Nat} {Q : State → Prop} {pc : Nat} {lv : List (Nat × Value)} {st : List Value} {ws : va_W} {cn sn : Nat} (X : Cy K D cI cG cL A own cc nL rf rc rs rl) {x y : UInt64} {op : CmpOp} (hdg : decode cc pc = .ok (.dcmp op, 1)) (k : Sk K D A Q nL (pc + 1) (lv) (.int (Op.cmpValue (FP.dcmp x y) op) :: st) ws cn sn) : Sk K D A Q nL pc lv (.double y :: .double x :: st) ws cn sn := fun H locs ls hP hD hS hl => lv_dcmp X.1 X.2.1 hdg (k H locs ls hP hD hS hl)
set_option maxHeartbeats 4000000 in
theorem k_dload {K : MCx} {D : va_G} {cI cG cL : ClassId} {A : Nat → Prop} {own : String} {cc : ByteArray} {nL rf rc rs rl : Nat} {Q : State → Prop} {pc : Nat} {lv : List (Nat × Value)} {st : List Value} {ws : va_W} {cn sn : Nat} (X : Cy K D cI cG cL A own cc nL rf rc rs rl) {i : Nat} {x : UInt64} (hdg : decode cc pc = .ok (.dload i, 2)) (j : Nat) (hj : lv[j]? = some (i, .double x)) (k : Sk K D A Q nL (pc + 2) (lv) (.double x :: st) ws cn sn) : Sk K D A Q nL pc lv (st) ws cn sn := fun H locs ls hP hD hS hl => lv_dload X.1 X.2.1 hdg (lv_at hl j hj) (k H locs ls hP hD hS hl)
set_option maxHeartbeats 4000000 in
theorem k_dstore {K : MCx} {D : va_G} {cI cG cL : ClassId} {A : Nat → Prop} {own : String} {cc : ByteArray} {nL rf rc rs rl : Nat} {Q : State → Prop} {pc : Nat} {lv : List (Nat × Value)} {st : List Value} {ws : va_W} {cn sn : Nat} (X : Cy K D cI cG cL A own cc nL rf rc rs rl) {i : Nat} {x : UInt64} (lv' : List (Nat × Value)) (hdg : decode cc pc = .ok (.dstore i, 2)) (hn : i + 1 < nL) (hlv : (i, Value.double x) :: lv.filter (fun q => !(q.1 == i) && (!(q.1 == i + 1) && !(q.1 + 1 == i && q.2.category == 2))) = lv') (k : Sk K D A Q nL (pc + 2) (lv') (st) ws cn sn) : Sk K D A Q nL pc lv (.double x :: st) ws cn sn := fun H locs ls hP hD hS hl => lv_dstore X.1 X.2.1 hdg hl hn hlv (fun ls1 hl1 => k H locs ls1 hP hD hS hl1)
set_option maxHeartbeats 4000000 in
theorem k_iceqT {K : MCx} {D : va_G} {cI cG cL : ClassId} {A : Nat → Prop} {own : String} {cc : ByteArray} {nL rf rc rs rl : Nat} {Q : State → Prop} {pc : Nat} {lv : List (Nat × Value)} {st : List Value} {ws : va_W} {cn sn : Nat} (X : Cy K D cI cG cL A own cc nL rf rc rs rl) {x y : Int32} {off : Int} (tgt : Nat) (hdg : decode cc pc = .ok (.if_icmp .eq off, 3)) (ht : (pc : Int) + off = (tgt : Int)) (e : x = y) (k : Sk K D A Q nL (tgt) (lv) (st) ws cn sn) : Sk K D A Q nL pc lv (.int y :: .int x :: st) ws cn sn := fun H locs ls hP hD hS hl => lv_icmp_eq X.1 X.2.1 hdg ht (fun _ => k H locs ls hP hD hS hl) (fun n => absurd e n)
set_option maxHeartbeats 4000000 in
theorem k_ifneT {K : MCx} {D : va_G} {cI cG cL : ClassId} {A : Nat → Prop} {own : String} {cc : ByteArray} {nL rf rc rs rl : Nat} {Q : State → Prop} {pc : Nat} {lv : List (Nat × Value)} {st : List Value} {ws : va_W} {cn sn : Nat} (X : Cy K D cI cG cL A own cc nL rf rc rs rl) {x : Int32} {off : Int} (tgt : Nat) (hdg : decode cc pc = .ok (.ifCond .ne off, 3)) (ht : (pc : Int) + off = (tgt : Int)) (e : ¬ x = 0) (k : Sk K D A Q nL (tgt) (lv) (st) ws cn sn) : Sk K D A Q nL pc lv (.int x :: st) ws cn sn := fun H locs ls hP hD hS hl => lv_if_ne X.1 X.2.1 hdg ht (fun _ => k H locs ls hP hD hS hl) (fun n => absurd n e)
set_option maxHeartbeats 4000000 in
theorem k_ifneF {K : MCx} {D : va_G} {cI cG cL : ClassId} {A : Nat → Prop} {own : String} {cc : ByteArray} {nL rf rc rs rl : Nat} {Q : State → Prop} {pc : Nat} {lv : List (Nat × Value)} {st : List Value} {ws : va_W} {cn sn : Nat} (X : Cy K D cI cG cL A own cc nL rf rc rs rl) {x : Int32} {off : Int} (tgt : Nat) (hdg : decode cc pc = .ok (.ifCond .ne off, 3)) (ht : (pc : Int) + off = (tgt : Int)) (e : x = 0) (k : Sk K D A Q nL (pc + 3) (lv) (st) ws cn sn) : Sk K D A Q nL pc lv (.int x :: st) ws cn sn := fun H locs ls hP hD hS hl => lv_if_ne X.1 X.2.1 hdg ht (fun n => absurd e n) (fun _ => k H locs ls hP hD hS hl)
set_option maxHeartbeats 4000000 in
theorem k_ifeqT {K : MCx} {D : va_G} {cI cG cL : ClassId} {A : Nat → Prop} {own : String} {cc : ByteArray} {nL rf rc rs rl : Nat} {Q : State → Prop} {pc : Nat} {lv : List (Nat × Value)} {st : List Value} {ws : va_W} {cn sn : Nat} (X : Cy K D cI cG cL A own cc nL rf rc rs rl) {x : Int32} {off : Int} (tgt : Nat) (hdg : decode cc pc = .ok (.ifCond .eq off, 3)) (ht : (pc : Int) + off = (tgt : Int)) (e : x = 0) (k : Sk K D A Q nL (tgt) (lv) (st) ws cn sn) : Sk K D A Q nL pc lv (.int x :: st) ws cn sn := fun H locs ls hP hD hS hl => lv_if_eq X.1 X.2.1 hdg ht (fun _ => k H locs ls hP hD hS hl) (fun n => absurd e n)
set_option maxHeartbeats 4000000 in
theorem k_tsIn {K : MCx} {D : va_G} {cI cG cL : ClassId} {A : Nat → Prop} {own : String} {cc : ByteArray} {nL rf rc rs rl : Nat} {Q : State → Prop} {pc : Nat} {lv : List (Nat × Value)} {st : List Value} {ws : va_W} {cn sn : Nat} (X : Cy K D cI cG cL A own cc nL rf rc rs rl) {dflt lo hi : Int} {offs : Array Int} {len : Nat} {x : Int32} {off : Int} (tgt : Nat) (hdg : decode cc pc = .ok (.tableswitch dflt lo hi offs, len)) (h1 : ¬ x.toInt < lo) (h2 : ¬ hi < x.toInt) (ho : offs[(x.toInt - lo).toNat]? = some off) (ht : (pc : Int) + off = (tgt : Int)) (k : Sk K D A Q nL (tgt) (lv) (st) ws cn sn) : Sk K D A Q nL pc lv (.int x :: st) ws cn sn := fun H locs ls hP hD hS hl => lv_tableIn X.1 X.2.1 hdg h1 h2 ho ht (k H locs ls hP hD hS hl)
set_option maxHeartbeats 4000000 in
theorem k_tsOut {K : MCx} {D : va_G} {cI cG cL : ClassId} {A : Nat → Prop} {own : String} {cc : ByteArray} {nL rf rc rs rl : Nat} {Q : State → Prop} {pc : Nat} {lv : List (Nat × Value)} {st : List Value} {ws : va_W} {cn sn : Nat} (X : Cy K D cI cG cL A own cc nL rf rc rs rl) {dflt lo hi : Int} {offs : Array Int} {len : Nat} {x : Int32} (tgt : Nat) (hdg : decode cc pc = .ok (.tableswitch dflt lo hi offs, len)) (h : x.toInt < lo ∨ hi < x.toInt) (ht : (pc : Int) + dflt = (tgt : Int)) (k : Sk K D A Q nL (tgt) (lv) (st) ws cn sn) : Sk K D A Q nL pc lv (.int x :: st) ws cn sn := fun H locs ls hP hD hS hl => lv_tableOut X.1 X.2.1 hdg h ht (k H locs ls hP hD hS hl)
set_option maxHeartbeats 4000000 in
theorem k_sld {K : MCx} {D : va_G} {cI cG cL : ClassId} {A : Nat → Prop} {own : String} {cc : ByteArray} {nL rf rc rs rl : Nat} {Q : State → Prop} {pc : Nat} {lv : List (Nat × Value)} {st : List Value} {ws : va_W} {cn sn : Nat} (X : Cy K D cI cG cL A own cc nL rf rc rs rl) {b L : Nat} {xs : Nat → Int32} {i x : Int32} (hX : va_X b L xs (ks K) (ks K).heap) (hbl : b < (ks K).heap.size) (hbA : ¬ A b) (hin : vp_in i L ∧ xs i.toNatClampNeg = x) (hdg : decode cc pc = .ok (.iaload, 1)) (k : Sk K D A Q nL (pc + 1) (lv) (.int x :: st) ws cn sn) : Sk K D A Q nL pc lv (.int i :: .ref b :: st) ws cn sn := fun H locs ls hP hD hS hl => va_sld X.1 X.2.1 hX hbl hbA hS hin.1 hdg (by rw [hin.2]; exact k H locs ls hP hD hS hl)
set_option maxHeartbeats 4000000 in
theorem k_slen {K : MCx} {D : va_G} {cI cG cL : ClassId} {A : Nat → Prop} {own : String} {cc : ByteArray} {nL rf rc rs rl : Nat} {Q : State → Prop} {pc : Nat} {lv : List (Nat × Value)} {st : List Value} {ws : va_W} {cn sn : Nat} (X : Cy K D cI cG cL A own cc nL rf rc rs rl) {b L : Nat} {xs : Nat → Int32} (hX : va_X b L xs (ks K) (ks K).heap) (hbl : b < (ks K).heap.size) (hbA : ¬ A b) (hdg : decode cc pc = .ok (.arraylength, 1)) (k : Sk K D A Q nL (pc + 1) (lv) (.int (Int32.ofNat L) :: st) ws cn sn) : Sk K D A Q nL pc lv (.ref b :: st) ws cn sn := fun H locs ls hP hD hS hl => va_slen X.1 X.2.1 hX hbl hbA hS hdg (k H locs ls hP hD hS hl)
set_option maxHeartbeats 4000000 in
theorem k_arg {K : MCx} {D : va_G} {cI cG cL : ClassId} {A : Nat → Prop} {own : String} {cc : ByteArray} {nL rf rc rs rl : Nat} {Q : State → Prop} {pc : Nat} {lv : List (Nat × Value)} {st : List Value} {ws : va_W} {cn sn : Nat} (X : Cy K D cI cG cL A own cc nL rf rc rs rl) {b L : Nat} {xs : Nat → Int32} {t v x : Int32} {n : Int} (hX : va_X b L xs (ks K) (ks K).heap) (hbl : b < (ks K).heap.size) (hbA : ¬ A b) (j0 j4 : Nat) (h0 : lv[j0]? = some (0, .ref b)) (h4 : lv[j4]? = some (4, .int t)) (d1 : decode cc pc = .ok (.aload_n 0, 1)) (d2 : decode cc (pc + 1) = .ok (.iload 4, 2)) (d3 : decode cc (pc + 3) = .ok (.iconst n, 1)) (hv : Int32.ofInt n = v) (d4 : decode cc (pc + 4) = .ok (.iadd, 1)) (d5 : decode cc (pc + 5) = .ok (.iaload, 1)) (hin : vp_in (t + v) L ∧ xs (t + v).toNatClampNeg = x) (k : Sk K D A Q nL (pc + 6) lv (.int x :: st) ws cn sn) : Sk K D A Q nL pc lv st ws cn sn := by
  refine k_aload_n X d1 j0 h0 ?_
  refine k_iload X d2 j4 h4 ?_
  refine k_iconst X d3 hv ?_
  refine k_iadd X d4 ?_
  exact k_sld X hX hbl hbA hin d5 k
set_option maxHeartbeats 4000000 in
theorem jc_D {G : Lay} {A : Nat → Prop} {f g : Nat → va_E} {w2 : va_W} (hD : va_D A (fw G f ++ w2)) : va_D A (fw G g ++ w2) ∧ Inj G ∧ (∀ q, FA G q → A q) ∧ ∀ (k : Nat) (x : Nat × va_E), w2[k]? = some x → ¬ FA G x.1 := by
  have hlen : ∀ f : Nat → va_E, (fw G f).length = gN G := fun f => by simp [fw]
  have lo : ∀ (f : Nat → va_E) (i : Nat), i < gN G → (fw G f ++ w2)[i]? = some (la G i, f i) := fun f i hi => by
    rw [List.getElem?_append_left (by rw [hlen]; exact hi), fw_get hi]
  have hi2 : ∀ (f : Nat → va_E) (i : Nat), (fw G f ++ w2)[gN G + i]? = w2[i]? := fun f i => by
    rw [List.getElem?_append_right (by rw [hlen]; exact Nat.le_add_right _ _), hlen, Nat.add_sub_cancel_left]
  have hinj : Inj G := fun i j hi hj e => hD.1 i j _ _ (lo f i hi) (lo f j hj) e
  have hFA : ∀ q, FA G q → A q := fun q ⟨k, hk, e⟩ => by rw [e]; exact hD.2 k _ (lo f k hk)
  have hno : ∀ (k : Nat) (x : Nat × va_E), w2[k]? = some x → ¬ FA G x.1 := fun k x hx ⟨i, hi, e⟩ => by
    have h1 := hD.1 i (gN G + k) _ _ (lo f i hi) (by rw [hi2]; exact hx) e.symm
    omega
  refine ⟨va_D.app ((fw_D hinj g).weaken (fun k q _ hq => hFA q.1 hq)) ⟨fun i j p q hi hj e => ?_, fun k q hq => hD.2 (gN G + k) q (by rw [hi2]; exact hq)⟩ (fun i j p q hi hj e => ?_), hinj, hFA, hno⟩
  · have h1 := hD.1 (gN G + i) (gN G + j) p q (by rw [hi2]; exact hi) (by rw [hi2]; exact hj) e
    omega
  · obtain ⟨z, rfl⟩ := fw_of hi
    exact hno j q hj ⟨i, z, e.symm⟩
set_option maxHeartbeats 4000000 in
theorem jc_P {G : Lay} {D : va_G} {cl : List vw_C} {A : Nat → Prop} {f g : Nat → va_E} {w2 : va_W} {H H1 : Heap} (hP : va_P D cl (fw G f ++ w2) H) (hD : va_D A (fw G f ++ w2)) (hq : ∀ q : Nat, q < H.size → ¬ FA G q → H1[q]? = H[q]?) (hP1 : va_P D cl (fw G g) H1) : va_P D cl (fw G g ++ w2) H1 := by
  have hno := (jc_D (g := g) hD).2.2.2
  refine va_P.app hP1 (fun k x hx => ?_)
  have h1 := hP (gN G + k) x (by
    rw [List.getElem?_append_right (by simp [fw])]
    simpa [fw] using hx)
  exact h1.kept (hq x.1 h1.lt (hno k x hx))
set_option maxHeartbeats 4000000 in
theorem jm_D {G : Lay} {A : Nat → Prop} {f g : Nat → va_E} {w2 : va_W} (hD : va_D A (w2 ++ fw G f)) : va_D A (w2 ++ fw G g) ∧ Inj G ∧ (∀ q, FA G q → A q) ∧ ∀ (k : Nat) (x : Nat × va_E), w2[k]? = some x → ¬ FA G x.1 := by
  have hi2 : ∀ (f : Nat → va_E) (i : Nat), i < gN G → (w2 ++ fw G f)[w2.length + i]? = some (la G i, f i) := fun f i hi => by
    rw [List.getElem?_append_right (Nat.le_add_right _ _), Nat.add_sub_cancel_left, fw_get hi]
  have lo : ∀ (f : Nat → va_E) (i : Nat) (x : Nat × va_E), w2[i]? = some x → (w2 ++ fw G f)[i]? = some x := fun f i x hx => by
    rw [List.getElem?_append_left (List.getElem?_eq_some_iff.mp hx).1]; exact hx
  have hinj : Inj G := fun i j hi hj e => by
    have := hD.1 _ _ _ _ (hi2 f i hi) (hi2 f j hj) e
    omega
  have hFA : ∀ q, FA G q → A q := fun q ⟨k, hk, e⟩ => by rw [e]; exact hD.2 _ _ (hi2 f k hk)
  have hno : ∀ (k : Nat) (x : Nat × va_E), w2[k]? = some x → ¬ FA G x.1 := fun k x hx ⟨i, hi, e⟩ => by
    have h1 := hD.1 k _ _ _ (lo f k x hx) (hi2 f i hi) e
    have := (List.getElem?_eq_some_iff.mp hx).1
    omega
  refine ⟨va_D.app ⟨fun i j p q hi hj e => hD.1 i j p q (lo f i p hi) (lo f j q hj) e, fun k q hq => hD.2 k q (lo f k q hq)⟩ ((fw_D hinj g).weaken (fun k q _ hq => hFA q.1 hq)) (fun i j p q hi hj e => ?_), hinj, hFA, hno⟩
  obtain ⟨z, rfl⟩ := fw_of hj
  exact hno i p hi ⟨j, z, e⟩
set_option maxHeartbeats 4000000 in
theorem jm_P {G : Lay} {D : va_G} {cl : List vw_C} {A : Nat → Prop} {f g : Nat → va_E} {w2 : va_W} {H H1 : Heap} (hP : va_P D cl (w2 ++ fw G f) H) (hD : va_D A (w2 ++ fw G f)) (hq : ∀ q : Nat, q < H.size → ¬ FA G q → H1[q]? = H[q]?) (hP1 : va_P D cl (fw G g) H1) : va_P D cl (w2 ++ fw G g) H1 := by
  have hno := (jm_D (g := g) hD).2.2.2
  refine va_P.app (fun k x hx => ?_) hP1
  have h1 := hP k x (by rw [List.getElem?_append_left (List.getElem?_eq_some_iff.mp hx).1]; exact hx)
  exact h1.kept (hq x.1 h1.lt (hno k x hx))
set_option maxHeartbeats 4000000 in
theorem jc_sub {D : va_G} {cl : List vw_C} {w1 w2 : va_W} {H : Heap} (hP : va_P D cl (w1 ++ w2) H) : va_P D cl w1 H ∧ va_P D cl w2 H := ⟨fun k x hx => hP k x (by rw [List.getElem?_append_left (List.getElem?_eq_some_iff.mp hx).1]; exact hx), fun k x hx => hP (w1.length + k) x (by rw [List.getElem?_append_right (Nat.le_add_right _ _), Nat.add_sub_cancel_left]; exact hx)⟩
set_option maxHeartbeats 4000000 in
theorem j_callC {K : MCx} {D : va_G} {cI cG cL : ClassId} {A : Nat → Prop} {own : String} {cc : ByteArray} {nL rf rc rs rl : Nat} {Q : State → Prop} {pc : Nat} {lv : List (Nat × Value)} {st : List Value} {cn sn : Nat} (X : Cy K D cI cG cL A own cc nL rf rc rs rl) {G : Lay} {h : Int64} {σ : cS} {w2 : va_W} {y : MethodName} {bytes : ByteArray} {maxL fr lo n index : Nat} {rt : Option FieldType} {o : Option Value × Int64 × cS} {st0 st1 : List Value} {C : String} {T : u_T} {nf ci : Nat} {fs : List Value} (As : List Value) (kk : Nat) (hG : lD G = D ∧ ltys G = tyk cI cG cL) (hM : Inj G → CM (kl K) y bytes maxL rt fr lo G (.ref (la G kk) :: As) h σ o) (hy : Cal y C bytes maxL rt n) (hlink : Cond.methodLink own index y ∈ wsL_law) (hR : fr + 1 ≤ rf ∧ 8 + (maxL + 11) + lo ≤ rl) (hst : st0 = As.reverse ++ .ref (la G kk) :: st) (hn : As.length = n) (hcat : (st.map fun v => v.category).sum ≤ 8) (hf : cn ≤ rc ∧ sn ≤ rs) (hc : vwCl[ci]? = some (C, T, nf)) (ob : Ob G kk ci) (hw : ce G h σ kk = .inr (ci, fs)) (hdg : decode cc pc = .ok (.invokevirtual index, 3)) (hst1 : o.1.toList ++ st = st1) (k : Sk K D A Q nL (pc + 3) lv st1 (wd G o.2.1 o.2.2 ++ w2) cn sn) : Sk K D A Q nL pc lv st0 (wd G h σ ++ w2) cn sn := by
  subst hst
  subst hst1
  obtain ⟨hG1, hG2⟩ := hG
  subst hG1
  intro H locs ls hP hD hS hl
  have hts := X.2.2.2.2.1
  have hK : va_K (lD G) vwCl (ltys G) (ks K) := by rw [hG2]; exact X.2.2.2.2.2.1
  have hN := X.2.2.2.2.2.2.2.2.2
  obtain ⟨hD2, hinj, hFA, hno⟩ := jc_D (g := ce G o.2.1 o.2.2) hD
  have hPc := (jc_sub hP).1
  have hrun := va_runV (cells := cn) (slots := sn) (R := kR K) (locs := locs) (H := H) (p := kp K) (l := kl K) (e := ke K) (below := kb K) (meth := kme K) (g := F0 (km K) pc ls (As.reverse ++ .ref (la G kk) :: st)) (As := As) (rest := st) (b := la G kk) ⟨X.1, X.2.1, X.2.2.1, X.2.2.2.1, hts⟩ (hM hinj) (cal_V (fr := 0) (lo := 0) hts hy hlink (rm := rmP fr lo) rfl rfl (by rw [X.2.2.2.2.2.2.2.2.1]; exact hR)) ⟨PC_blind, va_recv hK hPc hc (by rw [fw_get ob.1, hw]), fun U hU hW => ⟨rfl, by rw [hU]; exact hPc, va_K.moved hW.alike hK, NW_warm hW hN⟩⟩ rfl hn hl.1 rfl (lv_room hcat) hdg (by rw [X.2.2.2.2.2.2.2.2.1]; exact hf)
  intro T0 hT XX
  obtain ⟨v, sa, t, T', L, h0, X', hL, e1, e2, ⟨hv, hP1, hF⟩, stp⟩ := hrun T0 hT XX
  cases hv
  obtain ⟨k1, k2, k3⟩ := vx_keep h0 e1 hS (fun q _ z => hFA q z) hFA hL hF
  obtain ⟨t2, a1, b1⟩ := k T'.heap (locs ++ L) ls (jc_P hP hD k2 (by rw [e1]; exact hP1)) hD2 k3 hl T' rfl X'
  exact ⟨t2, stp t2 a1, b1⟩
set_option maxHeartbeats 4000000 in
theorem j_callM {K : MCx} {D : va_G} {cI cG cL : ClassId} {A : Nat → Prop} {own : String} {cc : ByteArray} {nL rf rc rs rl : Nat} {Q : State → Prop} {pc : Nat} {lv : List (Nat × Value)} {st : List Value} {cn sn : Nat} (X : Cy K D cI cG cL A own cc nL rf rc rs rl) {G : Lay} {h : Int64} {σ : cS} {w2 : va_W} {y : MethodName} {bytes : ByteArray} {maxL fr lo n index : Nat} {rt : Option FieldType} {o : Option Value × Int64 × cS} {st0 st1 : List Value} {C : String} {T : u_T} {nf ci : Nat} {fs : List Value} (As : List Value) (kk : Nat) (hG : lD G = D ∧ ltys G = tyk cI cG cL) (hM : Inj G → CM (kl K) y bytes maxL rt fr lo G (.ref (la G kk) :: As) h σ o) (hy : Cal y C bytes maxL rt n) (hlink : Cond.methodLink own index y ∈ wsL_law) (hR : fr + 1 ≤ rf ∧ 8 + (maxL + 11) + lo ≤ rl) (hst : st0 = As.reverse ++ .ref (la G kk) :: st) (hn : As.length = n) (hcat : (st.map fun v => v.category).sum ≤ 8) (hf : cn ≤ rc ∧ sn ≤ rs) (hc : vwCl[ci]? = some (C, T, nf)) (ob : Ob G kk ci) (hw : ce G h σ kk = .inr (ci, fs)) (hdg : decode cc pc = .ok (.invokevirtual index, 3)) (hst1 : o.1.toList ++ st = st1) (k : Sk K D A Q nL (pc + 3) lv st1 (w2 ++ wd G o.2.1 o.2.2) cn sn) : Sk K D A Q nL pc lv st0 (w2 ++ wd G h σ) cn sn := by
  subst hst
  subst hst1
  obtain ⟨hG1, hG2⟩ := hG
  subst hG1
  intro H locs ls hP hD hS hl
  have hts := X.2.2.2.2.1
  have hK : va_K (lD G) vwCl (ltys G) (ks K) := by rw [hG2]; exact X.2.2.2.2.2.1
  have hN := X.2.2.2.2.2.2.2.2.2
  obtain ⟨hD2, hinj, hFA, hno⟩ := jm_D (g := ce G o.2.1 o.2.2) hD
  have hPc := (jc_sub hP).2
  have hrun := va_runV (cells := cn) (slots := sn) (R := kR K) (locs := locs) (H := H) (p := kp K) (l := kl K) (e := ke K) (below := kb K) (meth := kme K) (g := F0 (km K) pc ls (As.reverse ++ .ref (la G kk) :: st)) (As := As) (rest := st) (b := la G kk) ⟨X.1, X.2.1, X.2.2.1, X.2.2.2.1, hts⟩ (hM hinj) (cal_V (fr := 0) (lo := 0) hts hy hlink (rm := rmP fr lo) rfl rfl (by rw [X.2.2.2.2.2.2.2.2.1]; exact hR)) ⟨PC_blind, va_recv hK hPc hc (by rw [fw_get ob.1, hw]), fun U hU hW => ⟨rfl, by rw [hU]; exact hPc, va_K.moved hW.alike hK, NW_warm hW hN⟩⟩ rfl hn hl.1 rfl (lv_room hcat) hdg (by rw [X.2.2.2.2.2.2.2.2.1]; exact hf)
  intro T0 hT XX
  obtain ⟨v, sa, t, T', L, h0, X', hL, e1, e2, ⟨hv, hP1, hF⟩, stp⟩ := hrun T0 hT XX
  cases hv
  obtain ⟨k1, k2, k3⟩ := vx_keep h0 e1 hS (fun q _ z => hFA q z) hFA hL hF
  obtain ⟨t2, a1, b1⟩ := k T'.heap (locs ++ L) ls (jm_P hP hD k2 (by rw [e1]; exact hP1)) hD2 k3 hl T' rfl X'
  exact ⟨t2, stp t2 a1, b1⟩
set_option maxHeartbeats 4000000 in
theorem j_callH {K : MCx} {D : va_G} {cI cG cL : ClassId} {A : Nat → Prop} {own : String} {cc : ByteArray} {nL rf rc rs rl : Nat} {Q : State → Prop} {pc : Nat} {lv : List (Nat × Value)} {st : List Value} {cn sn : Nat} (X : Cy K D cI cG cL A own cc nL rf rc rs rl) {G : Lay} {h : Int64} {σ : cS} {w2 : va_W} {y : MethodName} {bytes : ByteArray} {maxL fr lo n index : Nat} {hh : List (Nat × Nat × Nat × Nat)} {o : Option Value × Int64 × cS} {st0 st1 : List Value} (As : List Value) (hG : lD G = D ∧ ltys G = tyk cI cG cL) (hsx : (∀ q, FA G q → A q) → SX G (ks K) (ks K).heap) (hA : ∀ q, A q → (ks K).heap.size ≤ q) (hM : Inj G → HM (kl K) y bytes maxL hh fr lo G As h σ o) (hcode : Cond.codeWith y bytes maxL (some .int) hh ∈ wsL_law) (hstat : Cond.static y ∈ wsL_law) (hini : Cond.initialized y.cls ∈ wsL_law) (hlink : Cond.methodLink own index y ∈ wsL_law) (hd : y.cls ≠ "java/lang/invoke/MethodHandle" ∧ y.cls ≠ "java/lang/invoke/VarHandle" ∧ (parseMethodDescriptor y.desc).map (fun d => d.parameters.length) = some n) (hR : fr + 1 ≤ rf ∧ 8 + (maxL + 11) + lo ≤ rl) (hst : st0 = As.reverse ++ st) (hn : As.length = n) (hcat : (st.map fun v => v.category).sum ≤ 8) (hf : cn + 1 ≤ rc ∧ sn + 6 ≤ rs) (hdg : decode cc pc = .ok (.invokestatic index, 3)) (hst1 : o.1.toList ++ st = st1) (k : Sk K D A Q nL (pc + 3) lv st1 (wd G o.2.1 o.2.2 ++ w2) (cn + 1) (sn + 6)) : Sk K D A Q nL pc lv st0 (wd G h σ ++ w2) cn sn := by
  subst hst
  subst hst1
  obtain ⟨hG1, hG2⟩ := hG
  subst hG1
  intro H locs ls hP hD hS hl
  have hts := X.2.2.2.2.1
  have hK : va_K (lD G) vwCl (ltys G) (ks K) := by rw [hG2]; exact X.2.2.2.2.2.1
  have hN := X.2.2.2.2.2.2.2.2.2
  obtain ⟨hD2, hinj, hFA, hno⟩ := jc_D (g := ce G o.2.1 o.2.2) hD
  have hPc := (jc_sub hP).1
  have hSX := hsx hFA
  have hGI : GoodIn wsL_law (va_wsS own index y (mwsH y bytes maxL (some .int) hh)) := law_GI (fun w hw => by
    rcases List.mem_append.mp hw with q | q
    · simp only [List.mem_cons, List.mem_nil_iff, or_false] at q
      rcases q with rfl | rfl | rfl
      · exact hlink
      · exact hstat
      · exact hini
    · rcases List.mem_cons.mp q with rfl | q
      · exact hcode
      · exact q)
  have hrun := vx_runSW (cells := cn) (slots := sn) (R := kR K) (locs := locs) (H := H) (p := kp K) (l := kl K) (e := ke K) (below := kb K) (meth := kme K) (g := F0 (km K) pc ls (As.reverse ++ st)) (As := As) (rest := st) ⟨X.1, X.2.1, X.2.2.1, X.2.2.2.1, hts⟩ (hM hinj) (vx_cwSW n hts hGI rfl rfl rfl hd (by rw [X.2.2.2.2.2.2.2.2.1]; exact hR)) ⟨PCX_blind, fun U hU hW => ⟨rfl, ⟨by rw [hU]; exact hPc, va_K.moved hW.alike hK, NW_warm hW hN⟩, by rw [hU]; exact SX_warm hW hSX (fun q h1 h2 => hS.2.1 q h1 (fun z => Nat.not_lt.mpr (hA q z) h1))⟩⟩ rfl hn hl.1 rfl (lv_room hcat) hdg (by rw [X.2.2.2.2.2.2.2.2.1]; exact hf)
  intro T0 hT XX
  obtain ⟨v, sa, t, T', L, h0, X', hL, e1, e2, ⟨hv, hP1, hF⟩, stp⟩ := hrun T0 hT XX
  cases hv
  obtain ⟨k1, k2, k3⟩ := vx_keep h0 e1 hS (fun q _ z => hFA q z) hFA hL hF
  obtain ⟨t2, a1, b1⟩ := k T'.heap (locs ++ L) ls (jc_P hP hD k2 (by rw [e1]; exact hP1)) hD2 k3 hl T' rfl X'
  exact ⟨t2, stp t2 a1, b1⟩
set_option maxHeartbeats 4000000 in
theorem k_laload {K : MCx} {D : va_G} {cI cG cL : ClassId} {A : Nat → Prop} {own : String} {cc : ByteArray} {nL rf rc rs rl : Nat} {Q : State → Prop} {pc : Nat} {lv : List (Nat × Value)} {st : List Value} {cn sn : Nat} (X : Cy K D cI cG cL A own cc nL rf rc rs rl) {G : Lay} {h : Int64} {σ : cS} {w2 : va_W} {i : Int32} (kk : Nat) (hG : lD G = D ∧ ltys G = tyk cI cG cL) (o : isOut G kk) (hi : i = 0) (hdg : decode cc pc = .ok (.laload, 1)) (k : Sk K D A Q nL (pc + 1) lv (.long h :: st) (wd G h σ ++ w2) cn sn) : Sk K D A Q nL pc lv (.int i :: .ref (la G kk) :: st) (wd G h σ ++ w2) cn sn := by
  subst hi
  obtain ⟨hG1, hG2⟩ := hG
  subst hG1
  intro H locs ls hP hD hS hl
  have hK : va_K (lD G) vwCl (ltys G) (ks K) := by rw [hG2]; exact X.2.2.2.2.2.1
  exact va_lald (f := fun _ => h) X.1 X.2.1 hK hP kk 2 (by rw [List.getElem?_append_left (by simpa [fw] using o.1.1), fw_get o.1.1, ce10 o.1]) rfl (inb_in (by decide)) hdg (k H locs ls hP hD hS hl)
set_option maxHeartbeats 4000000 in
theorem k_wider {K : MCx} {D : va_G} {A : Nat → Prop} {Q : State → Prop} {nL pc : Nat} {lv : List (Nat × Value)} {st : List Value} {ws : va_W} {cn sn c1 s1 : Nat} (hc : cn ≤ c1) (hs : sn ≤ s1) (k : Sk K D A Q nL pc lv st ws c1 s1) : Sk K D A Q nL pc lv st ws cn sn := fun H locs ls hP hD hS hl => W.widen hc hs (k H locs ls hP hD hS hl)
set_option maxHeartbeats 4000000 in
theorem grd_some {ρ : Type} {b : Bool} {E : Option ρ} {r : ρ} (h : grd b E = some r) : b = true ∧ E = some r := by
  unfold grd at h
  split at h
  · exact ⟨by assumption, h⟩
  · cases h
set_option maxHeartbeats 4000000 in
theorem lg_eq {x y : Int64} (e : x = y) : lg_cmp x y = 0 := by
  subst e
  unfold lg_cmp
  simp
