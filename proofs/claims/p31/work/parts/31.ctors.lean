theorem q_1_3 : Cond.arrayClass .int ∈ wsL_law := seg_1 _ (List.mem_of_getElem? (i := 3) rfl)
theorem q_1_7 : Cond.methodLink RX6 1 objectInit ∈ wsL_law := seg_1 _ (List.mem_of_getElem? (i := 7) rfl)
theorem q_1_8 : Cond.instanceMethod objectInit ∈ wsL_law := seg_1 _ (List.mem_of_getElem? (i := 8) rfl)
theorem q_1_9 : Cond.code objectInit ⟨#[0xb1]⟩ 1 none ∈ wsL_law := seg_1 _ (List.mem_of_getElem? (i := 9) rfl)
theorem q_1_10 : Cond.classLink RX6 7 RX0 ∈ wsL_law := seg_1 _ (List.mem_of_getElem? (i := 10) rfl)
theorem q_1_11 : Cond.instantiable RX0 11 ∈ wsL_law := seg_1 _ (List.mem_of_getElem? (i := 11) rfl)
theorem q_1_15 : Cond.classLink RX6 19 RX5 ∈ wsL_law := seg_1 _ (List.mem_of_getElem? (i := 15) rfl)
theorem q_1_16 : Cond.instantiable RX5 6 ∈ wsL_law := seg_1 _ (List.mem_of_getElem? (i := 16) rfl)
theorem q_1_19 : Cond.classLink RX6 26 RX3 ∈ wsL_law := seg_1 _ (List.mem_of_getElem? (i := 19) rfl)
theorem q_1_20 : Cond.instantiable RX3 7 ∈ wsL_law := seg_1 _ (List.mem_of_getElem? (i := 20) rfl)
theorem q_1_23 : Cond.classLink RX6 33 RX2 ∈ wsL_law := seg_1 _ (List.mem_of_getElem? (i := 23) rfl)
theorem q_2_0 : Cond.instantiable RX2 8 ∈ wsL_law := seg_2 _ (List.mem_of_getElem? (i := 0) rfl)
theorem q_2_3 : Cond.classLink RX6 40 RX1 ∈ wsL_law := seg_2 _ (List.mem_of_getElem? (i := 3) rfl)
theorem q_2_4 : Cond.instantiable RX1 3 ∈ wsL_law := seg_2 _ (List.mem_of_getElem? (i := 4) rfl)
theorem q_2_7 : Cond.methodLink RX6 9 yX0_init ∈ wsL_law := seg_2 _ (List.mem_of_getElem? (i := 7) rfl)
theorem q_2_8 : Cond.instanceMethod yX0_init ∈ wsL_law := seg_2 _ (List.mem_of_getElem? (i := 8) rfl)
theorem q_2_9 : Cond.code yX0_init cX0_init 1 none ∈ wsL_law := seg_2 _ (List.mem_of_getElem? (i := 9) rfl)
theorem q_2_10 : Cond.methodLink RX0 3 objectInit ∈ wsL_law := seg_2 _ (List.mem_of_getElem? (i := 10) rfl)
theorem q_2_11 : Cond.classLink RX0 9 RX4 ∈ wsL_law := seg_2 _ (List.mem_of_getElem? (i := 11) rfl)
theorem q_2_12 : Cond.instantiable RX4 1 ∈ wsL_law := seg_2 _ (List.mem_of_getElem? (i := 12) rfl)
theorem q_2_21 : Cond.methodLink RX0 11 yX4_init ∈ wsL_law := seg_2 _ (List.mem_of_getElem? (i := 21) rfl)
theorem q_2_22 : Cond.instanceMethod yX4_init ∈ wsL_law := seg_2 _ (List.mem_of_getElem? (i := 22) rfl)
theorem q_2_23 : Cond.code yX4_init cX4_init 2 none ∈ wsL_law := seg_2 _ (List.mem_of_getElem? (i := 23) rfl)
theorem q_3_0 : Cond.methodLink RX4 1 objectInit ∈ wsL_law := seg_3 _ (List.mem_of_getElem? (i := 0) rfl)
theorem q_3_2 : Cond.methodLink RX0 38 yX0_restart ∈ wsL_law := seg_3 _ (List.mem_of_getElem? (i := 2) rfl)
theorem q_3_14 : Cond.instanceMethod yX5_init ∈ wsL_law := seg_3 _ (List.mem_of_getElem? (i := 14) rfl)
theorem q_3_15 : Cond.code yX5_init cX5_init 1 none ∈ wsL_law := seg_3 _ (List.mem_of_getElem? (i := 15) rfl)
theorem q_3_16 : Cond.methodLink RX5 3 objectInit ∈ wsL_law := seg_3 _ (List.mem_of_getElem? (i := 16) rfl)
theorem q_3_17 : Cond.classLink RX5 9 RX4 ∈ wsL_law := seg_3 _ (List.mem_of_getElem? (i := 17) rfl)
theorem q_3_21 : Cond.methodLink RX5 11 yX4_init ∈ wsL_law := seg_3 _ (List.mem_of_getElem? (i := 21) rfl)
theorem q_3_22 : Cond.instanceMethod yX3_init ∈ wsL_law := seg_3 _ (List.mem_of_getElem? (i := 22) rfl)
theorem q_3_23 : Cond.code yX3_init cX3_init 1 none ∈ wsL_law := seg_3 _ (List.mem_of_getElem? (i := 23) rfl)
theorem q_4_0 : Cond.methodLink RX3 3 objectInit ∈ wsL_law := seg_4 _ (List.mem_of_getElem? (i := 0) rfl)
theorem q_4_3 : Cond.classLink RX3 18 RX4 ∈ wsL_law := seg_4 _ (List.mem_of_getElem? (i := 3) rfl)
theorem q_4_5 : Cond.methodLink RX3 20 yX4_init ∈ wsL_law := seg_4 _ (List.mem_of_getElem? (i := 5) rfl)
theorem q_4_6 : Cond.instanceMethod yX2_init ∈ wsL_law := seg_4 _ (List.mem_of_getElem? (i := 6) rfl)
theorem q_4_7 : Cond.code yX2_init cX2_init 1 none ∈ wsL_law := seg_4 _ (List.mem_of_getElem? (i := 7) rfl)
theorem q_4_8 : Cond.methodLink RX2 3 objectInit ∈ wsL_law := seg_4 _ (List.mem_of_getElem? (i := 8) rfl)
theorem q_4_9 : Cond.classLink RX2 9 RX4 ∈ wsL_law := seg_4 _ (List.mem_of_getElem? (i := 9) rfl)
theorem q_4_12 : Cond.methodLink RX2 11 yX4_init ∈ wsL_law := seg_4 _ (List.mem_of_getElem? (i := 12) rfl)
theorem q_4_13 : Cond.methodLink RX6 42 yX1_init ∈ wsL_law := seg_4 _ (List.mem_of_getElem? (i := 13) rfl)
theorem q_4_14 : Cond.instanceMethod yX1_init ∈ wsL_law := seg_4 _ (List.mem_of_getElem? (i := 14) rfl)
theorem q_4_15 : Cond.code yX1_init cX1_init 2 none ∈ wsL_law := seg_4 _ (List.mem_of_getElem? (i := 15) rfl)
theorem q_4_16 : Cond.methodLink RX1 3 objectInit ∈ wsL_law := seg_4 _ (List.mem_of_getElem? (i := 16) rfl)
theorem q_4_17 : Cond.classLink RX1 9 RX0 ∈ wsL_law := seg_4 _ (List.mem_of_getElem? (i := 17) rfl)
theorem q_4_19 : Cond.methodLink RX1 17 yX0_init ∈ wsL_law := seg_4 _ (List.mem_of_getElem? (i := 19) rfl)
set_option maxHeartbeats 4000000 in
set_option maxRecDepth 100000 in
theorem ciX4 (l : Launch) (D : va_G) (cI cG cL : ClassId) (h0 : Nat) (n : Nat) (hn : n ≤ 100) : CI l yX4_init cX4_init 2 1 1 n 20 D cI cG cL [.int (nI n)] h0 (.inr (4, nf4)) (w4 cI n) := by
  refine ci_of (by decide) rfl (Nat.le_of_ble_eq_true rfl) (fun K A hKl X hr hnm => ?_)
  refine k_aload_n X dX4_init_0 0 rfl ?_
  refine k_objInit X q_3_0 q_1_8 q_1_9 dX4_init_1 (by decide) (Nat.le_of_ble_eq_true rfl) ?_
  refine k_aload_n X dX4_init_4 0 rfl ?_
  refine k_iload_n X dX4_init_5 1 rfl ?_
  refine k_ge0T X 13 dX4_init_6 (by decide) (nI_pos' (by omega)) ?_
  refine k_iload_n X dX4_init_13 1 rfl ?_
  refine k_newa X n q_1_3 (nI_pos (by omega)) (nI_clamp (by omega)) (by omega) (Nat.le_of_ble_eq_true rfl) (by omega) dX4_init_14 (fun q => ?_)
  refine k_putF X inlX4 rfl 0 rfl 0 (by decide) q_3_1 tyX4 tyX4_ok nmX4 rfl rfl (Nat.le_of_ble_eq_true rfl) ([(h0, .inr (4, [.ref q]))] ++ [(q, .inl (cI, n, .inl (fun _ => 0)))]) rfl hnm rfl rfl dX4_init_16 ?_
  exact k_vret X (fun i => match i with | 0 => h0 | _ => q) rfl rfl hr (Nat.le_of_ble_eq_true rfl) (by omega) dX4_init_19
set_option maxHeartbeats 4000000 in
set_option maxRecDepth 100000 in
theorem ciX0 (l : Launch) (D : va_G) (cI cG cL : ClassId) (h0 : Nat) : CI l yX0_init cX0_init 1 2 14 231 43 D cI cG cL [] h0 (.inr (0, nf0)) (w0 D cI cG cL) := by
  refine ci_of (by decide) rfl (Nat.le_of_ble_eq_true rfl) (fun K A hKl X hr hnm => ?_)
  refine k_aload_n X dX0_init_0 0 rfl ?_
  refine k_objInit X q_2_10 q_1_8 q_1_9 dX0_init_1 (by decide) (Nat.le_of_ble_eq_true rfl) ?_
  refine k_aload_n X dX0_init_4 0 rfl ?_
  refine k_new (ci := 4) X nf4 inlX4 tyX4 tyX4_ok q_2_11 q_2_12 q_2_13 rfl nf4_ok (Nat.le_of_ble_eq_true rfl) (Nat.le_of_ble_eq_true rfl) dX0_init_5 (fun q0 => ?_)
  refine k_dup X dX0_init_8 rfl ?_
  refine k_bipush (v := (40 : Int32)) X dX0_init_9 (by decide) ?_
  refine k_init X (w := w4 cI 40) (As := [.int (40 : Int32)]) (st := [.ref q0, .ref h0]) (ciX4 (kl K) D cI cG cL q0 40 (by decide)) q_2_23 q_2_22 q_2_13 q_2_21 (by decide +kernel) rfl ⟨Nat.le_of_ble_eq_true rfl, Nat.le_of_ble_eq_true rfl⟩ rfl rfl (Nat.le_of_ble_eq_true rfl) ⟨Nat.le_of_ble_eq_true rfl, Nat.le_of_ble_eq_true rfl⟩ dX0_init_11 (fun a0 ha0 => ?_)
  refine k_ws (ws' := [(h0, .inr (0, [.null, .null, .null, .null, .null, .null, .null, .int 0, .int 0, .int 0, .int 0]))] ++ w4 cI 40 a0) rfl ?_
  refine k_putF X inlX0 rfl 0 rfl 0 (by decide) q_2_14 tyX0 tyX0_ok nmX0 rfl rfl (Nat.le_of_ble_eq_true rfl) ([(h0, .inr (0, [.ref q0, .null, .null, .null, .null, .null, .null, .int 0, .int 0, .int 0, .int 0]))] ++ w4 cI 40 a0) rfl hnm rfl rfl dX0_init_14 ?_
  refine k_aload_n X dX0_init_17 0 rfl ?_
  refine k_new (ci := 4) X nf4 inlX4 tyX4 tyX4_ok q_2_11 q_2_12 q_2_13 rfl nf4_ok (Nat.le_of_ble_eq_true rfl) (Nat.le_of_ble_eq_true rfl) dX0_init_18 (fun q1 => ?_)
  refine k_dup X dX0_init_21 rfl ?_
  refine k_bipush (v := (40 : Int32)) X dX0_init_22 (by decide) ?_
  refine k_init X (w := w4 cI 40) (As := [.int (40 : Int32)]) (st := [.ref q1, .ref h0]) (ciX4 (kl K) D cI cG cL q1 40 (by decide)) q_2_23 q_2_22 q_2_13 q_2_21 (by decide +kernel) rfl ⟨Nat.le_of_ble_eq_true rfl, Nat.le_of_ble_eq_true rfl⟩ rfl rfl (Nat.le_of_ble_eq_true rfl) ⟨Nat.le_of_ble_eq_true rfl, Nat.le_of_ble_eq_true rfl⟩ dX0_init_24 (fun a1 ha1 => ?_)
  refine k_ws (ws' := [(h0, .inr (0, [.ref q0, .null, .null, .null, .null, .null, .null, .int 0, .int 0, .int 0, .int 0]))] ++ w4 cI 40 a0 ++ w4 cI 40 a1) rfl ?_
  refine k_putF X inlX0 rfl 0 rfl 1 (by decide) q_2_15 tyX0 tyX0_ok nmX0 rfl rfl (Nat.le_of_ble_eq_true rfl) ([(h0, .inr (0, [.ref q0, .ref q1, .null, .null, .null, .null, .null, .int 0, .int 0, .int 0, .int 0]))] ++ w4 cI 40 a0 ++ w4 cI 40 a1) rfl hnm rfl rfl dX0_init_27 ?_
  refine k_aload_n X dX0_init_30 0 rfl ?_
  refine k_new (ci := 4) X nf4 inlX4 tyX4 tyX4_ok q_2_11 q_2_12 q_2_13 rfl nf4_ok (Nat.le_of_ble_eq_true rfl) (Nat.le_of_ble_eq_true rfl) dX0_init_31 (fun q2 => ?_)
  refine k_dup X dX0_init_34 rfl ?_
  refine k_bipush (v := (40 : Int32)) X dX0_init_35 (by decide) ?_
  refine k_init X (w := w4 cI 40) (As := [.int (40 : Int32)]) (st := [.ref q2, .ref h0]) (ciX4 (kl K) D cI cG cL q2 40 (by decide)) q_2_23 q_2_22 q_2_13 q_2_21 (by decide +kernel) rfl ⟨Nat.le_of_ble_eq_true rfl, Nat.le_of_ble_eq_true rfl⟩ rfl rfl (Nat.le_of_ble_eq_true rfl) ⟨Nat.le_of_ble_eq_true rfl, Nat.le_of_ble_eq_true rfl⟩ dX0_init_37 (fun a2 ha2 => ?_)
  refine k_ws (ws' := [(h0, .inr (0, [.ref q0, .ref q1, .null, .null, .null, .null, .null, .int 0, .int 0, .int 0, .int 0]))] ++ w4 cI 40 a0 ++ w4 cI 40 a1 ++ w4 cI 40 a2) rfl ?_
  refine k_putF X inlX0 rfl 0 rfl 2 (by decide) q_2_16 tyX0 tyX0_ok nmX0 rfl rfl (Nat.le_of_ble_eq_true rfl) ([(h0, .inr (0, [.ref q0, .ref q1, .ref q2, .null, .null, .null, .null, .int 0, .int 0, .int 0, .int 0]))] ++ w4 cI 40 a0 ++ w4 cI 40 a1 ++ w4 cI 40 a2) rfl hnm rfl rfl dX0_init_40 ?_
  refine k_aload_n X dX0_init_43 0 rfl ?_
  refine k_new (ci := 4) X nf4 inlX4 tyX4 tyX4_ok q_2_11 q_2_12 q_2_13 rfl nf4_ok (Nat.le_of_ble_eq_true rfl) (Nat.le_of_ble_eq_true rfl) dX0_init_44 (fun q3 => ?_)
  refine k_dup X dX0_init_47 rfl ?_
  refine k_bipush (v := (40 : Int32)) X dX0_init_48 (by decide) ?_
  refine k_init X (w := w4 cI 40) (As := [.int (40 : Int32)]) (st := [.ref q3, .ref h0]) (ciX4 (kl K) D cI cG cL q3 40 (by decide)) q_2_23 q_2_22 q_2_13 q_2_21 (by decide +kernel) rfl ⟨Nat.le_of_ble_eq_true rfl, Nat.le_of_ble_eq_true rfl⟩ rfl rfl (Nat.le_of_ble_eq_true rfl) ⟨Nat.le_of_ble_eq_true rfl, Nat.le_of_ble_eq_true rfl⟩ dX0_init_50 (fun a3 ha3 => ?_)
  refine k_ws (ws' := [(h0, .inr (0, [.ref q0, .ref q1, .ref q2, .null, .null, .null, .null, .int 0, .int 0, .int 0, .int 0]))] ++ w4 cI 40 a0 ++ w4 cI 40 a1 ++ w4 cI 40 a2 ++ w4 cI 40 a3) rfl ?_
  refine k_putF X inlX0 rfl 0 rfl 3 (by decide) q_2_17 tyX0 tyX0_ok nmX0 rfl rfl (Nat.le_of_ble_eq_true rfl) ([(h0, .inr (0, [.ref q0, .ref q1, .ref q2, .ref q3, .null, .null, .null, .int 0, .int 0, .int 0, .int 0]))] ++ w4 cI 40 a0 ++ w4 cI 40 a1 ++ w4 cI 40 a2 ++ w4 cI 40 a3) rfl hnm rfl rfl dX0_init_53 ?_
  refine k_aload_n X dX0_init_56 0 rfl ?_
  refine k_new (ci := 4) X nf4 inlX4 tyX4 tyX4_ok q_2_11 q_2_12 q_2_13 rfl nf4_ok (Nat.le_of_ble_eq_true rfl) (Nat.le_of_ble_eq_true rfl) dX0_init_57 (fun q4 => ?_)
  refine k_dup X dX0_init_60 rfl ?_
  refine k_bipush (v := (40 : Int32)) X dX0_init_61 (by decide) ?_
  refine k_init X (w := w4 cI 40) (As := [.int (40 : Int32)]) (st := [.ref q4, .ref h0]) (ciX4 (kl K) D cI cG cL q4 40 (by decide)) q_2_23 q_2_22 q_2_13 q_2_21 (by decide +kernel) rfl ⟨Nat.le_of_ble_eq_true rfl, Nat.le_of_ble_eq_true rfl⟩ rfl rfl (Nat.le_of_ble_eq_true rfl) ⟨Nat.le_of_ble_eq_true rfl, Nat.le_of_ble_eq_true rfl⟩ dX0_init_63 (fun a4 ha4 => ?_)
  refine k_ws (ws' := [(h0, .inr (0, [.ref q0, .ref q1, .ref q2, .ref q3, .null, .null, .null, .int 0, .int 0, .int 0, .int 0]))] ++ w4 cI 40 a0 ++ w4 cI 40 a1 ++ w4 cI 40 a2 ++ w4 cI 40 a3 ++ w4 cI 40 a4) rfl ?_
  refine k_putF X inlX0 rfl 0 rfl 4 (by decide) q_2_18 tyX0 tyX0_ok nmX0 rfl rfl (Nat.le_of_ble_eq_true rfl) ([(h0, .inr (0, [.ref q0, .ref q1, .ref q2, .ref q3, .ref q4, .null, .null, .int 0, .int 0, .int 0, .int 0]))] ++ w4 cI 40 a0 ++ w4 cI 40 a1 ++ w4 cI 40 a2 ++ w4 cI 40 a3 ++ w4 cI 40 a4) rfl hnm rfl rfl dX0_init_66 ?_
  refine k_aload_n X dX0_init_69 0 rfl ?_
  refine k_new (ci := 4) X nf4 inlX4 tyX4 tyX4_ok q_2_11 q_2_12 q_2_13 rfl nf4_ok (Nat.le_of_ble_eq_true rfl) (Nat.le_of_ble_eq_true rfl) dX0_init_70 (fun q5 => ?_)
  refine k_dup X dX0_init_73 rfl ?_
  refine k_bipush (v := (12 : Int32)) X dX0_init_74 (by decide) ?_
  refine k_init X (w := w4 cI 12) (As := [.int (12 : Int32)]) (st := [.ref q5, .ref h0]) (ciX4 (kl K) D cI cG cL q5 12 (by decide)) q_2_23 q_2_22 q_2_13 q_2_21 (by decide +kernel) rfl ⟨Nat.le_of_ble_eq_true rfl, Nat.le_of_ble_eq_true rfl⟩ rfl rfl (Nat.le_of_ble_eq_true rfl) ⟨Nat.le_of_ble_eq_true rfl, Nat.le_of_ble_eq_true rfl⟩ dX0_init_76 (fun a5 ha5 => ?_)
  refine k_ws (ws' := [(h0, .inr (0, [.ref q0, .ref q1, .ref q2, .ref q3, .ref q4, .null, .null, .int 0, .int 0, .int 0, .int 0]))] ++ w4 cI 40 a0 ++ w4 cI 40 a1 ++ w4 cI 40 a2 ++ w4 cI 40 a3 ++ w4 cI 40 a4 ++ w4 cI 12 a5) rfl ?_
  refine k_putF X inlX0 rfl 0 rfl 5 (by decide) q_2_19 tyX0 tyX0_ok nmX0 rfl rfl (Nat.le_of_ble_eq_true rfl) ([(h0, .inr (0, [.ref q0, .ref q1, .ref q2, .ref q3, .ref q4, .ref q5, .null, .int 0, .int 0, .int 0, .int 0]))] ++ w4 cI 40 a0 ++ w4 cI 40 a1 ++ w4 cI 40 a2 ++ w4 cI 40 a3 ++ w4 cI 40 a4 ++ w4 cI 12 a5) rfl hnm rfl rfl dX0_init_79 ?_
  refine k_aload_n X dX0_init_82 0 rfl ?_
  refine k_new (ci := 4) X nf4 inlX4 tyX4 tyX4_ok q_2_11 q_2_12 q_2_13 rfl nf4_ok (Nat.le_of_ble_eq_true rfl) (Nat.le_of_ble_eq_true rfl) dX0_init_83 (fun q6 => ?_)
  refine k_dup X dX0_init_86 rfl ?_
  refine k_bipush (v := (12 : Int32)) X dX0_init_87 (by decide) ?_
  refine k_init X (w := w4 cI 12) (As := [.int (12 : Int32)]) (st := [.ref q6, .ref h0]) (ciX4 (kl K) D cI cG cL q6 12 (by decide)) q_2_23 q_2_22 q_2_13 q_2_21 (by decide +kernel) rfl ⟨Nat.le_of_ble_eq_true rfl, Nat.le_of_ble_eq_true rfl⟩ rfl rfl (Nat.le_of_ble_eq_true rfl) ⟨Nat.le_of_ble_eq_true rfl, Nat.le_of_ble_eq_true rfl⟩ dX0_init_89 (fun a6 ha6 => ?_)
  refine k_ws (ws' := [(h0, .inr (0, [.ref q0, .ref q1, .ref q2, .ref q3, .ref q4, .ref q5, .null, .int 0, .int 0, .int 0, .int 0]))] ++ w4 cI 40 a0 ++ w4 cI 40 a1 ++ w4 cI 40 a2 ++ w4 cI 40 a3 ++ w4 cI 40 a4 ++ w4 cI 12 a5 ++ w4 cI 12 a6) rfl ?_
  refine k_putF X inlX0 rfl 0 rfl 6 (by decide) q_2_20 tyX0 tyX0_ok nmX0 rfl rfl (Nat.le_of_ble_eq_true rfl) ([(h0, .inr (0, [.ref q0, .ref q1, .ref q2, .ref q3, .ref q4, .ref q5, .ref q6, .int 0, .int 0, .int 0, .int 0]))] ++ w4 cI 40 a0 ++ w4 cI 40 a1 ++ w4 cI 40 a2 ++ w4 cI 40 a3 ++ w4 cI 40 a4 ++ w4 cI 12 a5 ++ w4 cI 12 a6) rfl hnm rfl rfl dX0_init_92 ?_
  subst ha0 ha1 ha2 ha3 ha4 ha5 ha6
  refine k_ws (ws' := wd (Gm D cI cG cL (fun i => match i with | 0 => h0 | 1 => a0 0 | 2 => a0 1 | 3 => a1 0 | 4 => a1 1 | 5 => a2 0 | 6 => a2 1 | 7 => a3 0 | 8 => a3 1 | 9 => a4 0 | 10 => a4 1 | 11 => a5 0 | 12 => a5 1 | 13 => a6 0 | _ => a6 1)) 0 σz) rfl ?_
  refine k_aload_n X dX0_init_95 0 rfl ?_
  refine k_bipush (v := (6 : Int32)) X dX0_init_96 (by decide) ?_
  refine k_callCM X (G := Gm D cI cG cL (fun i => match i with | 0 => h0 | 1 => a0 0 | 2 => a0 1 | 3 => a1 0 | 4 => a1 1 | 5 => a2 0 | 6 => a2 1 | 7 => a3 0 | 8 => a3 1 | 9 => a4 0 | 10 => a4 1 | 11 => a5 0 | 12 => a5 1 | 13 => a6 0 | _ => a6 1)) (o := (none, 0, gI)) (As := [.int (6 : Int32)]) (st := []) 0 ⟨rfl, rfl⟩ rfl (fun hi => ctX0_restart (kl K) (Gm D cI cG cL (fun i => match i with | 0 => h0 | 1 => a0 0 | 2 => a0 1 | 3 => a1 0 | 4 => a1 1 | 5 => a2 0 | 6 => a2 1 | 7 => a3 0 | 8 => a3 1 | 9 => a4 0 | 10 => a4 1 | 11 => a5 0 | 12 => a5 1 | 13 => a6 0 | _ => a6 1)) hi 50 0 σz 0 (isGm D cI cG cL (fun i => match i with | 0 => h0 | 1 => a0 0 | 2 => a0 1 | 3 => a1 0 | 4 => a1 1 | 5 => a2 0 | 6 => a2 1 | 7 => a3 0 | 8 => a3 1 | 9 => a4 0 | 10 => a4 1 | 11 => a5 0 | 12 => a5 1 | 13 => a6 0 | _ => a6 1)) 6 gI gI_is) rfl cal_X0_restart q_3_2 ⟨Nat.le_of_ble_eq_true rfl, Nat.le_of_ble_eq_true rfl⟩ rfl rfl (Nat.le_of_ble_eq_true rfl) ⟨Nat.le_of_ble_eq_true rfl, Nat.le_of_ble_eq_true rfl⟩ rfl (isGm D cI cG cL (fun i => match i with | 0 => h0 | 1 => a0 0 | 2 => a0 1 | 3 => a1 0 | 4 => a1 1 | 5 => a2 0 | 6 => a2 1 | 7 => a3 0 | 8 => a3 1 | 9 => a4 0 | 10 => a4 1 | 11 => a5 0 | 12 => a5 1 | 13 => a6 0 | _ => a6 1)).1 (ce0 (isGm D cI cG cL (fun i => match i with | 0 => h0 | 1 => a0 0 | 2 => a0 1 | 3 => a1 0 | 4 => a1 1 | 5 => a2 0 | 6 => a2 1 | 7 => a3 0 | 8 => a3 1 | 9 => a4 0 | 10 => a4 1 | 11 => a5 0 | 12 => a5 1 | 13 => a6 0 | _ => a6 1)).1 _ _) dX0_init_98 ?_
  exact k_vret X (fun i => match i with | 0 => h0 | 1 => a0 0 | 2 => a0 1 | 3 => a1 0 | 4 => a1 1 | 5 => a2 0 | 6 => a2 1 | 7 => a3 0 | 8 => a3 1 | 9 => a4 0 | 10 => a4 1 | 11 => a5 0 | 12 => a5 1 | 13 => a6 0 | _ => a6 1) rfl rfl hr (Nat.le_of_ble_eq_true rfl) (Nat.le_of_ble_eq_true rfl) dX0_init_101
set_option maxHeartbeats 4000000 in
set_option maxRecDepth 100000 in
theorem ciX5 (l : Launch) (D : va_G) (cI cG cL : ClassId) (h0 : Nat) : CI l yX5_init cX5_init 1 2 6 39 41 D cI cG cL [] h0 (.inr (5, nf5)) (w5 cI) := by
  refine ci_of (by decide) rfl (Nat.le_of_ble_eq_true rfl) (fun K A hKl X hr hnm => ?_)
  refine k_aload_n X dX5_init_0 0 rfl ?_
  refine k_objInit X q_3_16 q_1_8 q_1_9 dX5_init_1 (by decide) (Nat.le_of_ble_eq_true rfl) ?_
  refine k_aload_n X dX5_init_4 0 rfl ?_
  refine k_new (ci := 4) X nf4 inlX4 tyX4 tyX4_ok q_3_17 q_2_12 q_2_13 rfl nf4_ok (Nat.le_of_ble_eq_true rfl) (Nat.le_of_ble_eq_true rfl) dX5_init_5 (fun q0 => ?_)
  refine k_dup X dX5_init_8 rfl ?_
  refine k_bipush (v := (12 : Int32)) X dX5_init_9 (by decide) ?_
  refine k_init X (w := w4 cI 12) (As := [.int (12 : Int32)]) (st := [.ref q0, .ref h0]) (ciX4 (kl K) D cI cG cL q0 12 (by decide)) q_2_23 q_2_22 q_2_13 q_3_21 (by decide +kernel) rfl ⟨Nat.le_of_ble_eq_true rfl, Nat.le_of_ble_eq_true rfl⟩ rfl rfl (Nat.le_of_ble_eq_true rfl) ⟨Nat.le_of_ble_eq_true rfl, Nat.le_of_ble_eq_true rfl⟩ dX5_init_11 (fun a0 ha0 => ?_)
  refine k_ws (ws' := [(h0, .inr (5, [.null, .null, .null, .int 0, .int 0, .int 0]))] ++ w4 cI 12 a0) rfl ?_
  refine k_putF X inlX5 rfl 0 rfl 0 (by decide) q_3_18 tyX5 tyX5_ok nmX5 rfl rfl (Nat.le_of_ble_eq_true rfl) ([(h0, .inr (5, [.ref q0, .null, .null, .int 0, .int 0, .int 0]))] ++ w4 cI 12 a0) rfl hnm rfl rfl dX5_init_14 ?_
  refine k_aload_n X dX5_init_17 0 rfl ?_
  refine k_new (ci := 4) X nf4 inlX4 tyX4 tyX4_ok q_3_17 q_2_12 q_2_13 rfl nf4_ok (Nat.le_of_ble_eq_true rfl) (Nat.le_of_ble_eq_true rfl) dX5_init_18 (fun q1 => ?_)
  refine k_dup X dX5_init_21 rfl ?_
  refine k_bipush (v := (12 : Int32)) X dX5_init_22 (by decide) ?_
  refine k_init X (w := w4 cI 12) (As := [.int (12 : Int32)]) (st := [.ref q1, .ref h0]) (ciX4 (kl K) D cI cG cL q1 12 (by decide)) q_2_23 q_2_22 q_2_13 q_3_21 (by decide +kernel) rfl ⟨Nat.le_of_ble_eq_true rfl, Nat.le_of_ble_eq_true rfl⟩ rfl rfl (Nat.le_of_ble_eq_true rfl) ⟨Nat.le_of_ble_eq_true rfl, Nat.le_of_ble_eq_true rfl⟩ dX5_init_24 (fun a1 ha1 => ?_)
  refine k_ws (ws' := [(h0, .inr (5, [.ref q0, .null, .null, .int 0, .int 0, .int 0]))] ++ w4 cI 12 a0 ++ w4 cI 12 a1) rfl ?_
  refine k_putF X inlX5 rfl 0 rfl 1 (by decide) q_3_19 tyX5 tyX5_ok nmX5 rfl rfl (Nat.le_of_ble_eq_true rfl) ([(h0, .inr (5, [.ref q0, .ref q1, .null, .int 0, .int 0, .int 0]))] ++ w4 cI 12 a0 ++ w4 cI 12 a1) rfl hnm rfl rfl dX5_init_27 ?_
  refine k_aload_n X dX5_init_30 0 rfl ?_
  refine k_new (ci := 4) X nf4 inlX4 tyX4 tyX4_ok q_3_17 q_2_12 q_2_13 rfl nf4_ok (Nat.le_of_ble_eq_true rfl) (Nat.le_of_ble_eq_true rfl) dX5_init_31 (fun q2 => ?_)
  refine k_dup X dX5_init_34 rfl ?_
  refine k_bipush (v := (12 : Int32)) X dX5_init_35 (by decide) ?_
  refine k_init X (w := w4 cI 12) (As := [.int (12 : Int32)]) (st := [.ref q2, .ref h0]) (ciX4 (kl K) D cI cG cL q2 12 (by decide)) q_2_23 q_2_22 q_2_13 q_3_21 (by decide +kernel) rfl ⟨Nat.le_of_ble_eq_true rfl, Nat.le_of_ble_eq_true rfl⟩ rfl rfl (Nat.le_of_ble_eq_true rfl) ⟨Nat.le_of_ble_eq_true rfl, Nat.le_of_ble_eq_true rfl⟩ dX5_init_37 (fun a2 ha2 => ?_)
  refine k_ws (ws' := [(h0, .inr (5, [.ref q0, .ref q1, .null, .int 0, .int 0, .int 0]))] ++ w4 cI 12 a0 ++ w4 cI 12 a1 ++ w4 cI 12 a2) rfl ?_
  refine k_putF X inlX5 rfl 0 rfl 2 (by decide) q_3_20 tyX5 tyX5_ok nmX5 rfl rfl (Nat.le_of_ble_eq_true rfl) ([(h0, .inr (5, [.ref q0, .ref q1, .ref q2, .int 0, .int 0, .int 0]))] ++ w4 cI 12 a0 ++ w4 cI 12 a1 ++ w4 cI 12 a2) rfl hnm rfl rfl dX5_init_40 ?_
  subst ha0 ha1 ha2
  exact k_vret X (fun i => match i with | 0 => h0 | 1 => a0 0 | 2 => a0 1 | 3 => a1 0 | 4 => a1 1 | 5 => a2 0 | _ => a2 1) rfl rfl hr (Nat.le_of_ble_eq_true rfl) (Nat.le_of_ble_eq_true rfl) dX5_init_43
set_option maxHeartbeats 4000000 in
set_option maxRecDepth 100000 in
theorem ciX3 (l : Launch) (D : va_G) (cI cG cL : ClassId) (h0 : Nat) : CI l yX3_init cX3_init 1 2 4 8205 41 D cI cG cL [] h0 (.inr (3, nf3)) (w3 cI) := by
  refine ci_of (by decide) rfl (Nat.le_of_ble_eq_true rfl) (fun K A hKl X hr hnm => ?_)
  refine k_aload_n X dX3_init_0 0 rfl ?_
  refine k_objInit X q_4_0 q_1_8 q_1_9 dX3_init_1 (by decide) (Nat.le_of_ble_eq_true rfl) ?_
  refine k_aload_n X dX3_init_4 0 rfl ?_
  refine k_sipush (v := (4096 : Int32)) X dX3_init_5 (by decide) ?_
  refine k_newa X 4096 q_1_3 (by decide) (by decide) (by decide) (Nat.le_of_ble_eq_true rfl) (Nat.le_of_ble_eq_true rfl) dX3_init_8 (fun b0 => ?_)
  refine k_putF X inlX3 rfl 0 rfl 0 (by decide) q_4_1 tyX3 tyX3_ok nmX3 rfl rfl (Nat.le_of_ble_eq_true rfl) ([(h0, .inr (3, [.ref b0, .null, .null, .int 0, .int 0, .int 0, .int 0]))] ++ [(b0, .inl (cI, 4096, .inl (fun _ => 0)))]) rfl hnm rfl rfl dX3_init_10 ?_
  refine k_aload_n X dX3_init_13 0 rfl ?_
  refine k_sipush (v := (4096 : Int32)) X dX3_init_14 (by decide) ?_
  refine k_newa X 4096 q_1_3 (by decide) (by decide) (by decide) (Nat.le_of_ble_eq_true rfl) (Nat.le_of_ble_eq_true rfl) dX3_init_17 (fun b1 => ?_)
  refine k_putF X inlX3 rfl 0 rfl 1 (by decide) q_4_2 tyX3 tyX3_ok nmX3 rfl rfl (Nat.le_of_ble_eq_true rfl) ([(h0, .inr (3, [.ref b0, .ref b1, .null, .int 0, .int 0, .int 0, .int 0]))] ++ [(b0, .inl (cI, 4096, .inl (fun _ => 0)))] ++ [(b1, .inl (cI, 4096, .inl (fun _ => 0)))]) rfl hnm rfl rfl dX3_init_19 ?_
  refine k_aload_n X dX3_init_22 0 rfl ?_
  refine k_new (ci := 4) X nf4 inlX4 tyX4 tyX4_ok q_4_3 q_2_12 q_2_13 rfl nf4_ok (Nat.le_of_ble_eq_true rfl) (Nat.le_of_ble_eq_true rfl) dX3_init_23 (fun q0 => ?_)
  refine k_dup X dX3_init_26 rfl ?_
  refine k_bipush (v := (12 : Int32)) X dX3_init_27 (by decide) ?_
  refine k_init X (w := w4 cI 12) (As := [.int (12 : Int32)]) (st := [.ref q0, .ref h0]) (ciX4 (kl K) D cI cG cL q0 12 (by decide)) q_2_23 q_2_22 q_2_13 q_4_5 (by decide +kernel) rfl ⟨Nat.le_of_ble_eq_true rfl, Nat.le_of_ble_eq_true rfl⟩ rfl rfl (Nat.le_of_ble_eq_true rfl) ⟨Nat.le_of_ble_eq_true rfl, Nat.le_of_ble_eq_true rfl⟩ dX3_init_29 (fun a0 ha0 => ?_)
  refine k_ws (ws' := [(h0, .inr (3, [.ref b0, .ref b1, .null, .int 0, .int 0, .int 0, .int 0]))] ++ [(b0, .inl (cI, 4096, .inl (fun _ => 0)))] ++ [(b1, .inl (cI, 4096, .inl (fun _ => 0)))] ++ w4 cI 12 a0) rfl ?_
  refine k_putF X inlX3 rfl 0 rfl 2 (by decide) q_4_4 tyX3 tyX3_ok nmX3 rfl rfl (Nat.le_of_ble_eq_true rfl) ([(h0, .inr (3, [.ref b0, .ref b1, .ref q0, .int 0, .int 0, .int 0, .int 0]))] ++ [(b0, .inl (cI, 4096, .inl (fun _ => 0)))] ++ [(b1, .inl (cI, 4096, .inl (fun _ => 0)))] ++ w4 cI 12 a0) rfl hnm rfl rfl dX3_init_32 ?_
  subst ha0
  exact k_vret X (fun i => match i with | 0 => h0 | 1 => b0 | 2 => b1 | 3 => a0 0 | _ => a0 1) rfl rfl hr (Nat.le_of_ble_eq_true rfl) (Nat.le_of_ble_eq_true rfl) dX3_init_35
set_option maxHeartbeats 4000000 in
set_option maxRecDepth 100000 in
theorem ciX2 (l : Launch) (D : va_G) (cI cG cL : ClassId) (h0 : Nat) : CI l yX2_init cX2_init 1 2 2 101 41 D cI cG cL [] h0 (.inr (2, nf2)) (w2 cI) := by
  refine ci_of (by decide) rfl (Nat.le_of_ble_eq_true rfl) (fun K A hKl X hr hnm => ?_)
  refine k_aload_n X dX2_init_0 0 rfl ?_
  refine k_objInit X q_4_8 q_1_8 q_1_9 dX2_init_1 (by decide) (Nat.le_of_ble_eq_true rfl) ?_
  refine k_aload_n X dX2_init_4 0 rfl ?_
  refine k_new (ci := 4) X nf4 inlX4 tyX4 tyX4_ok q_4_9 q_2_12 q_2_13 rfl nf4_ok (Nat.le_of_ble_eq_true rfl) (Nat.le_of_ble_eq_true rfl) dX2_init_5 (fun q0 => ?_)
  refine k_dup X dX2_init_8 rfl ?_
  refine k_bipush (v := (100 : Int32)) X dX2_init_9 (by decide) ?_
  refine k_init X (w := w4 cI 100) (As := [.int (100 : Int32)]) (st := [.ref q0, .ref h0]) (ciX4 (kl K) D cI cG cL q0 100 (by decide)) q_2_23 q_2_22 q_2_13 q_4_12 (by decide +kernel) rfl ⟨Nat.le_of_ble_eq_true rfl, Nat.le_of_ble_eq_true rfl⟩ rfl rfl (Nat.le_of_ble_eq_true rfl) ⟨Nat.le_of_ble_eq_true rfl, Nat.le_of_ble_eq_true rfl⟩ dX2_init_11 (fun a0 ha0 => ?_)
  refine k_ws (ws' := [(h0, .inr (2, [.null, .int 0, .int 0, .int 0, .int 0, .int 0, .int 0, .int 0]))] ++ w4 cI 100 a0) rfl ?_
  refine k_putF X inlX2 rfl 0 rfl 0 (by decide) q_4_10 tyX2 tyX2_ok nmX2 rfl rfl (Nat.le_of_ble_eq_true rfl) ([(h0, .inr (2, [.ref q0, .int 0, .int 0, .int 0, .int 0, .int 0, .int 0, .int 0]))] ++ w4 cI 100 a0) rfl hnm rfl rfl dX2_init_14 ?_
  refine k_aload_n X dX2_init_17 0 rfl ?_
  refine k_iconst (v := (-1 : Int32)) X dX2_init_18 (by decide) ?_
  refine k_put X inlX2 rfl 0 rfl 3 (by decide) q_4_11 tyX2 tyX2_ok nmX2 rfl rfl (Nat.le_of_ble_eq_true rfl) ([(h0, .inr (2, [.ref q0, .int 0, .int 0, .int (-1), .int 0, .int 0, .int 0, .int 0]))] ++ w4 cI 100 a0) rfl rfl dX2_init_19 ?_
  subst ha0
  exact k_vret X (fun i => match i with | 0 => h0 | 1 => a0 0 | _ => a0 1) rfl rfl hr (Nat.le_of_ble_eq_true rfl) (Nat.le_of_ble_eq_true rfl) dX2_init_22
set_option maxHeartbeats 4000000 in
set_option maxRecDepth 100000 in
theorem ciX1 (l : Launch) (D : va_G) (cI cG cL : ClassId) (h0 : Nat) : CI l yX1_init cX1_init 2 3 61 972 63 D cI cG cL [] h0 (.inr (1, nf1)) (w1 D cI cG cL) := by
  refine ci_of (by decide) rfl (Nat.le_of_ble_eq_true rfl) (fun K A hKl X hr hnm => ?_)
  refine k_aload_n X dX1_init_0 0 rfl ?_
  refine k_objInit X q_4_16 q_1_8 q_1_9 dX1_init_1 (by decide) (Nat.le_of_ble_eq_true rfl) ?_
  refine k_aload_n X dX1_init_4 0 rfl ?_
  refine k_iconst (v := (4 : Int32)) X dX1_init_5 (by decide) ?_
  refine k_newq X 4 q_4_17 (by decide) (by decide) (by decide) (Nat.le_of_ble_eq_true rfl) (Nat.le_of_ble_eq_true rfl) dX1_init_6 (fun b0 => ?_)
  refine k_putF X inlX1 rfl 0 rfl 0 (by decide) q_4_18 tyX1 tyX1_ok nmX1 rfl rfl (Nat.le_of_ble_eq_true rfl) ([(h0, .inr (1, [.ref b0, .int 0, .int 0])), (b0, .inl (cG, 4, .inr (.inr (.inr (.inr (fun _ => none))))))]) rfl hnm rfl rfl dX1_init_9 ?_
  refine k_iconst (v := (0 : Int32)) X dX1_init_12 (by decide) ?_
  refine k_istore_n X [(1, .int (0 : Int32)), (0, .ref h0)] dX1_init_13 (by decide) rfl ?_
  refine k_iload_n X dX1_init_14 0 rfl ?_
  refine k_aload_n X dX1_init_15 1 rfl ?_
  refine k_get X inlX1 rfl 0 rfl 0 (by decide) q_4_18 (v := .ref b0) rfl dX1_init_16 ?_
  refine k_alenq X 1 rfl (v := (4 : Int32)) rfl dX1_init_19 ?_
  refine k_geF X 42 dX1_init_20 (by decide) (by decide) ?_
  refine k_aload_n X dX1_init_23 1 rfl ?_
  refine k_get X inlX1 rfl 0 rfl 0 (by decide) q_4_18 (v := .ref b0) rfl dX1_init_24 ?_
  refine k_iload_n X dX1_init_27 0 rfl ?_
  refine k_new (ci := 0) X nf0 inlX0 tyX0 tyX0_ok q_4_17 q_1_11 q_1_12 rfl nf0_ok (Nat.le_of_ble_eq_true rfl) (Nat.le_of_ble_eq_true rfl) dX1_init_28 (fun q0 => ?_)
  refine k_dup X dX1_init_31 rfl ?_
  refine k_init X (w := w0 D cI cG cL) (As := []) (st := [.ref q0, .int (0 : Int32), .ref b0]) (ciX0 (kl K) D cI cG cL q0) q_2_9 q_2_8 q_1_12 q_4_19 (by decide +kernel) rfl ⟨Nat.le_of_ble_eq_true rfl, Nat.le_of_ble_eq_true rfl⟩ rfl rfl (Nat.le_of_ble_eq_true rfl) ⟨Nat.le_of_ble_eq_true rfl, Nat.le_of_ble_eq_true rfl⟩ dX1_init_32 (fun a0 ha0 => ?_)
  subst ha0
  refine k_aast X (vs := _) (i := (0 : Int32)) 1 2 rfl rfl (vp_in_nI (n := 0) (by decide) (by decide)) ([(h0, .inr (1, [.ref b0, .int 0, .int 0])), (b0, .inl (cG, 4, .inr (.inr (.inr (.inr (va_up (fun _ => none) 0 (some (a0 0))))))))] ++ w0 D cI cG cL a0) rfl dX1_init_35 ?_
  refine k_iinc X (v := (1 : Int32)) [(1, .int (1 : Int32)), (0, .ref h0)] dX1_init_36 0 rfl (by decide) (by decide) rfl ?_
  refine k_goto X 14 dX1_init_39 (by decide) ?_
  refine k_iload_n X dX1_init_14 0 rfl ?_
  refine k_aload_n X dX1_init_15 1 rfl ?_
  refine k_get X inlX1 rfl 0 rfl 0 (by decide) q_4_18 (v := .ref b0) rfl dX1_init_16 ?_
  refine k_alenq X 1 rfl (v := (4 : Int32)) rfl dX1_init_19 ?_
  refine k_geF X 42 dX1_init_20 (by decide) (by decide) ?_
  refine k_aload_n X dX1_init_23 1 rfl ?_
  refine k_get X inlX1 rfl 0 rfl 0 (by decide) q_4_18 (v := .ref b0) rfl dX1_init_24 ?_
  refine k_iload_n X dX1_init_27 0 rfl ?_
  refine k_new (ci := 0) X nf0 inlX0 tyX0 tyX0_ok q_4_17 q_1_11 q_1_12 rfl nf0_ok (Nat.le_of_ble_eq_true rfl) (Nat.le_of_ble_eq_true rfl) dX1_init_28 (fun q1 => ?_)
  refine k_dup X dX1_init_31 rfl ?_
  refine k_init X (w := w0 D cI cG cL) (As := []) (st := [.ref q1, .int (1 : Int32), .ref b0]) (ciX0 (kl K) D cI cG cL q1) q_2_9 q_2_8 q_1_12 q_4_19 (by decide +kernel) rfl ⟨Nat.le_of_ble_eq_true rfl, Nat.le_of_ble_eq_true rfl⟩ rfl rfl (Nat.le_of_ble_eq_true rfl) ⟨Nat.le_of_ble_eq_true rfl, Nat.le_of_ble_eq_true rfl⟩ dX1_init_32 (fun a1 ha1 => ?_)
  subst ha1
  refine k_aast X (vs := _) (i := (1 : Int32)) 1 17 rfl rfl (vp_in_nI (n := 1) (by decide) (by decide)) ([(h0, .inr (1, [.ref b0, .int 0, .int 0])), (b0, .inl (cG, 4, .inr (.inr (.inr (.inr (va_up (va_up (fun _ => none) 0 (some (a0 0))) 1 (some (a1 0))))))))] ++ w0 D cI cG cL a0 ++ w0 D cI cG cL a1) rfl dX1_init_35 ?_
  refine k_iinc X (v := (2 : Int32)) [(1, .int (2 : Int32)), (0, .ref h0)] dX1_init_36 0 rfl (by decide) (by decide) rfl ?_
  refine k_goto X 14 dX1_init_39 (by decide) ?_
  refine k_iload_n X dX1_init_14 0 rfl ?_
  refine k_aload_n X dX1_init_15 1 rfl ?_
  refine k_get X inlX1 rfl 0 rfl 0 (by decide) q_4_18 (v := .ref b0) rfl dX1_init_16 ?_
  refine k_alenq X 1 rfl (v := (4 : Int32)) rfl dX1_init_19 ?_
  refine k_geF X 42 dX1_init_20 (by decide) (by decide) ?_
  refine k_aload_n X dX1_init_23 1 rfl ?_
  refine k_get X inlX1 rfl 0 rfl 0 (by decide) q_4_18 (v := .ref b0) rfl dX1_init_24 ?_
  refine k_iload_n X dX1_init_27 0 rfl ?_
  refine k_new (ci := 0) X nf0 inlX0 tyX0 tyX0_ok q_4_17 q_1_11 q_1_12 rfl nf0_ok (Nat.le_of_ble_eq_true rfl) (Nat.le_of_ble_eq_true rfl) dX1_init_28 (fun q2 => ?_)
  refine k_dup X dX1_init_31 rfl ?_
  refine k_init X (w := w0 D cI cG cL) (As := []) (st := [.ref q2, .int (2 : Int32), .ref b0]) (ciX0 (kl K) D cI cG cL q2) q_2_9 q_2_8 q_1_12 q_4_19 (by decide +kernel) rfl ⟨Nat.le_of_ble_eq_true rfl, Nat.le_of_ble_eq_true rfl⟩ rfl rfl (Nat.le_of_ble_eq_true rfl) ⟨Nat.le_of_ble_eq_true rfl, Nat.le_of_ble_eq_true rfl⟩ dX1_init_32 (fun a2 ha2 => ?_)
  subst ha2
  refine k_aast X (vs := _) (i := (2 : Int32)) 1 32 rfl rfl (vp_in_nI (n := 2) (by decide) (by decide)) ([(h0, .inr (1, [.ref b0, .int 0, .int 0])), (b0, .inl (cG, 4, .inr (.inr (.inr (.inr (va_up (va_up (va_up (fun _ => none) 0 (some (a0 0))) 1 (some (a1 0))) 2 (some (a2 0))))))))] ++ w0 D cI cG cL a0 ++ w0 D cI cG cL a1 ++ w0 D cI cG cL a2) rfl dX1_init_35 ?_
  refine k_iinc X (v := (3 : Int32)) [(1, .int (3 : Int32)), (0, .ref h0)] dX1_init_36 0 rfl (by decide) (by decide) rfl ?_
  refine k_goto X 14 dX1_init_39 (by decide) ?_
  refine k_iload_n X dX1_init_14 0 rfl ?_
  refine k_aload_n X dX1_init_15 1 rfl ?_
  refine k_get X inlX1 rfl 0 rfl 0 (by decide) q_4_18 (v := .ref b0) rfl dX1_init_16 ?_
  refine k_alenq X 1 rfl (v := (4 : Int32)) rfl dX1_init_19 ?_
  refine k_geF X 42 dX1_init_20 (by decide) (by decide) ?_
  refine k_aload_n X dX1_init_23 1 rfl ?_
  refine k_get X inlX1 rfl 0 rfl 0 (by decide) q_4_18 (v := .ref b0) rfl dX1_init_24 ?_
  refine k_iload_n X dX1_init_27 0 rfl ?_
  refine k_new (ci := 0) X nf0 inlX0 tyX0 tyX0_ok q_4_17 q_1_11 q_1_12 rfl nf0_ok (Nat.le_of_ble_eq_true rfl) (Nat.le_of_ble_eq_true rfl) dX1_init_28 (fun q3 => ?_)
  refine k_dup X dX1_init_31 rfl ?_
  refine k_init X (w := w0 D cI cG cL) (As := []) (st := [.ref q3, .int (3 : Int32), .ref b0]) (ciX0 (kl K) D cI cG cL q3) q_2_9 q_2_8 q_1_12 q_4_19 (by decide +kernel) rfl ⟨Nat.le_of_ble_eq_true rfl, Nat.le_of_ble_eq_true rfl⟩ rfl rfl (Nat.le_of_ble_eq_true rfl) ⟨Nat.le_of_ble_eq_true rfl, Nat.le_of_ble_eq_true rfl⟩ dX1_init_32 (fun a3 ha3 => ?_)
  subst ha3
  refine k_aast X (vs := _) (i := (3 : Int32)) 1 47 rfl rfl (vp_in_nI (n := 3) (by decide) (by decide)) ([(h0, .inr (1, [.ref b0, .int 0, .int 0])), (b0, .inl (cG, 4, .inr (.inr (.inr (.inr (va_up (va_up (va_up (va_up (fun _ => none) 0 (some (a0 0))) 1 (some (a1 0))) 2 (some (a2 0))) 3 (some (a3 0))))))))] ++ w0 D cI cG cL a0 ++ w0 D cI cG cL a1 ++ w0 D cI cG cL a2 ++ w0 D cI cG cL a3) rfl dX1_init_35 ?_
  refine k_iinc X (v := (4 : Int32)) [(1, .int (4 : Int32)), (0, .ref h0)] dX1_init_36 0 rfl (by decide) (by decide) rfl ?_
  refine k_goto X 14 dX1_init_39 (by decide) ?_
  refine k_iload_n X dX1_init_14 0 rfl ?_
  refine k_aload_n X dX1_init_15 1 rfl ?_
  refine k_get X inlX1 rfl 0 rfl 0 (by decide) q_4_18 (v := .ref b0) rfl dX1_init_16 ?_
  refine k_alenq X 1 rfl (v := (4 : Int32)) rfl dX1_init_19 ?_
  refine k_geT X 42 dX1_init_20 (by decide) (by decide) ?_
  refine k_vret X (acat 2 (fun i => match i with | 0 => h0 | _ => b0) (acat 15 a0 (acat 15 a1 (acat 15 a2 a3)))) rfl ?_ hr (Nat.le_of_ble_eq_true rfl) (Nat.le_of_ble_eq_true rfl) dX1_init_42
  unfold w1
  rw [w0_ext (a := fun i => (acat 2 (fun i => match i with | 0 => h0 | _ => b0) (acat 15 a0 (acat 15 a1 (acat 15 a2 a3)))) (2 + i)) (b := a0) (fun i hi => by show acat _ _ _ _ = _; rw [acat_hi, acat_lo (by omega)])]
  rw [w0_ext (a := fun i => (acat 2 (fun i => match i with | 0 => h0 | _ => b0) (acat 15 a0 (acat 15 a1 (acat 15 a2 a3)))) (17 + i)) (b := a1) (fun i hi => by show acat _ _ _ _ = _; rw [show 17 + i = 2 + (15 + i) by omega, acat_hi, acat_hi, acat_lo (by omega)])]
  rw [w0_ext (a := fun i => (acat 2 (fun i => match i with | 0 => h0 | _ => b0) (acat 15 a0 (acat 15 a1 (acat 15 a2 a3)))) (32 + i)) (b := a2) (fun i hi => by show acat _ _ _ _ = _; rw [show 32 + i = 2 + (15 + (15 + i)) by omega, acat_hi, acat_hi, acat_hi, acat_lo (by omega)])]
  rw [w0_ext (a := fun i => (acat 2 (fun i => match i with | 0 => h0 | _ => b0) (acat 15 a0 (acat 15 a1 (acat 15 a2 a3)))) (47 + i)) (b := a3) (fun i hi => by show acat _ _ _ _ = _; rw [show 47 + i = 2 + (15 + (15 + (15 + i))) by omega, acat_hi, acat_hi, acat_hi, acat_hi])]
  rfl
set_option maxHeartbeats 4000000 in
set_option maxRecDepth 100000 in
theorem ciX6 (l : Launch) (D : va_G) (cI cG cL : ClassId) (h0 : Nat) : CI l yX6_init cX6_init 1 4 107 9825 84 D cI cG cL [] h0 (.inr (6, nf6)) (w6 D cI cG cL) := by
  refine ci_of (by decide) rfl (Nat.le_of_ble_eq_true rfl) (fun K A hKl X hr hnm => ?_)
  refine k_aload_n X dX6_init_0 0 rfl ?_
  refine k_objInit X q_1_7 q_1_8 q_1_9 dX6_init_1 (by decide) (Nat.le_of_ble_eq_true rfl) ?_
  refine k_aload_n X dX6_init_4 0 rfl ?_
  refine k_new (ci := 0) X nf0 inlX0 tyX0 tyX0_ok q_1_10 q_1_11 q_1_12 rfl nf0_ok (Nat.le_of_ble_eq_true rfl) (Nat.le_of_ble_eq_true rfl) dX6_init_5 (fun q0 => ?_)
  refine k_dup X dX6_init_8 rfl ?_
  refine k_init X (w := w0 D cI cG cL) (As := []) (st := [.ref q0, .ref h0]) (ciX0 (kl K) D cI cG cL q0) q_2_9 q_2_8 q_1_12 q_2_7 (by decide +kernel) rfl ⟨Nat.le_of_ble_eq_true rfl, Nat.le_of_ble_eq_true rfl⟩ rfl rfl (Nat.le_of_ble_eq_true rfl) ⟨Nat.le_of_ble_eq_true rfl, Nat.le_of_ble_eq_true rfl⟩ dX6_init_9 (fun a0 ha0 => ?_)
  subst ha0
  refine k_putF X inlX6 rfl 0 rfl 0 (by decide) q_1_13 tyX6 tyX6_ok nmX6 rfl rfl (Nat.le_of_ble_eq_true rfl) ([(h0, .inr (6, [.ref (a0 0), .null, .null, .null, .null, .null]))] ++ w0 D cI cG cL a0) rfl hnm rfl rfl dX6_init_12 ?_
  refine k_aload_n X dX6_init_15 0 rfl ?_
  refine k_new (ci := 0) X nf0 inlX0 tyX0 tyX0_ok q_1_10 q_1_11 q_1_12 rfl nf0_ok (Nat.le_of_ble_eq_true rfl) (Nat.le_of_ble_eq_true rfl) dX6_init_16 (fun q1 => ?_)
  refine k_dup X dX6_init_19 rfl ?_
  refine k_init X (w := w0 D cI cG cL) (As := []) (st := [.ref q1, .ref h0]) (ciX0 (kl K) D cI cG cL q1) q_2_9 q_2_8 q_1_12 q_2_7 (by decide +kernel) rfl ⟨Nat.le_of_ble_eq_true rfl, Nat.le_of_ble_eq_true rfl⟩ rfl rfl (Nat.le_of_ble_eq_true rfl) ⟨Nat.le_of_ble_eq_true rfl, Nat.le_of_ble_eq_true rfl⟩ dX6_init_20 (fun a1 ha1 => ?_)
  subst ha1
  refine k_putF X inlX6 rfl 0 rfl 1 (by decide) q_1_14 tyX6 tyX6_ok nmX6 rfl rfl (Nat.le_of_ble_eq_true rfl) ([(h0, .inr (6, [.ref (a0 0), .ref (a1 0), .null, .null, .null, .null]))] ++ w0 D cI cG cL a0 ++ w0 D cI cG cL a1) rfl hnm rfl rfl dX6_init_23 ?_
  refine k_aload_n X dX6_init_26 0 rfl ?_
  refine k_new (ci := 5) X nf5 inlX5 tyX5 tyX5_ok q_1_15 q_1_16 q_1_17 rfl nf5_ok (Nat.le_of_ble_eq_true rfl) (Nat.le_of_ble_eq_true rfl) dX6_init_27 (fun q2 => ?_)
  refine k_dup X dX6_init_30 rfl ?_
  refine k_initN X (w := w5 cI) (As := []) (st := [.ref q2, .ref h0]) (ciX5 (kl K) D cI cG cL q2) q_3_15 q_3_14 q_1_17 n_25 (by decide +kernel) rfl ⟨Nat.le_of_ble_eq_true rfl, Nat.le_of_ble_eq_true rfl⟩ rfl rfl (Nat.le_of_ble_eq_true rfl) ⟨Nat.le_of_ble_eq_true rfl, Nat.le_of_ble_eq_true rfl⟩ dX6_init_31 (fun a2 ha2 => ?_)
  subst ha2
  refine k_putF X inlX6 rfl 0 rfl 2 (by decide) q_1_18 tyX6 tyX6_ok nmX6 rfl rfl (Nat.le_of_ble_eq_true rfl) ([(h0, .inr (6, [.ref (a0 0), .ref (a1 0), .ref (a2 0), .null, .null, .null]))] ++ w0 D cI cG cL a0 ++ w0 D cI cG cL a1 ++ w5 cI a2) rfl hnm rfl rfl dX6_init_34 ?_
  refine k_aload_n X dX6_init_37 0 rfl ?_
  refine k_new (ci := 3) X nf3 inlX3 tyX3 tyX3_ok q_1_19 q_1_20 q_1_21 rfl nf3_ok (Nat.le_of_ble_eq_true rfl) (Nat.le_of_ble_eq_true rfl) dX6_init_38 (fun q3 => ?_)
  refine k_dup X dX6_init_41 rfl ?_
  refine k_initN X (w := w3 cI) (As := []) (st := [.ref q3, .ref h0]) (ciX3 (kl K) D cI cG cL q3) q_3_23 q_3_22 q_1_21 n_26 (by decide +kernel) rfl ⟨Nat.le_of_ble_eq_true rfl, Nat.le_of_ble_eq_true rfl⟩ rfl rfl (Nat.le_of_ble_eq_true rfl) ⟨Nat.le_of_ble_eq_true rfl, Nat.le_of_ble_eq_true rfl⟩ dX6_init_42 (fun a3 ha3 => ?_)
  subst ha3
  refine k_putF X inlX6 rfl 0 rfl 3 (by decide) q_1_22 tyX6 tyX6_ok nmX6 rfl rfl (Nat.le_of_ble_eq_true rfl) ([(h0, .inr (6, [.ref (a0 0), .ref (a1 0), .ref (a2 0), .ref (a3 0), .null, .null]))] ++ w0 D cI cG cL a0 ++ w0 D cI cG cL a1 ++ w5 cI a2 ++ w3 cI a3) rfl hnm rfl rfl dX6_init_45 ?_
  refine k_aload_n X dX6_init_48 0 rfl ?_
  refine k_new (ci := 2) X nf2 inlX2 tyX2 tyX2_ok q_1_23 q_2_0 q_2_1 rfl nf2_ok (Nat.le_of_ble_eq_true rfl) (Nat.le_of_ble_eq_true rfl) dX6_init_49 (fun q4 => ?_)
  refine k_dup X dX6_init_52 rfl ?_
  refine k_initN X (w := w2 cI) (As := []) (st := [.ref q4, .ref h0]) (ciX2 (kl K) D cI cG cL q4) q_4_7 q_4_6 q_2_1 n_27 (by decide +kernel) rfl ⟨Nat.le_of_ble_eq_true rfl, Nat.le_of_ble_eq_true rfl⟩ rfl rfl (Nat.le_of_ble_eq_true rfl) ⟨Nat.le_of_ble_eq_true rfl, Nat.le_of_ble_eq_true rfl⟩ dX6_init_53 (fun a4 ha4 => ?_)
  subst ha4
  refine k_putF X inlX6 rfl 0 rfl 4 (by decide) q_2_2 tyX6 tyX6_ok nmX6 rfl rfl (Nat.le_of_ble_eq_true rfl) ([(h0, .inr (6, [.ref (a0 0), .ref (a1 0), .ref (a2 0), .ref (a3 0), .ref (a4 0), .null]))] ++ w0 D cI cG cL a0 ++ w0 D cI cG cL a1 ++ w5 cI a2 ++ w3 cI a3 ++ w2 cI a4) rfl hnm rfl rfl dX6_init_56 ?_
  refine k_aload_n X dX6_init_59 0 rfl ?_
  refine k_new (ci := 1) X nf1 inlX1 tyX1 tyX1_ok q_2_3 q_2_4 q_2_5 rfl nf1_ok (Nat.le_of_ble_eq_true rfl) (Nat.le_of_ble_eq_true rfl) dX6_init_60 (fun q5 => ?_)
  refine k_dup X dX6_init_63 rfl ?_
  refine k_init X (w := w1 D cI cG cL) (As := []) (st := [.ref q5, .ref h0]) (ciX1 (kl K) D cI cG cL q5) q_4_15 q_4_14 q_2_5 q_4_13 (by decide +kernel) rfl ⟨Nat.le_of_ble_eq_true rfl, Nat.le_of_ble_eq_true rfl⟩ rfl rfl (Nat.le_of_ble_eq_true rfl) ⟨Nat.le_of_ble_eq_true rfl, Nat.le_of_ble_eq_true rfl⟩ dX6_init_64 (fun a5 ha5 => ?_)
  subst ha5
  refine k_putF X inlX6 rfl 0 rfl 5 (by decide) q_2_6 tyX6 tyX6_ok nmX6 rfl rfl (Nat.le_of_ble_eq_true rfl) ([(h0, .inr (6, [.ref (a0 0), .ref (a1 0), .ref (a2 0), .ref (a3 0), .ref (a4 0), .ref (a5 0)]))] ++ w0 D cI cG cL a0 ++ w0 D cI cG cL a1 ++ w5 cI a2 ++ w3 cI a3 ++ w2 cI a4 ++ w1 D cI cG cL a5) rfl hnm rfl rfl dX6_init_67 ?_
  refine k_vret X (acat 1 (fun _ => h0) (acat 15 a0 (acat 15 a1 (acat 7 a2 (acat 5 a3 (acat 3 a4 a5)))))) rfl ?_ hr (Nat.le_of_ble_eq_true rfl) (Nat.le_of_ble_eq_true rfl) dX6_init_70
  unfold w6
  rw [w0_ext (a := fun i => (acat 1 (fun _ => h0) (acat 15 a0 (acat 15 a1 (acat 7 a2 (acat 5 a3 (acat 3 a4 a5)))))) (1 + i)) (b := a0) (fun i hi => by show acat _ _ _ _ = _; rw [acat_hi, acat_lo (by omega)])]
  rw [w0_ext (a := fun i => (acat 1 (fun _ => h0) (acat 15 a0 (acat 15 a1 (acat 7 a2 (acat 5 a3 (acat 3 a4 a5)))))) (16 + i)) (b := a1) (fun i hi => by show acat _ _ _ _ = _; rw [show 16 + i = 1 + (15 + i) by omega, acat_hi, acat_hi, acat_lo (by omega)])]
  rw [w5_ext (a := fun i => (acat 1 (fun _ => h0) (acat 15 a0 (acat 15 a1 (acat 7 a2 (acat 5 a3 (acat 3 a4 a5)))))) (31 + i)) (b := a2) (fun i hi => by show acat _ _ _ _ = _; rw [show 31 + i = 1 + (15 + (15 + i)) by omega, acat_hi, acat_hi, acat_hi, acat_lo (by omega)])]
  rw [w3_ext (a := fun i => (acat 1 (fun _ => h0) (acat 15 a0 (acat 15 a1 (acat 7 a2 (acat 5 a3 (acat 3 a4 a5)))))) (38 + i)) (b := a3) (fun i hi => by show acat _ _ _ _ = _; rw [show 38 + i = 1 + (15 + (15 + (7 + i))) by omega, acat_hi, acat_hi, acat_hi, acat_hi, acat_lo (by omega)])]
  rw [w2_ext (a := fun i => (acat 1 (fun _ => h0) (acat 15 a0 (acat 15 a1 (acat 7 a2 (acat 5 a3 (acat 3 a4 a5)))))) (43 + i)) (b := a4) (fun i hi => by show acat _ _ _ _ = _; rw [show 43 + i = 1 + (15 + (15 + (7 + (5 + i)))) by omega, acat_hi, acat_hi, acat_hi, acat_hi, acat_hi, acat_lo (by omega)])]
  rw [w1_ext (a := fun i => (acat 1 (fun _ => h0) (acat 15 a0 (acat 15 a1 (acat 7 a2 (acat 5 a3 (acat 3 a4 a5)))))) (46 + i)) (b := a5) (fun i hi => by show acat _ _ _ _ = _; rw [show 46 + i = 1 + (15 + (15 + (7 + (5 + (3 + i))))) by omega, acat_hi, acat_hi, acat_hi, acat_hi, acat_hi, acat_hi])]
  rfl
