/-! ===== the law's cases ===== -/
abbrev aN (K : MCx) : Nat → Prop := fun q => (ks K).heap.size ≤ q
abbrev lv5 (b : Nat) (ga ma : Nat → Nat) (t : Int32) : List (Nat × Value) := [(0, .ref b), (1, .ref (ga 107)), (2, .ref (ma 0)), (3, .ref (ga 108)), (4, .int t)]
theorem q_5_14 : Cond.methodLink RL 76 yL_begin ∈ wsL_law := seg_5 _ (List.mem_of_getElem? (i := 14) rfl)
theorem q_5_15 : Cond.static yL_begin ∈ wsL_law := seg_5 _ (List.mem_of_getElem? (i := 15) rfl)
theorem q_5_16 : Cond.initialized RL ∈ wsL_law := seg_5 _ (List.mem_of_getElem? (i := 16) rfl)
theorem q_5_17 : Cond.codeWith yL_begin cL_begin 4 (some .int) [(0, 9, 12, 13)] ∈ wsL_law := seg_5 _ (List.mem_of_getElem? (i := 17) rfl)
theorem q_7_1 : Cond.methodLink RL 81 yX7_begin ∈ wsL_law := seg_7 _ (List.mem_of_getElem? (i := 1) rfl)
theorem q_7_2 : Cond.instanceMethod yX7_begin ∈ wsL_law := seg_7 _ (List.mem_of_getElem? (i := 2) rfl)
theorem q_7_3 : Cond.selects RX7 yX7_begin yX7_begin ∈ wsL_law := seg_7 _ (List.mem_of_getElem? (i := 3) rfl)
theorem q_7_4 : Cond.code yX7_begin cX7_begin 3 (some .int) ∈ wsL_law := seg_7 _ (List.mem_of_getElem? (i := 4) rfl)
theorem q_7_19 : Cond.methodLink RL 82 yX7_thrown ∈ wsL_law := seg_7 _ (List.mem_of_getElem? (i := 19) rfl)
theorem q_7_20 : Cond.instanceMethod yX7_thrown ∈ wsL_law := seg_7 _ (List.mem_of_getElem? (i := 20) rfl)
theorem q_7_21 : Cond.selects RX7 yX7_thrown yX7_thrown ∈ wsL_law := seg_7 _ (List.mem_of_getElem? (i := 21) rfl)
theorem q_7_22 : Cond.code yX7_thrown cX7_thrown 1 (some .int) ∈ wsL_law := seg_7 _ (List.mem_of_getElem? (i := 22) rfl)
theorem q_7_23 : Cond.methodLink RL 85 yL_add ∈ wsL_law := seg_7 _ (List.mem_of_getElem? (i := 23) rfl)
theorem q_8_0 : Cond.static yL_add ∈ wsL_law := seg_8 _ (List.mem_of_getElem? (i := 0) rfl)
theorem q_8_1 : Cond.codeWith yL_add cL_add 5 (some .int) [(0, 10, 13, 19), (0, 10, 17, 13), (0, 10, 21, 21)] ∈ wsL_law := seg_8 _ (List.mem_of_getElem? (i := 1) rfl)
theorem q_9_19 : Cond.methodLink RL 88 yX7_add ∈ wsL_law := seg_9 _ (List.mem_of_getElem? (i := 19) rfl)
theorem q_9_20 : Cond.instanceMethod yX7_add ∈ wsL_law := seg_9 _ (List.mem_of_getElem? (i := 20) rfl)
theorem q_9_21 : Cond.selects RX7 yX7_add yX7_add ∈ wsL_law := seg_9 _ (List.mem_of_getElem? (i := 21) rfl)
theorem q_9_22 : Cond.code yX7_add cX7_add 3 (some .int) ∈ wsL_law := seg_9 _ (List.mem_of_getElem? (i := 22) rfl)
theorem q_10_19 : Cond.methodLink RL 89 yL_remove ∈ wsL_law := seg_10 _ (List.mem_of_getElem? (i := 19) rfl)
theorem q_10_20 : Cond.static yL_remove ∈ wsL_law := seg_10 _ (List.mem_of_getElem? (i := 20) rfl)
theorem q_10_21 : Cond.codeWith yL_remove cL_remove 4 (some .int) [(0, 9, 12, 26)] ∈ wsL_law := seg_10 _ (List.mem_of_getElem? (i := 21) rfl)
theorem q_11_21 : Cond.methodLink RL 91 yX7_remove ∈ wsL_law := seg_11 _ (List.mem_of_getElem? (i := 21) rfl)
theorem q_11_22 : Cond.instanceMethod yX7_remove ∈ wsL_law := seg_11 _ (List.mem_of_getElem? (i := 22) rfl)
theorem q_11_23 : Cond.selects RX7 yX7_remove yX7_remove ∈ wsL_law := seg_11 _ (List.mem_of_getElem? (i := 23) rfl)
theorem q_12_0 : Cond.code yX7_remove cX7_remove 2 (some .int) ∈ wsL_law := seg_12 _ (List.mem_of_getElem? (i := 0) rfl)
theorem q_12_13 : Cond.methodLink RL 92 yL_turn ∈ wsL_law := seg_12 _ (List.mem_of_getElem? (i := 13) rfl)
theorem q_12_14 : Cond.static yL_turn ∈ wsL_law := seg_12 _ (List.mem_of_getElem? (i := 14) rfl)
theorem q_12_15 : Cond.codeWith yL_turn cL_turn 4 (some .int) [(0, 9, 12, 26)] ∈ wsL_law := seg_12 _ (List.mem_of_getElem? (i := 15) rfl)
theorem q_13_0 : Cond.methodLink RL 94 yX7_turn ∈ wsL_law := seg_13 _ (List.mem_of_getElem? (i := 0) rfl)
theorem q_13_1 : Cond.instanceMethod yX7_turn ∈ wsL_law := seg_13 _ (List.mem_of_getElem? (i := 1) rfl)
theorem q_13_2 : Cond.selects RX7 yX7_turn yX7_turn ∈ wsL_law := seg_13 _ (List.mem_of_getElem? (i := 2) rfl)
theorem q_13_3 : Cond.code yX7_turn cX7_turn 3 (some .int) ∈ wsL_law := seg_13 _ (List.mem_of_getElem? (i := 3) rfl)
theorem q_13_8 : Cond.methodLink RL 95 yL_relieve ∈ wsL_law := seg_13 _ (List.mem_of_getElem? (i := 8) rfl)
theorem q_13_9 : Cond.static yL_relieve ∈ wsL_law := seg_13 _ (List.mem_of_getElem? (i := 9) rfl)
theorem q_13_10 : Cond.codeWith yL_relieve cL_relieve 4 (some .int) [(0, 9, 12, 19), (0, 9, 15, 21)] ∈ wsL_law := seg_13 _ (List.mem_of_getElem? (i := 10) rfl)
theorem q_15_1 : Cond.methodLink RL 97 yX7_relieve ∈ wsL_law := seg_15 _ (List.mem_of_getElem? (i := 1) rfl)
theorem q_15_2 : Cond.instanceMethod yX7_relieve ∈ wsL_law := seg_15 _ (List.mem_of_getElem? (i := 2) rfl)
theorem q_15_3 : Cond.selects RX7 yX7_relieve yX7_relieve ∈ wsL_law := seg_15 _ (List.mem_of_getElem? (i := 3) rfl)
theorem q_15_4 : Cond.code yX7_relieve cX7_relieve 2 (some .int) ∈ wsL_law := seg_15 _ (List.mem_of_getElem? (i := 4) rfl)
theorem q_16_3 : Cond.methodLink RL 98 yX6_balance ∈ wsL_law := seg_16 _ (List.mem_of_getElem? (i := 3) rfl)
theorem q_16_4 : Cond.instanceMethod yX6_balance ∈ wsL_law := seg_16 _ (List.mem_of_getElem? (i := 4) rfl)
theorem q_16_5 : Cond.selects RX6 yX6_balance yX6_balance ∈ wsL_law := seg_16 _ (List.mem_of_getElem? (i := 5) rfl)
theorem q_16_6 : Cond.code yX6_balance cX6_balance 1 (some .int) ∈ wsL_law := seg_16 _ (List.mem_of_getElem? (i := 6) rfl)
theorem q_17_2 : Cond.methodLink RL 101 yX7_balance ∈ wsL_law := seg_17 _ (List.mem_of_getElem? (i := 2) rfl)
theorem q_17_3 : Cond.instanceMethod yX7_balance ∈ wsL_law := seg_17 _ (List.mem_of_getElem? (i := 3) rfl)
theorem q_17_4 : Cond.selects RX7 yX7_balance yX7_balance ∈ wsL_law := seg_17 _ (List.mem_of_getElem? (i := 4) rfl)
theorem q_17_5 : Cond.code yX7_balance cX7_balance 1 (some .int) ∈ wsL_law := seg_17 _ (List.mem_of_getElem? (i := 5) rfl)
theorem q_17_14 : Cond.methodLink RL 102 yL_setCapacity ∈ wsL_law := seg_17 _ (List.mem_of_getElem? (i := 14) rfl)
theorem q_17_15 : Cond.static yL_setCapacity ∈ wsL_law := seg_17 _ (List.mem_of_getElem? (i := 15) rfl)
theorem q_17_16 : Cond.codeWith yL_setCapacity cL_setCapacity 5 (some .int) [(0, 10, 13, 19), (0, 10, 17, 13)] ∈ wsL_law := seg_17 _ (List.mem_of_getElem? (i := 16) rfl)
theorem q_17_23 : Cond.methodLink RL 104 yX7_setCapacity ∈ wsL_law := seg_17 _ (List.mem_of_getElem? (i := 23) rfl)
theorem q_18_0 : Cond.instanceMethod yX7_setCapacity ∈ wsL_law := seg_18 _ (List.mem_of_getElem? (i := 0) rfl)
theorem q_18_1 : Cond.selects RX7 yX7_setCapacity yX7_setCapacity ∈ wsL_law := seg_18 _ (List.mem_of_getElem? (i := 1) rfl)
theorem q_18_2 : Cond.code yX7_setCapacity cX7_setCapacity 3 (some .int) ∈ wsL_law := seg_18 _ (List.mem_of_getElem? (i := 2) rfl)
theorem q_18_11 : Cond.methodLink RL 105 yL_node ∈ wsL_law := seg_18 _ (List.mem_of_getElem? (i := 11) rfl)
theorem q_18_12 : Cond.static yL_node ∈ wsL_law := seg_18 _ (List.mem_of_getElem? (i := 12) rfl)
theorem q_18_13 : Cond.codeWith yL_node cL_node 5 (some .int) [(0, 10, 13, 19), (0, 10, 17, 13)] ∈ wsL_law := seg_18 _ (List.mem_of_getElem? (i := 13) rfl)
theorem q_19_13 : Cond.methodLink RL 107 yX7_node ∈ wsL_law := seg_19 _ (List.mem_of_getElem? (i := 13) rfl)
theorem q_19_14 : Cond.instanceMethod yX7_node ∈ wsL_law := seg_19 _ (List.mem_of_getElem? (i := 14) rfl)
theorem q_19_15 : Cond.selects RX7 yX7_node yX7_node ∈ wsL_law := seg_19 _ (List.mem_of_getElem? (i := 15) rfl)
theorem q_19_16 : Cond.code yX7_node cX7_node 3 (some .int) ∈ wsL_law := seg_19 _ (List.mem_of_getElem? (i := 16) rfl)
theorem q_20_8 : Cond.methodLink RL 108 yL_edge ∈ wsL_law := seg_20 _ (List.mem_of_getElem? (i := 8) rfl)
theorem q_20_9 : Cond.static yL_edge ∈ wsL_law := seg_20 _ (List.mem_of_getElem? (i := 9) rfl)
theorem q_20_10 : Cond.codeWith yL_edge cL_edge 5 (some .int) [(0, 10, 13, 26), (0, 10, 17, 13)] ∈ wsL_law := seg_20 _ (List.mem_of_getElem? (i := 10) rfl)
theorem q_20_15 : Cond.methodLink RL 110 yX7_edge ∈ wsL_law := seg_20 _ (List.mem_of_getElem? (i := 15) rfl)
theorem q_20_16 : Cond.instanceMethod yX7_edge ∈ wsL_law := seg_20 _ (List.mem_of_getElem? (i := 16) rfl)
theorem q_20_17 : Cond.selects RX7 yX7_edge yX7_edge ∈ wsL_law := seg_20 _ (List.mem_of_getElem? (i := 17) rfl)
theorem q_20_18 : Cond.code yX7_edge cX7_edge 3 (some .int) ∈ wsL_law := seg_20 _ (List.mem_of_getElem? (i := 18) rfl)
theorem q_20_23 : Cond.methodLink RL 111 yL_edgeAt ∈ wsL_law := seg_20 _ (List.mem_of_getElem? (i := 23) rfl)
theorem q_21_0 : Cond.static yL_edgeAt ∈ wsL_law := seg_21 _ (List.mem_of_getElem? (i := 0) rfl)
theorem q_21_1 : Cond.codeWith yL_edgeAt cL_edgeAt 4 (some .int) [(0, 9, 12, 19)] ∈ wsL_law := seg_21 _ (List.mem_of_getElem? (i := 1) rfl)
theorem q_21_6 : Cond.methodLink RL 113 yX7_edgeAt ∈ wsL_law := seg_21 _ (List.mem_of_getElem? (i := 6) rfl)
theorem q_21_7 : Cond.instanceMethod yX7_edgeAt ∈ wsL_law := seg_21 _ (List.mem_of_getElem? (i := 7) rfl)
theorem q_21_8 : Cond.selects RX7 yX7_edgeAt yX7_edgeAt ∈ wsL_law := seg_21 _ (List.mem_of_getElem? (i := 8) rfl)
theorem q_21_9 : Cond.code yX7_edgeAt cX7_edgeAt 2 (some .int) ∈ wsL_law := seg_21 _ (List.mem_of_getElem? (i := 9) rfl)
theorem q_21_10 : Cond.methodLink RL 114 yL_value ∈ wsL_law := seg_21 _ (List.mem_of_getElem? (i := 10) rfl)
theorem q_21_11 : Cond.static yL_value ∈ wsL_law := seg_21 _ (List.mem_of_getElem? (i := 11) rfl)
theorem q_21_12 : Cond.codeWith yL_value cL_value 4 (some .int) [(0, 9, 12, 13)] ∈ wsL_law := seg_21 _ (List.mem_of_getElem? (i := 12) rfl)
theorem q_22_7 : Cond.methodLink RL 116 yX7_value ∈ wsL_law := seg_22 _ (List.mem_of_getElem? (i := 7) rfl)
theorem q_22_8 : Cond.instanceMethod yX7_value ∈ wsL_law := seg_22 _ (List.mem_of_getElem? (i := 8) rfl)
theorem q_22_9 : Cond.selects RX7 yX7_value yX7_value ∈ wsL_law := seg_22 _ (List.mem_of_getElem? (i := 9) rfl)
theorem q_22_10 : Cond.code yX7_value cX7_value 2 (some .int) ∈ wsL_law := seg_22 _ (List.mem_of_getElem? (i := 10) rfl)
theorem q_22_15 : Cond.methodLink RL 117 yL_path ∈ wsL_law := seg_22 _ (List.mem_of_getElem? (i := 15) rfl)
theorem q_22_16 : Cond.static yL_path ∈ wsL_law := seg_22 _ (List.mem_of_getElem? (i := 16) rfl)
theorem q_22_17 : Cond.codeWith yL_path cL_path 5 (some .int) [(0, 10, 13, 19)] ∈ wsL_law := seg_22 _ (List.mem_of_getElem? (i := 17) rfl)
theorem q_22_23 : Cond.methodLink RL 119 yX7_path ∈ wsL_law := seg_22 _ (List.mem_of_getElem? (i := 23) rfl)
theorem q_23_0 : Cond.instanceMethod yX7_path ∈ wsL_law := seg_23 _ (List.mem_of_getElem? (i := 0) rfl)
theorem q_23_1 : Cond.selects RX7 yX7_path yX7_path ∈ wsL_law := seg_23 _ (List.mem_of_getElem? (i := 1) rfl)
theorem q_23_2 : Cond.code yX7_path cX7_path 3 (some .int) ∈ wsL_law := seg_23 _ (List.mem_of_getElem? (i := 2) rfl)
theorem q_23_11 : Cond.methodLink RL 120 yL_step ∈ wsL_law := seg_23 _ (List.mem_of_getElem? (i := 11) rfl)
theorem q_23_12 : Cond.static yL_step ∈ wsL_law := seg_23 _ (List.mem_of_getElem? (i := 12) rfl)
theorem q_23_13 : Cond.codeWith yL_step cL_step 6 (some .int) [(0, 12, 15, 19)] ∈ wsL_law := seg_23 _ (List.mem_of_getElem? (i := 13) rfl)
theorem q_23_22 : Cond.methodLink RL 123 yX7_step ∈ wsL_law := seg_23 _ (List.mem_of_getElem? (i := 22) rfl)
theorem q_23_23 : Cond.instanceMethod yX7_step ∈ wsL_law := seg_23 _ (List.mem_of_getElem? (i := 23) rfl)
theorem q_24_0 : Cond.selects RX7 yX7_step yX7_step ∈ wsL_law := seg_24 _ (List.mem_of_getElem? (i := 0) rfl)
theorem q_24_1 : Cond.code yX7_step cX7_step 6 (some .int) ∈ wsL_law := seg_24 _ (List.mem_of_getElem? (i := 1) rfl)
theorem q_24_2 : Cond.methodLink RL 124 yL_inner ∈ wsL_law := seg_24 _ (List.mem_of_getElem? (i := 2) rfl)
theorem q_24_3 : Cond.static yL_inner ∈ wsL_law := seg_24 _ (List.mem_of_getElem? (i := 3) rfl)
theorem q_24_4 : Cond.codeWith yL_inner cL_inner 4 (some .int) [(0, 9, 12, 13)] ∈ wsL_law := seg_24 _ (List.mem_of_getElem? (i := 4) rfl)
theorem q_24_13 : Cond.methodLink RL 126 yX7_inner ∈ wsL_law := seg_24 _ (List.mem_of_getElem? (i := 13) rfl)
theorem q_24_14 : Cond.instanceMethod yX7_inner ∈ wsL_law := seg_24 _ (List.mem_of_getElem? (i := 14) rfl)
theorem q_24_15 : Cond.selects RX7 yX7_inner yX7_inner ∈ wsL_law := seg_24 _ (List.mem_of_getElem? (i := 15) rfl)
theorem q_24_16 : Cond.code yX7_inner cX7_inner 2 (some .int) ∈ wsL_law := seg_24 _ (List.mem_of_getElem? (i := 16) rfl)
theorem q_24_21 : Cond.methodLink RL 127 yX6_densest ∈ wsL_law := seg_24 _ (List.mem_of_getElem? (i := 21) rfl)
theorem q_26_9 : Cond.methodLink RL 130 yX7_densest ∈ wsL_law := seg_26 _ (List.mem_of_getElem? (i := 9) rfl)
theorem q_26_17 : Cond.methodLink RL 131 yX6_least ∈ wsL_law := seg_26 _ (List.mem_of_getElem? (i := 17) rfl)
theorem q_26_21 : Cond.methodLink RL 134 yX7_least ∈ wsL_law := seg_26 _ (List.mem_of_getElem? (i := 21) rfl)
theorem q_27_5 : Cond.methodLink RL 135 yX6_tooDense ∈ wsL_law := seg_27 _ (List.mem_of_getElem? (i := 5) rfl)
theorem q_27_13 : Cond.methodLink RL 138 yX7_tooDense ∈ wsL_law := seg_27 _ (List.mem_of_getElem? (i := 13) rfl)
theorem q_27_17 : Cond.methodLink RL 139 yL_leastWith ∈ wsL_law := seg_27 _ (List.mem_of_getElem? (i := 17) rfl)
theorem q_27_18 : Cond.static yL_leastWith ∈ wsL_law := seg_27 _ (List.mem_of_getElem? (i := 18) rfl)
theorem q_27_19 : Cond.codeWith yL_leastWith cL_leastWith 5 (some .int) [(0, 10, 13, 19), (0, 10, 17, 13)] ∈ wsL_law := seg_27 _ (List.mem_of_getElem? (i := 19) rfl)
theorem q_28_4 : Cond.methodLink RL 141 yX7_leastWith ∈ wsL_law := seg_28 _ (List.mem_of_getElem? (i := 4) rfl)
theorem q_28_5 : Cond.instanceMethod yX7_leastWith ∈ wsL_law := seg_28 _ (List.mem_of_getElem? (i := 5) rfl)
theorem q_28_6 : Cond.selects RX7 yX7_leastWith yX7_leastWith ∈ wsL_law := seg_28 _ (List.mem_of_getElem? (i := 6) rfl)
theorem q_28_7 : Cond.code yX7_leastWith cX7_leastWith 3 (some .int) ∈ wsL_law := seg_28 _ (List.mem_of_getElem? (i := 7) rfl)
theorem q_28_8 : Cond.methodLink RL 142 yL_leastWithout ∈ wsL_law := seg_28 _ (List.mem_of_getElem? (i := 8) rfl)
theorem q_28_9 : Cond.static yL_leastWithout ∈ wsL_law := seg_28 _ (List.mem_of_getElem? (i := 9) rfl)
theorem q_28_10 : Cond.codeWith yL_leastWithout cL_leastWithout 4 (some .int) [(0, 9, 12, 26)] ∈ wsL_law := seg_28 _ (List.mem_of_getElem? (i := 10) rfl)
theorem q_28_16 : Cond.methodLink RL 144 yX7_leastWithout ∈ wsL_law := seg_28 _ (List.mem_of_getElem? (i := 16) rfl)
theorem q_28_17 : Cond.instanceMethod yX7_leastWithout ∈ wsL_law := seg_28 _ (List.mem_of_getElem? (i := 17) rfl)
theorem q_28_18 : Cond.selects RX7 yX7_leastWithout yX7_leastWithout ∈ wsL_law := seg_28 _ (List.mem_of_getElem? (i := 18) rfl)
theorem q_28_19 : Cond.code yX7_leastWithout cX7_leastWithout 2 (some .int) ∈ wsL_law := seg_28 _ (List.mem_of_getElem? (i := 19) rfl)
theorem q_28_20 : Cond.methodLink RL 145 yX6_critical ∈ wsL_law := seg_28 _ (List.mem_of_getElem? (i := 20) rfl)
theorem q_28_21 : Cond.instanceMethod yX6_critical ∈ wsL_law := seg_28 _ (List.mem_of_getElem? (i := 21) rfl)
theorem q_28_22 : Cond.selects RX6 yX6_critical yX6_critical ∈ wsL_law := seg_28 _ (List.mem_of_getElem? (i := 22) rfl)
theorem q_28_23 : Cond.code yX6_critical cX6_critical 2 (some .int) ∈ wsL_law := seg_28 _ (List.mem_of_getElem? (i := 23) rfl)
theorem q_29_8 : Cond.methodLink RL 148 yX7_critical ∈ wsL_law := seg_29 _ (List.mem_of_getElem? (i := 8) rfl)
theorem q_29_9 : Cond.instanceMethod yX7_critical ∈ wsL_law := seg_29 _ (List.mem_of_getElem? (i := 9) rfl)
theorem q_29_10 : Cond.selects RX7 yX7_critical yX7_critical ∈ wsL_law := seg_29 _ (List.mem_of_getElem? (i := 10) rfl)
theorem q_29_11 : Cond.code yX7_critical cX7_critical 3 (some .int) ∈ wsL_law := seg_29 _ (List.mem_of_getElem? (i := 11) rfl)
theorem q_29_12 : Cond.methodLink RL 149 yX6_turnsToBalance ∈ wsL_law := seg_29 _ (List.mem_of_getElem? (i := 12) rfl)
theorem q_29_13 : Cond.instanceMethod yX6_turnsToBalance ∈ wsL_law := seg_29 _ (List.mem_of_getElem? (i := 13) rfl)
theorem q_29_14 : Cond.selects RX6 yX6_turnsToBalance yX6_turnsToBalance ∈ wsL_law := seg_29 _ (List.mem_of_getElem? (i := 14) rfl)
theorem q_29_15 : Cond.code yX6_turnsToBalance cX6_turnsToBalance 1 (some .int) ∈ wsL_law := seg_29 _ (List.mem_of_getElem? (i := 15) rfl)
theorem q_29_17 : Cond.methodLink RL 152 yX7_turnsToBalance ∈ wsL_law := seg_29 _ (List.mem_of_getElem? (i := 17) rfl)
theorem q_29_18 : Cond.instanceMethod yX7_turnsToBalance ∈ wsL_law := seg_29 _ (List.mem_of_getElem? (i := 18) rfl)
theorem q_29_19 : Cond.selects RX7 yX7_turnsToBalance yX7_turnsToBalance ∈ wsL_law := seg_29 _ (List.mem_of_getElem? (i := 19) rfl)
theorem q_29_20 : Cond.code yX7_turnsToBalance cX7_turnsToBalance 2 (some .int) ∈ wsL_law := seg_29 _ (List.mem_of_getElem? (i := 20) rfl)
theorem q_30_5 : Cond.methodLink RL 153 yX6_leastCapacity ∈ wsL_law := seg_30 _ (List.mem_of_getElem? (i := 5) rfl)
theorem q_30_6 : Cond.instanceMethod yX6_leastCapacity ∈ wsL_law := seg_30 _ (List.mem_of_getElem? (i := 6) rfl)
theorem q_30_7 : Cond.selects RX6 yX6_leastCapacity yX6_leastCapacity ∈ wsL_law := seg_30 _ (List.mem_of_getElem? (i := 7) rfl)
theorem q_30_8 : Cond.code yX6_leastCapacity cX6_leastCapacity 1 (some .int) ∈ wsL_law := seg_30 _ (List.mem_of_getElem? (i := 8) rfl)
theorem q_30_9 : Cond.methodLink RL 156 yX7_leastCapacity ∈ wsL_law := seg_30 _ (List.mem_of_getElem? (i := 9) rfl)
theorem q_30_10 : Cond.instanceMethod yX7_leastCapacity ∈ wsL_law := seg_30 _ (List.mem_of_getElem? (i := 10) rfl)
theorem q_30_11 : Cond.selects RX7 yX7_leastCapacity yX7_leastCapacity ∈ wsL_law := seg_30 _ (List.mem_of_getElem? (i := 11) rfl)
theorem q_30_12 : Cond.code yX7_leastCapacity cX7_leastCapacity 1 (some .int) ∈ wsL_law := seg_30 _ (List.mem_of_getElem? (i := 12) rfl)
theorem q_30_14 : Cond.methodLink RL 157 yX6_density ∈ wsL_law := seg_30 _ (List.mem_of_getElem? (i := 14) rfl)
theorem q_30_15 : Cond.instanceMethod yX6_density ∈ wsL_law := seg_30 _ (List.mem_of_getElem? (i := 15) rfl)
theorem q_30_16 : Cond.selects RX6 yX6_density yX6_density ∈ wsL_law := seg_30 _ (List.mem_of_getElem? (i := 16) rfl)
theorem q_30_17 : Cond.code yX6_density cX6_density 2 (some .double) ∈ wsL_law := seg_30 _ (List.mem_of_getElem? (i := 17) rfl)
theorem q_30_18 : Cond.methodLink RL 161 yX7_density ∈ wsL_law := seg_30 _ (List.mem_of_getElem? (i := 18) rfl)
theorem q_30_19 : Cond.instanceMethod yX7_density ∈ wsL_law := seg_30 _ (List.mem_of_getElem? (i := 19) rfl)
theorem q_30_20 : Cond.selects RX7 yX7_density yX7_density ∈ wsL_law := seg_30 _ (List.mem_of_getElem? (i := 20) rfl)
theorem q_30_21 : Cond.code yX7_density cX7_density 2 (some .double) ∈ wsL_law := seg_30 _ (List.mem_of_getElem? (i := 21) rfl)
theorem q_30_22 : Cond.methodLink RL 162 yL_append ∈ wsL_law := seg_30 _ (List.mem_of_getElem? (i := 22) rfl)
theorem q_30_23 : Cond.static yL_append ∈ wsL_law := seg_30 _ (List.mem_of_getElem? (i := 23) rfl)
theorem q_31_0 : Cond.codeWith yL_append cL_append 4 (some .int) [(0, 9, 12, 13), (0, 9, 15, 21)] ∈ wsL_law := seg_31 _ (List.mem_of_getElem? (i := 0) rfl)
theorem q_31_11 : Cond.methodLink RL 164 yX7_append ∈ wsL_law := seg_31 _ (List.mem_of_getElem? (i := 11) rfl)
theorem q_31_12 : Cond.instanceMethod yX7_append ∈ wsL_law := seg_31 _ (List.mem_of_getElem? (i := 12) rfl)
theorem q_31_13 : Cond.selects RX7 yX7_append yX7_append ∈ wsL_law := seg_31 _ (List.mem_of_getElem? (i := 13) rfl)
theorem q_31_14 : Cond.code yX7_append cX7_append 2 (some .int) ∈ wsL_law := seg_31 _ (List.mem_of_getElem? (i := 14) rfl)
theorem q_31_16 : Cond.methodLink RL 165 yX6_clearText ∈ wsL_law := seg_31 _ (List.mem_of_getElem? (i := 16) rfl)
theorem q_31_17 : Cond.instanceMethod yX6_clearText ∈ wsL_law := seg_31 _ (List.mem_of_getElem? (i := 17) rfl)
theorem q_31_18 : Cond.selects RX6 yX6_clearText yX6_clearText ∈ wsL_law := seg_31 _ (List.mem_of_getElem? (i := 18) rfl)
theorem q_31_19 : Cond.code yX6_clearText cX6_clearText 1 (some .int) ∈ wsL_law := seg_31 _ (List.mem_of_getElem? (i := 19) rfl)
theorem q_32_0 : Cond.methodLink RL 168 yX7_clearText ∈ wsL_law := seg_32 _ (List.mem_of_getElem? (i := 0) rfl)
theorem q_32_1 : Cond.instanceMethod yX7_clearText ∈ wsL_law := seg_32 _ (List.mem_of_getElem? (i := 1) rfl)
theorem q_32_2 : Cond.selects RX7 yX7_clearText yX7_clearText ∈ wsL_law := seg_32 _ (List.mem_of_getElem? (i := 2) rfl)
theorem q_32_3 : Cond.code yX7_clearText cX7_clearText 2 (some .int) ∈ wsL_law := seg_32 _ (List.mem_of_getElem? (i := 3) rfl)
theorem q_32_4 : Cond.methodLink RL 169 yX6_carryOut ∈ wsL_law := seg_32 _ (List.mem_of_getElem? (i := 4) rfl)
theorem q_32_5 : Cond.instanceMethod yX6_carryOut ∈ wsL_law := seg_32 _ (List.mem_of_getElem? (i := 5) rfl)
theorem q_32_6 : Cond.selects RX6 yX6_carryOut yX6_carryOut ∈ wsL_law := seg_32 _ (List.mem_of_getElem? (i := 6) rfl)
theorem q_32_7 : Cond.code yX6_carryOut cX6_carryOut 3 (some .int) ∈ wsL_law := seg_32 _ (List.mem_of_getElem? (i := 7) rfl)
theorem q_34_21 : Cond.methodLink RL 172 yX7_carryOut ∈ wsL_law := seg_34 _ (List.mem_of_getElem? (i := 21) rfl)
theorem q_34_22 : Cond.instanceMethod yX7_carryOut ∈ wsL_law := seg_34 _ (List.mem_of_getElem? (i := 22) rfl)
theorem q_34_23 : Cond.selects RX7 yX7_carryOut yX7_carryOut ∈ wsL_law := seg_34 _ (List.mem_of_getElem? (i := 23) rfl)
theorem q_35_0 : Cond.code yX7_carryOut cX7_carryOut 3 (some .int) ∈ wsL_law := seg_35 _ (List.mem_of_getElem? (i := 0) rfl)
theorem q_36_2 : Cond.methodLink RL 173 yL_undo ∈ wsL_law := seg_36 _ (List.mem_of_getElem? (i := 2) rfl)
theorem q_36_3 : Cond.static yL_undo ∈ wsL_law := seg_36 _ (List.mem_of_getElem? (i := 3) rfl)
theorem q_36_4 : Cond.codeWith yL_undo cL_undo 3 (some .int) [(0, 8, 11, 21)] ∈ wsL_law := seg_36 _ (List.mem_of_getElem? (i := 4) rfl)
theorem q_36_13 : Cond.methodLink RL 176 yX7_undo ∈ wsL_law := seg_36 _ (List.mem_of_getElem? (i := 13) rfl)
theorem q_36_14 : Cond.instanceMethod yX7_undo ∈ wsL_law := seg_36 _ (List.mem_of_getElem? (i := 14) rfl)
theorem q_36_15 : Cond.selects RX7 yX7_undo yX7_undo ∈ wsL_law := seg_36 _ (List.mem_of_getElem? (i := 15) rfl)
theorem q_36_16 : Cond.code yX7_undo cX7_undo 2 (some .int) ∈ wsL_law := seg_36 _ (List.mem_of_getElem? (i := 16) rfl)
theorem q_36_17 : Cond.methodLink RL 177 yX6_digest ∈ wsL_law := seg_36 _ (List.mem_of_getElem? (i := 17) rfl)
theorem q_36_18 : Cond.instanceMethod yX6_digest ∈ wsL_law := seg_36 _ (List.mem_of_getElem? (i := 18) rfl)
theorem q_36_19 : Cond.selects RX6 yX6_digest yX6_digest ∈ wsL_law := seg_36 _ (List.mem_of_getElem? (i := 19) rfl)
theorem q_36_20 : Cond.code yX6_digest cX6_digest 6 (some .long) ∈ wsL_law := seg_36 _ (List.mem_of_getElem? (i := 20) rfl)
theorem q_37_8 : Cond.methodLink RL 181 yX7_digest ∈ wsL_law := seg_37 _ (List.mem_of_getElem? (i := 8) rfl)
theorem q_37_9 : Cond.instanceMethod yX7_digest ∈ wsL_law := seg_37 _ (List.mem_of_getElem? (i := 9) rfl)
theorem q_37_10 : Cond.selects RX7 yX7_digest yX7_digest ∈ wsL_law := seg_37 _ (List.mem_of_getElem? (i := 10) rfl)
theorem q_37_11 : Cond.code yX7_digest cX7_digest 3 (some .long) ∈ wsL_law := seg_37 _ (List.mem_of_getElem? (i := 11) rfl)
theorem cal_X7_begin : Cal yX7_begin RX7 cX7_begin 3 (some .int) 1 := ⟨q_7_4, q_7_2, q_7_3, q_1_5, by decide +kernel⟩
theorem cal_X7_thrown : Cal yX7_thrown RX7 cX7_thrown 1 (some .int) 0 := ⟨q_7_22, q_7_20, q_7_21, q_1_5, by decide +kernel⟩
theorem cal_X7_add : Cal yX7_add RX7 cX7_add 3 (some .int) 2 := ⟨q_9_22, q_9_20, q_9_21, q_1_5, by decide +kernel⟩
theorem cal_X7_remove : Cal yX7_remove RX7 cX7_remove 2 (some .int) 1 := ⟨q_12_0, q_11_22, q_11_23, q_1_5, by decide +kernel⟩
theorem cal_X7_turn : Cal yX7_turn RX7 cX7_turn 3 (some .int) 1 := ⟨q_13_3, q_13_1, q_13_2, q_1_5, by decide +kernel⟩
theorem cal_X7_relieve : Cal yX7_relieve RX7 cX7_relieve 2 (some .int) 1 := ⟨q_15_4, q_15_2, q_15_3, q_1_5, by decide +kernel⟩
theorem cal_X6_balance : Cal yX6_balance RX6 cX6_balance 1 (some .int) 0 := ⟨q_16_6, q_16_4, q_16_5, q_1_2, by decide +kernel⟩
theorem cal_X7_balance : Cal yX7_balance RX7 cX7_balance 1 (some .int) 0 := ⟨q_17_5, q_17_3, q_17_4, q_1_5, by decide +kernel⟩
theorem cal_X7_setCapacity : Cal yX7_setCapacity RX7 cX7_setCapacity 3 (some .int) 2 := ⟨q_18_2, q_18_0, q_18_1, q_1_5, by decide +kernel⟩
theorem cal_X7_node : Cal yX7_node RX7 cX7_node 3 (some .int) 2 := ⟨q_19_16, q_19_14, q_19_15, q_1_5, by decide +kernel⟩
theorem cal_X7_edge : Cal yX7_edge RX7 cX7_edge 3 (some .int) 2 := ⟨q_20_18, q_20_16, q_20_17, q_1_5, by decide +kernel⟩
theorem cal_X7_edgeAt : Cal yX7_edgeAt RX7 cX7_edgeAt 2 (some .int) 1 := ⟨q_21_9, q_21_7, q_21_8, q_1_5, by decide +kernel⟩
theorem cal_X7_value : Cal yX7_value RX7 cX7_value 2 (some .int) 1 := ⟨q_22_10, q_22_8, q_22_9, q_1_5, by decide +kernel⟩
theorem cal_X7_path : Cal yX7_path RX7 cX7_path 3 (some .int) 2 := ⟨q_23_2, q_23_0, q_23_1, q_1_5, by decide +kernel⟩
theorem cal_X7_step : Cal yX7_step RX7 cX7_step 6 (some .int) 3 := ⟨q_24_1, q_23_23, q_24_0, q_1_5, by decide +kernel⟩
theorem cal_X7_inner : Cal yX7_inner RX7 cX7_inner 2 (some .int) 1 := ⟨q_24_16, q_24_14, q_24_15, q_1_5, by decide +kernel⟩
theorem cal_X7_leastWith : Cal yX7_leastWith RX7 cX7_leastWith 3 (some .int) 2 := ⟨q_28_7, q_28_5, q_28_6, q_1_5, by decide +kernel⟩
theorem cal_X7_leastWithout : Cal yX7_leastWithout RX7 cX7_leastWithout 2 (some .int) 1 := ⟨q_28_19, q_28_17, q_28_18, q_1_5, by decide +kernel⟩
theorem cal_X6_critical : Cal yX6_critical RX6 cX6_critical 2 (some .int) 0 := ⟨q_28_23, q_28_21, q_28_22, q_1_2, by decide +kernel⟩
theorem cal_X7_critical : Cal yX7_critical RX7 cX7_critical 3 (some .int) 0 := ⟨q_29_11, q_29_9, q_29_10, q_1_5, by decide +kernel⟩
theorem cal_X6_turnsToBalance : Cal yX6_turnsToBalance RX6 cX6_turnsToBalance 1 (some .int) 0 := ⟨q_29_15, q_29_13, q_29_14, q_1_2, by decide +kernel⟩
theorem cal_X7_turnsToBalance : Cal yX7_turnsToBalance RX7 cX7_turnsToBalance 2 (some .int) 0 := ⟨q_29_20, q_29_18, q_29_19, q_1_5, by decide +kernel⟩
theorem cal_X6_leastCapacity : Cal yX6_leastCapacity RX6 cX6_leastCapacity 1 (some .int) 0 := ⟨q_30_8, q_30_6, q_30_7, q_1_2, by decide +kernel⟩
theorem cal_X7_leastCapacity : Cal yX7_leastCapacity RX7 cX7_leastCapacity 1 (some .int) 0 := ⟨q_30_12, q_30_10, q_30_11, q_1_5, by decide +kernel⟩
theorem cal_X6_density : Cal yX6_density RX6 cX6_density 2 (some .double) 0 := ⟨q_30_17, q_30_15, q_30_16, q_1_2, by decide +kernel⟩
theorem cal_X7_density : Cal yX7_density RX7 cX7_density 2 (some .double) 0 := ⟨q_30_21, q_30_19, q_30_20, q_1_5, by decide +kernel⟩
theorem cal_X7_append : Cal yX7_append RX7 cX7_append 2 (some .int) 1 := ⟨q_31_14, q_31_12, q_31_13, q_1_5, by decide +kernel⟩
theorem cal_X6_clearText : Cal yX6_clearText RX6 cX6_clearText 1 (some .int) 0 := ⟨q_31_19, q_31_17, q_31_18, q_1_2, by decide +kernel⟩
theorem cal_X7_clearText : Cal yX7_clearText RX7 cX7_clearText 2 (some .int) 0 := ⟨q_32_3, q_32_1, q_32_2, q_1_5, by decide +kernel⟩
theorem cal_X6_carryOut : Cal yX6_carryOut RX6 cX6_carryOut 3 (some .int) 0 := ⟨q_32_7, q_32_5, q_32_6, q_1_2, by decide +kernel⟩
theorem cal_X7_carryOut : Cal yX7_carryOut RX7 cX7_carryOut 3 (some .int) 0 := ⟨q_35_0, q_34_22, q_34_23, q_1_5, by decide +kernel⟩
theorem cal_X7_undo : Cal yX7_undo RX7 cX7_undo 2 (some .int) 0 := ⟨q_36_16, q_36_14, q_36_15, q_1_5, by decide +kernel⟩
theorem cal_X6_digest : Cal yX6_digest RX6 cX6_digest 6 (some .long) 0 := ⟨q_36_20, q_36_18, q_36_19, q_1_2, by decide +kernel⟩
theorem cal_X7_digest : Cal yX7_digest RX7 cX7_digest 3 (some .long) 0 := ⟨q_37_11, q_37_9, q_37_10, q_1_5, by decide +kernel⟩
def gL_c0 (Nf : Nat) (x1 : Int32) (x2 : Int32) (x3 : Int32) (h : Int64) (σ : cS) (hm : Int64) (τ : cS) : Option (Int64 × cS × Int64 × cS) := (fL_begin (lCt ()) Nf h σ 107 x1).bind (fun r1 => (fX7_begin (lMt ()) Nf τ 0 x1).bind (fun r2 => (fX7_thrown r2.2 0).bind (fun r3 => grd (decide (r3 = r1.1)) (if r1.1 = 0 then grd (decide (r1.2.1 = (r2.1).toInt64)) (some (r1.2.1, r1.2.2, hm, r2.2)) else some (r1.2.1, r1.2.2, hm, r2.2)))))
set_option maxHeartbeats 4000000 in
set_option maxRecDepth 100000 in
theorem jL_c0 {K : MCx} {D : va_G} {cI cG cL : ClassId} {b L : Nat} {xs : Nat → Int32} {Q : State → Prop} (X : Cy K D cI cG cL (aN K) RL cL_law 9 11 601024 7293034 390) (hX : va_X b L xs (ks K) (ks K).heap) (hbl : b < (ks K).heap.size) (hsx : ∀ G : Lay, (∀ q, FA G q → (ks K).heap.size ≤ q) → SX G (ks K) (ks K).heap) (hfl : (kl K).stackTraces = false) (ga ma : Nat → Nat) (Nf : Nat) {h : Int64} {σ : cS} {hm : Int64} {τ : cS} {t : Int32} {cn sn : Nat} (hcn : cn + 1 ≤ 601024 ∧ sn + 6 ≤ 7293034) (x1 : Int32) (x2 : Int32) (x3 : Int32) (hx1 : vp_in (t + 1) L ∧ xs (t + 1).toNatClampNeg = x1) (hx2 : vp_in (t + 2) L ∧ xs (t + 2).toNatClampNeg = x2) (hx3 : vp_in (t + 3) L ∧ xs (t + 3).toNatClampNeg = x3) (r : Int64 × cS × Int64 × cS) (hr : gL_c0 Nf x1 x2 x3 h σ hm τ = some r) (hk : Sk K D (aN K) Q 9 1372 (lv5 b ga ma t) [] (wd (Gc D cI cG cL ga) r.1 r.2.1 ++ wd (Mm D cI cG cL ma) r.2.2.1 r.2.2.2) (cn + 1) (sn + 6)) : Sk K D (aN K) Q 9 164 (lv5 b ga ma t) [] (wd (Gc D cI cG cL ga) h σ ++ wd (Mm D cI cG cL ma) hm τ) cn sn := by
  unfold gL_c0 at hr
  obtain ⟨r1, e1, hr⟩ := Option.bind_eq_some_iff.mp hr
  obtain ⟨r2, e2, hr⟩ := Option.bind_eq_some_iff.mp hr
  obtain ⟨r3, e3, hr⟩ := Option.bind_eq_some_iff.mp hr
  obtain ⟨e8, hr⟩ := grd_some hr
  have e8 := of_decide_eq_true e8
  refine k_aload_n X dL_law_164 1 rfl ?_
  refine k_arg X hX hbl (Nat.not_le.mpr hbl) 0 4 rfl rfl dL_law_165 dL_law_166 dL_law_168 (by decide) dL_law_169 dL_law_170 hx1 ?_
  refine k_aload_n X dL_law_171 3 rfl ?_
  refine j_callH (n := 3) (o := (some (.int r1.1), r1.2.1, r1.2.2)) (st := []) X [.ref (ga 107), .int x1, .ref (ga 108)] ⟨rfl, rfl⟩ (hsx _) (fun _ z => z) (fun hi => hL_begin (kl K) hfl (Gc D cI cG cL ga) hi Nf h σ 107 (isEHc D cI cG cL ga) 108 (isOutc D cI cG cL ga) x1 r1 e1) q_5_17 q_5_15 q_5_16 q_5_14 (by decide +kernel) ⟨Nat.le_of_ble_eq_true rfl, Nat.le_of_ble_eq_true rfl⟩ rfl rfl (Nat.le_of_ble_eq_true rfl) hcn dL_law_172 rfl ?_
  refine k_istore X [(5, .int r1.1), (0, .ref b), (1, .ref (ga 107)), (2, .ref (ma 0)), (3, .ref (ga 108)), (4, .int t)] dL_law_175 (by decide) rfl ?_
  refine k_aload_n X dL_law_177 3 rfl ?_
  refine k_arg X hX hbl (Nat.not_le.mpr hbl) 1 5 rfl rfl dL_law_178 dL_law_179 dL_law_181 (by decide) dL_law_182 dL_law_183 hx1 ?_
  refine j_callM (o := (some (.int r2.1), hm, r2.2)) (st := []) X [.int x1] 0 ⟨rfl, rfl⟩ (fun hi => ctX7_begin (kl K) (Mm D cI cG cL ma) hi Nf hm τ 0 (isMm D cI cG cL ma) x1 r2 e2) cal_X7_begin q_7_1 ⟨Nat.le_of_ble_eq_true rfl, Nat.le_of_ble_eq_true rfl⟩ rfl rfl (Nat.le_of_ble_eq_true rfl) hcn rfl (isMm D cI cG cL ma).1 (ce7 (isMm D cI cG cL ma).1 _ _) dL_law_184 rfl ?_
  refine k_istore X [(6, .int r2.1), (5, .int r1.1), (0, .ref b), (1, .ref (ga 107)), (2, .ref (ma 0)), (3, .ref (ga 108)), (4, .int t)] dL_law_187 (by decide) rfl ?_
  refine k_aload_n X dL_law_189 4 rfl ?_
  refine j_callM (o := (some (.int r3), hm, r2.2)) (st := []) X [] 0 ⟨rfl, rfl⟩ (fun hi => ctX7_thrown (kl K) (Mm D cI cG cL ma) hi hm r2.2 0 (isMm D cI cG cL ma) r3 e3) cal_X7_thrown q_7_19 ⟨Nat.le_of_ble_eq_true rfl, Nat.le_of_ble_eq_true rfl⟩ rfl rfl (Nat.le_of_ble_eq_true rfl) hcn rfl (isMm D cI cG cL ma).1 (ce7 (isMm D cI cG cL ma).1 _ _) dL_law_190 rfl ?_
  refine k_iload X dL_law_193 1 rfl ?_
  refine k_iceqT X 200 dL_law_195 (by decide) e8 ?_
  refine k_iload X dL_law_200 1 rfl ?_
  by_cases e0 : r1.1 = 0
  · rw [if_pos e0] at hr
    obtain ⟨e9, hr⟩ := grd_some hr
    have e9 := of_decide_eq_true e9
    obtain rfl := Option.some.inj hr
    refine k_ifneF X 217 dL_law_202 (by decide) e0 ?_
    refine k_aload_n X dL_law_205 5 rfl ?_
    refine k_iconst (v := (0 : Int32)) X dL_law_206 (by decide) ?_
    refine k_laload X 108 ⟨rfl, rfl⟩ (isOutc D cI cG cL ga) rfl dL_law_207 ?_
    refine k_iload X dL_law_208 0 rfl ?_
    refine k_i2l X dL_law_210 ?_
    refine k_lcmp X dL_law_211 ?_
    refine k_ifeqT X 217 dL_law_212 (by decide) (lg_eq e9) ?_
    refine k_goto X 1372 dL_law_217 (by decide) ?_
    refine k_sub [2, 3, 4, 5, 6] rfl ?_
    exact hk
  · rw [if_neg e0] at hr
    obtain rfl := Option.some.inj hr
    refine k_ifneT X 217 dL_law_202 (by decide) e0 ?_
    refine k_goto X 1372 dL_law_217 (by decide) ?_
    refine k_sub [2, 3, 4, 5, 6] rfl ?_
    exact hk
def gL_c1 (Nf : Nat) (x1 : Int32) (x2 : Int32) (x3 : Int32) (h : Int64) (σ : cS) (hm : Int64) (τ : cS) : Option (Int64 × cS × Int64 × cS) := (fL_add (lCt ()) Nf h σ 107 x1 x2).bind (fun r1 => (fX7_add (lMt ()) Nf τ 0 x1 x2).bind (fun r2 => (fX7_thrown r2.2 0).bind (fun r3 => grd (decide (r3 = r1.1)) (if r1.1 = 0 then grd (decide (r1.2.1 = (r2.1).toInt64)) (some (r1.2.1, r1.2.2, hm, r2.2)) else some (r1.2.1, r1.2.2, hm, r2.2)))))
set_option maxHeartbeats 4000000 in
set_option maxRecDepth 100000 in
theorem jL_c1 {K : MCx} {D : va_G} {cI cG cL : ClassId} {b L : Nat} {xs : Nat → Int32} {Q : State → Prop} (X : Cy K D cI cG cL (aN K) RL cL_law 9 11 601024 7293034 390) (hX : va_X b L xs (ks K) (ks K).heap) (hbl : b < (ks K).heap.size) (hsx : ∀ G : Lay, (∀ q, FA G q → (ks K).heap.size ≤ q) → SX G (ks K) (ks K).heap) (hfl : (kl K).stackTraces = false) (ga ma : Nat → Nat) (Nf : Nat) {h : Int64} {σ : cS} {hm : Int64} {τ : cS} {t : Int32} {cn sn : Nat} (hcn : cn + 1 ≤ 601024 ∧ sn + 6 ≤ 7293034) (x1 : Int32) (x2 : Int32) (x3 : Int32) (hx1 : vp_in (t + 1) L ∧ xs (t + 1).toNatClampNeg = x1) (hx2 : vp_in (t + 2) L ∧ xs (t + 2).toNatClampNeg = x2) (hx3 : vp_in (t + 3) L ∧ xs (t + 3).toNatClampNeg = x3) (r : Int64 × cS × Int64 × cS) (hr : gL_c1 Nf x1 x2 x3 h σ hm τ = some r) (hk : Sk K D (aN K) Q 9 1372 (lv5 b ga ma t) [] (wd (Gc D cI cG cL ga) r.1 r.2.1 ++ wd (Mm D cI cG cL ma) r.2.2.1 r.2.2.2) (cn + 1) (sn + 6)) : Sk K D (aN K) Q 9 220 (lv5 b ga ma t) [] (wd (Gc D cI cG cL ga) h σ ++ wd (Mm D cI cG cL ma) hm τ) cn sn := by
  unfold gL_c1 at hr
  obtain ⟨r1, e1, hr⟩ := Option.bind_eq_some_iff.mp hr
  obtain ⟨r2, e2, hr⟩ := Option.bind_eq_some_iff.mp hr
  obtain ⟨r3, e3, hr⟩ := Option.bind_eq_some_iff.mp hr
  obtain ⟨e8, hr⟩ := grd_some hr
  have e8 := of_decide_eq_true e8
  refine k_aload_n X dL_law_220 1 rfl ?_
  refine k_arg X hX hbl (Nat.not_le.mpr hbl) 0 4 rfl rfl dL_law_221 dL_law_222 dL_law_224 (by decide) dL_law_225 dL_law_226 hx1 ?_
  refine k_arg X hX hbl (Nat.not_le.mpr hbl) 0 4 rfl rfl dL_law_227 dL_law_228 dL_law_230 (by decide) dL_law_231 dL_law_232 hx2 ?_
  refine k_aload_n X dL_law_233 3 rfl ?_
  refine j_callH (n := 4) (o := (some (.int r1.1), r1.2.1, r1.2.2)) (st := []) X [.ref (ga 107), .int x1, .int x2, .ref (ga 108)] ⟨rfl, rfl⟩ (hsx _) (fun _ z => z) (fun hi => hL_add (kl K) hfl (Gc D cI cG cL ga) hi Nf h σ 107 (isEHc D cI cG cL ga) 108 (isOutc D cI cG cL ga) x1 x2 r1 e1) q_8_1 q_8_0 q_5_16 q_7_23 (by decide +kernel) ⟨Nat.le_of_ble_eq_true rfl, Nat.le_of_ble_eq_true rfl⟩ rfl rfl (Nat.le_of_ble_eq_true rfl) hcn dL_law_234 rfl ?_
  refine k_istore X [(5, .int r1.1), (0, .ref b), (1, .ref (ga 107)), (2, .ref (ma 0)), (3, .ref (ga 108)), (4, .int t)] dL_law_237 (by decide) rfl ?_
  refine k_aload_n X dL_law_239 3 rfl ?_
  refine k_arg X hX hbl (Nat.not_le.mpr hbl) 1 5 rfl rfl dL_law_240 dL_law_241 dL_law_243 (by decide) dL_law_244 dL_law_245 hx1 ?_
  refine k_arg X hX hbl (Nat.not_le.mpr hbl) 1 5 rfl rfl dL_law_246 dL_law_247 dL_law_249 (by decide) dL_law_250 dL_law_251 hx2 ?_
  refine j_callM (o := (some (.int r2.1), hm, r2.2)) (st := []) X [.int x1, .int x2] 0 ⟨rfl, rfl⟩ (fun hi => ctX7_add (kl K) (Mm D cI cG cL ma) hi Nf hm τ 0 (isMm D cI cG cL ma) x1 x2 r2 e2) cal_X7_add q_9_19 ⟨Nat.le_of_ble_eq_true rfl, Nat.le_of_ble_eq_true rfl⟩ rfl rfl (Nat.le_of_ble_eq_true rfl) hcn rfl (isMm D cI cG cL ma).1 (ce7 (isMm D cI cG cL ma).1 _ _) dL_law_252 rfl ?_
  refine k_istore X [(6, .int r2.1), (5, .int r1.1), (0, .ref b), (1, .ref (ga 107)), (2, .ref (ma 0)), (3, .ref (ga 108)), (4, .int t)] dL_law_255 (by decide) rfl ?_
  refine k_aload_n X dL_law_257 4 rfl ?_
  refine j_callM (o := (some (.int r3), hm, r2.2)) (st := []) X [] 0 ⟨rfl, rfl⟩ (fun hi => ctX7_thrown (kl K) (Mm D cI cG cL ma) hi hm r2.2 0 (isMm D cI cG cL ma) r3 e3) cal_X7_thrown q_7_19 ⟨Nat.le_of_ble_eq_true rfl, Nat.le_of_ble_eq_true rfl⟩ rfl rfl (Nat.le_of_ble_eq_true rfl) hcn rfl (isMm D cI cG cL ma).1 (ce7 (isMm D cI cG cL ma).1 _ _) dL_law_258 rfl ?_
  refine k_iload X dL_law_261 1 rfl ?_
  refine k_iceqT X 268 dL_law_263 (by decide) e8 ?_
  refine k_iload X dL_law_268 1 rfl ?_
  by_cases e0 : r1.1 = 0
  · rw [if_pos e0] at hr
    obtain ⟨e9, hr⟩ := grd_some hr
    have e9 := of_decide_eq_true e9
    obtain rfl := Option.some.inj hr
    refine k_ifneF X 285 dL_law_270 (by decide) e0 ?_
    refine k_aload_n X dL_law_273 5 rfl ?_
    refine k_iconst (v := (0 : Int32)) X dL_law_274 (by decide) ?_
    refine k_laload X 108 ⟨rfl, rfl⟩ (isOutc D cI cG cL ga) rfl dL_law_275 ?_
    refine k_iload X dL_law_276 0 rfl ?_
    refine k_i2l X dL_law_278 ?_
    refine k_lcmp X dL_law_279 ?_
    refine k_ifeqT X 285 dL_law_280 (by decide) (lg_eq e9) ?_
    refine k_goto X 1372 dL_law_285 (by decide) ?_
    refine k_sub [2, 3, 4, 5, 6] rfl ?_
    exact hk
  · rw [if_neg e0] at hr
    obtain rfl := Option.some.inj hr
    refine k_ifneT X 285 dL_law_270 (by decide) e0 ?_
    refine k_goto X 1372 dL_law_285 (by decide) ?_
    refine k_sub [2, 3, 4, 5, 6] rfl ?_
    exact hk
def gL_c2 (Nf : Nat) (x1 : Int32) (x2 : Int32) (x3 : Int32) (h : Int64) (σ : cS) (hm : Int64) (τ : cS) : Option (Int64 × cS × Int64 × cS) := (fL_remove (lCt ()) Nf h σ 107 x1).bind (fun r1 => (fX7_remove (lMt ()) Nf τ 0 x1).bind (fun r2 => (fX7_thrown r2.2 0).bind (fun r3 => grd (decide (r3 = r1.1)) (if r1.1 = 0 then grd (decide (r1.2.1 = (r2.1).toInt64)) (some (r1.2.1, r1.2.2, hm, r2.2)) else some (r1.2.1, r1.2.2, hm, r2.2)))))
set_option maxHeartbeats 4000000 in
set_option maxRecDepth 100000 in
theorem jL_c2 {K : MCx} {D : va_G} {cI cG cL : ClassId} {b L : Nat} {xs : Nat → Int32} {Q : State → Prop} (X : Cy K D cI cG cL (aN K) RL cL_law 9 11 601024 7293034 390) (hX : va_X b L xs (ks K) (ks K).heap) (hbl : b < (ks K).heap.size) (hsx : ∀ G : Lay, (∀ q, FA G q → (ks K).heap.size ≤ q) → SX G (ks K) (ks K).heap) (hfl : (kl K).stackTraces = false) (ga ma : Nat → Nat) (Nf : Nat) {h : Int64} {σ : cS} {hm : Int64} {τ : cS} {t : Int32} {cn sn : Nat} (hcn : cn + 1 ≤ 601024 ∧ sn + 6 ≤ 7293034) (x1 : Int32) (x2 : Int32) (x3 : Int32) (hx1 : vp_in (t + 1) L ∧ xs (t + 1).toNatClampNeg = x1) (hx2 : vp_in (t + 2) L ∧ xs (t + 2).toNatClampNeg = x2) (hx3 : vp_in (t + 3) L ∧ xs (t + 3).toNatClampNeg = x3) (r : Int64 × cS × Int64 × cS) (hr : gL_c2 Nf x1 x2 x3 h σ hm τ = some r) (hk : Sk K D (aN K) Q 9 1372 (lv5 b ga ma t) [] (wd (Gc D cI cG cL ga) r.1 r.2.1 ++ wd (Mm D cI cG cL ma) r.2.2.1 r.2.2.2) (cn + 1) (sn + 6)) : Sk K D (aN K) Q 9 288 (lv5 b ga ma t) [] (wd (Gc D cI cG cL ga) h σ ++ wd (Mm D cI cG cL ma) hm τ) cn sn := by
  unfold gL_c2 at hr
  obtain ⟨r1, e1, hr⟩ := Option.bind_eq_some_iff.mp hr
  obtain ⟨r2, e2, hr⟩ := Option.bind_eq_some_iff.mp hr
  obtain ⟨r3, e3, hr⟩ := Option.bind_eq_some_iff.mp hr
  obtain ⟨e8, hr⟩ := grd_some hr
  have e8 := of_decide_eq_true e8
  refine k_aload_n X dL_law_288 1 rfl ?_
  refine k_arg X hX hbl (Nat.not_le.mpr hbl) 0 4 rfl rfl dL_law_289 dL_law_290 dL_law_292 (by decide) dL_law_293 dL_law_294 hx1 ?_
  refine k_aload_n X dL_law_295 3 rfl ?_
  refine j_callH (n := 3) (o := (some (.int r1.1), r1.2.1, r1.2.2)) (st := []) X [.ref (ga 107), .int x1, .ref (ga 108)] ⟨rfl, rfl⟩ (hsx _) (fun _ z => z) (fun hi => hL_remove (kl K) hfl (Gc D cI cG cL ga) hi Nf h σ 107 (isEHc D cI cG cL ga) 108 (isOutc D cI cG cL ga) x1 r1 e1) q_10_21 q_10_20 q_5_16 q_10_19 (by decide +kernel) ⟨Nat.le_of_ble_eq_true rfl, Nat.le_of_ble_eq_true rfl⟩ rfl rfl (Nat.le_of_ble_eq_true rfl) hcn dL_law_296 rfl ?_
  refine k_istore X [(5, .int r1.1), (0, .ref b), (1, .ref (ga 107)), (2, .ref (ma 0)), (3, .ref (ga 108)), (4, .int t)] dL_law_299 (by decide) rfl ?_
  refine k_aload_n X dL_law_301 3 rfl ?_
  refine k_arg X hX hbl (Nat.not_le.mpr hbl) 1 5 rfl rfl dL_law_302 dL_law_303 dL_law_305 (by decide) dL_law_306 dL_law_307 hx1 ?_
  refine j_callM (o := (some (.int r2.1), hm, r2.2)) (st := []) X [.int x1] 0 ⟨rfl, rfl⟩ (fun hi => ctX7_remove (kl K) (Mm D cI cG cL ma) hi Nf hm τ 0 (isMm D cI cG cL ma) x1 r2 e2) cal_X7_remove q_11_21 ⟨Nat.le_of_ble_eq_true rfl, Nat.le_of_ble_eq_true rfl⟩ rfl rfl (Nat.le_of_ble_eq_true rfl) hcn rfl (isMm D cI cG cL ma).1 (ce7 (isMm D cI cG cL ma).1 _ _) dL_law_308 rfl ?_
  refine k_istore X [(6, .int r2.1), (5, .int r1.1), (0, .ref b), (1, .ref (ga 107)), (2, .ref (ma 0)), (3, .ref (ga 108)), (4, .int t)] dL_law_311 (by decide) rfl ?_
  refine k_aload_n X dL_law_313 4 rfl ?_
  refine j_callM (o := (some (.int r3), hm, r2.2)) (st := []) X [] 0 ⟨rfl, rfl⟩ (fun hi => ctX7_thrown (kl K) (Mm D cI cG cL ma) hi hm r2.2 0 (isMm D cI cG cL ma) r3 e3) cal_X7_thrown q_7_19 ⟨Nat.le_of_ble_eq_true rfl, Nat.le_of_ble_eq_true rfl⟩ rfl rfl (Nat.le_of_ble_eq_true rfl) hcn rfl (isMm D cI cG cL ma).1 (ce7 (isMm D cI cG cL ma).1 _ _) dL_law_314 rfl ?_
  refine k_iload X dL_law_317 1 rfl ?_
  refine k_iceqT X 324 dL_law_319 (by decide) e8 ?_
  refine k_iload X dL_law_324 1 rfl ?_
  by_cases e0 : r1.1 = 0
  · rw [if_pos e0] at hr
    obtain ⟨e9, hr⟩ := grd_some hr
    have e9 := of_decide_eq_true e9
    obtain rfl := Option.some.inj hr
    refine k_ifneF X 341 dL_law_326 (by decide) e0 ?_
    refine k_aload_n X dL_law_329 5 rfl ?_
    refine k_iconst (v := (0 : Int32)) X dL_law_330 (by decide) ?_
    refine k_laload X 108 ⟨rfl, rfl⟩ (isOutc D cI cG cL ga) rfl dL_law_331 ?_
    refine k_iload X dL_law_332 0 rfl ?_
    refine k_i2l X dL_law_334 ?_
    refine k_lcmp X dL_law_335 ?_
    refine k_ifeqT X 341 dL_law_336 (by decide) (lg_eq e9) ?_
    refine k_goto X 1372 dL_law_341 (by decide) ?_
    refine k_sub [2, 3, 4, 5, 6] rfl ?_
    exact hk
  · rw [if_neg e0] at hr
    obtain rfl := Option.some.inj hr
    refine k_ifneT X 341 dL_law_326 (by decide) e0 ?_
    refine k_goto X 1372 dL_law_341 (by decide) ?_
    refine k_sub [2, 3, 4, 5, 6] rfl ?_
    exact hk
def gL_c3 (Nf : Nat) (x1 : Int32) (x2 : Int32) (x3 : Int32) (h : Int64) (σ : cS) (hm : Int64) (τ : cS) : Option (Int64 × cS × Int64 × cS) := (fL_turn (lCt ()) Nf h σ 107 x1).bind (fun r1 => (fX7_turn (lMt ()) Nf τ 0 x1).bind (fun r2 => (fX7_thrown r2.2 0).bind (fun r3 => grd (decide (r3 = r1.1)) (if r1.1 = 0 then grd (decide (r1.2.1 = (r2.1).toInt64)) (some (r1.2.1, r1.2.2, hm, r2.2)) else some (r1.2.1, r1.2.2, hm, r2.2)))))
set_option maxHeartbeats 4000000 in
set_option maxRecDepth 100000 in
theorem jL_c3 {K : MCx} {D : va_G} {cI cG cL : ClassId} {b L : Nat} {xs : Nat → Int32} {Q : State → Prop} (X : Cy K D cI cG cL (aN K) RL cL_law 9 11 601024 7293034 390) (hX : va_X b L xs (ks K) (ks K).heap) (hbl : b < (ks K).heap.size) (hsx : ∀ G : Lay, (∀ q, FA G q → (ks K).heap.size ≤ q) → SX G (ks K) (ks K).heap) (hfl : (kl K).stackTraces = false) (ga ma : Nat → Nat) (Nf : Nat) {h : Int64} {σ : cS} {hm : Int64} {τ : cS} {t : Int32} {cn sn : Nat} (hcn : cn + 1 ≤ 601024 ∧ sn + 6 ≤ 7293034) (x1 : Int32) (x2 : Int32) (x3 : Int32) (hx1 : vp_in (t + 1) L ∧ xs (t + 1).toNatClampNeg = x1) (hx2 : vp_in (t + 2) L ∧ xs (t + 2).toNatClampNeg = x2) (hx3 : vp_in (t + 3) L ∧ xs (t + 3).toNatClampNeg = x3) (r : Int64 × cS × Int64 × cS) (hr : gL_c3 Nf x1 x2 x3 h σ hm τ = some r) (hk : Sk K D (aN K) Q 9 1372 (lv5 b ga ma t) [] (wd (Gc D cI cG cL ga) r.1 r.2.1 ++ wd (Mm D cI cG cL ma) r.2.2.1 r.2.2.2) (cn + 1) (sn + 6)) : Sk K D (aN K) Q 9 344 (lv5 b ga ma t) [] (wd (Gc D cI cG cL ga) h σ ++ wd (Mm D cI cG cL ma) hm τ) cn sn := by
  unfold gL_c3 at hr
  obtain ⟨r1, e1, hr⟩ := Option.bind_eq_some_iff.mp hr
  obtain ⟨r2, e2, hr⟩ := Option.bind_eq_some_iff.mp hr
  obtain ⟨r3, e3, hr⟩ := Option.bind_eq_some_iff.mp hr
  obtain ⟨e8, hr⟩ := grd_some hr
  have e8 := of_decide_eq_true e8
  refine k_aload_n X dL_law_344 1 rfl ?_
  refine k_arg X hX hbl (Nat.not_le.mpr hbl) 0 4 rfl rfl dL_law_345 dL_law_346 dL_law_348 (by decide) dL_law_349 dL_law_350 hx1 ?_
  refine k_aload_n X dL_law_351 3 rfl ?_
  refine j_callH (n := 3) (o := (some (.int r1.1), r1.2.1, r1.2.2)) (st := []) X [.ref (ga 107), .int x1, .ref (ga 108)] ⟨rfl, rfl⟩ (hsx _) (fun _ z => z) (fun hi => hL_turn (kl K) hfl (Gc D cI cG cL ga) hi Nf h σ 107 (isEHc D cI cG cL ga) 108 (isOutc D cI cG cL ga) x1 r1 e1) q_12_15 q_12_14 q_5_16 q_12_13 (by decide +kernel) ⟨Nat.le_of_ble_eq_true rfl, Nat.le_of_ble_eq_true rfl⟩ rfl rfl (Nat.le_of_ble_eq_true rfl) hcn dL_law_352 rfl ?_
  refine k_istore X [(5, .int r1.1), (0, .ref b), (1, .ref (ga 107)), (2, .ref (ma 0)), (3, .ref (ga 108)), (4, .int t)] dL_law_355 (by decide) rfl ?_
  refine k_aload_n X dL_law_357 3 rfl ?_
  refine k_arg X hX hbl (Nat.not_le.mpr hbl) 1 5 rfl rfl dL_law_358 dL_law_359 dL_law_361 (by decide) dL_law_362 dL_law_363 hx1 ?_
  refine j_callM (o := (some (.int r2.1), hm, r2.2)) (st := []) X [.int x1] 0 ⟨rfl, rfl⟩ (fun hi => ctX7_turn (kl K) (Mm D cI cG cL ma) hi Nf hm τ 0 (isMm D cI cG cL ma) x1 r2 e2) cal_X7_turn q_13_0 ⟨Nat.le_of_ble_eq_true rfl, Nat.le_of_ble_eq_true rfl⟩ rfl rfl (Nat.le_of_ble_eq_true rfl) hcn rfl (isMm D cI cG cL ma).1 (ce7 (isMm D cI cG cL ma).1 _ _) dL_law_364 rfl ?_
  refine k_istore X [(6, .int r2.1), (5, .int r1.1), (0, .ref b), (1, .ref (ga 107)), (2, .ref (ma 0)), (3, .ref (ga 108)), (4, .int t)] dL_law_367 (by decide) rfl ?_
  refine k_aload_n X dL_law_369 4 rfl ?_
  refine j_callM (o := (some (.int r3), hm, r2.2)) (st := []) X [] 0 ⟨rfl, rfl⟩ (fun hi => ctX7_thrown (kl K) (Mm D cI cG cL ma) hi hm r2.2 0 (isMm D cI cG cL ma) r3 e3) cal_X7_thrown q_7_19 ⟨Nat.le_of_ble_eq_true rfl, Nat.le_of_ble_eq_true rfl⟩ rfl rfl (Nat.le_of_ble_eq_true rfl) hcn rfl (isMm D cI cG cL ma).1 (ce7 (isMm D cI cG cL ma).1 _ _) dL_law_370 rfl ?_
  refine k_iload X dL_law_373 1 rfl ?_
  refine k_iceqT X 380 dL_law_375 (by decide) e8 ?_
  refine k_iload X dL_law_380 1 rfl ?_
  by_cases e0 : r1.1 = 0
  · rw [if_pos e0] at hr
    obtain ⟨e9, hr⟩ := grd_some hr
    have e9 := of_decide_eq_true e9
    obtain rfl := Option.some.inj hr
    refine k_ifneF X 397 dL_law_382 (by decide) e0 ?_
    refine k_aload_n X dL_law_385 5 rfl ?_
    refine k_iconst (v := (0 : Int32)) X dL_law_386 (by decide) ?_
    refine k_laload X 108 ⟨rfl, rfl⟩ (isOutc D cI cG cL ga) rfl dL_law_387 ?_
    refine k_iload X dL_law_388 0 rfl ?_
    refine k_i2l X dL_law_390 ?_
    refine k_lcmp X dL_law_391 ?_
    refine k_ifeqT X 397 dL_law_392 (by decide) (lg_eq e9) ?_
    refine k_goto X 1372 dL_law_397 (by decide) ?_
    refine k_sub [2, 3, 4, 5, 6] rfl ?_
    exact hk
  · rw [if_neg e0] at hr
    obtain rfl := Option.some.inj hr
    refine k_ifneT X 397 dL_law_382 (by decide) e0 ?_
    refine k_goto X 1372 dL_law_397 (by decide) ?_
    refine k_sub [2, 3, 4, 5, 6] rfl ?_
    exact hk
def gL_c4 (Nf : Nat) (x1 : Int32) (x2 : Int32) (x3 : Int32) (h : Int64) (σ : cS) (hm : Int64) (τ : cS) : Option (Int64 × cS × Int64 × cS) := (fL_relieve (lCt ()) Nf h σ 107 x1).bind (fun r1 => (fX7_relieve (lMt ()) Nf τ 0 x1).bind (fun r2 => (fX7_thrown r2.2 0).bind (fun r3 => grd (decide (r3 = r1.1)) (if r1.1 = 0 then grd (decide (r1.2.1 = (r2.1).toInt64)) (some (r1.2.1, r1.2.2, hm, r2.2)) else some (r1.2.1, r1.2.2, hm, r2.2)))))
set_option maxHeartbeats 4000000 in
set_option maxRecDepth 100000 in
theorem jL_c4 {K : MCx} {D : va_G} {cI cG cL : ClassId} {b L : Nat} {xs : Nat → Int32} {Q : State → Prop} (X : Cy K D cI cG cL (aN K) RL cL_law 9 11 601024 7293034 390) (hX : va_X b L xs (ks K) (ks K).heap) (hbl : b < (ks K).heap.size) (hsx : ∀ G : Lay, (∀ q, FA G q → (ks K).heap.size ≤ q) → SX G (ks K) (ks K).heap) (hfl : (kl K).stackTraces = false) (ga ma : Nat → Nat) (Nf : Nat) {h : Int64} {σ : cS} {hm : Int64} {τ : cS} {t : Int32} {cn sn : Nat} (hcn : cn + 1 ≤ 601024 ∧ sn + 6 ≤ 7293034) (x1 : Int32) (x2 : Int32) (x3 : Int32) (hx1 : vp_in (t + 1) L ∧ xs (t + 1).toNatClampNeg = x1) (hx2 : vp_in (t + 2) L ∧ xs (t + 2).toNatClampNeg = x2) (hx3 : vp_in (t + 3) L ∧ xs (t + 3).toNatClampNeg = x3) (r : Int64 × cS × Int64 × cS) (hr : gL_c4 Nf x1 x2 x3 h σ hm τ = some r) (hk : Sk K D (aN K) Q 9 1372 (lv5 b ga ma t) [] (wd (Gc D cI cG cL ga) r.1 r.2.1 ++ wd (Mm D cI cG cL ma) r.2.2.1 r.2.2.2) (cn + 1) (sn + 6)) : Sk K D (aN K) Q 9 400 (lv5 b ga ma t) [] (wd (Gc D cI cG cL ga) h σ ++ wd (Mm D cI cG cL ma) hm τ) cn sn := by
  unfold gL_c4 at hr
  obtain ⟨r1, e1, hr⟩ := Option.bind_eq_some_iff.mp hr
  obtain ⟨r2, e2, hr⟩ := Option.bind_eq_some_iff.mp hr
  obtain ⟨r3, e3, hr⟩ := Option.bind_eq_some_iff.mp hr
  obtain ⟨e8, hr⟩ := grd_some hr
  have e8 := of_decide_eq_true e8
  refine k_aload_n X dL_law_400 1 rfl ?_
  refine k_arg X hX hbl (Nat.not_le.mpr hbl) 0 4 rfl rfl dL_law_401 dL_law_402 dL_law_404 (by decide) dL_law_405 dL_law_406 hx1 ?_
  refine k_aload_n X dL_law_407 3 rfl ?_
  refine j_callH (n := 3) (o := (some (.int r1.1), r1.2.1, r1.2.2)) (st := []) X [.ref (ga 107), .int x1, .ref (ga 108)] ⟨rfl, rfl⟩ (hsx _) (fun _ z => z) (fun hi => hL_relieve (kl K) hfl (Gc D cI cG cL ga) hi Nf h σ 107 (isEHc D cI cG cL ga) 108 (isOutc D cI cG cL ga) x1 r1 e1) q_13_10 q_13_9 q_5_16 q_13_8 (by decide +kernel) ⟨Nat.le_of_ble_eq_true rfl, Nat.le_of_ble_eq_true rfl⟩ rfl rfl (Nat.le_of_ble_eq_true rfl) hcn dL_law_408 rfl ?_
  refine k_istore X [(5, .int r1.1), (0, .ref b), (1, .ref (ga 107)), (2, .ref (ma 0)), (3, .ref (ga 108)), (4, .int t)] dL_law_411 (by decide) rfl ?_
  refine k_aload_n X dL_law_413 3 rfl ?_
  refine k_arg X hX hbl (Nat.not_le.mpr hbl) 1 5 rfl rfl dL_law_414 dL_law_415 dL_law_417 (by decide) dL_law_418 dL_law_419 hx1 ?_
  refine j_callM (o := (some (.int r2.1), hm, r2.2)) (st := []) X [.int x1] 0 ⟨rfl, rfl⟩ (fun hi => ctX7_relieve (kl K) (Mm D cI cG cL ma) hi Nf hm τ 0 (isMm D cI cG cL ma) x1 r2 e2) cal_X7_relieve q_15_1 ⟨Nat.le_of_ble_eq_true rfl, Nat.le_of_ble_eq_true rfl⟩ rfl rfl (Nat.le_of_ble_eq_true rfl) hcn rfl (isMm D cI cG cL ma).1 (ce7 (isMm D cI cG cL ma).1 _ _) dL_law_420 rfl ?_
  refine k_istore X [(6, .int r2.1), (5, .int r1.1), (0, .ref b), (1, .ref (ga 107)), (2, .ref (ma 0)), (3, .ref (ga 108)), (4, .int t)] dL_law_423 (by decide) rfl ?_
  refine k_aload_n X dL_law_425 4 rfl ?_
  refine j_callM (o := (some (.int r3), hm, r2.2)) (st := []) X [] 0 ⟨rfl, rfl⟩ (fun hi => ctX7_thrown (kl K) (Mm D cI cG cL ma) hi hm r2.2 0 (isMm D cI cG cL ma) r3 e3) cal_X7_thrown q_7_19 ⟨Nat.le_of_ble_eq_true rfl, Nat.le_of_ble_eq_true rfl⟩ rfl rfl (Nat.le_of_ble_eq_true rfl) hcn rfl (isMm D cI cG cL ma).1 (ce7 (isMm D cI cG cL ma).1 _ _) dL_law_426 rfl ?_
  refine k_iload X dL_law_429 1 rfl ?_
  refine k_iceqT X 436 dL_law_431 (by decide) e8 ?_
  refine k_iload X dL_law_436 1 rfl ?_
  by_cases e0 : r1.1 = 0
  · rw [if_pos e0] at hr
    obtain ⟨e9, hr⟩ := grd_some hr
    have e9 := of_decide_eq_true e9
    obtain rfl := Option.some.inj hr
    refine k_ifneF X 453 dL_law_438 (by decide) e0 ?_
    refine k_aload_n X dL_law_441 5 rfl ?_
    refine k_iconst (v := (0 : Int32)) X dL_law_442 (by decide) ?_
    refine k_laload X 108 ⟨rfl, rfl⟩ (isOutc D cI cG cL ga) rfl dL_law_443 ?_
    refine k_iload X dL_law_444 0 rfl ?_
    refine k_i2l X dL_law_446 ?_
    refine k_lcmp X dL_law_447 ?_
    refine k_ifeqT X 453 dL_law_448 (by decide) (lg_eq e9) ?_
    refine k_goto X 1372 dL_law_453 (by decide) ?_
    refine k_sub [2, 3, 4, 5, 6] rfl ?_
    exact hk
  · rw [if_neg e0] at hr
    obtain rfl := Option.some.inj hr
    refine k_ifneT X 453 dL_law_438 (by decide) e0 ?_
    refine k_goto X 1372 dL_law_453 (by decide) ?_
    refine k_sub [2, 3, 4, 5, 6] rfl ?_
    exact hk
def gL_c5 (Nf : Nat) (x1 : Int32) (x2 : Int32) (x3 : Int32) (h : Int64) (σ : cS) (hm : Int64) (τ : cS) : Option (Int64 × cS × Int64 × cS) := (fX6_balance (lCt ()) Nf σ 107).bind (fun r1 => (fX7_balance (lMt ()) Nf τ 0).bind (fun r2 => grd (decide (r1.1 = r2.1)) (some (h, r1.2, hm, r2.2))))
set_option maxHeartbeats 4000000 in
set_option maxRecDepth 100000 in
theorem jL_c5 {K : MCx} {D : va_G} {cI cG cL : ClassId} {b L : Nat} {xs : Nat → Int32} {Q : State → Prop} (X : Cy K D cI cG cL (aN K) RL cL_law 9 11 601024 7293034 390) (hX : va_X b L xs (ks K) (ks K).heap) (hbl : b < (ks K).heap.size) (hsx : ∀ G : Lay, (∀ q, FA G q → (ks K).heap.size ≤ q) → SX G (ks K) (ks K).heap) (hfl : (kl K).stackTraces = false) (ga ma : Nat → Nat) (Nf : Nat) {h : Int64} {σ : cS} {hm : Int64} {τ : cS} {t : Int32} {cn sn : Nat} (hcn : cn + 1 ≤ 601024 ∧ sn + 6 ≤ 7293034) (x1 : Int32) (x2 : Int32) (x3 : Int32) (hx1 : vp_in (t + 1) L ∧ xs (t + 1).toNatClampNeg = x1) (hx2 : vp_in (t + 2) L ∧ xs (t + 2).toNatClampNeg = x2) (hx3 : vp_in (t + 3) L ∧ xs (t + 3).toNatClampNeg = x3) (r : Int64 × cS × Int64 × cS) (hr : gL_c5 Nf x1 x2 x3 h σ hm τ = some r) (hk : Sk K D (aN K) Q 9 1372 (lv5 b ga ma t) [] (wd (Gc D cI cG cL ga) r.1 r.2.1 ++ wd (Mm D cI cG cL ma) r.2.2.1 r.2.2.2) (cn + 1) (sn + 6)) : Sk K D (aN K) Q 9 456 (lv5 b ga ma t) [] (wd (Gc D cI cG cL ga) h σ ++ wd (Mm D cI cG cL ma) hm τ) cn sn := by
  unfold gL_c5 at hr
  obtain ⟨r1, e1, hr⟩ := Option.bind_eq_some_iff.mp hr
  obtain ⟨r2, e2, hr⟩ := Option.bind_eq_some_iff.mp hr
  obtain ⟨e8, hr⟩ := grd_some hr
  have e8 := of_decide_eq_true e8
  obtain rfl := Option.some.inj hr
  refine k_aload_n X dL_law_456 1 rfl ?_
  refine j_callC (o := (some (.int r1.1), h, r1.2)) (st := []) X [] 107 ⟨rfl, rfl⟩ (fun hi => ctX6_balance (kl K) (Gc D cI cG cL ga) hi Nf h σ 107 (isEHc D cI cG cL ga) r1 e1) cal_X6_balance q_16_3 ⟨Nat.le_of_ble_eq_true rfl, Nat.le_of_ble_eq_true rfl⟩ rfl rfl (Nat.le_of_ble_eq_true rfl) ⟨Nat.le_trans (Nat.le_add_right _ _) hcn.1, Nat.le_trans (Nat.le_add_right _ _) hcn.2⟩ rfl (isEHc D cI cG cL ga).1 (ce6 (isEHc D cI cG cL ga).1 _ _) dL_law_457 rfl ?_
  refine k_aload_n X dL_law_460 2 rfl ?_
  refine j_callM (o := (some (.int r2.1), hm, r2.2)) (st := [.int r1.1]) X [] 0 ⟨rfl, rfl⟩ (fun hi => ctX7_balance (kl K) (Mm D cI cG cL ma) hi Nf hm τ 0 (isMm D cI cG cL ma) r2 e2) cal_X7_balance q_17_2 ⟨Nat.le_of_ble_eq_true rfl, Nat.le_of_ble_eq_true rfl⟩ rfl rfl (Nat.le_of_ble_eq_true rfl) ⟨Nat.le_trans (Nat.le_add_right _ _) hcn.1, Nat.le_trans (Nat.le_add_right _ _) hcn.2⟩ rfl (isMm D cI cG cL ma).1 (ce7 (isMm D cI cG cL ma).1 _ _) dL_law_461 rfl ?_
  refine k_iceqT X 1372 dL_law_464 (by decide) e8 ?_
  exact k_wider (Nat.le_add_right _ _) (Nat.le_add_right _ _) hk
def gL_c6 (Nf : Nat) (x1 : Int32) (x2 : Int32) (x3 : Int32) (h : Int64) (σ : cS) (hm : Int64) (τ : cS) : Option (Int64 × cS × Int64 × cS) := (fL_setCapacity (lCt ()) Nf h σ 107 x1 x2).bind (fun r1 => (fX7_setCapacity (lMt ()) Nf τ 0 x1 x2).bind (fun r2 => (fX7_thrown r2.2 0).bind (fun r3 => grd (decide (r3 = r1.1)) (if r1.1 = 0 then grd (decide (r1.2.1 = (r2.1).toInt64)) (some (r1.2.1, r1.2.2, hm, r2.2)) else some (r1.2.1, r1.2.2, hm, r2.2)))))
set_option maxHeartbeats 4000000 in
set_option maxRecDepth 100000 in
theorem jL_c6 {K : MCx} {D : va_G} {cI cG cL : ClassId} {b L : Nat} {xs : Nat → Int32} {Q : State → Prop} (X : Cy K D cI cG cL (aN K) RL cL_law 9 11 601024 7293034 390) (hX : va_X b L xs (ks K) (ks K).heap) (hbl : b < (ks K).heap.size) (hsx : ∀ G : Lay, (∀ q, FA G q → (ks K).heap.size ≤ q) → SX G (ks K) (ks K).heap) (hfl : (kl K).stackTraces = false) (ga ma : Nat → Nat) (Nf : Nat) {h : Int64} {σ : cS} {hm : Int64} {τ : cS} {t : Int32} {cn sn : Nat} (hcn : cn + 1 ≤ 601024 ∧ sn + 6 ≤ 7293034) (x1 : Int32) (x2 : Int32) (x3 : Int32) (hx1 : vp_in (t + 1) L ∧ xs (t + 1).toNatClampNeg = x1) (hx2 : vp_in (t + 2) L ∧ xs (t + 2).toNatClampNeg = x2) (hx3 : vp_in (t + 3) L ∧ xs (t + 3).toNatClampNeg = x3) (r : Int64 × cS × Int64 × cS) (hr : gL_c6 Nf x1 x2 x3 h σ hm τ = some r) (hk : Sk K D (aN K) Q 9 1372 (lv5 b ga ma t) [] (wd (Gc D cI cG cL ga) r.1 r.2.1 ++ wd (Mm D cI cG cL ma) r.2.2.1 r.2.2.2) (cn + 1) (sn + 6)) : Sk K D (aN K) Q 9 469 (lv5 b ga ma t) [] (wd (Gc D cI cG cL ga) h σ ++ wd (Mm D cI cG cL ma) hm τ) cn sn := by
  unfold gL_c6 at hr
  obtain ⟨r1, e1, hr⟩ := Option.bind_eq_some_iff.mp hr
  obtain ⟨r2, e2, hr⟩ := Option.bind_eq_some_iff.mp hr
  obtain ⟨r3, e3, hr⟩ := Option.bind_eq_some_iff.mp hr
  obtain ⟨e8, hr⟩ := grd_some hr
  have e8 := of_decide_eq_true e8
  refine k_aload_n X dL_law_469 1 rfl ?_
  refine k_arg X hX hbl (Nat.not_le.mpr hbl) 0 4 rfl rfl dL_law_470 dL_law_471 dL_law_473 (by decide) dL_law_474 dL_law_475 hx1 ?_
  refine k_arg X hX hbl (Nat.not_le.mpr hbl) 0 4 rfl rfl dL_law_476 dL_law_477 dL_law_479 (by decide) dL_law_480 dL_law_481 hx2 ?_
  refine k_aload_n X dL_law_482 3 rfl ?_
  refine j_callH (n := 4) (o := (some (.int r1.1), r1.2.1, r1.2.2)) (st := []) X [.ref (ga 107), .int x1, .int x2, .ref (ga 108)] ⟨rfl, rfl⟩ (hsx _) (fun _ z => z) (fun hi => hL_setCapacity (kl K) hfl (Gc D cI cG cL ga) hi Nf h σ 107 (isEHc D cI cG cL ga) 108 (isOutc D cI cG cL ga) x1 x2 r1 e1) q_17_16 q_17_15 q_5_16 q_17_14 (by decide +kernel) ⟨Nat.le_of_ble_eq_true rfl, Nat.le_of_ble_eq_true rfl⟩ rfl rfl (Nat.le_of_ble_eq_true rfl) hcn dL_law_483 rfl ?_
  refine k_istore X [(5, .int r1.1), (0, .ref b), (1, .ref (ga 107)), (2, .ref (ma 0)), (3, .ref (ga 108)), (4, .int t)] dL_law_486 (by decide) rfl ?_
  refine k_aload_n X dL_law_488 3 rfl ?_
  refine k_arg X hX hbl (Nat.not_le.mpr hbl) 1 5 rfl rfl dL_law_489 dL_law_490 dL_law_492 (by decide) dL_law_493 dL_law_494 hx1 ?_
  refine k_arg X hX hbl (Nat.not_le.mpr hbl) 1 5 rfl rfl dL_law_495 dL_law_496 dL_law_498 (by decide) dL_law_499 dL_law_500 hx2 ?_
  refine j_callM (o := (some (.int r2.1), hm, r2.2)) (st := []) X [.int x1, .int x2] 0 ⟨rfl, rfl⟩ (fun hi => ctX7_setCapacity (kl K) (Mm D cI cG cL ma) hi Nf hm τ 0 (isMm D cI cG cL ma) x1 x2 r2 e2) cal_X7_setCapacity q_17_23 ⟨Nat.le_of_ble_eq_true rfl, Nat.le_of_ble_eq_true rfl⟩ rfl rfl (Nat.le_of_ble_eq_true rfl) hcn rfl (isMm D cI cG cL ma).1 (ce7 (isMm D cI cG cL ma).1 _ _) dL_law_501 rfl ?_
  refine k_istore X [(6, .int r2.1), (5, .int r1.1), (0, .ref b), (1, .ref (ga 107)), (2, .ref (ma 0)), (3, .ref (ga 108)), (4, .int t)] dL_law_504 (by decide) rfl ?_
  refine k_aload_n X dL_law_506 4 rfl ?_
  refine j_callM (o := (some (.int r3), hm, r2.2)) (st := []) X [] 0 ⟨rfl, rfl⟩ (fun hi => ctX7_thrown (kl K) (Mm D cI cG cL ma) hi hm r2.2 0 (isMm D cI cG cL ma) r3 e3) cal_X7_thrown q_7_19 ⟨Nat.le_of_ble_eq_true rfl, Nat.le_of_ble_eq_true rfl⟩ rfl rfl (Nat.le_of_ble_eq_true rfl) hcn rfl (isMm D cI cG cL ma).1 (ce7 (isMm D cI cG cL ma).1 _ _) dL_law_507 rfl ?_
  refine k_iload X dL_law_510 1 rfl ?_
  refine k_iceqT X 517 dL_law_512 (by decide) e8 ?_
  refine k_iload X dL_law_517 1 rfl ?_
  by_cases e0 : r1.1 = 0
  · rw [if_pos e0] at hr
    obtain ⟨e9, hr⟩ := grd_some hr
    have e9 := of_decide_eq_true e9
    obtain rfl := Option.some.inj hr
    refine k_ifneF X 534 dL_law_519 (by decide) e0 ?_
    refine k_aload_n X dL_law_522 5 rfl ?_
    refine k_iconst (v := (0 : Int32)) X dL_law_523 (by decide) ?_
    refine k_laload X 108 ⟨rfl, rfl⟩ (isOutc D cI cG cL ga) rfl dL_law_524 ?_
    refine k_iload X dL_law_525 0 rfl ?_
    refine k_i2l X dL_law_527 ?_
    refine k_lcmp X dL_law_528 ?_
    refine k_ifeqT X 534 dL_law_529 (by decide) (lg_eq e9) ?_
    refine k_goto X 1372 dL_law_534 (by decide) ?_
    refine k_sub [2, 3, 4, 5, 6] rfl ?_
    exact hk
  · rw [if_neg e0] at hr
    obtain rfl := Option.some.inj hr
    refine k_ifneT X 534 dL_law_519 (by decide) e0 ?_
    refine k_goto X 1372 dL_law_534 (by decide) ?_
    refine k_sub [2, 3, 4, 5, 6] rfl ?_
    exact hk
def gL_c7 (Nf : Nat) (x1 : Int32) (x2 : Int32) (x3 : Int32) (h : Int64) (σ : cS) (hm : Int64) (τ : cS) : Option (Int64 × cS × Int64 × cS) := (fL_node (lCt ()) Nf h σ 107 x1 x2).bind (fun r1 => (fX7_node (lMt ()) Nf τ 0 x1 x2).bind (fun r2 => (fX7_thrown r2.2 0).bind (fun r3 => grd (decide (r3 = r1.1)) (if r1.1 = 0 then grd (decide (r1.2.1 = (r2.1).toInt64)) (some (r1.2.1, r1.2.2, hm, r2.2)) else some (r1.2.1, r1.2.2, hm, r2.2)))))
set_option maxHeartbeats 4000000 in
set_option maxRecDepth 100000 in
theorem jL_c7 {K : MCx} {D : va_G} {cI cG cL : ClassId} {b L : Nat} {xs : Nat → Int32} {Q : State → Prop} (X : Cy K D cI cG cL (aN K) RL cL_law 9 11 601024 7293034 390) (hX : va_X b L xs (ks K) (ks K).heap) (hbl : b < (ks K).heap.size) (hsx : ∀ G : Lay, (∀ q, FA G q → (ks K).heap.size ≤ q) → SX G (ks K) (ks K).heap) (hfl : (kl K).stackTraces = false) (ga ma : Nat → Nat) (Nf : Nat) {h : Int64} {σ : cS} {hm : Int64} {τ : cS} {t : Int32} {cn sn : Nat} (hcn : cn + 1 ≤ 601024 ∧ sn + 6 ≤ 7293034) (x1 : Int32) (x2 : Int32) (x3 : Int32) (hx1 : vp_in (t + 1) L ∧ xs (t + 1).toNatClampNeg = x1) (hx2 : vp_in (t + 2) L ∧ xs (t + 2).toNatClampNeg = x2) (hx3 : vp_in (t + 3) L ∧ xs (t + 3).toNatClampNeg = x3) (r : Int64 × cS × Int64 × cS) (hr : gL_c7 Nf x1 x2 x3 h σ hm τ = some r) (hk : Sk K D (aN K) Q 9 1372 (lv5 b ga ma t) [] (wd (Gc D cI cG cL ga) r.1 r.2.1 ++ wd (Mm D cI cG cL ma) r.2.2.1 r.2.2.2) (cn + 1) (sn + 6)) : Sk K D (aN K) Q 9 537 (lv5 b ga ma t) [] (wd (Gc D cI cG cL ga) h σ ++ wd (Mm D cI cG cL ma) hm τ) cn sn := by
  unfold gL_c7 at hr
  obtain ⟨r1, e1, hr⟩ := Option.bind_eq_some_iff.mp hr
  obtain ⟨r2, e2, hr⟩ := Option.bind_eq_some_iff.mp hr
  obtain ⟨r3, e3, hr⟩ := Option.bind_eq_some_iff.mp hr
  obtain ⟨e8, hr⟩ := grd_some hr
  have e8 := of_decide_eq_true e8
  refine k_aload_n X dL_law_537 1 rfl ?_
  refine k_arg X hX hbl (Nat.not_le.mpr hbl) 0 4 rfl rfl dL_law_538 dL_law_539 dL_law_541 (by decide) dL_law_542 dL_law_543 hx1 ?_
  refine k_arg X hX hbl (Nat.not_le.mpr hbl) 0 4 rfl rfl dL_law_544 dL_law_545 dL_law_547 (by decide) dL_law_548 dL_law_549 hx2 ?_
  refine k_aload_n X dL_law_550 3 rfl ?_
  refine j_callH (n := 4) (o := (some (.int r1.1), r1.2.1, r1.2.2)) (st := []) X [.ref (ga 107), .int x1, .int x2, .ref (ga 108)] ⟨rfl, rfl⟩ (hsx _) (fun _ z => z) (fun hi => hL_node (kl K) hfl (Gc D cI cG cL ga) hi Nf h σ 107 (isEHc D cI cG cL ga) 108 (isOutc D cI cG cL ga) x1 x2 r1 e1) q_18_13 q_18_12 q_5_16 q_18_11 (by decide +kernel) ⟨Nat.le_of_ble_eq_true rfl, Nat.le_of_ble_eq_true rfl⟩ rfl rfl (Nat.le_of_ble_eq_true rfl) hcn dL_law_551 rfl ?_
  refine k_istore X [(5, .int r1.1), (0, .ref b), (1, .ref (ga 107)), (2, .ref (ma 0)), (3, .ref (ga 108)), (4, .int t)] dL_law_554 (by decide) rfl ?_
  refine k_aload_n X dL_law_556 3 rfl ?_
  refine k_arg X hX hbl (Nat.not_le.mpr hbl) 1 5 rfl rfl dL_law_557 dL_law_558 dL_law_560 (by decide) dL_law_561 dL_law_562 hx1 ?_
  refine k_arg X hX hbl (Nat.not_le.mpr hbl) 1 5 rfl rfl dL_law_563 dL_law_564 dL_law_566 (by decide) dL_law_567 dL_law_568 hx2 ?_
  refine j_callM (o := (some (.int r2.1), hm, r2.2)) (st := []) X [.int x1, .int x2] 0 ⟨rfl, rfl⟩ (fun hi => ctX7_node (kl K) (Mm D cI cG cL ma) hi Nf hm τ 0 (isMm D cI cG cL ma) x1 x2 r2 e2) cal_X7_node q_19_13 ⟨Nat.le_of_ble_eq_true rfl, Nat.le_of_ble_eq_true rfl⟩ rfl rfl (Nat.le_of_ble_eq_true rfl) hcn rfl (isMm D cI cG cL ma).1 (ce7 (isMm D cI cG cL ma).1 _ _) dL_law_569 rfl ?_
  refine k_istore X [(6, .int r2.1), (5, .int r1.1), (0, .ref b), (1, .ref (ga 107)), (2, .ref (ma 0)), (3, .ref (ga 108)), (4, .int t)] dL_law_572 (by decide) rfl ?_
  refine k_aload_n X dL_law_574 4 rfl ?_
  refine j_callM (o := (some (.int r3), hm, r2.2)) (st := []) X [] 0 ⟨rfl, rfl⟩ (fun hi => ctX7_thrown (kl K) (Mm D cI cG cL ma) hi hm r2.2 0 (isMm D cI cG cL ma) r3 e3) cal_X7_thrown q_7_19 ⟨Nat.le_of_ble_eq_true rfl, Nat.le_of_ble_eq_true rfl⟩ rfl rfl (Nat.le_of_ble_eq_true rfl) hcn rfl (isMm D cI cG cL ma).1 (ce7 (isMm D cI cG cL ma).1 _ _) dL_law_575 rfl ?_
  refine k_iload X dL_law_578 1 rfl ?_
  refine k_iceqT X 585 dL_law_580 (by decide) e8 ?_
  refine k_iload X dL_law_585 1 rfl ?_
  by_cases e0 : r1.1 = 0
  · rw [if_pos e0] at hr
    obtain ⟨e9, hr⟩ := grd_some hr
    have e9 := of_decide_eq_true e9
    obtain rfl := Option.some.inj hr
    refine k_ifneF X 602 dL_law_587 (by decide) e0 ?_
    refine k_aload_n X dL_law_590 5 rfl ?_
    refine k_iconst (v := (0 : Int32)) X dL_law_591 (by decide) ?_
    refine k_laload X 108 ⟨rfl, rfl⟩ (isOutc D cI cG cL ga) rfl dL_law_592 ?_
    refine k_iload X dL_law_593 0 rfl ?_
    refine k_i2l X dL_law_595 ?_
    refine k_lcmp X dL_law_596 ?_
    refine k_ifeqT X 602 dL_law_597 (by decide) (lg_eq e9) ?_
    refine k_goto X 1372 dL_law_602 (by decide) ?_
    refine k_sub [2, 3, 4, 5, 6] rfl ?_
    exact hk
  · rw [if_neg e0] at hr
    obtain rfl := Option.some.inj hr
    refine k_ifneT X 602 dL_law_587 (by decide) e0 ?_
    refine k_goto X 1372 dL_law_602 (by decide) ?_
    refine k_sub [2, 3, 4, 5, 6] rfl ?_
    exact hk
def gL_c8 (Nf : Nat) (x1 : Int32) (x2 : Int32) (x3 : Int32) (h : Int64) (σ : cS) (hm : Int64) (τ : cS) : Option (Int64 × cS × Int64 × cS) := (fL_edge (lCt ()) Nf h σ 107 x1 x2).bind (fun r1 => (fX7_edge (lMt ()) Nf τ 0 x1 x2).bind (fun r2 => (fX7_thrown r2.2 0).bind (fun r3 => grd (decide (r3 = r1.1)) (if r1.1 = 0 then grd (decide (r1.2.1 = (r2.1).toInt64)) (some (r1.2.1, r1.2.2, hm, r2.2)) else some (r1.2.1, r1.2.2, hm, r2.2)))))
set_option maxHeartbeats 4000000 in
set_option maxRecDepth 100000 in
theorem jL_c8 {K : MCx} {D : va_G} {cI cG cL : ClassId} {b L : Nat} {xs : Nat → Int32} {Q : State → Prop} (X : Cy K D cI cG cL (aN K) RL cL_law 9 11 601024 7293034 390) (hX : va_X b L xs (ks K) (ks K).heap) (hbl : b < (ks K).heap.size) (hsx : ∀ G : Lay, (∀ q, FA G q → (ks K).heap.size ≤ q) → SX G (ks K) (ks K).heap) (hfl : (kl K).stackTraces = false) (ga ma : Nat → Nat) (Nf : Nat) {h : Int64} {σ : cS} {hm : Int64} {τ : cS} {t : Int32} {cn sn : Nat} (hcn : cn + 1 ≤ 601024 ∧ sn + 6 ≤ 7293034) (x1 : Int32) (x2 : Int32) (x3 : Int32) (hx1 : vp_in (t + 1) L ∧ xs (t + 1).toNatClampNeg = x1) (hx2 : vp_in (t + 2) L ∧ xs (t + 2).toNatClampNeg = x2) (hx3 : vp_in (t + 3) L ∧ xs (t + 3).toNatClampNeg = x3) (r : Int64 × cS × Int64 × cS) (hr : gL_c8 Nf x1 x2 x3 h σ hm τ = some r) (hk : Sk K D (aN K) Q 9 1372 (lv5 b ga ma t) [] (wd (Gc D cI cG cL ga) r.1 r.2.1 ++ wd (Mm D cI cG cL ma) r.2.2.1 r.2.2.2) (cn + 1) (sn + 6)) : Sk K D (aN K) Q 9 605 (lv5 b ga ma t) [] (wd (Gc D cI cG cL ga) h σ ++ wd (Mm D cI cG cL ma) hm τ) cn sn := by
  unfold gL_c8 at hr
  obtain ⟨r1, e1, hr⟩ := Option.bind_eq_some_iff.mp hr
  obtain ⟨r2, e2, hr⟩ := Option.bind_eq_some_iff.mp hr
  obtain ⟨r3, e3, hr⟩ := Option.bind_eq_some_iff.mp hr
  obtain ⟨e8, hr⟩ := grd_some hr
  have e8 := of_decide_eq_true e8
  refine k_aload_n X dL_law_605 1 rfl ?_
  refine k_arg X hX hbl (Nat.not_le.mpr hbl) 0 4 rfl rfl dL_law_606 dL_law_607 dL_law_609 (by decide) dL_law_610 dL_law_611 hx1 ?_
  refine k_arg X hX hbl (Nat.not_le.mpr hbl) 0 4 rfl rfl dL_law_612 dL_law_613 dL_law_615 (by decide) dL_law_616 dL_law_617 hx2 ?_
  refine k_aload_n X dL_law_618 3 rfl ?_
  refine j_callH (n := 4) (o := (some (.int r1.1), r1.2.1, r1.2.2)) (st := []) X [.ref (ga 107), .int x1, .int x2, .ref (ga 108)] ⟨rfl, rfl⟩ (hsx _) (fun _ z => z) (fun hi => hL_edge (kl K) hfl (Gc D cI cG cL ga) hi Nf h σ 107 (isEHc D cI cG cL ga) 108 (isOutc D cI cG cL ga) x1 x2 r1 e1) q_20_10 q_20_9 q_5_16 q_20_8 (by decide +kernel) ⟨Nat.le_of_ble_eq_true rfl, Nat.le_of_ble_eq_true rfl⟩ rfl rfl (Nat.le_of_ble_eq_true rfl) hcn dL_law_619 rfl ?_
  refine k_istore X [(5, .int r1.1), (0, .ref b), (1, .ref (ga 107)), (2, .ref (ma 0)), (3, .ref (ga 108)), (4, .int t)] dL_law_622 (by decide) rfl ?_
  refine k_aload_n X dL_law_624 3 rfl ?_
  refine k_arg X hX hbl (Nat.not_le.mpr hbl) 1 5 rfl rfl dL_law_625 dL_law_626 dL_law_628 (by decide) dL_law_629 dL_law_630 hx1 ?_
  refine k_arg X hX hbl (Nat.not_le.mpr hbl) 1 5 rfl rfl dL_law_631 dL_law_632 dL_law_634 (by decide) dL_law_635 dL_law_636 hx2 ?_
  refine j_callM (o := (some (.int r2.1), hm, r2.2)) (st := []) X [.int x1, .int x2] 0 ⟨rfl, rfl⟩ (fun hi => ctX7_edge (kl K) (Mm D cI cG cL ma) hi Nf hm τ 0 (isMm D cI cG cL ma) x1 x2 r2 e2) cal_X7_edge q_20_15 ⟨Nat.le_of_ble_eq_true rfl, Nat.le_of_ble_eq_true rfl⟩ rfl rfl (Nat.le_of_ble_eq_true rfl) hcn rfl (isMm D cI cG cL ma).1 (ce7 (isMm D cI cG cL ma).1 _ _) dL_law_637 rfl ?_
  refine k_istore X [(6, .int r2.1), (5, .int r1.1), (0, .ref b), (1, .ref (ga 107)), (2, .ref (ma 0)), (3, .ref (ga 108)), (4, .int t)] dL_law_640 (by decide) rfl ?_
  refine k_aload_n X dL_law_642 4 rfl ?_
  refine j_callM (o := (some (.int r3), hm, r2.2)) (st := []) X [] 0 ⟨rfl, rfl⟩ (fun hi => ctX7_thrown (kl K) (Mm D cI cG cL ma) hi hm r2.2 0 (isMm D cI cG cL ma) r3 e3) cal_X7_thrown q_7_19 ⟨Nat.le_of_ble_eq_true rfl, Nat.le_of_ble_eq_true rfl⟩ rfl rfl (Nat.le_of_ble_eq_true rfl) hcn rfl (isMm D cI cG cL ma).1 (ce7 (isMm D cI cG cL ma).1 _ _) dL_law_643 rfl ?_
  refine k_iload X dL_law_646 1 rfl ?_
  refine k_iceqT X 653 dL_law_648 (by decide) e8 ?_
  refine k_iload X dL_law_653 1 rfl ?_
  by_cases e0 : r1.1 = 0
  · rw [if_pos e0] at hr
    obtain ⟨e9, hr⟩ := grd_some hr
    have e9 := of_decide_eq_true e9
    obtain rfl := Option.some.inj hr
    refine k_ifneF X 670 dL_law_655 (by decide) e0 ?_
    refine k_aload_n X dL_law_658 5 rfl ?_
    refine k_iconst (v := (0 : Int32)) X dL_law_659 (by decide) ?_
    refine k_laload X 108 ⟨rfl, rfl⟩ (isOutc D cI cG cL ga) rfl dL_law_660 ?_
    refine k_iload X dL_law_661 0 rfl ?_
    refine k_i2l X dL_law_663 ?_
    refine k_lcmp X dL_law_664 ?_
    refine k_ifeqT X 670 dL_law_665 (by decide) (lg_eq e9) ?_
    refine k_goto X 1372 dL_law_670 (by decide) ?_
    refine k_sub [2, 3, 4, 5, 6] rfl ?_
    exact hk
  · rw [if_neg e0] at hr
    obtain rfl := Option.some.inj hr
    refine k_ifneT X 670 dL_law_655 (by decide) e0 ?_
    refine k_goto X 1372 dL_law_670 (by decide) ?_
    refine k_sub [2, 3, 4, 5, 6] rfl ?_
    exact hk
def gL_c9 (Nf : Nat) (x1 : Int32) (x2 : Int32) (x3 : Int32) (h : Int64) (σ : cS) (hm : Int64) (τ : cS) : Option (Int64 × cS × Int64 × cS) := (fL_edgeAt (lCt ()) Nf h σ 107 x1).bind (fun r1 => (fX7_edgeAt (lMt ()) τ 0 x1).bind (fun r2 => (fX7_thrown r2.2 0).bind (fun r3 => grd (decide (r3 = r1.1)) (if r1.1 = 0 then grd (decide (r1.2.1 = (r2.1).toInt64)) (some (r1.2.1, r1.2.2, hm, r2.2)) else some (r1.2.1, r1.2.2, hm, r2.2)))))
set_option maxHeartbeats 4000000 in
set_option maxRecDepth 100000 in
theorem jL_c9 {K : MCx} {D : va_G} {cI cG cL : ClassId} {b L : Nat} {xs : Nat → Int32} {Q : State → Prop} (X : Cy K D cI cG cL (aN K) RL cL_law 9 11 601024 7293034 390) (hX : va_X b L xs (ks K) (ks K).heap) (hbl : b < (ks K).heap.size) (hsx : ∀ G : Lay, (∀ q, FA G q → (ks K).heap.size ≤ q) → SX G (ks K) (ks K).heap) (hfl : (kl K).stackTraces = false) (ga ma : Nat → Nat) (Nf : Nat) {h : Int64} {σ : cS} {hm : Int64} {τ : cS} {t : Int32} {cn sn : Nat} (hcn : cn + 1 ≤ 601024 ∧ sn + 6 ≤ 7293034) (x1 : Int32) (x2 : Int32) (x3 : Int32) (hx1 : vp_in (t + 1) L ∧ xs (t + 1).toNatClampNeg = x1) (hx2 : vp_in (t + 2) L ∧ xs (t + 2).toNatClampNeg = x2) (hx3 : vp_in (t + 3) L ∧ xs (t + 3).toNatClampNeg = x3) (r : Int64 × cS × Int64 × cS) (hr : gL_c9 Nf x1 x2 x3 h σ hm τ = some r) (hk : Sk K D (aN K) Q 9 1372 (lv5 b ga ma t) [] (wd (Gc D cI cG cL ga) r.1 r.2.1 ++ wd (Mm D cI cG cL ma) r.2.2.1 r.2.2.2) (cn + 1) (sn + 6)) : Sk K D (aN K) Q 9 673 (lv5 b ga ma t) [] (wd (Gc D cI cG cL ga) h σ ++ wd (Mm D cI cG cL ma) hm τ) cn sn := by
  unfold gL_c9 at hr
  obtain ⟨r1, e1, hr⟩ := Option.bind_eq_some_iff.mp hr
  obtain ⟨r2, e2, hr⟩ := Option.bind_eq_some_iff.mp hr
  obtain ⟨r3, e3, hr⟩ := Option.bind_eq_some_iff.mp hr
  obtain ⟨e8, hr⟩ := grd_some hr
  have e8 := of_decide_eq_true e8
  refine k_aload_n X dL_law_673 1 rfl ?_
  refine k_arg X hX hbl (Nat.not_le.mpr hbl) 0 4 rfl rfl dL_law_674 dL_law_675 dL_law_677 (by decide) dL_law_678 dL_law_679 hx1 ?_
  refine k_aload_n X dL_law_680 3 rfl ?_
  refine j_callH (n := 3) (o := (some (.int r1.1), r1.2.1, r1.2.2)) (st := []) X [.ref (ga 107), .int x1, .ref (ga 108)] ⟨rfl, rfl⟩ (hsx _) (fun _ z => z) (fun hi => hL_edgeAt (kl K) hfl (Gc D cI cG cL ga) hi Nf h σ 107 (isEHc D cI cG cL ga) 108 (isOutc D cI cG cL ga) x1 r1 e1) q_21_1 q_21_0 q_5_16 q_20_23 (by decide +kernel) ⟨Nat.le_of_ble_eq_true rfl, Nat.le_of_ble_eq_true rfl⟩ rfl rfl (Nat.le_of_ble_eq_true rfl) hcn dL_law_681 rfl ?_
  refine k_istore X [(5, .int r1.1), (0, .ref b), (1, .ref (ga 107)), (2, .ref (ma 0)), (3, .ref (ga 108)), (4, .int t)] dL_law_684 (by decide) rfl ?_
  refine k_aload_n X dL_law_686 3 rfl ?_
  refine k_arg X hX hbl (Nat.not_le.mpr hbl) 1 5 rfl rfl dL_law_687 dL_law_688 dL_law_690 (by decide) dL_law_691 dL_law_692 hx1 ?_
  refine j_callM (o := (some (.int r2.1), hm, r2.2)) (st := []) X [.int x1] 0 ⟨rfl, rfl⟩ (fun hi => ctX7_edgeAt (kl K) (Mm D cI cG cL ma) hi hm τ 0 (isMm D cI cG cL ma) x1 r2 e2) cal_X7_edgeAt q_21_6 ⟨Nat.le_of_ble_eq_true rfl, Nat.le_of_ble_eq_true rfl⟩ rfl rfl (Nat.le_of_ble_eq_true rfl) hcn rfl (isMm D cI cG cL ma).1 (ce7 (isMm D cI cG cL ma).1 _ _) dL_law_693 rfl ?_
  refine k_istore X [(6, .int r2.1), (5, .int r1.1), (0, .ref b), (1, .ref (ga 107)), (2, .ref (ma 0)), (3, .ref (ga 108)), (4, .int t)] dL_law_696 (by decide) rfl ?_
  refine k_aload_n X dL_law_698 4 rfl ?_
  refine j_callM (o := (some (.int r3), hm, r2.2)) (st := []) X [] 0 ⟨rfl, rfl⟩ (fun hi => ctX7_thrown (kl K) (Mm D cI cG cL ma) hi hm r2.2 0 (isMm D cI cG cL ma) r3 e3) cal_X7_thrown q_7_19 ⟨Nat.le_of_ble_eq_true rfl, Nat.le_of_ble_eq_true rfl⟩ rfl rfl (Nat.le_of_ble_eq_true rfl) hcn rfl (isMm D cI cG cL ma).1 (ce7 (isMm D cI cG cL ma).1 _ _) dL_law_699 rfl ?_
  refine k_iload X dL_law_702 1 rfl ?_
  refine k_iceqT X 709 dL_law_704 (by decide) e8 ?_
  refine k_iload X dL_law_709 1 rfl ?_
  by_cases e0 : r1.1 = 0
  · rw [if_pos e0] at hr
    obtain ⟨e9, hr⟩ := grd_some hr
    have e9 := of_decide_eq_true e9
    obtain rfl := Option.some.inj hr
    refine k_ifneF X 726 dL_law_711 (by decide) e0 ?_
    refine k_aload_n X dL_law_714 5 rfl ?_
    refine k_iconst (v := (0 : Int32)) X dL_law_715 (by decide) ?_
    refine k_laload X 108 ⟨rfl, rfl⟩ (isOutc D cI cG cL ga) rfl dL_law_716 ?_
    refine k_iload X dL_law_717 0 rfl ?_
    refine k_i2l X dL_law_719 ?_
    refine k_lcmp X dL_law_720 ?_
    refine k_ifeqT X 726 dL_law_721 (by decide) (lg_eq e9) ?_
    refine k_goto X 1372 dL_law_726 (by decide) ?_
    refine k_sub [2, 3, 4, 5, 6] rfl ?_
    exact hk
  · rw [if_neg e0] at hr
    obtain rfl := Option.some.inj hr
    refine k_ifneT X 726 dL_law_711 (by decide) e0 ?_
    refine k_goto X 1372 dL_law_726 (by decide) ?_
    refine k_sub [2, 3, 4, 5, 6] rfl ?_
    exact hk
def gL_c10 (Nf : Nat) (x1 : Int32) (x2 : Int32) (x3 : Int32) (h : Int64) (σ : cS) (hm : Int64) (τ : cS) : Option (Int64 × cS × Int64 × cS) := (fL_value (lCt ()) Nf h σ 107 x1).bind (fun r1 => (fX7_value (lMt ()) Nf τ 0 x1).bind (fun r2 => (fX7_thrown r2.2 0).bind (fun r3 => grd (decide (r3 = r1.1)) (if r1.1 = 0 then grd (decide (r1.2.1 = (r2.1).toInt64)) (some (r1.2.1, r1.2.2, hm, r2.2)) else some (r1.2.1, r1.2.2, hm, r2.2)))))
set_option maxHeartbeats 4000000 in
set_option maxRecDepth 100000 in
theorem jL_c10 {K : MCx} {D : va_G} {cI cG cL : ClassId} {b L : Nat} {xs : Nat → Int32} {Q : State → Prop} (X : Cy K D cI cG cL (aN K) RL cL_law 9 11 601024 7293034 390) (hX : va_X b L xs (ks K) (ks K).heap) (hbl : b < (ks K).heap.size) (hsx : ∀ G : Lay, (∀ q, FA G q → (ks K).heap.size ≤ q) → SX G (ks K) (ks K).heap) (hfl : (kl K).stackTraces = false) (ga ma : Nat → Nat) (Nf : Nat) {h : Int64} {σ : cS} {hm : Int64} {τ : cS} {t : Int32} {cn sn : Nat} (hcn : cn + 1 ≤ 601024 ∧ sn + 6 ≤ 7293034) (x1 : Int32) (x2 : Int32) (x3 : Int32) (hx1 : vp_in (t + 1) L ∧ xs (t + 1).toNatClampNeg = x1) (hx2 : vp_in (t + 2) L ∧ xs (t + 2).toNatClampNeg = x2) (hx3 : vp_in (t + 3) L ∧ xs (t + 3).toNatClampNeg = x3) (r : Int64 × cS × Int64 × cS) (hr : gL_c10 Nf x1 x2 x3 h σ hm τ = some r) (hk : Sk K D (aN K) Q 9 1372 (lv5 b ga ma t) [] (wd (Gc D cI cG cL ga) r.1 r.2.1 ++ wd (Mm D cI cG cL ma) r.2.2.1 r.2.2.2) (cn + 1) (sn + 6)) : Sk K D (aN K) Q 9 729 (lv5 b ga ma t) [] (wd (Gc D cI cG cL ga) h σ ++ wd (Mm D cI cG cL ma) hm τ) cn sn := by
  unfold gL_c10 at hr
  obtain ⟨r1, e1, hr⟩ := Option.bind_eq_some_iff.mp hr
  obtain ⟨r2, e2, hr⟩ := Option.bind_eq_some_iff.mp hr
  obtain ⟨r3, e3, hr⟩ := Option.bind_eq_some_iff.mp hr
  obtain ⟨e8, hr⟩ := grd_some hr
  have e8 := of_decide_eq_true e8
  refine k_aload_n X dL_law_729 1 rfl ?_
  refine k_arg X hX hbl (Nat.not_le.mpr hbl) 0 4 rfl rfl dL_law_730 dL_law_731 dL_law_733 (by decide) dL_law_734 dL_law_735 hx1 ?_
  refine k_aload_n X dL_law_736 3 rfl ?_
  refine j_callH (n := 3) (o := (some (.int r1.1), r1.2.1, r1.2.2)) (st := []) X [.ref (ga 107), .int x1, .ref (ga 108)] ⟨rfl, rfl⟩ (hsx _) (fun _ z => z) (fun hi => hL_value (kl K) hfl (Gc D cI cG cL ga) hi Nf h σ 107 (isEHc D cI cG cL ga) 108 (isOutc D cI cG cL ga) x1 r1 e1) q_21_12 q_21_11 q_5_16 q_21_10 (by decide +kernel) ⟨Nat.le_of_ble_eq_true rfl, Nat.le_of_ble_eq_true rfl⟩ rfl rfl (Nat.le_of_ble_eq_true rfl) hcn dL_law_737 rfl ?_
  refine k_istore X [(5, .int r1.1), (0, .ref b), (1, .ref (ga 107)), (2, .ref (ma 0)), (3, .ref (ga 108)), (4, .int t)] dL_law_740 (by decide) rfl ?_
  refine k_aload_n X dL_law_742 3 rfl ?_
  refine k_arg X hX hbl (Nat.not_le.mpr hbl) 1 5 rfl rfl dL_law_743 dL_law_744 dL_law_746 (by decide) dL_law_747 dL_law_748 hx1 ?_
  refine j_callM (o := (some (.int r2.1), hm, r2.2)) (st := []) X [.int x1] 0 ⟨rfl, rfl⟩ (fun hi => ctX7_value (kl K) (Mm D cI cG cL ma) hi Nf hm τ 0 (isMm D cI cG cL ma) x1 r2 e2) cal_X7_value q_22_7 ⟨Nat.le_of_ble_eq_true rfl, Nat.le_of_ble_eq_true rfl⟩ rfl rfl (Nat.le_of_ble_eq_true rfl) hcn rfl (isMm D cI cG cL ma).1 (ce7 (isMm D cI cG cL ma).1 _ _) dL_law_749 rfl ?_
  refine k_istore X [(6, .int r2.1), (5, .int r1.1), (0, .ref b), (1, .ref (ga 107)), (2, .ref (ma 0)), (3, .ref (ga 108)), (4, .int t)] dL_law_752 (by decide) rfl ?_
  refine k_aload_n X dL_law_754 4 rfl ?_
  refine j_callM (o := (some (.int r3), hm, r2.2)) (st := []) X [] 0 ⟨rfl, rfl⟩ (fun hi => ctX7_thrown (kl K) (Mm D cI cG cL ma) hi hm r2.2 0 (isMm D cI cG cL ma) r3 e3) cal_X7_thrown q_7_19 ⟨Nat.le_of_ble_eq_true rfl, Nat.le_of_ble_eq_true rfl⟩ rfl rfl (Nat.le_of_ble_eq_true rfl) hcn rfl (isMm D cI cG cL ma).1 (ce7 (isMm D cI cG cL ma).1 _ _) dL_law_755 rfl ?_
  refine k_iload X dL_law_758 1 rfl ?_
  refine k_iceqT X 765 dL_law_760 (by decide) e8 ?_
  refine k_iload X dL_law_765 1 rfl ?_
  by_cases e0 : r1.1 = 0
  · rw [if_pos e0] at hr
    obtain ⟨e9, hr⟩ := grd_some hr
    have e9 := of_decide_eq_true e9
    obtain rfl := Option.some.inj hr
    refine k_ifneF X 782 dL_law_767 (by decide) e0 ?_
    refine k_aload_n X dL_law_770 5 rfl ?_
    refine k_iconst (v := (0 : Int32)) X dL_law_771 (by decide) ?_
    refine k_laload X 108 ⟨rfl, rfl⟩ (isOutc D cI cG cL ga) rfl dL_law_772 ?_
    refine k_iload X dL_law_773 0 rfl ?_
    refine k_i2l X dL_law_775 ?_
    refine k_lcmp X dL_law_776 ?_
    refine k_ifeqT X 782 dL_law_777 (by decide) (lg_eq e9) ?_
    refine k_goto X 1372 dL_law_782 (by decide) ?_
    refine k_sub [2, 3, 4, 5, 6] rfl ?_
    exact hk
  · rw [if_neg e0] at hr
    obtain rfl := Option.some.inj hr
    refine k_ifneT X 782 dL_law_767 (by decide) e0 ?_
    refine k_goto X 1372 dL_law_782 (by decide) ?_
    refine k_sub [2, 3, 4, 5, 6] rfl ?_
    exact hk
def gL_c11 (Nf : Nat) (x1 : Int32) (x2 : Int32) (x3 : Int32) (h : Int64) (σ : cS) (hm : Int64) (τ : cS) : Option (Int64 × cS × Int64 × cS) := (fL_path (lCt ()) Nf h σ 107 x1 x2).bind (fun r1 => (fX7_path (lMt ()) Nf τ 0 x1 x2).bind (fun r2 => (fX7_thrown r2.2 0).bind (fun r3 => grd (decide (r3 = r1.1)) (if r1.1 = 0 then grd (decide (r1.2.1 = (r2.1).toInt64)) (some (r1.2.1, r1.2.2, hm, r2.2)) else some (r1.2.1, r1.2.2, hm, r2.2)))))
set_option maxHeartbeats 4000000 in
set_option maxRecDepth 100000 in
theorem jL_c11 {K : MCx} {D : va_G} {cI cG cL : ClassId} {b L : Nat} {xs : Nat → Int32} {Q : State → Prop} (X : Cy K D cI cG cL (aN K) RL cL_law 9 11 601024 7293034 390) (hX : va_X b L xs (ks K) (ks K).heap) (hbl : b < (ks K).heap.size) (hsx : ∀ G : Lay, (∀ q, FA G q → (ks K).heap.size ≤ q) → SX G (ks K) (ks K).heap) (hfl : (kl K).stackTraces = false) (ga ma : Nat → Nat) (Nf : Nat) {h : Int64} {σ : cS} {hm : Int64} {τ : cS} {t : Int32} {cn sn : Nat} (hcn : cn + 1 ≤ 601024 ∧ sn + 6 ≤ 7293034) (x1 : Int32) (x2 : Int32) (x3 : Int32) (hx1 : vp_in (t + 1) L ∧ xs (t + 1).toNatClampNeg = x1) (hx2 : vp_in (t + 2) L ∧ xs (t + 2).toNatClampNeg = x2) (hx3 : vp_in (t + 3) L ∧ xs (t + 3).toNatClampNeg = x3) (r : Int64 × cS × Int64 × cS) (hr : gL_c11 Nf x1 x2 x3 h σ hm τ = some r) (hk : Sk K D (aN K) Q 9 1372 (lv5 b ga ma t) [] (wd (Gc D cI cG cL ga) r.1 r.2.1 ++ wd (Mm D cI cG cL ma) r.2.2.1 r.2.2.2) (cn + 1) (sn + 6)) : Sk K D (aN K) Q 9 785 (lv5 b ga ma t) [] (wd (Gc D cI cG cL ga) h σ ++ wd (Mm D cI cG cL ma) hm τ) cn sn := by
  unfold gL_c11 at hr
  obtain ⟨r1, e1, hr⟩ := Option.bind_eq_some_iff.mp hr
  obtain ⟨r2, e2, hr⟩ := Option.bind_eq_some_iff.mp hr
  obtain ⟨r3, e3, hr⟩ := Option.bind_eq_some_iff.mp hr
  obtain ⟨e8, hr⟩ := grd_some hr
  have e8 := of_decide_eq_true e8
  refine k_aload_n X dL_law_785 1 rfl ?_
  refine k_arg X hX hbl (Nat.not_le.mpr hbl) 0 4 rfl rfl dL_law_786 dL_law_787 dL_law_789 (by decide) dL_law_790 dL_law_791 hx1 ?_
  refine k_arg X hX hbl (Nat.not_le.mpr hbl) 0 4 rfl rfl dL_law_792 dL_law_793 dL_law_795 (by decide) dL_law_796 dL_law_797 hx2 ?_
  refine k_aload_n X dL_law_798 3 rfl ?_
  refine j_callH (n := 4) (o := (some (.int r1.1), r1.2.1, r1.2.2)) (st := []) X [.ref (ga 107), .int x1, .int x2, .ref (ga 108)] ⟨rfl, rfl⟩ (hsx _) (fun _ z => z) (fun hi => hL_path (kl K) hfl (Gc D cI cG cL ga) hi Nf h σ 107 (isEHc D cI cG cL ga) 108 (isOutc D cI cG cL ga) x1 x2 r1 e1) q_22_17 q_22_16 q_5_16 q_22_15 (by decide +kernel) ⟨Nat.le_of_ble_eq_true rfl, Nat.le_of_ble_eq_true rfl⟩ rfl rfl (Nat.le_of_ble_eq_true rfl) hcn dL_law_799 rfl ?_
  refine k_istore X [(5, .int r1.1), (0, .ref b), (1, .ref (ga 107)), (2, .ref (ma 0)), (3, .ref (ga 108)), (4, .int t)] dL_law_802 (by decide) rfl ?_
  refine k_aload_n X dL_law_804 3 rfl ?_
  refine k_arg X hX hbl (Nat.not_le.mpr hbl) 1 5 rfl rfl dL_law_805 dL_law_806 dL_law_808 (by decide) dL_law_809 dL_law_810 hx1 ?_
  refine k_arg X hX hbl (Nat.not_le.mpr hbl) 1 5 rfl rfl dL_law_811 dL_law_812 dL_law_814 (by decide) dL_law_815 dL_law_816 hx2 ?_
  refine j_callM (o := (some (.int r2.1), hm, r2.2)) (st := []) X [.int x1, .int x2] 0 ⟨rfl, rfl⟩ (fun hi => ctX7_path (kl K) (Mm D cI cG cL ma) hi Nf hm τ 0 (isMm D cI cG cL ma) x1 x2 r2 e2) cal_X7_path q_22_23 ⟨Nat.le_of_ble_eq_true rfl, Nat.le_of_ble_eq_true rfl⟩ rfl rfl (Nat.le_of_ble_eq_true rfl) hcn rfl (isMm D cI cG cL ma).1 (ce7 (isMm D cI cG cL ma).1 _ _) dL_law_817 rfl ?_
  refine k_istore X [(6, .int r2.1), (5, .int r1.1), (0, .ref b), (1, .ref (ga 107)), (2, .ref (ma 0)), (3, .ref (ga 108)), (4, .int t)] dL_law_820 (by decide) rfl ?_
  refine k_aload_n X dL_law_822 4 rfl ?_
  refine j_callM (o := (some (.int r3), hm, r2.2)) (st := []) X [] 0 ⟨rfl, rfl⟩ (fun hi => ctX7_thrown (kl K) (Mm D cI cG cL ma) hi hm r2.2 0 (isMm D cI cG cL ma) r3 e3) cal_X7_thrown q_7_19 ⟨Nat.le_of_ble_eq_true rfl, Nat.le_of_ble_eq_true rfl⟩ rfl rfl (Nat.le_of_ble_eq_true rfl) hcn rfl (isMm D cI cG cL ma).1 (ce7 (isMm D cI cG cL ma).1 _ _) dL_law_823 rfl ?_
  refine k_iload X dL_law_826 1 rfl ?_
  refine k_iceqT X 833 dL_law_828 (by decide) e8 ?_
  refine k_iload X dL_law_833 1 rfl ?_
  by_cases e0 : r1.1 = 0
  · rw [if_pos e0] at hr
    obtain ⟨e9, hr⟩ := grd_some hr
    have e9 := of_decide_eq_true e9
    obtain rfl := Option.some.inj hr
    refine k_ifneF X 850 dL_law_835 (by decide) e0 ?_
    refine k_aload_n X dL_law_838 5 rfl ?_
    refine k_iconst (v := (0 : Int32)) X dL_law_839 (by decide) ?_
    refine k_laload X 108 ⟨rfl, rfl⟩ (isOutc D cI cG cL ga) rfl dL_law_840 ?_
    refine k_iload X dL_law_841 0 rfl ?_
    refine k_i2l X dL_law_843 ?_
    refine k_lcmp X dL_law_844 ?_
    refine k_ifeqT X 850 dL_law_845 (by decide) (lg_eq e9) ?_
    refine k_goto X 1372 dL_law_850 (by decide) ?_
    refine k_sub [2, 3, 4, 5, 6] rfl ?_
    exact hk
  · rw [if_neg e0] at hr
    obtain rfl := Option.some.inj hr
    refine k_ifneT X 850 dL_law_835 (by decide) e0 ?_
    refine k_goto X 1372 dL_law_850 (by decide) ?_
    refine k_sub [2, 3, 4, 5, 6] rfl ?_
    exact hk
def gL_c12 (Nf : Nat) (x1 : Int32) (x2 : Int32) (x3 : Int32) (h : Int64) (σ : cS) (hm : Int64) (τ : cS) : Option (Int64 × cS × Int64 × cS) := (fL_step (lCt ()) Nf h σ 107 x1 x2 x3).bind (fun r1 => (fX7_step (lMt ()) Nf τ 0 x1 x2 x3).bind (fun r2 => (fX7_thrown r2.2 0).bind (fun r3 => grd (decide (r3 = r1.1)) (if r1.1 = 0 then grd (decide (r1.2.1 = (r2.1).toInt64)) (some (r1.2.1, r1.2.2, hm, r2.2)) else some (r1.2.1, r1.2.2, hm, r2.2)))))
set_option maxHeartbeats 4000000 in
set_option maxRecDepth 100000 in
theorem jL_c12 {K : MCx} {D : va_G} {cI cG cL : ClassId} {b L : Nat} {xs : Nat → Int32} {Q : State → Prop} (X : Cy K D cI cG cL (aN K) RL cL_law 9 11 601024 7293034 390) (hX : va_X b L xs (ks K) (ks K).heap) (hbl : b < (ks K).heap.size) (hsx : ∀ G : Lay, (∀ q, FA G q → (ks K).heap.size ≤ q) → SX G (ks K) (ks K).heap) (hfl : (kl K).stackTraces = false) (ga ma : Nat → Nat) (Nf : Nat) {h : Int64} {σ : cS} {hm : Int64} {τ : cS} {t : Int32} {cn sn : Nat} (hcn : cn + 1 ≤ 601024 ∧ sn + 6 ≤ 7293034) (x1 : Int32) (x2 : Int32) (x3 : Int32) (hx1 : vp_in (t + 1) L ∧ xs (t + 1).toNatClampNeg = x1) (hx2 : vp_in (t + 2) L ∧ xs (t + 2).toNatClampNeg = x2) (hx3 : vp_in (t + 3) L ∧ xs (t + 3).toNatClampNeg = x3) (r : Int64 × cS × Int64 × cS) (hr : gL_c12 Nf x1 x2 x3 h σ hm τ = some r) (hk : Sk K D (aN K) Q 9 1372 (lv5 b ga ma t) [] (wd (Gc D cI cG cL ga) r.1 r.2.1 ++ wd (Mm D cI cG cL ma) r.2.2.1 r.2.2.2) (cn + 1) (sn + 6)) : Sk K D (aN K) Q 9 853 (lv5 b ga ma t) [] (wd (Gc D cI cG cL ga) h σ ++ wd (Mm D cI cG cL ma) hm τ) cn sn := by
  unfold gL_c12 at hr
  obtain ⟨r1, e1, hr⟩ := Option.bind_eq_some_iff.mp hr
  obtain ⟨r2, e2, hr⟩ := Option.bind_eq_some_iff.mp hr
  obtain ⟨r3, e3, hr⟩ := Option.bind_eq_some_iff.mp hr
  obtain ⟨e8, hr⟩ := grd_some hr
  have e8 := of_decide_eq_true e8
  refine k_aload_n X dL_law_853 1 rfl ?_
  refine k_arg X hX hbl (Nat.not_le.mpr hbl) 0 4 rfl rfl dL_law_854 dL_law_855 dL_law_857 (by decide) dL_law_858 dL_law_859 hx1 ?_
  refine k_arg X hX hbl (Nat.not_le.mpr hbl) 0 4 rfl rfl dL_law_860 dL_law_861 dL_law_863 (by decide) dL_law_864 dL_law_865 hx2 ?_
  refine k_arg X hX hbl (Nat.not_le.mpr hbl) 0 4 rfl rfl dL_law_866 dL_law_867 dL_law_869 (by decide) dL_law_870 dL_law_871 hx3 ?_
  refine k_aload_n X dL_law_872 3 rfl ?_
  refine j_callH (n := 5) (o := (some (.int r1.1), r1.2.1, r1.2.2)) (st := []) X [.ref (ga 107), .int x1, .int x2, .int x3, .ref (ga 108)] ⟨rfl, rfl⟩ (hsx _) (fun _ z => z) (fun hi => hL_step (kl K) hfl (Gc D cI cG cL ga) hi Nf h σ 107 (isEHc D cI cG cL ga) 108 (isOutc D cI cG cL ga) x1 x2 x3 r1 e1) q_23_13 q_23_12 q_5_16 q_23_11 (by decide +kernel) ⟨Nat.le_of_ble_eq_true rfl, Nat.le_of_ble_eq_true rfl⟩ rfl rfl (Nat.le_of_ble_eq_true rfl) hcn dL_law_873 rfl ?_
  refine k_istore X [(5, .int r1.1), (0, .ref b), (1, .ref (ga 107)), (2, .ref (ma 0)), (3, .ref (ga 108)), (4, .int t)] dL_law_876 (by decide) rfl ?_
  refine k_aload_n X dL_law_878 3 rfl ?_
  refine k_arg X hX hbl (Nat.not_le.mpr hbl) 1 5 rfl rfl dL_law_879 dL_law_880 dL_law_882 (by decide) dL_law_883 dL_law_884 hx1 ?_
  refine k_arg X hX hbl (Nat.not_le.mpr hbl) 1 5 rfl rfl dL_law_885 dL_law_886 dL_law_888 (by decide) dL_law_889 dL_law_890 hx2 ?_
  refine k_arg X hX hbl (Nat.not_le.mpr hbl) 1 5 rfl rfl dL_law_891 dL_law_892 dL_law_894 (by decide) dL_law_895 dL_law_896 hx3 ?_
  refine j_callM (o := (some (.int r2.1), hm, r2.2)) (st := []) X [.int x1, .int x2, .int x3] 0 ⟨rfl, rfl⟩ (fun hi => ctX7_step (kl K) (Mm D cI cG cL ma) hi Nf hm τ 0 (isMm D cI cG cL ma) x1 x2 x3 r2 e2) cal_X7_step q_23_22 ⟨Nat.le_of_ble_eq_true rfl, Nat.le_of_ble_eq_true rfl⟩ rfl rfl (Nat.le_of_ble_eq_true rfl) hcn rfl (isMm D cI cG cL ma).1 (ce7 (isMm D cI cG cL ma).1 _ _) dL_law_897 rfl ?_
  refine k_istore X [(6, .int r2.1), (5, .int r1.1), (0, .ref b), (1, .ref (ga 107)), (2, .ref (ma 0)), (3, .ref (ga 108)), (4, .int t)] dL_law_900 (by decide) rfl ?_
  refine k_aload_n X dL_law_902 4 rfl ?_
  refine j_callM (o := (some (.int r3), hm, r2.2)) (st := []) X [] 0 ⟨rfl, rfl⟩ (fun hi => ctX7_thrown (kl K) (Mm D cI cG cL ma) hi hm r2.2 0 (isMm D cI cG cL ma) r3 e3) cal_X7_thrown q_7_19 ⟨Nat.le_of_ble_eq_true rfl, Nat.le_of_ble_eq_true rfl⟩ rfl rfl (Nat.le_of_ble_eq_true rfl) hcn rfl (isMm D cI cG cL ma).1 (ce7 (isMm D cI cG cL ma).1 _ _) dL_law_903 rfl ?_
  refine k_iload X dL_law_906 1 rfl ?_
  refine k_iceqT X 913 dL_law_908 (by decide) e8 ?_
  refine k_iload X dL_law_913 1 rfl ?_
  by_cases e0 : r1.1 = 0
  · rw [if_pos e0] at hr
    obtain ⟨e9, hr⟩ := grd_some hr
    have e9 := of_decide_eq_true e9
    obtain rfl := Option.some.inj hr
    refine k_ifneF X 930 dL_law_915 (by decide) e0 ?_
    refine k_aload_n X dL_law_918 5 rfl ?_
    refine k_iconst (v := (0 : Int32)) X dL_law_919 (by decide) ?_
    refine k_laload X 108 ⟨rfl, rfl⟩ (isOutc D cI cG cL ga) rfl dL_law_920 ?_
    refine k_iload X dL_law_921 0 rfl ?_
    refine k_i2l X dL_law_923 ?_
    refine k_lcmp X dL_law_924 ?_
    refine k_ifeqT X 930 dL_law_925 (by decide) (lg_eq e9) ?_
    refine k_goto X 1372 dL_law_930 (by decide) ?_
    refine k_sub [2, 3, 4, 5, 6] rfl ?_
    exact hk
  · rw [if_neg e0] at hr
    obtain rfl := Option.some.inj hr
    refine k_ifneT X 930 dL_law_915 (by decide) e0 ?_
    refine k_goto X 1372 dL_law_930 (by decide) ?_
    refine k_sub [2, 3, 4, 5, 6] rfl ?_
    exact hk
def gL_c13 (Nf : Nat) (x1 : Int32) (x2 : Int32) (x3 : Int32) (h : Int64) (σ : cS) (hm : Int64) (τ : cS) : Option (Int64 × cS × Int64 × cS) := (fL_inner (lCt ()) Nf h σ 107 x1).bind (fun r1 => (fX7_inner (lMt ()) Nf τ 0 x1).bind (fun r2 => (fX7_thrown r2.2 0).bind (fun r3 => grd (decide (r3 = r1.1)) (if r1.1 = 0 then grd (decide (r1.2.1 = (r2.1).toInt64)) (some (r1.2.1, r1.2.2, hm, r2.2)) else some (r1.2.1, r1.2.2, hm, r2.2)))))
set_option maxHeartbeats 4000000 in
set_option maxRecDepth 100000 in
theorem jL_c13 {K : MCx} {D : va_G} {cI cG cL : ClassId} {b L : Nat} {xs : Nat → Int32} {Q : State → Prop} (X : Cy K D cI cG cL (aN K) RL cL_law 9 11 601024 7293034 390) (hX : va_X b L xs (ks K) (ks K).heap) (hbl : b < (ks K).heap.size) (hsx : ∀ G : Lay, (∀ q, FA G q → (ks K).heap.size ≤ q) → SX G (ks K) (ks K).heap) (hfl : (kl K).stackTraces = false) (ga ma : Nat → Nat) (Nf : Nat) {h : Int64} {σ : cS} {hm : Int64} {τ : cS} {t : Int32} {cn sn : Nat} (hcn : cn + 1 ≤ 601024 ∧ sn + 6 ≤ 7293034) (x1 : Int32) (x2 : Int32) (x3 : Int32) (hx1 : vp_in (t + 1) L ∧ xs (t + 1).toNatClampNeg = x1) (hx2 : vp_in (t + 2) L ∧ xs (t + 2).toNatClampNeg = x2) (hx3 : vp_in (t + 3) L ∧ xs (t + 3).toNatClampNeg = x3) (r : Int64 × cS × Int64 × cS) (hr : gL_c13 Nf x1 x2 x3 h σ hm τ = some r) (hk : Sk K D (aN K) Q 9 1372 (lv5 b ga ma t) [] (wd (Gc D cI cG cL ga) r.1 r.2.1 ++ wd (Mm D cI cG cL ma) r.2.2.1 r.2.2.2) (cn + 1) (sn + 6)) : Sk K D (aN K) Q 9 933 (lv5 b ga ma t) [] (wd (Gc D cI cG cL ga) h σ ++ wd (Mm D cI cG cL ma) hm τ) cn sn := by
  unfold gL_c13 at hr
  obtain ⟨r1, e1, hr⟩ := Option.bind_eq_some_iff.mp hr
  obtain ⟨r2, e2, hr⟩ := Option.bind_eq_some_iff.mp hr
  obtain ⟨r3, e3, hr⟩ := Option.bind_eq_some_iff.mp hr
  obtain ⟨e8, hr⟩ := grd_some hr
  have e8 := of_decide_eq_true e8
  refine k_aload_n X dL_law_933 1 rfl ?_
  refine k_arg X hX hbl (Nat.not_le.mpr hbl) 0 4 rfl rfl dL_law_934 dL_law_935 dL_law_937 (by decide) dL_law_938 dL_law_939 hx1 ?_
  refine k_aload_n X dL_law_940 3 rfl ?_
  refine j_callH (n := 3) (o := (some (.int r1.1), r1.2.1, r1.2.2)) (st := []) X [.ref (ga 107), .int x1, .ref (ga 108)] ⟨rfl, rfl⟩ (hsx _) (fun _ z => z) (fun hi => hL_inner (kl K) hfl (Gc D cI cG cL ga) hi Nf h σ 107 (isEHc D cI cG cL ga) 108 (isOutc D cI cG cL ga) x1 r1 e1) q_24_4 q_24_3 q_5_16 q_24_2 (by decide +kernel) ⟨Nat.le_of_ble_eq_true rfl, Nat.le_of_ble_eq_true rfl⟩ rfl rfl (Nat.le_of_ble_eq_true rfl) hcn dL_law_941 rfl ?_
  refine k_istore X [(5, .int r1.1), (0, .ref b), (1, .ref (ga 107)), (2, .ref (ma 0)), (3, .ref (ga 108)), (4, .int t)] dL_law_944 (by decide) rfl ?_
  refine k_aload_n X dL_law_946 3 rfl ?_
  refine k_arg X hX hbl (Nat.not_le.mpr hbl) 1 5 rfl rfl dL_law_947 dL_law_948 dL_law_950 (by decide) dL_law_951 dL_law_952 hx1 ?_
  refine j_callM (o := (some (.int r2.1), hm, r2.2)) (st := []) X [.int x1] 0 ⟨rfl, rfl⟩ (fun hi => ctX7_inner (kl K) (Mm D cI cG cL ma) hi Nf hm τ 0 (isMm D cI cG cL ma) x1 r2 e2) cal_X7_inner q_24_13 ⟨Nat.le_of_ble_eq_true rfl, Nat.le_of_ble_eq_true rfl⟩ rfl rfl (Nat.le_of_ble_eq_true rfl) hcn rfl (isMm D cI cG cL ma).1 (ce7 (isMm D cI cG cL ma).1 _ _) dL_law_953 rfl ?_
  refine k_istore X [(6, .int r2.1), (5, .int r1.1), (0, .ref b), (1, .ref (ga 107)), (2, .ref (ma 0)), (3, .ref (ga 108)), (4, .int t)] dL_law_956 (by decide) rfl ?_
  refine k_aload_n X dL_law_958 4 rfl ?_
  refine j_callM (o := (some (.int r3), hm, r2.2)) (st := []) X [] 0 ⟨rfl, rfl⟩ (fun hi => ctX7_thrown (kl K) (Mm D cI cG cL ma) hi hm r2.2 0 (isMm D cI cG cL ma) r3 e3) cal_X7_thrown q_7_19 ⟨Nat.le_of_ble_eq_true rfl, Nat.le_of_ble_eq_true rfl⟩ rfl rfl (Nat.le_of_ble_eq_true rfl) hcn rfl (isMm D cI cG cL ma).1 (ce7 (isMm D cI cG cL ma).1 _ _) dL_law_959 rfl ?_
  refine k_iload X dL_law_962 1 rfl ?_
  refine k_iceqT X 969 dL_law_964 (by decide) e8 ?_
  refine k_iload X dL_law_969 1 rfl ?_
  by_cases e0 : r1.1 = 0
  · rw [if_pos e0] at hr
    obtain ⟨e9, hr⟩ := grd_some hr
    have e9 := of_decide_eq_true e9
    obtain rfl := Option.some.inj hr
    refine k_ifneF X 986 dL_law_971 (by decide) e0 ?_
    refine k_aload_n X dL_law_974 5 rfl ?_
    refine k_iconst (v := (0 : Int32)) X dL_law_975 (by decide) ?_
    refine k_laload X 108 ⟨rfl, rfl⟩ (isOutc D cI cG cL ga) rfl dL_law_976 ?_
    refine k_iload X dL_law_977 0 rfl ?_
    refine k_i2l X dL_law_979 ?_
    refine k_lcmp X dL_law_980 ?_
    refine k_ifeqT X 986 dL_law_981 (by decide) (lg_eq e9) ?_
    refine k_goto X 1372 dL_law_986 (by decide) ?_
    refine k_sub [2, 3, 4, 5, 6] rfl ?_
    exact hk
  · rw [if_neg e0] at hr
    obtain rfl := Option.some.inj hr
    refine k_ifneT X 986 dL_law_971 (by decide) e0 ?_
    refine k_goto X 1372 dL_law_986 (by decide) ?_
    refine k_sub [2, 3, 4, 5, 6] rfl ?_
    exact hk
def gL_c14 (Nf : Nat) (x1 : Int32) (x2 : Int32) (x3 : Int32) (h : Int64) (σ : cS) (hm : Int64) (τ : cS) : Option (Int64 × cS × Int64 × cS) := (fX6_densest (lCt ()) Nf σ 107).bind (fun r1 => (fX7_densest (lMt ()) Nf τ 0).bind (fun r2 => grd (decide (r1.1 = r2.1)) (some (h, r1.2, hm, r2.2))))
set_option maxHeartbeats 4000000 in
set_option maxRecDepth 100000 in
theorem jL_c14 {K : MCx} {D : va_G} {cI cG cL : ClassId} {b L : Nat} {xs : Nat → Int32} {Q : State → Prop} (X : Cy K D cI cG cL (aN K) RL cL_law 9 11 601024 7293034 390) (hX : va_X b L xs (ks K) (ks K).heap) (hbl : b < (ks K).heap.size) (hsx : ∀ G : Lay, (∀ q, FA G q → (ks K).heap.size ≤ q) → SX G (ks K) (ks K).heap) (hfl : (kl K).stackTraces = false) (ga ma : Nat → Nat) (Nf : Nat) {h : Int64} {σ : cS} {hm : Int64} {τ : cS} {t : Int32} {cn sn : Nat} (hcn : cn + 1 ≤ 601024 ∧ sn + 6 ≤ 7293034) (x1 : Int32) (x2 : Int32) (x3 : Int32) (hx1 : vp_in (t + 1) L ∧ xs (t + 1).toNatClampNeg = x1) (hx2 : vp_in (t + 2) L ∧ xs (t + 2).toNatClampNeg = x2) (hx3 : vp_in (t + 3) L ∧ xs (t + 3).toNatClampNeg = x3) (r : Int64 × cS × Int64 × cS) (hr : gL_c14 Nf x1 x2 x3 h σ hm τ = some r) (hk : Sk K D (aN K) Q 9 1372 (lv5 b ga ma t) [] (wd (Gc D cI cG cL ga) r.1 r.2.1 ++ wd (Mm D cI cG cL ma) r.2.2.1 r.2.2.2) (cn + 1) (sn + 6)) : Sk K D (aN K) Q 9 989 (lv5 b ga ma t) [] (wd (Gc D cI cG cL ga) h σ ++ wd (Mm D cI cG cL ma) hm τ) cn sn := by
  unfold gL_c14 at hr
  obtain ⟨r1, e1, hr⟩ := Option.bind_eq_some_iff.mp hr
  obtain ⟨r2, e2, hr⟩ := Option.bind_eq_some_iff.mp hr
  obtain ⟨e8, hr⟩ := grd_some hr
  have e8 := of_decide_eq_true e8
  obtain rfl := Option.some.inj hr
  refine k_aload_n X dL_law_989 1 rfl ?_
  refine j_callC (o := (some (.int r1.1), h, r1.2)) (st := []) X [] 107 ⟨rfl, rfl⟩ (fun hi => ctX6_densest (kl K) (Gc D cI cG cL ga) hi Nf h σ 107 (isEHc D cI cG cL ga) r1 e1) cal_X6_densest q_24_21 ⟨Nat.le_of_ble_eq_true rfl, Nat.le_of_ble_eq_true rfl⟩ rfl rfl (Nat.le_of_ble_eq_true rfl) ⟨Nat.le_trans (Nat.le_add_right _ _) hcn.1, Nat.le_trans (Nat.le_add_right _ _) hcn.2⟩ rfl (isEHc D cI cG cL ga).1 (ce6 (isEHc D cI cG cL ga).1 _ _) dL_law_990 rfl ?_
  refine k_aload_n X dL_law_993 2 rfl ?_
  refine j_callM (o := (some (.int r2.1), hm, r2.2)) (st := [.int r1.1]) X [] 0 ⟨rfl, rfl⟩ (fun hi => ctX7_densest (kl K) (Mm D cI cG cL ma) hi Nf hm τ 0 (isMm D cI cG cL ma) r2 e2) cal_X7_densest q_26_9 ⟨Nat.le_of_ble_eq_true rfl, Nat.le_of_ble_eq_true rfl⟩ rfl rfl (Nat.le_of_ble_eq_true rfl) ⟨Nat.le_trans (Nat.le_add_right _ _) hcn.1, Nat.le_trans (Nat.le_add_right _ _) hcn.2⟩ rfl (isMm D cI cG cL ma).1 (ce7 (isMm D cI cG cL ma).1 _ _) dL_law_994 rfl ?_
  refine k_iceqT X 1372 dL_law_997 (by decide) e8 ?_
  exact k_wider (Nat.le_add_right _ _) (Nat.le_add_right _ _) hk
def gL_c15 (Nf : Nat) (x1 : Int32) (x2 : Int32) (x3 : Int32) (h : Int64) (σ : cS) (hm : Int64) (τ : cS) : Option (Int64 × cS × Int64 × cS) := (fX6_least (lCt ()) Nf σ 107).bind (fun r1 => (fX7_least (lMt ()) Nf τ 0).bind (fun r2 => grd (decide (r1.1 = r2.1)) (some (h, r1.2, hm, r2.2))))
set_option maxHeartbeats 4000000 in
set_option maxRecDepth 100000 in
theorem jL_c15 {K : MCx} {D : va_G} {cI cG cL : ClassId} {b L : Nat} {xs : Nat → Int32} {Q : State → Prop} (X : Cy K D cI cG cL (aN K) RL cL_law 9 11 601024 7293034 390) (hX : va_X b L xs (ks K) (ks K).heap) (hbl : b < (ks K).heap.size) (hsx : ∀ G : Lay, (∀ q, FA G q → (ks K).heap.size ≤ q) → SX G (ks K) (ks K).heap) (hfl : (kl K).stackTraces = false) (ga ma : Nat → Nat) (Nf : Nat) {h : Int64} {σ : cS} {hm : Int64} {τ : cS} {t : Int32} {cn sn : Nat} (hcn : cn + 1 ≤ 601024 ∧ sn + 6 ≤ 7293034) (x1 : Int32) (x2 : Int32) (x3 : Int32) (hx1 : vp_in (t + 1) L ∧ xs (t + 1).toNatClampNeg = x1) (hx2 : vp_in (t + 2) L ∧ xs (t + 2).toNatClampNeg = x2) (hx3 : vp_in (t + 3) L ∧ xs (t + 3).toNatClampNeg = x3) (r : Int64 × cS × Int64 × cS) (hr : gL_c15 Nf x1 x2 x3 h σ hm τ = some r) (hk : Sk K D (aN K) Q 9 1372 (lv5 b ga ma t) [] (wd (Gc D cI cG cL ga) r.1 r.2.1 ++ wd (Mm D cI cG cL ma) r.2.2.1 r.2.2.2) (cn + 1) (sn + 6)) : Sk K D (aN K) Q 9 1002 (lv5 b ga ma t) [] (wd (Gc D cI cG cL ga) h σ ++ wd (Mm D cI cG cL ma) hm τ) cn sn := by
  unfold gL_c15 at hr
  obtain ⟨r1, e1, hr⟩ := Option.bind_eq_some_iff.mp hr
  obtain ⟨r2, e2, hr⟩ := Option.bind_eq_some_iff.mp hr
  obtain ⟨e8, hr⟩ := grd_some hr
  have e8 := of_decide_eq_true e8
  obtain rfl := Option.some.inj hr
  refine k_aload_n X dL_law_1002 1 rfl ?_
  refine j_callC (o := (some (.int r1.1), h, r1.2)) (st := []) X [] 107 ⟨rfl, rfl⟩ (fun hi => ctX6_least (kl K) (Gc D cI cG cL ga) hi Nf h σ 107 (isEHc D cI cG cL ga) r1 e1) cal_X6_least q_26_17 ⟨Nat.le_of_ble_eq_true rfl, Nat.le_of_ble_eq_true rfl⟩ rfl rfl (Nat.le_of_ble_eq_true rfl) ⟨Nat.le_trans (Nat.le_add_right _ _) hcn.1, Nat.le_trans (Nat.le_add_right _ _) hcn.2⟩ rfl (isEHc D cI cG cL ga).1 (ce6 (isEHc D cI cG cL ga).1 _ _) dL_law_1003 rfl ?_
  refine k_aload_n X dL_law_1006 2 rfl ?_
  refine j_callM (o := (some (.int r2.1), hm, r2.2)) (st := [.int r1.1]) X [] 0 ⟨rfl, rfl⟩ (fun hi => ctX7_least (kl K) (Mm D cI cG cL ma) hi Nf hm τ 0 (isMm D cI cG cL ma) r2 e2) cal_X7_least q_26_21 ⟨Nat.le_of_ble_eq_true rfl, Nat.le_of_ble_eq_true rfl⟩ rfl rfl (Nat.le_of_ble_eq_true rfl) ⟨Nat.le_trans (Nat.le_add_right _ _) hcn.1, Nat.le_trans (Nat.le_add_right _ _) hcn.2⟩ rfl (isMm D cI cG cL ma).1 (ce7 (isMm D cI cG cL ma).1 _ _) dL_law_1007 rfl ?_
  refine k_iceqT X 1372 dL_law_1010 (by decide) e8 ?_
  exact k_wider (Nat.le_add_right _ _) (Nat.le_add_right _ _) hk
def gL_c16 (Nf : Nat) (x1 : Int32) (x2 : Int32) (x3 : Int32) (h : Int64) (σ : cS) (hm : Int64) (τ : cS) : Option (Int64 × cS × Int64 × cS) := (fX6_tooDense (lCt ()) Nf σ 107).bind (fun r1 => (fX7_tooDense (lMt ()) Nf τ 0).bind (fun r2 => grd (decide (r1.1 = r2.1)) (some (h, r1.2, hm, r2.2))))
set_option maxHeartbeats 4000000 in
set_option maxRecDepth 100000 in
theorem jL_c16 {K : MCx} {D : va_G} {cI cG cL : ClassId} {b L : Nat} {xs : Nat → Int32} {Q : State → Prop} (X : Cy K D cI cG cL (aN K) RL cL_law 9 11 601024 7293034 390) (hX : va_X b L xs (ks K) (ks K).heap) (hbl : b < (ks K).heap.size) (hsx : ∀ G : Lay, (∀ q, FA G q → (ks K).heap.size ≤ q) → SX G (ks K) (ks K).heap) (hfl : (kl K).stackTraces = false) (ga ma : Nat → Nat) (Nf : Nat) {h : Int64} {σ : cS} {hm : Int64} {τ : cS} {t : Int32} {cn sn : Nat} (hcn : cn + 1 ≤ 601024 ∧ sn + 6 ≤ 7293034) (x1 : Int32) (x2 : Int32) (x3 : Int32) (hx1 : vp_in (t + 1) L ∧ xs (t + 1).toNatClampNeg = x1) (hx2 : vp_in (t + 2) L ∧ xs (t + 2).toNatClampNeg = x2) (hx3 : vp_in (t + 3) L ∧ xs (t + 3).toNatClampNeg = x3) (r : Int64 × cS × Int64 × cS) (hr : gL_c16 Nf x1 x2 x3 h σ hm τ = some r) (hk : Sk K D (aN K) Q 9 1372 (lv5 b ga ma t) [] (wd (Gc D cI cG cL ga) r.1 r.2.1 ++ wd (Mm D cI cG cL ma) r.2.2.1 r.2.2.2) (cn + 1) (sn + 6)) : Sk K D (aN K) Q 9 1015 (lv5 b ga ma t) [] (wd (Gc D cI cG cL ga) h σ ++ wd (Mm D cI cG cL ma) hm τ) cn sn := by
  unfold gL_c16 at hr
  obtain ⟨r1, e1, hr⟩ := Option.bind_eq_some_iff.mp hr
  obtain ⟨r2, e2, hr⟩ := Option.bind_eq_some_iff.mp hr
  obtain ⟨e8, hr⟩ := grd_some hr
  have e8 := of_decide_eq_true e8
  obtain rfl := Option.some.inj hr
  refine k_aload_n X dL_law_1015 1 rfl ?_
  refine j_callC (o := (some (.int r1.1), h, r1.2)) (st := []) X [] 107 ⟨rfl, rfl⟩ (fun hi => ctX6_tooDense (kl K) (Gc D cI cG cL ga) hi Nf h σ 107 (isEHc D cI cG cL ga) r1 e1) cal_X6_tooDense q_27_5 ⟨Nat.le_of_ble_eq_true rfl, Nat.le_of_ble_eq_true rfl⟩ rfl rfl (Nat.le_of_ble_eq_true rfl) ⟨Nat.le_trans (Nat.le_add_right _ _) hcn.1, Nat.le_trans (Nat.le_add_right _ _) hcn.2⟩ rfl (isEHc D cI cG cL ga).1 (ce6 (isEHc D cI cG cL ga).1 _ _) dL_law_1016 rfl ?_
  refine k_aload_n X dL_law_1019 2 rfl ?_
  refine j_callM (o := (some (.int r2.1), hm, r2.2)) (st := [.int r1.1]) X [] 0 ⟨rfl, rfl⟩ (fun hi => ctX7_tooDense (kl K) (Mm D cI cG cL ma) hi Nf hm τ 0 (isMm D cI cG cL ma) r2 e2) cal_X7_tooDense q_27_13 ⟨Nat.le_of_ble_eq_true rfl, Nat.le_of_ble_eq_true rfl⟩ rfl rfl (Nat.le_of_ble_eq_true rfl) ⟨Nat.le_trans (Nat.le_add_right _ _) hcn.1, Nat.le_trans (Nat.le_add_right _ _) hcn.2⟩ rfl (isMm D cI cG cL ma).1 (ce7 (isMm D cI cG cL ma).1 _ _) dL_law_1020 rfl ?_
  refine k_iceqT X 1372 dL_law_1023 (by decide) e8 ?_
  exact k_wider (Nat.le_add_right _ _) (Nat.le_add_right _ _) hk
def gL_c17 (Nf : Nat) (x1 : Int32) (x2 : Int32) (x3 : Int32) (h : Int64) (σ : cS) (hm : Int64) (τ : cS) : Option (Int64 × cS × Int64 × cS) := (fL_leastWith (lCt ()) Nf h σ 107 x1 x2).bind (fun r1 => (fX7_leastWith (lMt ()) Nf τ 0 x1 x2).bind (fun r2 => (fX7_thrown r2.2 0).bind (fun r3 => grd (decide (r3 = r1.1)) (if r1.1 = 0 then grd (decide (r1.2.1 = (r2.1).toInt64)) (some (r1.2.1, r1.2.2, hm, r2.2)) else some (r1.2.1, r1.2.2, hm, r2.2)))))
set_option maxHeartbeats 4000000 in
set_option maxRecDepth 100000 in
theorem jL_c17 {K : MCx} {D : va_G} {cI cG cL : ClassId} {b L : Nat} {xs : Nat → Int32} {Q : State → Prop} (X : Cy K D cI cG cL (aN K) RL cL_law 9 11 601024 7293034 390) (hX : va_X b L xs (ks K) (ks K).heap) (hbl : b < (ks K).heap.size) (hsx : ∀ G : Lay, (∀ q, FA G q → (ks K).heap.size ≤ q) → SX G (ks K) (ks K).heap) (hfl : (kl K).stackTraces = false) (ga ma : Nat → Nat) (Nf : Nat) {h : Int64} {σ : cS} {hm : Int64} {τ : cS} {t : Int32} {cn sn : Nat} (hcn : cn + 1 ≤ 601024 ∧ sn + 6 ≤ 7293034) (x1 : Int32) (x2 : Int32) (x3 : Int32) (hx1 : vp_in (t + 1) L ∧ xs (t + 1).toNatClampNeg = x1) (hx2 : vp_in (t + 2) L ∧ xs (t + 2).toNatClampNeg = x2) (hx3 : vp_in (t + 3) L ∧ xs (t + 3).toNatClampNeg = x3) (r : Int64 × cS × Int64 × cS) (hr : gL_c17 Nf x1 x2 x3 h σ hm τ = some r) (hk : Sk K D (aN K) Q 9 1372 (lv5 b ga ma t) [] (wd (Gc D cI cG cL ga) r.1 r.2.1 ++ wd (Mm D cI cG cL ma) r.2.2.1 r.2.2.2) (cn + 1) (sn + 6)) : Sk K D (aN K) Q 9 1028 (lv5 b ga ma t) [] (wd (Gc D cI cG cL ga) h σ ++ wd (Mm D cI cG cL ma) hm τ) cn sn := by
  unfold gL_c17 at hr
  obtain ⟨r1, e1, hr⟩ := Option.bind_eq_some_iff.mp hr
  obtain ⟨r2, e2, hr⟩ := Option.bind_eq_some_iff.mp hr
  obtain ⟨r3, e3, hr⟩ := Option.bind_eq_some_iff.mp hr
  obtain ⟨e8, hr⟩ := grd_some hr
  have e8 := of_decide_eq_true e8
  refine k_aload_n X dL_law_1028 1 rfl ?_
  refine k_arg X hX hbl (Nat.not_le.mpr hbl) 0 4 rfl rfl dL_law_1029 dL_law_1030 dL_law_1032 (by decide) dL_law_1033 dL_law_1034 hx1 ?_
  refine k_arg X hX hbl (Nat.not_le.mpr hbl) 0 4 rfl rfl dL_law_1035 dL_law_1036 dL_law_1038 (by decide) dL_law_1039 dL_law_1040 hx2 ?_
  refine k_aload_n X dL_law_1041 3 rfl ?_
  refine j_callH (n := 4) (o := (some (.int r1.1), r1.2.1, r1.2.2)) (st := []) X [.ref (ga 107), .int x1, .int x2, .ref (ga 108)] ⟨rfl, rfl⟩ (hsx _) (fun _ z => z) (fun hi => hL_leastWith (kl K) hfl (Gc D cI cG cL ga) hi Nf h σ 107 (isEHc D cI cG cL ga) 108 (isOutc D cI cG cL ga) x1 x2 r1 e1) q_27_19 q_27_18 q_5_16 q_27_17 (by decide +kernel) ⟨Nat.le_of_ble_eq_true rfl, Nat.le_of_ble_eq_true rfl⟩ rfl rfl (Nat.le_of_ble_eq_true rfl) hcn dL_law_1042 rfl ?_
  refine k_istore X [(5, .int r1.1), (0, .ref b), (1, .ref (ga 107)), (2, .ref (ma 0)), (3, .ref (ga 108)), (4, .int t)] dL_law_1045 (by decide) rfl ?_
  refine k_aload_n X dL_law_1047 3 rfl ?_
  refine k_arg X hX hbl (Nat.not_le.mpr hbl) 1 5 rfl rfl dL_law_1048 dL_law_1049 dL_law_1051 (by decide) dL_law_1052 dL_law_1053 hx1 ?_
  refine k_arg X hX hbl (Nat.not_le.mpr hbl) 1 5 rfl rfl dL_law_1054 dL_law_1055 dL_law_1057 (by decide) dL_law_1058 dL_law_1059 hx2 ?_
  refine j_callM (o := (some (.int r2.1), hm, r2.2)) (st := []) X [.int x1, .int x2] 0 ⟨rfl, rfl⟩ (fun hi => ctX7_leastWith (kl K) (Mm D cI cG cL ma) hi Nf hm τ 0 (isMm D cI cG cL ma) x1 x2 r2 e2) cal_X7_leastWith q_28_4 ⟨Nat.le_of_ble_eq_true rfl, Nat.le_of_ble_eq_true rfl⟩ rfl rfl (Nat.le_of_ble_eq_true rfl) hcn rfl (isMm D cI cG cL ma).1 (ce7 (isMm D cI cG cL ma).1 _ _) dL_law_1060 rfl ?_
  refine k_istore X [(6, .int r2.1), (5, .int r1.1), (0, .ref b), (1, .ref (ga 107)), (2, .ref (ma 0)), (3, .ref (ga 108)), (4, .int t)] dL_law_1063 (by decide) rfl ?_
  refine k_aload_n X dL_law_1065 4 rfl ?_
  refine j_callM (o := (some (.int r3), hm, r2.2)) (st := []) X [] 0 ⟨rfl, rfl⟩ (fun hi => ctX7_thrown (kl K) (Mm D cI cG cL ma) hi hm r2.2 0 (isMm D cI cG cL ma) r3 e3) cal_X7_thrown q_7_19 ⟨Nat.le_of_ble_eq_true rfl, Nat.le_of_ble_eq_true rfl⟩ rfl rfl (Nat.le_of_ble_eq_true rfl) hcn rfl (isMm D cI cG cL ma).1 (ce7 (isMm D cI cG cL ma).1 _ _) dL_law_1066 rfl ?_
  refine k_iload X dL_law_1069 1 rfl ?_
  refine k_iceqT X 1076 dL_law_1071 (by decide) e8 ?_
  refine k_iload X dL_law_1076 1 rfl ?_
  by_cases e0 : r1.1 = 0
  · rw [if_pos e0] at hr
    obtain ⟨e9, hr⟩ := grd_some hr
    have e9 := of_decide_eq_true e9
    obtain rfl := Option.some.inj hr
    refine k_ifneF X 1093 dL_law_1078 (by decide) e0 ?_
    refine k_aload_n X dL_law_1081 5 rfl ?_
    refine k_iconst (v := (0 : Int32)) X dL_law_1082 (by decide) ?_
    refine k_laload X 108 ⟨rfl, rfl⟩ (isOutc D cI cG cL ga) rfl dL_law_1083 ?_
    refine k_iload X dL_law_1084 0 rfl ?_
    refine k_i2l X dL_law_1086 ?_
    refine k_lcmp X dL_law_1087 ?_
    refine k_ifeqT X 1093 dL_law_1088 (by decide) (lg_eq e9) ?_
    refine k_goto X 1372 dL_law_1093 (by decide) ?_
    refine k_sub [2, 3, 4, 5, 6] rfl ?_
    exact hk
  · rw [if_neg e0] at hr
    obtain rfl := Option.some.inj hr
    refine k_ifneT X 1093 dL_law_1078 (by decide) e0 ?_
    refine k_goto X 1372 dL_law_1093 (by decide) ?_
    refine k_sub [2, 3, 4, 5, 6] rfl ?_
    exact hk
def gL_c18 (Nf : Nat) (x1 : Int32) (x2 : Int32) (x3 : Int32) (h : Int64) (σ : cS) (hm : Int64) (τ : cS) : Option (Int64 × cS × Int64 × cS) := (fL_leastWithout (lCt ()) Nf h σ 107 x1).bind (fun r1 => (fX7_leastWithout (lMt ()) Nf τ 0 x1).bind (fun r2 => (fX7_thrown r2.2 0).bind (fun r3 => grd (decide (r3 = r1.1)) (if r1.1 = 0 then grd (decide (r1.2.1 = (r2.1).toInt64)) (some (r1.2.1, r1.2.2, hm, r2.2)) else some (r1.2.1, r1.2.2, hm, r2.2)))))
set_option maxHeartbeats 4000000 in
set_option maxRecDepth 100000 in
theorem jL_c18 {K : MCx} {D : va_G} {cI cG cL : ClassId} {b L : Nat} {xs : Nat → Int32} {Q : State → Prop} (X : Cy K D cI cG cL (aN K) RL cL_law 9 11 601024 7293034 390) (hX : va_X b L xs (ks K) (ks K).heap) (hbl : b < (ks K).heap.size) (hsx : ∀ G : Lay, (∀ q, FA G q → (ks K).heap.size ≤ q) → SX G (ks K) (ks K).heap) (hfl : (kl K).stackTraces = false) (ga ma : Nat → Nat) (Nf : Nat) {h : Int64} {σ : cS} {hm : Int64} {τ : cS} {t : Int32} {cn sn : Nat} (hcn : cn + 1 ≤ 601024 ∧ sn + 6 ≤ 7293034) (x1 : Int32) (x2 : Int32) (x3 : Int32) (hx1 : vp_in (t + 1) L ∧ xs (t + 1).toNatClampNeg = x1) (hx2 : vp_in (t + 2) L ∧ xs (t + 2).toNatClampNeg = x2) (hx3 : vp_in (t + 3) L ∧ xs (t + 3).toNatClampNeg = x3) (r : Int64 × cS × Int64 × cS) (hr : gL_c18 Nf x1 x2 x3 h σ hm τ = some r) (hk : Sk K D (aN K) Q 9 1372 (lv5 b ga ma t) [] (wd (Gc D cI cG cL ga) r.1 r.2.1 ++ wd (Mm D cI cG cL ma) r.2.2.1 r.2.2.2) (cn + 1) (sn + 6)) : Sk K D (aN K) Q 9 1096 (lv5 b ga ma t) [] (wd (Gc D cI cG cL ga) h σ ++ wd (Mm D cI cG cL ma) hm τ) cn sn := by
  unfold gL_c18 at hr
  obtain ⟨r1, e1, hr⟩ := Option.bind_eq_some_iff.mp hr
  obtain ⟨r2, e2, hr⟩ := Option.bind_eq_some_iff.mp hr
  obtain ⟨r3, e3, hr⟩ := Option.bind_eq_some_iff.mp hr
  obtain ⟨e8, hr⟩ := grd_some hr
  have e8 := of_decide_eq_true e8
  refine k_aload_n X dL_law_1096 1 rfl ?_
  refine k_arg X hX hbl (Nat.not_le.mpr hbl) 0 4 rfl rfl dL_law_1097 dL_law_1098 dL_law_1100 (by decide) dL_law_1101 dL_law_1102 hx1 ?_
  refine k_aload_n X dL_law_1103 3 rfl ?_
  refine j_callH (n := 3) (o := (some (.int r1.1), r1.2.1, r1.2.2)) (st := []) X [.ref (ga 107), .int x1, .ref (ga 108)] ⟨rfl, rfl⟩ (hsx _) (fun _ z => z) (fun hi => hL_leastWithout (kl K) hfl (Gc D cI cG cL ga) hi Nf h σ 107 (isEHc D cI cG cL ga) 108 (isOutc D cI cG cL ga) x1 r1 e1) q_28_10 q_28_9 q_5_16 q_28_8 (by decide +kernel) ⟨Nat.le_of_ble_eq_true rfl, Nat.le_of_ble_eq_true rfl⟩ rfl rfl (Nat.le_of_ble_eq_true rfl) hcn dL_law_1104 rfl ?_
  refine k_istore X [(5, .int r1.1), (0, .ref b), (1, .ref (ga 107)), (2, .ref (ma 0)), (3, .ref (ga 108)), (4, .int t)] dL_law_1107 (by decide) rfl ?_
  refine k_aload_n X dL_law_1109 3 rfl ?_
  refine k_arg X hX hbl (Nat.not_le.mpr hbl) 1 5 rfl rfl dL_law_1110 dL_law_1111 dL_law_1113 (by decide) dL_law_1114 dL_law_1115 hx1 ?_
  refine j_callM (o := (some (.int r2.1), hm, r2.2)) (st := []) X [.int x1] 0 ⟨rfl, rfl⟩ (fun hi => ctX7_leastWithout (kl K) (Mm D cI cG cL ma) hi Nf hm τ 0 (isMm D cI cG cL ma) x1 r2 e2) cal_X7_leastWithout q_28_16 ⟨Nat.le_of_ble_eq_true rfl, Nat.le_of_ble_eq_true rfl⟩ rfl rfl (Nat.le_of_ble_eq_true rfl) hcn rfl (isMm D cI cG cL ma).1 (ce7 (isMm D cI cG cL ma).1 _ _) dL_law_1116 rfl ?_
  refine k_istore X [(6, .int r2.1), (5, .int r1.1), (0, .ref b), (1, .ref (ga 107)), (2, .ref (ma 0)), (3, .ref (ga 108)), (4, .int t)] dL_law_1119 (by decide) rfl ?_
  refine k_aload_n X dL_law_1121 4 rfl ?_
  refine j_callM (o := (some (.int r3), hm, r2.2)) (st := []) X [] 0 ⟨rfl, rfl⟩ (fun hi => ctX7_thrown (kl K) (Mm D cI cG cL ma) hi hm r2.2 0 (isMm D cI cG cL ma) r3 e3) cal_X7_thrown q_7_19 ⟨Nat.le_of_ble_eq_true rfl, Nat.le_of_ble_eq_true rfl⟩ rfl rfl (Nat.le_of_ble_eq_true rfl) hcn rfl (isMm D cI cG cL ma).1 (ce7 (isMm D cI cG cL ma).1 _ _) dL_law_1122 rfl ?_
  refine k_iload X dL_law_1125 1 rfl ?_
  refine k_iceqT X 1132 dL_law_1127 (by decide) e8 ?_
  refine k_iload X dL_law_1132 1 rfl ?_
  by_cases e0 : r1.1 = 0
  · rw [if_pos e0] at hr
    obtain ⟨e9, hr⟩ := grd_some hr
    have e9 := of_decide_eq_true e9
    obtain rfl := Option.some.inj hr
    refine k_ifneF X 1149 dL_law_1134 (by decide) e0 ?_
    refine k_aload_n X dL_law_1137 5 rfl ?_
    refine k_iconst (v := (0 : Int32)) X dL_law_1138 (by decide) ?_
    refine k_laload X 108 ⟨rfl, rfl⟩ (isOutc D cI cG cL ga) rfl dL_law_1139 ?_
    refine k_iload X dL_law_1140 0 rfl ?_
    refine k_i2l X dL_law_1142 ?_
    refine k_lcmp X dL_law_1143 ?_
    refine k_ifeqT X 1149 dL_law_1144 (by decide) (lg_eq e9) ?_
    refine k_goto X 1372 dL_law_1149 (by decide) ?_
    refine k_sub [2, 3, 4, 5, 6] rfl ?_
    exact hk
  · rw [if_neg e0] at hr
    obtain rfl := Option.some.inj hr
    refine k_ifneT X 1149 dL_law_1134 (by decide) e0 ?_
    refine k_goto X 1372 dL_law_1149 (by decide) ?_
    refine k_sub [2, 3, 4, 5, 6] rfl ?_
    exact hk
def gL_c19 (Nf : Nat) (x1 : Int32) (x2 : Int32) (x3 : Int32) (h : Int64) (σ : cS) (hm : Int64) (τ : cS) : Option (Int64 × cS × Int64 × cS) := (fX6_critical (lCt ()) Nf σ 107).bind (fun r1 => (fX7_critical (lMt ()) Nf τ 0).bind (fun r2 => grd (decide (r1.1 = r2.1)) (some (h, r1.2, hm, r2.2))))
set_option maxHeartbeats 4000000 in
set_option maxRecDepth 100000 in
theorem jL_c19 {K : MCx} {D : va_G} {cI cG cL : ClassId} {b L : Nat} {xs : Nat → Int32} {Q : State → Prop} (X : Cy K D cI cG cL (aN K) RL cL_law 9 11 601024 7293034 390) (hX : va_X b L xs (ks K) (ks K).heap) (hbl : b < (ks K).heap.size) (hsx : ∀ G : Lay, (∀ q, FA G q → (ks K).heap.size ≤ q) → SX G (ks K) (ks K).heap) (hfl : (kl K).stackTraces = false) (ga ma : Nat → Nat) (Nf : Nat) {h : Int64} {σ : cS} {hm : Int64} {τ : cS} {t : Int32} {cn sn : Nat} (hcn : cn + 1 ≤ 601024 ∧ sn + 6 ≤ 7293034) (x1 : Int32) (x2 : Int32) (x3 : Int32) (hx1 : vp_in (t + 1) L ∧ xs (t + 1).toNatClampNeg = x1) (hx2 : vp_in (t + 2) L ∧ xs (t + 2).toNatClampNeg = x2) (hx3 : vp_in (t + 3) L ∧ xs (t + 3).toNatClampNeg = x3) (r : Int64 × cS × Int64 × cS) (hr : gL_c19 Nf x1 x2 x3 h σ hm τ = some r) (hk : Sk K D (aN K) Q 9 1372 (lv5 b ga ma t) [] (wd (Gc D cI cG cL ga) r.1 r.2.1 ++ wd (Mm D cI cG cL ma) r.2.2.1 r.2.2.2) (cn + 1) (sn + 6)) : Sk K D (aN K) Q 9 1152 (lv5 b ga ma t) [] (wd (Gc D cI cG cL ga) h σ ++ wd (Mm D cI cG cL ma) hm τ) cn sn := by
  unfold gL_c19 at hr
  obtain ⟨r1, e1, hr⟩ := Option.bind_eq_some_iff.mp hr
  obtain ⟨r2, e2, hr⟩ := Option.bind_eq_some_iff.mp hr
  obtain ⟨e8, hr⟩ := grd_some hr
  have e8 := of_decide_eq_true e8
  obtain rfl := Option.some.inj hr
  refine k_aload_n X dL_law_1152 1 rfl ?_
  refine j_callC (o := (some (.int r1.1), h, r1.2)) (st := []) X [] 107 ⟨rfl, rfl⟩ (fun hi => ctX6_critical (kl K) (Gc D cI cG cL ga) hi Nf h σ 107 (isEHc D cI cG cL ga) r1 e1) cal_X6_critical q_28_20 ⟨Nat.le_of_ble_eq_true rfl, Nat.le_of_ble_eq_true rfl⟩ rfl rfl (Nat.le_of_ble_eq_true rfl) ⟨Nat.le_trans (Nat.le_add_right _ _) hcn.1, Nat.le_trans (Nat.le_add_right _ _) hcn.2⟩ rfl (isEHc D cI cG cL ga).1 (ce6 (isEHc D cI cG cL ga).1 _ _) dL_law_1153 rfl ?_
  refine k_aload_n X dL_law_1156 2 rfl ?_
  refine j_callM (o := (some (.int r2.1), hm, r2.2)) (st := [.int r1.1]) X [] 0 ⟨rfl, rfl⟩ (fun hi => ctX7_critical (kl K) (Mm D cI cG cL ma) hi Nf hm τ 0 (isMm D cI cG cL ma) r2 e2) cal_X7_critical q_29_8 ⟨Nat.le_of_ble_eq_true rfl, Nat.le_of_ble_eq_true rfl⟩ rfl rfl (Nat.le_of_ble_eq_true rfl) ⟨Nat.le_trans (Nat.le_add_right _ _) hcn.1, Nat.le_trans (Nat.le_add_right _ _) hcn.2⟩ rfl (isMm D cI cG cL ma).1 (ce7 (isMm D cI cG cL ma).1 _ _) dL_law_1157 rfl ?_
  refine k_iceqT X 1372 dL_law_1160 (by decide) e8 ?_
  exact k_wider (Nat.le_add_right _ _) (Nat.le_add_right _ _) hk
def gL_c20 (Nf : Nat) (x1 : Int32) (x2 : Int32) (x3 : Int32) (h : Int64) (σ : cS) (hm : Int64) (τ : cS) : Option (Int64 × cS × Int64 × cS) := (fX6_turnsToBalance (lCt ()) Nf σ 107).bind (fun r1 => (fX7_turnsToBalance (lMt ()) Nf τ 0).bind (fun r2 => grd (decide (r1.1 = r2.1)) (some (h, r1.2, hm, r2.2))))
set_option maxHeartbeats 4000000 in
set_option maxRecDepth 100000 in
theorem jL_c20 {K : MCx} {D : va_G} {cI cG cL : ClassId} {b L : Nat} {xs : Nat → Int32} {Q : State → Prop} (X : Cy K D cI cG cL (aN K) RL cL_law 9 11 601024 7293034 390) (hX : va_X b L xs (ks K) (ks K).heap) (hbl : b < (ks K).heap.size) (hsx : ∀ G : Lay, (∀ q, FA G q → (ks K).heap.size ≤ q) → SX G (ks K) (ks K).heap) (hfl : (kl K).stackTraces = false) (ga ma : Nat → Nat) (Nf : Nat) {h : Int64} {σ : cS} {hm : Int64} {τ : cS} {t : Int32} {cn sn : Nat} (hcn : cn + 1 ≤ 601024 ∧ sn + 6 ≤ 7293034) (x1 : Int32) (x2 : Int32) (x3 : Int32) (hx1 : vp_in (t + 1) L ∧ xs (t + 1).toNatClampNeg = x1) (hx2 : vp_in (t + 2) L ∧ xs (t + 2).toNatClampNeg = x2) (hx3 : vp_in (t + 3) L ∧ xs (t + 3).toNatClampNeg = x3) (r : Int64 × cS × Int64 × cS) (hr : gL_c20 Nf x1 x2 x3 h σ hm τ = some r) (hk : Sk K D (aN K) Q 9 1372 (lv5 b ga ma t) [] (wd (Gc D cI cG cL ga) r.1 r.2.1 ++ wd (Mm D cI cG cL ma) r.2.2.1 r.2.2.2) (cn + 1) (sn + 6)) : Sk K D (aN K) Q 9 1165 (lv5 b ga ma t) [] (wd (Gc D cI cG cL ga) h σ ++ wd (Mm D cI cG cL ma) hm τ) cn sn := by
  unfold gL_c20 at hr
  obtain ⟨r1, e1, hr⟩ := Option.bind_eq_some_iff.mp hr
  obtain ⟨r2, e2, hr⟩ := Option.bind_eq_some_iff.mp hr
  obtain ⟨e8, hr⟩ := grd_some hr
  have e8 := of_decide_eq_true e8
  obtain rfl := Option.some.inj hr
  refine k_aload_n X dL_law_1165 1 rfl ?_
  refine j_callC (o := (some (.int r1.1), h, r1.2)) (st := []) X [] 107 ⟨rfl, rfl⟩ (fun hi => ctX6_turnsToBalance (kl K) (Gc D cI cG cL ga) hi Nf h σ 107 (isEHc D cI cG cL ga) r1 e1) cal_X6_turnsToBalance q_29_12 ⟨Nat.le_of_ble_eq_true rfl, Nat.le_of_ble_eq_true rfl⟩ rfl rfl (Nat.le_of_ble_eq_true rfl) ⟨Nat.le_trans (Nat.le_add_right _ _) hcn.1, Nat.le_trans (Nat.le_add_right _ _) hcn.2⟩ rfl (isEHc D cI cG cL ga).1 (ce6 (isEHc D cI cG cL ga).1 _ _) dL_law_1166 rfl ?_
  refine k_aload_n X dL_law_1169 2 rfl ?_
  refine j_callM (o := (some (.int r2.1), hm, r2.2)) (st := [.int r1.1]) X [] 0 ⟨rfl, rfl⟩ (fun hi => ctX7_turnsToBalance (kl K) (Mm D cI cG cL ma) hi Nf hm τ 0 (isMm D cI cG cL ma) r2 e2) cal_X7_turnsToBalance q_29_17 ⟨Nat.le_of_ble_eq_true rfl, Nat.le_of_ble_eq_true rfl⟩ rfl rfl (Nat.le_of_ble_eq_true rfl) ⟨Nat.le_trans (Nat.le_add_right _ _) hcn.1, Nat.le_trans (Nat.le_add_right _ _) hcn.2⟩ rfl (isMm D cI cG cL ma).1 (ce7 (isMm D cI cG cL ma).1 _ _) dL_law_1170 rfl ?_
  refine k_iceqT X 1372 dL_law_1173 (by decide) e8 ?_
  exact k_wider (Nat.le_add_right _ _) (Nat.le_add_right _ _) hk
def gL_c21 (Nf : Nat) (x1 : Int32) (x2 : Int32) (x3 : Int32) (h : Int64) (σ : cS) (hm : Int64) (τ : cS) : Option (Int64 × cS × Int64 × cS) := (fX6_leastCapacity (lCt ()) Nf σ 107).bind (fun r1 => (fX7_leastCapacity (lMt ()) Nf τ 0).bind (fun r2 => grd (decide (r1.1 = r2.1)) (some (h, r1.2, hm, r2.2))))
set_option maxHeartbeats 4000000 in
set_option maxRecDepth 100000 in
theorem jL_c21 {K : MCx} {D : va_G} {cI cG cL : ClassId} {b L : Nat} {xs : Nat → Int32} {Q : State → Prop} (X : Cy K D cI cG cL (aN K) RL cL_law 9 11 601024 7293034 390) (hX : va_X b L xs (ks K) (ks K).heap) (hbl : b < (ks K).heap.size) (hsx : ∀ G : Lay, (∀ q, FA G q → (ks K).heap.size ≤ q) → SX G (ks K) (ks K).heap) (hfl : (kl K).stackTraces = false) (ga ma : Nat → Nat) (Nf : Nat) {h : Int64} {σ : cS} {hm : Int64} {τ : cS} {t : Int32} {cn sn : Nat} (hcn : cn + 1 ≤ 601024 ∧ sn + 6 ≤ 7293034) (x1 : Int32) (x2 : Int32) (x3 : Int32) (hx1 : vp_in (t + 1) L ∧ xs (t + 1).toNatClampNeg = x1) (hx2 : vp_in (t + 2) L ∧ xs (t + 2).toNatClampNeg = x2) (hx3 : vp_in (t + 3) L ∧ xs (t + 3).toNatClampNeg = x3) (r : Int64 × cS × Int64 × cS) (hr : gL_c21 Nf x1 x2 x3 h σ hm τ = some r) (hk : Sk K D (aN K) Q 9 1372 (lv5 b ga ma t) [] (wd (Gc D cI cG cL ga) r.1 r.2.1 ++ wd (Mm D cI cG cL ma) r.2.2.1 r.2.2.2) (cn + 1) (sn + 6)) : Sk K D (aN K) Q 9 1178 (lv5 b ga ma t) [] (wd (Gc D cI cG cL ga) h σ ++ wd (Mm D cI cG cL ma) hm τ) cn sn := by
  unfold gL_c21 at hr
  obtain ⟨r1, e1, hr⟩ := Option.bind_eq_some_iff.mp hr
  obtain ⟨r2, e2, hr⟩ := Option.bind_eq_some_iff.mp hr
  obtain ⟨e8, hr⟩ := grd_some hr
  have e8 := of_decide_eq_true e8
  obtain rfl := Option.some.inj hr
  refine k_aload_n X dL_law_1178 1 rfl ?_
  refine j_callC (o := (some (.int r1.1), h, r1.2)) (st := []) X [] 107 ⟨rfl, rfl⟩ (fun hi => ctX6_leastCapacity (kl K) (Gc D cI cG cL ga) hi Nf h σ 107 (isEHc D cI cG cL ga) r1 e1) cal_X6_leastCapacity q_30_5 ⟨Nat.le_of_ble_eq_true rfl, Nat.le_of_ble_eq_true rfl⟩ rfl rfl (Nat.le_of_ble_eq_true rfl) ⟨Nat.le_trans (Nat.le_add_right _ _) hcn.1, Nat.le_trans (Nat.le_add_right _ _) hcn.2⟩ rfl (isEHc D cI cG cL ga).1 (ce6 (isEHc D cI cG cL ga).1 _ _) dL_law_1179 rfl ?_
  refine k_aload_n X dL_law_1182 2 rfl ?_
  refine j_callM (o := (some (.int r2.1), hm, r2.2)) (st := [.int r1.1]) X [] 0 ⟨rfl, rfl⟩ (fun hi => ctX7_leastCapacity (kl K) (Mm D cI cG cL ma) hi Nf hm τ 0 (isMm D cI cG cL ma) r2 e2) cal_X7_leastCapacity q_30_9 ⟨Nat.le_of_ble_eq_true rfl, Nat.le_of_ble_eq_true rfl⟩ rfl rfl (Nat.le_of_ble_eq_true rfl) ⟨Nat.le_trans (Nat.le_add_right _ _) hcn.1, Nat.le_trans (Nat.le_add_right _ _) hcn.2⟩ rfl (isMm D cI cG cL ma).1 (ce7 (isMm D cI cG cL ma).1 _ _) dL_law_1183 rfl ?_
  refine k_iceqT X 1372 dL_law_1186 (by decide) e8 ?_
  exact k_wider (Nat.le_add_right _ _) (Nat.le_add_right _ _) hk
def gL_c22 (Nf : Nat) (x1 : Int32) (x2 : Int32) (x3 : Int32) (h : Int64) (σ : cS) (hm : Int64) (τ : cS) : Option (Int64 × cS × Int64 × cS) := (fX6_density (lCt ()) Nf σ 107).bind (fun r1 => (fX7_density (lMt ()) Nf τ 0).bind (fun r2 => grd (decide (Op.cmpValue (FP.dcmp r1.1 r2.1) .l = 0)) (some (h, r1.2, hm, r2.2))))
set_option maxHeartbeats 4000000 in
set_option maxRecDepth 100000 in
theorem jL_c22 {K : MCx} {D : va_G} {cI cG cL : ClassId} {b L : Nat} {xs : Nat → Int32} {Q : State → Prop} (X : Cy K D cI cG cL (aN K) RL cL_law 9 11 601024 7293034 390) (hX : va_X b L xs (ks K) (ks K).heap) (hbl : b < (ks K).heap.size) (hsx : ∀ G : Lay, (∀ q, FA G q → (ks K).heap.size ≤ q) → SX G (ks K) (ks K).heap) (hfl : (kl K).stackTraces = false) (ga ma : Nat → Nat) (Nf : Nat) {h : Int64} {σ : cS} {hm : Int64} {τ : cS} {t : Int32} {cn sn : Nat} (hcn : cn + 1 ≤ 601024 ∧ sn + 6 ≤ 7293034) (x1 : Int32) (x2 : Int32) (x3 : Int32) (hx1 : vp_in (t + 1) L ∧ xs (t + 1).toNatClampNeg = x1) (hx2 : vp_in (t + 2) L ∧ xs (t + 2).toNatClampNeg = x2) (hx3 : vp_in (t + 3) L ∧ xs (t + 3).toNatClampNeg = x3) (r : Int64 × cS × Int64 × cS) (hr : gL_c22 Nf x1 x2 x3 h σ hm τ = some r) (hk : Sk K D (aN K) Q 9 1372 (lv5 b ga ma t) [] (wd (Gc D cI cG cL ga) r.1 r.2.1 ++ wd (Mm D cI cG cL ma) r.2.2.1 r.2.2.2) (cn + 1) (sn + 6)) : Sk K D (aN K) Q 9 1191 (lv5 b ga ma t) [] (wd (Gc D cI cG cL ga) h σ ++ wd (Mm D cI cG cL ma) hm τ) cn sn := by
  unfold gL_c22 at hr
  obtain ⟨r1, e1, hr⟩ := Option.bind_eq_some_iff.mp hr
  obtain ⟨r2, e2, hr⟩ := Option.bind_eq_some_iff.mp hr
  obtain ⟨e9, hr⟩ := grd_some hr
  have e9 := of_decide_eq_true e9
  obtain rfl := Option.some.inj hr
  refine k_aload_n X dL_law_1191 1 rfl ?_
  refine j_callC (o := (some (.double r1.1), h, r1.2)) (st := []) X [] 107 ⟨rfl, rfl⟩ (fun hi => ctX6_density (kl K) (Gc D cI cG cL ga) hi Nf h σ 107 (isEHc D cI cG cL ga) r1 e1) cal_X6_density q_30_14 ⟨Nat.le_of_ble_eq_true rfl, Nat.le_of_ble_eq_true rfl⟩ rfl rfl (Nat.le_of_ble_eq_true rfl) ⟨Nat.le_trans (Nat.le_add_right _ _) hcn.1, Nat.le_trans (Nat.le_add_right _ _) hcn.2⟩ rfl (isEHc D cI cG cL ga).1 (ce6 (isEHc D cI cG cL ga).1 _ _) dL_law_1192 rfl ?_
  refine k_dstore X [(5, .double r1.1), (0, .ref b), (1, .ref (ga 107)), (2, .ref (ma 0)), (3, .ref (ga 108)), (4, .int t)] dL_law_1195 (by decide) rfl ?_
  refine k_aload_n X dL_law_1197 3 rfl ?_
  refine j_callM (o := (some (.double r2.1), hm, r2.2)) (st := []) X [] 0 ⟨rfl, rfl⟩ (fun hi => ctX7_density (kl K) (Mm D cI cG cL ma) hi Nf hm τ 0 (isMm D cI cG cL ma) r2 e2) cal_X7_density q_30_18 ⟨Nat.le_of_ble_eq_true rfl, Nat.le_of_ble_eq_true rfl⟩ rfl rfl (Nat.le_of_ble_eq_true rfl) ⟨Nat.le_trans (Nat.le_add_right _ _) hcn.1, Nat.le_trans (Nat.le_add_right _ _) hcn.2⟩ rfl (isMm D cI cG cL ma).1 (ce7 (isMm D cI cG cL ma).1 _ _) dL_law_1198 rfl ?_
  refine k_dstore X [(7, .double r2.1), (5, .double r1.1), (0, .ref b), (1, .ref (ga 107)), (2, .ref (ma 0)), (3, .ref (ga 108)), (4, .int t)] dL_law_1201 (by decide) rfl ?_
  refine k_dload X dL_law_1203 1 rfl ?_
  refine k_dload X dL_law_1205 0 rfl ?_
  refine k_dcmp X dL_law_1207 ?_
  refine k_ifeqT X 1229 dL_law_1208 (by decide) e9 ?_
  refine k_goto X 1372 dL_law_1229 (by decide) ?_
  refine k_sub [2, 3, 4, 5, 6] rfl ?_
  exact k_wider (Nat.le_add_right _ _) (Nat.le_add_right _ _) hk
def gL_c23 (Nf : Nat) (x1 : Int32) (x2 : Int32) (x3 : Int32) (h : Int64) (σ : cS) (hm : Int64) (τ : cS) : Option (Int64 × cS × Int64 × cS) := (fL_append (lCt ()) Nf h σ 107 x1).bind (fun r1 => (fX7_append (lMt ()) τ 0 x1).bind (fun r2 => (fX7_thrown r2.2 0).bind (fun r3 => grd (decide (r3 = r1.1)) (if r1.1 = 0 then grd (decide (r1.2.1 = (r2.1).toInt64)) (some (r1.2.1, r1.2.2, hm, r2.2)) else some (r1.2.1, r1.2.2, hm, r2.2)))))
set_option maxHeartbeats 4000000 in
set_option maxRecDepth 100000 in
theorem jL_c23 {K : MCx} {D : va_G} {cI cG cL : ClassId} {b L : Nat} {xs : Nat → Int32} {Q : State → Prop} (X : Cy K D cI cG cL (aN K) RL cL_law 9 11 601024 7293034 390) (hX : va_X b L xs (ks K) (ks K).heap) (hbl : b < (ks K).heap.size) (hsx : ∀ G : Lay, (∀ q, FA G q → (ks K).heap.size ≤ q) → SX G (ks K) (ks K).heap) (hfl : (kl K).stackTraces = false) (ga ma : Nat → Nat) (Nf : Nat) {h : Int64} {σ : cS} {hm : Int64} {τ : cS} {t : Int32} {cn sn : Nat} (hcn : cn + 1 ≤ 601024 ∧ sn + 6 ≤ 7293034) (x1 : Int32) (x2 : Int32) (x3 : Int32) (hx1 : vp_in (t + 1) L ∧ xs (t + 1).toNatClampNeg = x1) (hx2 : vp_in (t + 2) L ∧ xs (t + 2).toNatClampNeg = x2) (hx3 : vp_in (t + 3) L ∧ xs (t + 3).toNatClampNeg = x3) (r : Int64 × cS × Int64 × cS) (hr : gL_c23 Nf x1 x2 x3 h σ hm τ = some r) (hk : Sk K D (aN K) Q 9 1372 (lv5 b ga ma t) [] (wd (Gc D cI cG cL ga) r.1 r.2.1 ++ wd (Mm D cI cG cL ma) r.2.2.1 r.2.2.2) (cn + 1) (sn + 6)) : Sk K D (aN K) Q 9 1232 (lv5 b ga ma t) [] (wd (Gc D cI cG cL ga) h σ ++ wd (Mm D cI cG cL ma) hm τ) cn sn := by
  unfold gL_c23 at hr
  obtain ⟨r1, e1, hr⟩ := Option.bind_eq_some_iff.mp hr
  obtain ⟨r2, e2, hr⟩ := Option.bind_eq_some_iff.mp hr
  obtain ⟨r3, e3, hr⟩ := Option.bind_eq_some_iff.mp hr
  obtain ⟨e8, hr⟩ := grd_some hr
  have e8 := of_decide_eq_true e8
  refine k_aload_n X dL_law_1232 1 rfl ?_
  refine k_arg X hX hbl (Nat.not_le.mpr hbl) 0 4 rfl rfl dL_law_1233 dL_law_1234 dL_law_1236 (by decide) dL_law_1237 dL_law_1238 hx1 ?_
  refine k_aload_n X dL_law_1239 3 rfl ?_
  refine j_callH (n := 3) (o := (some (.int r1.1), r1.2.1, r1.2.2)) (st := []) X [.ref (ga 107), .int x1, .ref (ga 108)] ⟨rfl, rfl⟩ (hsx _) (fun _ z => z) (fun hi => hL_append (kl K) hfl (Gc D cI cG cL ga) hi Nf h σ 107 (isEHc D cI cG cL ga) 108 (isOutc D cI cG cL ga) x1 r1 e1) q_31_0 q_30_23 q_5_16 q_30_22 (by decide +kernel) ⟨Nat.le_of_ble_eq_true rfl, Nat.le_of_ble_eq_true rfl⟩ rfl rfl (Nat.le_of_ble_eq_true rfl) hcn dL_law_1240 rfl ?_
  refine k_istore X [(5, .int r1.1), (0, .ref b), (1, .ref (ga 107)), (2, .ref (ma 0)), (3, .ref (ga 108)), (4, .int t)] dL_law_1243 (by decide) rfl ?_
  refine k_aload_n X dL_law_1245 3 rfl ?_
  refine k_arg X hX hbl (Nat.not_le.mpr hbl) 1 5 rfl rfl dL_law_1246 dL_law_1247 dL_law_1249 (by decide) dL_law_1250 dL_law_1251 hx1 ?_
  refine j_callM (o := (some (.int r2.1), hm, r2.2)) (st := []) X [.int x1] 0 ⟨rfl, rfl⟩ (fun hi => ctX7_append (kl K) (Mm D cI cG cL ma) hi hm τ 0 (isMm D cI cG cL ma) x1 r2 e2) cal_X7_append q_31_11 ⟨Nat.le_of_ble_eq_true rfl, Nat.le_of_ble_eq_true rfl⟩ rfl rfl (Nat.le_of_ble_eq_true rfl) hcn rfl (isMm D cI cG cL ma).1 (ce7 (isMm D cI cG cL ma).1 _ _) dL_law_1252 rfl ?_
  refine k_istore X [(6, .int r2.1), (5, .int r1.1), (0, .ref b), (1, .ref (ga 107)), (2, .ref (ma 0)), (3, .ref (ga 108)), (4, .int t)] dL_law_1255 (by decide) rfl ?_
  refine k_aload_n X dL_law_1257 4 rfl ?_
  refine j_callM (o := (some (.int r3), hm, r2.2)) (st := []) X [] 0 ⟨rfl, rfl⟩ (fun hi => ctX7_thrown (kl K) (Mm D cI cG cL ma) hi hm r2.2 0 (isMm D cI cG cL ma) r3 e3) cal_X7_thrown q_7_19 ⟨Nat.le_of_ble_eq_true rfl, Nat.le_of_ble_eq_true rfl⟩ rfl rfl (Nat.le_of_ble_eq_true rfl) hcn rfl (isMm D cI cG cL ma).1 (ce7 (isMm D cI cG cL ma).1 _ _) dL_law_1258 rfl ?_
  refine k_iload X dL_law_1261 1 rfl ?_
  refine k_iceqT X 1268 dL_law_1263 (by decide) e8 ?_
  refine k_iload X dL_law_1268 1 rfl ?_
  by_cases e0 : r1.1 = 0
  · rw [if_pos e0] at hr
    obtain ⟨e9, hr⟩ := grd_some hr
    have e9 := of_decide_eq_true e9
    obtain rfl := Option.some.inj hr
    refine k_ifneF X 1285 dL_law_1270 (by decide) e0 ?_
    refine k_aload_n X dL_law_1273 5 rfl ?_
    refine k_iconst (v := (0 : Int32)) X dL_law_1274 (by decide) ?_
    refine k_laload X 108 ⟨rfl, rfl⟩ (isOutc D cI cG cL ga) rfl dL_law_1275 ?_
    refine k_iload X dL_law_1276 0 rfl ?_
    refine k_i2l X dL_law_1278 ?_
    refine k_lcmp X dL_law_1279 ?_
    refine k_ifeqT X 1285 dL_law_1280 (by decide) (lg_eq e9) ?_
    refine k_goto X 1372 dL_law_1285 (by decide) ?_
    refine k_sub [2, 3, 4, 5, 6] rfl ?_
    exact hk
  · rw [if_neg e0] at hr
    obtain rfl := Option.some.inj hr
    refine k_ifneT X 1285 dL_law_1270 (by decide) e0 ?_
    refine k_goto X 1372 dL_law_1285 (by decide) ?_
    refine k_sub [2, 3, 4, 5, 6] rfl ?_
    exact hk
def gL_c24 (Nf : Nat) (x1 : Int32) (x2 : Int32) (x3 : Int32) (h : Int64) (σ : cS) (hm : Int64) (τ : cS) : Option (Int64 × cS × Int64 × cS) := (fX6_clearText σ 107).bind (fun r1 => (fX7_clearText τ 0).bind (fun r2 => grd (decide (r1.1 = r2.1)) (some (h, r1.2, hm, r2.2))))
set_option maxHeartbeats 4000000 in
set_option maxRecDepth 100000 in
theorem jL_c24 {K : MCx} {D : va_G} {cI cG cL : ClassId} {b L : Nat} {xs : Nat → Int32} {Q : State → Prop} (X : Cy K D cI cG cL (aN K) RL cL_law 9 11 601024 7293034 390) (hX : va_X b L xs (ks K) (ks K).heap) (hbl : b < (ks K).heap.size) (hsx : ∀ G : Lay, (∀ q, FA G q → (ks K).heap.size ≤ q) → SX G (ks K) (ks K).heap) (hfl : (kl K).stackTraces = false) (ga ma : Nat → Nat) (Nf : Nat) {h : Int64} {σ : cS} {hm : Int64} {τ : cS} {t : Int32} {cn sn : Nat} (hcn : cn + 1 ≤ 601024 ∧ sn + 6 ≤ 7293034) (x1 : Int32) (x2 : Int32) (x3 : Int32) (hx1 : vp_in (t + 1) L ∧ xs (t + 1).toNatClampNeg = x1) (hx2 : vp_in (t + 2) L ∧ xs (t + 2).toNatClampNeg = x2) (hx3 : vp_in (t + 3) L ∧ xs (t + 3).toNatClampNeg = x3) (r : Int64 × cS × Int64 × cS) (hr : gL_c24 Nf x1 x2 x3 h σ hm τ = some r) (hk : Sk K D (aN K) Q 9 1372 (lv5 b ga ma t) [] (wd (Gc D cI cG cL ga) r.1 r.2.1 ++ wd (Mm D cI cG cL ma) r.2.2.1 r.2.2.2) (cn + 1) (sn + 6)) : Sk K D (aN K) Q 9 1288 (lv5 b ga ma t) [] (wd (Gc D cI cG cL ga) h σ ++ wd (Mm D cI cG cL ma) hm τ) cn sn := by
  unfold gL_c24 at hr
  obtain ⟨r1, e1, hr⟩ := Option.bind_eq_some_iff.mp hr
  obtain ⟨r2, e2, hr⟩ := Option.bind_eq_some_iff.mp hr
  obtain ⟨e8, hr⟩ := grd_some hr
  have e8 := of_decide_eq_true e8
  obtain rfl := Option.some.inj hr
  refine k_aload_n X dL_law_1288 1 rfl ?_
  refine j_callC (o := (some (.int r1.1), h, r1.2)) (st := []) X [] 107 ⟨rfl, rfl⟩ (fun hi => ctX6_clearText (kl K) (Gc D cI cG cL ga) hi h σ 107 (isEHc D cI cG cL ga) r1 e1) cal_X6_clearText q_31_16 ⟨Nat.le_of_ble_eq_true rfl, Nat.le_of_ble_eq_true rfl⟩ rfl rfl (Nat.le_of_ble_eq_true rfl) ⟨Nat.le_trans (Nat.le_add_right _ _) hcn.1, Nat.le_trans (Nat.le_add_right _ _) hcn.2⟩ rfl (isEHc D cI cG cL ga).1 (ce6 (isEHc D cI cG cL ga).1 _ _) dL_law_1289 rfl ?_
  refine k_aload_n X dL_law_1292 2 rfl ?_
  refine j_callM (o := (some (.int r2.1), hm, r2.2)) (st := [.int r1.1]) X [] 0 ⟨rfl, rfl⟩ (fun hi => ctX7_clearText (kl K) (Mm D cI cG cL ma) hi hm τ 0 (isMm D cI cG cL ma) r2 e2) cal_X7_clearText q_32_0 ⟨Nat.le_of_ble_eq_true rfl, Nat.le_of_ble_eq_true rfl⟩ rfl rfl (Nat.le_of_ble_eq_true rfl) ⟨Nat.le_trans (Nat.le_add_right _ _) hcn.1, Nat.le_trans (Nat.le_add_right _ _) hcn.2⟩ rfl (isMm D cI cG cL ma).1 (ce7 (isMm D cI cG cL ma).1 _ _) dL_law_1293 rfl ?_
  refine k_iceqT X 1372 dL_law_1296 (by decide) e8 ?_
  exact k_wider (Nat.le_add_right _ _) (Nat.le_add_right _ _) hk
def gL_c25 (Nf : Nat) (x1 : Int32) (x2 : Int32) (x3 : Int32) (h : Int64) (σ : cS) (hm : Int64) (τ : cS) : Option (Int64 × cS × Int64 × cS) := (fX6_carryOut (lCt ()) Nf σ 107).bind (fun r1 => (fX7_carryOut (lMt ()) Nf τ 0).bind (fun r2 => grd (decide (r1.1 = r2.1)) (some (h, r1.2, hm, r2.2))))
set_option maxHeartbeats 4000000 in
set_option maxRecDepth 100000 in
theorem jL_c25 {K : MCx} {D : va_G} {cI cG cL : ClassId} {b L : Nat} {xs : Nat → Int32} {Q : State → Prop} (X : Cy K D cI cG cL (aN K) RL cL_law 9 11 601024 7293034 390) (hX : va_X b L xs (ks K) (ks K).heap) (hbl : b < (ks K).heap.size) (hsx : ∀ G : Lay, (∀ q, FA G q → (ks K).heap.size ≤ q) → SX G (ks K) (ks K).heap) (hfl : (kl K).stackTraces = false) (ga ma : Nat → Nat) (Nf : Nat) {h : Int64} {σ : cS} {hm : Int64} {τ : cS} {t : Int32} {cn sn : Nat} (hcn : cn + 1 ≤ 601024 ∧ sn + 6 ≤ 7293034) (x1 : Int32) (x2 : Int32) (x3 : Int32) (hx1 : vp_in (t + 1) L ∧ xs (t + 1).toNatClampNeg = x1) (hx2 : vp_in (t + 2) L ∧ xs (t + 2).toNatClampNeg = x2) (hx3 : vp_in (t + 3) L ∧ xs (t + 3).toNatClampNeg = x3) (r : Int64 × cS × Int64 × cS) (hr : gL_c25 Nf x1 x2 x3 h σ hm τ = some r) (hk : Sk K D (aN K) Q 9 1372 (lv5 b ga ma t) [] (wd (Gc D cI cG cL ga) r.1 r.2.1 ++ wd (Mm D cI cG cL ma) r.2.2.1 r.2.2.2) (cn + 1) (sn + 6)) : Sk K D (aN K) Q 9 1301 (lv5 b ga ma t) [] (wd (Gc D cI cG cL ga) h σ ++ wd (Mm D cI cG cL ma) hm τ) cn sn := by
  unfold gL_c25 at hr
  obtain ⟨r1, e1, hr⟩ := Option.bind_eq_some_iff.mp hr
  obtain ⟨r2, e2, hr⟩ := Option.bind_eq_some_iff.mp hr
  obtain ⟨e8, hr⟩ := grd_some hr
  have e8 := of_decide_eq_true e8
  obtain rfl := Option.some.inj hr
  refine k_aload_n X dL_law_1301 1 rfl ?_
  refine j_callC (o := (some (.int r1.1), h, r1.2)) (st := []) X [] 107 ⟨rfl, rfl⟩ (fun hi => ctX6_carryOut (kl K) (Gc D cI cG cL ga) hi Nf h σ 107 (isEHc D cI cG cL ga) r1 e1) cal_X6_carryOut q_32_4 ⟨Nat.le_of_ble_eq_true rfl, Nat.le_of_ble_eq_true rfl⟩ rfl rfl (Nat.le_of_ble_eq_true rfl) ⟨Nat.le_trans (Nat.le_add_right _ _) hcn.1, Nat.le_trans (Nat.le_add_right _ _) hcn.2⟩ rfl (isEHc D cI cG cL ga).1 (ce6 (isEHc D cI cG cL ga).1 _ _) dL_law_1302 rfl ?_
  refine k_aload_n X dL_law_1305 2 rfl ?_
  refine j_callM (o := (some (.int r2.1), hm, r2.2)) (st := [.int r1.1]) X [] 0 ⟨rfl, rfl⟩ (fun hi => ctX7_carryOut (kl K) (Mm D cI cG cL ma) hi Nf hm τ 0 (isMm D cI cG cL ma) r2 e2) cal_X7_carryOut q_34_21 ⟨Nat.le_of_ble_eq_true rfl, Nat.le_of_ble_eq_true rfl⟩ rfl rfl (Nat.le_of_ble_eq_true rfl) ⟨Nat.le_trans (Nat.le_add_right _ _) hcn.1, Nat.le_trans (Nat.le_add_right _ _) hcn.2⟩ rfl (isMm D cI cG cL ma).1 (ce7 (isMm D cI cG cL ma).1 _ _) dL_law_1306 rfl ?_
  refine k_iceqT X 1372 dL_law_1309 (by decide) e8 ?_
  exact k_wider (Nat.le_add_right _ _) (Nat.le_add_right _ _) hk
def gL_c26 (Nf : Nat) (x1 : Int32) (x2 : Int32) (x3 : Int32) (h : Int64) (σ : cS) (hm : Int64) (τ : cS) : Option (Int64 × cS × Int64 × cS) := (fL_undo (lCt ()) Nf h σ 107).bind (fun r1 => (fX7_undo (lMt ()) Nf τ 0).bind (fun r2 => (fX7_thrown r2.2 0).bind (fun r3 => grd (decide (r3 = r1.1)) (if r1.1 = 0 then grd (decide (r1.2.1 = (r2.1).toInt64)) (some (r1.2.1, r1.2.2, hm, r2.2)) else some (r1.2.1, r1.2.2, hm, r2.2)))))
set_option maxHeartbeats 4000000 in
set_option maxRecDepth 100000 in
theorem jL_c26 {K : MCx} {D : va_G} {cI cG cL : ClassId} {b L : Nat} {xs : Nat → Int32} {Q : State → Prop} (X : Cy K D cI cG cL (aN K) RL cL_law 9 11 601024 7293034 390) (hX : va_X b L xs (ks K) (ks K).heap) (hbl : b < (ks K).heap.size) (hsx : ∀ G : Lay, (∀ q, FA G q → (ks K).heap.size ≤ q) → SX G (ks K) (ks K).heap) (hfl : (kl K).stackTraces = false) (ga ma : Nat → Nat) (Nf : Nat) {h : Int64} {σ : cS} {hm : Int64} {τ : cS} {t : Int32} {cn sn : Nat} (hcn : cn + 1 ≤ 601024 ∧ sn + 6 ≤ 7293034) (x1 : Int32) (x2 : Int32) (x3 : Int32) (hx1 : vp_in (t + 1) L ∧ xs (t + 1).toNatClampNeg = x1) (hx2 : vp_in (t + 2) L ∧ xs (t + 2).toNatClampNeg = x2) (hx3 : vp_in (t + 3) L ∧ xs (t + 3).toNatClampNeg = x3) (r : Int64 × cS × Int64 × cS) (hr : gL_c26 Nf x1 x2 x3 h σ hm τ = some r) (hk : Sk K D (aN K) Q 9 1372 (lv5 b ga ma t) [] (wd (Gc D cI cG cL ga) r.1 r.2.1 ++ wd (Mm D cI cG cL ma) r.2.2.1 r.2.2.2) (cn + 1) (sn + 6)) : Sk K D (aN K) Q 9 1314 (lv5 b ga ma t) [] (wd (Gc D cI cG cL ga) h σ ++ wd (Mm D cI cG cL ma) hm τ) cn sn := by
  unfold gL_c26 at hr
  obtain ⟨r1, e1, hr⟩ := Option.bind_eq_some_iff.mp hr
  obtain ⟨r2, e2, hr⟩ := Option.bind_eq_some_iff.mp hr
  obtain ⟨r3, e3, hr⟩ := Option.bind_eq_some_iff.mp hr
  obtain ⟨e8, hr⟩ := grd_some hr
  have e8 := of_decide_eq_true e8
  refine k_aload_n X dL_law_1314 1 rfl ?_
  refine k_aload_n X dL_law_1315 3 rfl ?_
  refine j_callH (n := 2) (o := (some (.int r1.1), r1.2.1, r1.2.2)) (st := []) X [.ref (ga 107), .ref (ga 108)] ⟨rfl, rfl⟩ (hsx _) (fun _ z => z) (fun hi => hL_undo (kl K) hfl (Gc D cI cG cL ga) hi Nf h σ 107 (isEHc D cI cG cL ga) 108 (isOutc D cI cG cL ga) r1 e1) q_36_4 q_36_3 q_5_16 q_36_2 (by decide +kernel) ⟨Nat.le_of_ble_eq_true rfl, Nat.le_of_ble_eq_true rfl⟩ rfl rfl (Nat.le_of_ble_eq_true rfl) hcn dL_law_1316 rfl ?_
  refine k_istore X [(5, .int r1.1), (0, .ref b), (1, .ref (ga 107)), (2, .ref (ma 0)), (3, .ref (ga 108)), (4, .int t)] dL_law_1319 (by decide) rfl ?_
  refine k_aload_n X dL_law_1321 3 rfl ?_
  refine j_callM (o := (some (.int r2.1), hm, r2.2)) (st := []) X [] 0 ⟨rfl, rfl⟩ (fun hi => ctX7_undo (kl K) (Mm D cI cG cL ma) hi Nf hm τ 0 (isMm D cI cG cL ma) r2 e2) cal_X7_undo q_36_13 ⟨Nat.le_of_ble_eq_true rfl, Nat.le_of_ble_eq_true rfl⟩ rfl rfl (Nat.le_of_ble_eq_true rfl) hcn rfl (isMm D cI cG cL ma).1 (ce7 (isMm D cI cG cL ma).1 _ _) dL_law_1322 rfl ?_
  refine k_istore X [(6, .int r2.1), (5, .int r1.1), (0, .ref b), (1, .ref (ga 107)), (2, .ref (ma 0)), (3, .ref (ga 108)), (4, .int t)] dL_law_1325 (by decide) rfl ?_
  refine k_aload_n X dL_law_1327 4 rfl ?_
  refine j_callM (o := (some (.int r3), hm, r2.2)) (st := []) X [] 0 ⟨rfl, rfl⟩ (fun hi => ctX7_thrown (kl K) (Mm D cI cG cL ma) hi hm r2.2 0 (isMm D cI cG cL ma) r3 e3) cal_X7_thrown q_7_19 ⟨Nat.le_of_ble_eq_true rfl, Nat.le_of_ble_eq_true rfl⟩ rfl rfl (Nat.le_of_ble_eq_true rfl) hcn rfl (isMm D cI cG cL ma).1 (ce7 (isMm D cI cG cL ma).1 _ _) dL_law_1328 rfl ?_
  refine k_iload X dL_law_1331 1 rfl ?_
  refine k_iceqT X 1338 dL_law_1333 (by decide) e8 ?_
  refine k_iload X dL_law_1338 1 rfl ?_
  by_cases e0 : r1.1 = 0
  · rw [if_pos e0] at hr
    obtain ⟨e9, hr⟩ := grd_some hr
    have e9 := of_decide_eq_true e9
    obtain rfl := Option.some.inj hr
    refine k_ifneF X 1355 dL_law_1340 (by decide) e0 ?_
    refine k_aload_n X dL_law_1343 5 rfl ?_
    refine k_iconst (v := (0 : Int32)) X dL_law_1344 (by decide) ?_
    refine k_laload X 108 ⟨rfl, rfl⟩ (isOutc D cI cG cL ga) rfl dL_law_1345 ?_
    refine k_iload X dL_law_1346 0 rfl ?_
    refine k_i2l X dL_law_1348 ?_
    refine k_lcmp X dL_law_1349 ?_
    refine k_ifeqT X 1355 dL_law_1350 (by decide) (lg_eq e9) ?_
    refine k_goto X 1372 dL_law_1355 (by decide) ?_
    refine k_sub [2, 3, 4, 5, 6] rfl ?_
    exact hk
  · rw [if_neg e0] at hr
    obtain rfl := Option.some.inj hr
    refine k_ifneT X 1355 dL_law_1340 (by decide) e0 ?_
    refine k_goto X 1372 dL_law_1355 (by decide) ?_
    refine k_sub [2, 3, 4, 5, 6] rfl ?_
    exact hk
def gL_c27 (Nf : Nat) (x1 : Int32) (x2 : Int32) (x3 : Int32) (h : Int64) (σ : cS) (hm : Int64) (τ : cS) : Option (Int64 × cS × Int64 × cS) := (fX6_digest (lCt ()) Nf σ 107).bind (fun r1 => (fX7_digest (lMt ()) Nf hm τ 0).bind (fun r2 => grd (decide (r1.1 = r2.1)) (some (h, r1.2, r2.2.1, r2.2.2))))
set_option maxHeartbeats 4000000 in
set_option maxRecDepth 100000 in
theorem jL_c27 {K : MCx} {D : va_G} {cI cG cL : ClassId} {b L : Nat} {xs : Nat → Int32} {Q : State → Prop} (X : Cy K D cI cG cL (aN K) RL cL_law 9 11 601024 7293034 390) (hX : va_X b L xs (ks K) (ks K).heap) (hbl : b < (ks K).heap.size) (hsx : ∀ G : Lay, (∀ q, FA G q → (ks K).heap.size ≤ q) → SX G (ks K) (ks K).heap) (hfl : (kl K).stackTraces = false) (ga ma : Nat → Nat) (Nf : Nat) {h : Int64} {σ : cS} {hm : Int64} {τ : cS} {t : Int32} {cn sn : Nat} (hcn : cn + 1 ≤ 601024 ∧ sn + 6 ≤ 7293034) (x1 : Int32) (x2 : Int32) (x3 : Int32) (hx1 : vp_in (t + 1) L ∧ xs (t + 1).toNatClampNeg = x1) (hx2 : vp_in (t + 2) L ∧ xs (t + 2).toNatClampNeg = x2) (hx3 : vp_in (t + 3) L ∧ xs (t + 3).toNatClampNeg = x3) (r : Int64 × cS × Int64 × cS) (hr : gL_c27 Nf x1 x2 x3 h σ hm τ = some r) (hk : Sk K D (aN K) Q 9 1372 (lv5 b ga ma t) [] (wd (Gc D cI cG cL ga) r.1 r.2.1 ++ wd (Mm D cI cG cL ma) r.2.2.1 r.2.2.2) (cn + 1) (sn + 6)) : Sk K D (aN K) Q 9 1358 (lv5 b ga ma t) [] (wd (Gc D cI cG cL ga) h σ ++ wd (Mm D cI cG cL ma) hm τ) cn sn := by
  unfold gL_c27 at hr
  obtain ⟨r1, e1, hr⟩ := Option.bind_eq_some_iff.mp hr
  obtain ⟨r2, e2, hr⟩ := Option.bind_eq_some_iff.mp hr
  obtain ⟨e9, hr⟩ := grd_some hr
  have e9 := of_decide_eq_true e9
  obtain rfl := Option.some.inj hr
  refine k_aload_n X dL_law_1358 1 rfl ?_
  refine j_callC (o := (some (.long r1.1), h, r1.2)) (st := []) X [] 107 ⟨rfl, rfl⟩ (fun hi => ctX6_digest (kl K) (Gc D cI cG cL ga) hi Nf h σ 107 (isEHc D cI cG cL ga) r1 e1) cal_X6_digest q_36_17 ⟨Nat.le_of_ble_eq_true rfl, Nat.le_of_ble_eq_true rfl⟩ rfl rfl (Nat.le_of_ble_eq_true rfl) ⟨Nat.le_trans (Nat.le_add_right _ _) hcn.1, Nat.le_trans (Nat.le_add_right _ _) hcn.2⟩ rfl (isEHc D cI cG cL ga).1 (ce6 (isEHc D cI cG cL ga).1 _ _) dL_law_1359 rfl ?_
  refine k_aload_n X dL_law_1362 2 rfl ?_
  refine j_callM (o := (some (.long r2.1), r2.2.1, r2.2.2)) (st := [.long r1.1]) X [] 0 ⟨rfl, rfl⟩ (fun hi => ctX7_digest (kl K) (Mm D cI cG cL ma) hi Nf hm τ 0 (isMm D cI cG cL ma) r2 e2) cal_X7_digest q_37_8 ⟨Nat.le_of_ble_eq_true rfl, Nat.le_of_ble_eq_true rfl⟩ rfl rfl (Nat.le_of_ble_eq_true rfl) ⟨Nat.le_trans (Nat.le_add_right _ _) hcn.1, Nat.le_trans (Nat.le_add_right _ _) hcn.2⟩ rfl (isMm D cI cG cL ma).1 (ce7 (isMm D cI cG cL ma).1 _ _) dL_law_1363 rfl ?_
  refine k_lcmp X dL_law_1366 ?_
  refine k_ifeqT X 1372 dL_law_1367 (by decide) (lg_eq e9) ?_
  exact k_wider (Nat.le_add_right _ _) (Nat.le_add_right _ _) hk
