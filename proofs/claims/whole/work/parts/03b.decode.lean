theorem dX6_edgeAt_26 : decode cX6_edgeAt 26 = .ok (.getfield 10, 3) := by decide +kernel
theorem dX6_edgeAt_29 : decode cX6_edgeAt 29 = .ok (.getfield 166, 3) := by decide +kernel
theorem dX6_edgeAt_32 : decode cX6_edgeAt 32 = .ok (.iload_n 1, 1) := by decide +kernel
theorem dX6_edgeAt_33 : decode cX6_edgeAt 33 = .ok (.invokevirtual 122, 3) := by decide +kernel
theorem dX6_edgeAt_36 : decode cX6_edgeAt 36 = .ok (.ireturn, 1) := by decide +kernel
theorem dX6_value_0 : decode cX6_value 0 = .ok (.iload_n 1, 1) := by decide +kernel
theorem dX6_value_1 : decode cX6_value 1 = .ok (.tableswitch 111 0 7 #[47, 55, 63, 71, 79, 87, 95, 103], 47) := by decide +kernel
theorem dX6_value_48 : decode cX6_value 48 = .ok (.aload_n 0, 1) := by decide +kernel
theorem dX6_value_49 : decode cX6_value 49 = .ok (.getfield 10, 3) := by decide +kernel
theorem dX6_value_52 : decode cX6_value 52 = .ok (.getfield 169, 3) := by decide +kernel
theorem dX6_value_55 : decode cX6_value 55 = .ok (.ireturn, 1) := by decide +kernel
theorem dX6_value_56 : decode cX6_value 56 = .ok (.aload_n 0, 1) := by decide +kernel
theorem dX6_value_57 : decode cX6_value 57 = .ok (.getfield 10, 3) := by decide +kernel
theorem dX6_value_60 : decode cX6_value 60 = .ok (.getfield 54, 3) := by decide +kernel
theorem dX6_value_63 : decode cX6_value 63 = .ok (.ireturn, 1) := by decide +kernel
theorem dX6_value_64 : decode cX6_value 64 = .ok (.aload_n 0, 1) := by decide +kernel
theorem dX6_value_65 : decode cX6_value 65 = .ok (.getfield 10, 3) := by decide +kernel
theorem dX6_value_68 : decode cX6_value 68 = .ok (.invokevirtual 172, 3) := by decide +kernel
theorem dX6_value_71 : decode cX6_value 71 = .ok (.ireturn, 1) := by decide +kernel
theorem dX6_value_72 : decode cX6_value 72 = .ok (.aload_n 0, 1) := by decide +kernel
theorem dX6_value_73 : decode cX6_value 73 = .ok (.getfield 10, 3) := by decide +kernel
theorem dX6_value_76 : decode cX6_value 76 = .ok (.invokevirtual 176, 3) := by decide +kernel
theorem dX6_value_79 : decode cX6_value 79 = .ok (.ireturn, 1) := by decide +kernel
theorem dX6_value_80 : decode cX6_value 80 = .ok (.aload_n 0, 1) := by decide +kernel
theorem dX6_value_81 : decode cX6_value 81 = .ok (.getfield 10, 3) := by decide +kernel
theorem dX6_value_84 : decode cX6_value 84 = .ok (.invokevirtual 179, 3) := by decide +kernel
theorem dX6_value_87 : decode cX6_value 87 = .ok (.ireturn, 1) := by decide +kernel
theorem dX6_value_88 : decode cX6_value 88 = .ok (.aload_n 0, 1) := by decide +kernel
theorem dX6_value_89 : decode cX6_value 89 = .ok (.getfield 10, 3) := by decide +kernel
theorem dX6_value_92 : decode cX6_value 92 = .ok (.getfield 182, 3) := by decide +kernel
theorem dX6_value_95 : decode cX6_value 95 = .ok (.ireturn, 1) := by decide +kernel
theorem dX6_value_96 : decode cX6_value 96 = .ok (.aload_n 0, 1) := by decide +kernel
theorem dX6_value_97 : decode cX6_value 97 = .ok (.getfield 10, 3) := by decide +kernel
theorem dX6_value_100 : decode cX6_value 100 = .ok (.getfield 185, 3) := by decide +kernel
theorem dX6_value_103 : decode cX6_value 103 = .ok (.ireturn, 1) := by decide +kernel
theorem dX6_value_104 : decode cX6_value 104 = .ok (.aload_n 0, 1) := by decide +kernel
theorem dX6_value_105 : decode cX6_value 105 = .ok (.getfield 10, 3) := by decide +kernel
theorem dX6_value_108 : decode cX6_value 108 = .ok (.invokevirtual 188, 3) := by decide +kernel
theorem dX6_value_111 : decode cX6_value 111 = .ok (.ireturn, 1) := by decide +kernel
theorem dX6_value_112 : decode cX6_value 112 = .ok (.new 47, 3) := by decide +kernel
theorem dX6_value_115 : decode cX6_value 115 = .ok (.dup, 1) := by decide +kernel
theorem dX6_value_116 : decode cX6_value 116 = .ok (.ldc 147, 2) := by decide +kernel
theorem dX6_value_118 : decode cX6_value 118 = .ok (.invokespecial 51, 3) := by decide +kernel
theorem dX6_value_121 : decode cX6_value 121 = .ok (.athrow, 1) := by decide +kernel
theorem dX6_path_0 : decode cX6_path 0 = .ok (.aload_n 0, 1) := by decide +kernel
theorem dX6_path_1 : decode cX6_path 1 = .ok (.iload_n 1, 1) := by decide +kernel
theorem dX6_path_2 : decode cX6_path 2 = .ok (.invokevirtual 69, 3) := by decide +kernel
theorem dX6_path_5 : decode cX6_path 5 = .ok (.aload_n 0, 1) := by decide +kernel
theorem dX6_path_6 : decode cX6_path 6 = .ok (.iload_n 2, 1) := by decide +kernel
theorem dX6_path_7 : decode cX6_path 7 = .ok (.invokevirtual 69, 3) := by decide +kernel
theorem dX6_path_10 : decode cX6_path 10 = .ok (.aload_n 0, 1) := by decide +kernel
theorem dX6_path_11 : decode cX6_path 11 = .ok (.getfield 22, 3) := by decide +kernel
theorem dX6_path_14 : decode cX6_path 14 = .ok (.aload_n 0, 1) := by decide +kernel
theorem dX6_path_15 : decode cX6_path 15 = .ok (.getfield 10, 3) := by decide +kernel
theorem dX6_path_18 : decode cX6_path 18 = .ok (.iload_n 1, 1) := by decide +kernel
theorem dX6_path_19 : decode cX6_path 19 = .ok (.invokevirtual 99, 3) := by decide +kernel
theorem dX6_path_22 : decode cX6_path 22 = .ok (.aload_n 0, 1) := by decide +kernel
theorem dX6_path_23 : decode cX6_path 23 = .ok (.getfield 22, 3) := by decide +kernel
theorem dX6_path_26 : decode cX6_path 26 = .ok (.iload_n 2, 1) := by decide +kernel
theorem dX6_path_27 : decode cX6_path 27 = .ok (.invokevirtual 191, 3) := by decide +kernel
theorem dX6_path_30 : decode cX6_path 30 = .ok (.ireturn, 1) := by decide +kernel
theorem dX6_step_0 : decode cX6_step 0 = .ok (.aload_n 0, 1) := by decide +kernel
theorem dX6_step_1 : decode cX6_step 1 = .ok (.iload_n 1, 1) := by decide +kernel
theorem dX6_step_2 : decode cX6_step 2 = .ok (.invokevirtual 69, 3) := by decide +kernel
theorem dX6_step_5 : decode cX6_step 5 = .ok (.aload_n 0, 1) := by decide +kernel
theorem dX6_step_6 : decode cX6_step 6 = .ok (.iload_n 2, 1) := by decide +kernel
theorem dX6_step_7 : decode cX6_step 7 = .ok (.invokevirtual 69, 3) := by decide +kernel
theorem dX6_step_10 : decode cX6_step 10 = .ok (.aload_n 0, 1) := by decide +kernel
theorem dX6_step_11 : decode cX6_step 11 = .ok (.getfield 22, 3) := by decide +kernel
theorem dX6_step_14 : decode cX6_step 14 = .ok (.aload_n 0, 1) := by decide +kernel
theorem dX6_step_15 : decode cX6_step 15 = .ok (.getfield 10, 3) := by decide +kernel
theorem dX6_step_18 : decode cX6_step 18 = .ok (.iload_n 1, 1) := by decide +kernel
theorem dX6_step_19 : decode cX6_step 19 = .ok (.invokevirtual 99, 3) := by decide +kernel
theorem dX6_step_22 : decode cX6_step 22 = .ok (.aload_n 0, 1) := by decide +kernel
theorem dX6_step_23 : decode cX6_step 23 = .ok (.getfield 22, 3) := by decide +kernel
theorem dX6_step_26 : decode cX6_step 26 = .ok (.iload_n 2, 1) := by decide +kernel
theorem dX6_step_27 : decode cX6_step 27 = .ok (.iload_n 3, 1) := by decide +kernel
theorem dX6_step_28 : decode cX6_step 28 = .ok (.invokevirtual 194, 3) := by decide +kernel
theorem dX6_step_31 : decode cX6_step 31 = .ok (.istore 4, 2) := by decide +kernel
theorem dX6_step_33 : decode cX6_step 33 = .ok (.iload 4, 2) := by decide +kernel
theorem dX6_step_35 : decode cX6_step 35 = .ok (.iconst (-1), 1) := by decide +kernel
theorem dX6_step_36 : decode cX6_step 36 = .ok (.if_icmp .ne 13, 3) := by decide +kernel
theorem dX6_step_39 : decode cX6_step 39 = .ok (.new 161, 3) := by decide +kernel
theorem dX6_step_42 : decode cX6_step 42 = .ok (.dup, 1) := by decide +kernel
theorem dX6_step_43 : decode cX6_step 43 = .ok (.ldc 197, 2) := by decide +kernel
theorem dX6_step_45 : decode cX6_step 45 = .ok (.invokespecial 165, 3) := by decide +kernel
theorem dX6_step_48 : decode cX6_step 48 = .ok (.athrow, 1) := by decide +kernel
theorem dX6_step_49 : decode cX6_step 49 = .ok (.aload_n 0, 1) := by decide +kernel
theorem dX6_step_50 : decode cX6_step 50 = .ok (.getfield 10, 3) := by decide +kernel
theorem dX6_step_53 : decode cX6_step 53 = .ok (.getfield 166, 3) := by decide +kernel
theorem dX6_step_56 : decode cX6_step 56 = .ok (.iload 4, 2) := by decide +kernel
theorem dX6_step_58 : decode cX6_step 58 = .ok (.invokevirtual 122, 3) := by decide +kernel
theorem dX6_step_61 : decode cX6_step 61 = .ok (.ireturn, 1) := by decide +kernel
theorem dX6_inner_0 : decode cX6_inner 0 = .ok (.iload_n 1, 1) := by decide +kernel
theorem dX6_inner_1 : decode cX6_inner 1 = .ok (.ifCond .le 16, 3) := by decide +kernel
theorem dX6_inner_4 : decode cX6_inner 4 = .ok (.iload_n 1, 1) := by decide +kernel
theorem dX6_inner_5 : decode cX6_inner 5 = .ok (.iconst 1, 1) := by decide +kernel
theorem dX6_inner_6 : decode cX6_inner 6 = .ok (.aload_n 0, 1) := by decide +kernel
theorem dX6_inner_7 : decode cX6_inner 7 = .ok (.getfield 10, 3) := by decide +kernel
theorem dX6_inner_10 : decode cX6_inner 10 = .ok (.getfield 169, 3) := by decide +kernel
theorem dX6_inner_13 : decode cX6_inner 13 = .ok (.ishl, 1) := by decide +kernel
theorem dX6_inner_14 : decode cX6_inner 14 = .ok (.if_icmp .lt 13, 3) := by decide +kernel
theorem dX6_inner_17 : decode cX6_inner 17 = .ok (.new 47, 3) := by decide +kernel
theorem dX6_inner_20 : decode cX6_inner 20 = .ok (.dup, 1) := by decide +kernel
theorem dX6_inner_21 : decode cX6_inner 21 = .ok (.ldc 199, 2) := by decide +kernel
theorem dX6_inner_23 : decode cX6_inner 23 = .ok (.invokespecial 51, 3) := by decide +kernel
theorem dX6_inner_26 : decode cX6_inner 26 = .ok (.athrow, 1) := by decide +kernel
theorem dX6_inner_27 : decode cX6_inner 27 = .ok (.aload_n 0, 1) := by decide +kernel
theorem dX6_inner_28 : decode cX6_inner 28 = .ok (.getfield 10, 3) := by decide +kernel
theorem dX6_inner_31 : decode cX6_inner 31 = .ok (.iload_n 1, 1) := by decide +kernel
theorem dX6_inner_32 : decode cX6_inner 32 = .ok (.invokevirtual 201, 3) := by decide +kernel
theorem dX6_inner_35 : decode cX6_inner 35 = .ok (.ireturn, 1) := by decide +kernel
theorem dX6_densest_0 : decode cX6_densest 0 = .ok (.aload_n 0, 1) := by decide +kernel
theorem dX6_densest_1 : decode cX6_densest 1 = .ok (.getfield 29, 3) := by decide +kernel
theorem dX6_densest_4 : decode cX6_densest 4 = .ok (.aload_n 0, 1) := by decide +kernel
theorem dX6_densest_5 : decode cX6_densest 5 = .ok (.getfield 10, 3) := by decide +kernel
theorem dX6_densest_8 : decode cX6_densest 8 = .ok (.invokevirtual 204, 3) := by decide +kernel
theorem dX6_densest_11 : decode cX6_densest 11 = .ok (.aload_n 0, 1) := by decide +kernel
theorem dX6_densest_12 : decode cX6_densest 12 = .ok (.getfield 29, 3) := by decide +kernel
theorem dX6_densest_15 : decode cX6_densest 15 = .ok (.getfield 207, 3) := by decide +kernel
theorem dX6_densest_18 : decode cX6_densest 18 = .ok (.ireturn, 1) := by decide +kernel
theorem dX6_least_0 : decode cX6_least 0 = .ok (.aload_n 0, 1) := by decide +kernel
theorem dX6_least_1 : decode cX6_least 1 = .ok (.getfield 29, 3) := by decide +kernel
theorem dX6_least_4 : decode cX6_least 4 = .ok (.aload_n 0, 1) := by decide +kernel
theorem dX6_least_5 : decode cX6_least 5 = .ok (.getfield 10, 3) := by decide +kernel
theorem dX6_least_8 : decode cX6_least 8 = .ok (.invokevirtual 204, 3) := by decide +kernel
theorem dX6_least_11 : decode cX6_least 11 = .ok (.aload_n 0, 1) := by decide +kernel
theorem dX6_least_12 : decode cX6_least 12 = .ok (.getfield 29, 3) := by decide +kernel
theorem dX6_least_15 : decode cX6_least 15 = .ok (.getfield 210, 3) := by decide +kernel
theorem dX6_least_18 : decode cX6_least 18 = .ok (.ireturn, 1) := by decide +kernel
theorem dX6_tooDense_0 : decode cX6_tooDense 0 = .ok (.aload_n 0, 1) := by decide +kernel
theorem dX6_tooDense_1 : decode cX6_tooDense 1 = .ok (.getfield 29, 3) := by decide +kernel
theorem dX6_tooDense_4 : decode cX6_tooDense 4 = .ok (.aload_n 0, 1) := by decide +kernel
theorem dX6_tooDense_5 : decode cX6_tooDense 5 = .ok (.getfield 10, 3) := by decide +kernel
theorem dX6_tooDense_8 : decode cX6_tooDense 8 = .ok (.invokevirtual 204, 3) := by decide +kernel
theorem dX6_tooDense_11 : decode cX6_tooDense 11 = .ok (.aload_n 0, 1) := by decide +kernel
theorem dX6_tooDense_12 : decode cX6_tooDense 12 = .ok (.getfield 29, 3) := by decide +kernel
theorem dX6_tooDense_15 : decode cX6_tooDense 15 = .ok (.aload_n 0, 1) := by decide +kernel
theorem dX6_tooDense_16 : decode cX6_tooDense 16 = .ok (.getfield 10, 3) := by decide +kernel
theorem dX6_tooDense_19 : decode cX6_tooDense 19 = .ok (.getfield 118, 3) := by decide +kernel
theorem dX6_tooDense_22 : decode cX6_tooDense 22 = .ok (.aload_n 0, 1) := by decide +kernel
theorem dX6_tooDense_23 : decode cX6_tooDense 23 = .ok (.getfield 10, 3) := by decide +kernel
theorem dX6_tooDense_26 : decode cX6_tooDense 26 = .ok (.getfield 169, 3) := by decide +kernel
theorem dX6_tooDense_29 : decode cX6_tooDense 29 = .ok (.invokevirtual 212, 3) := by decide +kernel
theorem dX6_tooDense_32 : decode cX6_tooDense 32 = .ok (.ireturn, 1) := by decide +kernel
theorem dX6_leastWith_0 : decode cX6_leastWith 0 = .ok (.aload_n 0, 1) := by decide +kernel
theorem dX6_leastWith_1 : decode cX6_leastWith 1 = .ok (.iload_n 1, 1) := by decide +kernel
theorem dX6_leastWith_2 : decode cX6_leastWith 2 = .ok (.invokevirtual 69, 3) := by decide +kernel
theorem dX6_leastWith_5 : decode cX6_leastWith 5 = .ok (.aload_n 0, 1) := by decide +kernel
theorem dX6_leastWith_6 : decode cX6_leastWith 6 = .ok (.iload_n 2, 1) := by decide +kernel
theorem dX6_leastWith_7 : decode cX6_leastWith 7 = .ok (.invokevirtual 69, 3) := by decide +kernel
theorem dX6_leastWith_10 : decode cX6_leastWith 10 = .ok (.iload_n 1, 1) := by decide +kernel
theorem dX6_leastWith_11 : decode cX6_leastWith 11 = .ok (.iload_n 2, 1) := by decide +kernel
theorem dX6_leastWith_12 : decode cX6_leastWith 12 = .ok (.invokestatic 72, 3) := by decide +kernel
theorem dX6_leastWith_15 : decode cX6_leastWith 15 = .ok (.aload_n 0, 1) := by decide +kernel
theorem dX6_leastWith_16 : decode cX6_leastWith 16 = .ok (.getfield 29, 3) := by decide +kernel
theorem dX6_leastWith_19 : decode cX6_leastWith 19 = .ok (.aload_n 0, 1) := by decide +kernel
theorem dX6_leastWith_20 : decode cX6_leastWith 20 = .ok (.getfield 10, 3) := by decide +kernel
theorem dX6_leastWith_23 : decode cX6_leastWith 23 = .ok (.invokevirtual 204, 3) := by decide +kernel
theorem dX6_leastWith_26 : decode cX6_leastWith 26 = .ok (.aload_n 0, 1) := by decide +kernel
theorem dX6_leastWith_27 : decode cX6_leastWith 27 = .ok (.getfield 29, 3) := by decide +kernel
theorem dX6_leastWith_30 : decode cX6_leastWith 30 = .ok (.iconst 1, 1) := by decide +kernel
theorem dX6_leastWith_31 : decode cX6_leastWith 31 = .ok (.iload_n 1, 1) := by decide +kernel
theorem dX6_leastWith_32 : decode cX6_leastWith 32 = .ok (.ishl, 1) := by decide +kernel
theorem dX6_leastWith_33 : decode cX6_leastWith 33 = .ok (.iconst 1, 1) := by decide +kernel
theorem dX6_leastWith_34 : decode cX6_leastWith 34 = .ok (.iload_n 2, 1) := by decide +kernel
theorem dX6_leastWith_35 : decode cX6_leastWith 35 = .ok (.ishl, 1) := by decide +kernel
theorem dX6_leastWith_36 : decode cX6_leastWith 36 = .ok (.ior, 1) := by decide +kernel
theorem dX6_leastWith_37 : decode cX6_leastWith 37 = .ok (.iconst 1, 1) := by decide +kernel
theorem dX6_leastWith_38 : decode cX6_leastWith 38 = .ok (.invokevirtual 216, 3) := by decide +kernel
theorem dX6_leastWith_41 : decode cX6_leastWith 41 = .ok (.ireturn, 1) := by decide +kernel
theorem dX6_leastWithout_0 : decode cX6_leastWithout 0 = .ok (.aload_n 0, 1) := by decide +kernel
theorem dX6_leastWithout_1 : decode cX6_leastWithout 1 = .ok (.iload_n 1, 1) := by decide +kernel
theorem dX6_leastWithout_2 : decode cX6_leastWithout 2 = .ok (.invokevirtual 89, 3) := by decide +kernel
theorem dX6_leastWithout_5 : decode cX6_leastWithout 5 = .ok (.istore_n 2, 1) := by decide +kernel
theorem dX6_leastWithout_6 : decode cX6_leastWithout 6 = .ok (.aload_n 0, 1) := by decide +kernel
theorem dX6_leastWithout_7 : decode cX6_leastWithout 7 = .ok (.getfield 29, 3) := by decide +kernel
theorem dX6_leastWithout_10 : decode cX6_leastWithout 10 = .ok (.aload_n 0, 1) := by decide +kernel
theorem dX6_leastWithout_11 : decode cX6_leastWithout 11 = .ok (.getfield 10, 3) := by decide +kernel
theorem dX6_leastWithout_14 : decode cX6_leastWithout 14 = .ok (.invokevirtual 204, 3) := by decide +kernel
theorem dX6_leastWithout_17 : decode cX6_leastWithout 17 = .ok (.aload_n 0, 1) := by decide +kernel
theorem dX6_leastWithout_18 : decode cX6_leastWithout 18 = .ok (.getfield 29, 3) := by decide +kernel
theorem dX6_leastWithout_21 : decode cX6_leastWithout 21 = .ok (.aload_n 0, 1) := by decide +kernel
theorem dX6_leastWithout_22 : decode cX6_leastWithout 22 = .ok (.getfield 10, 3) := by decide +kernel
theorem dX6_leastWithout_25 : decode cX6_leastWithout 25 = .ok (.iload_n 2, 1) := by decide +kernel
theorem dX6_leastWithout_26 : decode cX6_leastWithout 26 = .ok (.invokevirtual 219, 3) := by decide +kernel
theorem dX6_leastWithout_29 : decode cX6_leastWithout 29 = .ok (.iconst (-1), 1) := by decide +kernel
theorem dX6_leastWithout_30 : decode cX6_leastWithout 30 = .ok (.invokevirtual 216, 3) := by decide +kernel
theorem dX6_leastWithout_33 : decode cX6_leastWithout 33 = .ok (.ireturn, 1) := by decide +kernel
theorem dX6_critical_0 : decode cX6_critical 0 = .ok (.aload_n 0, 1) := by decide +kernel
theorem dX6_critical_1 : decode cX6_critical 1 = .ok (.getfield 29, 3) := by decide +kernel
theorem dX6_critical_4 : decode cX6_critical 4 = .ok (.aload_n 0, 1) := by decide +kernel
theorem dX6_critical_5 : decode cX6_critical 5 = .ok (.getfield 10, 3) := by decide +kernel
theorem dX6_critical_8 : decode cX6_critical 8 = .ok (.invokevirtual 204, 3) := by decide +kernel
theorem dX6_critical_11 : decode cX6_critical 11 = .ok (.aload_n 0, 1) := by decide +kernel
theorem dX6_critical_12 : decode cX6_critical 12 = .ok (.getfield 10, 3) := by decide +kernel
theorem dX6_critical_15 : decode cX6_critical 15 = .ok (.aload_n 0, 1) := by decide +kernel
theorem dX6_critical_16 : decode cX6_critical 16 = .ok (.getfield 29, 3) := by decide +kernel
theorem dX6_critical_19 : decode cX6_critical 19 = .ok (.invokevirtual 222, 3) := by decide +kernel
theorem dX6_critical_22 : decode cX6_critical 22 = .ok (.invokevirtual 225, 3) := by decide +kernel
theorem dX6_critical_25 : decode cX6_critical 25 = .ok (.istore_n 1, 1) := by decide +kernel
theorem dX6_critical_26 : decode cX6_critical 26 = .ok (.iload_n 1, 1) := by decide +kernel
theorem dX6_critical_27 : decode cX6_critical 27 = .ok (.iconst (-1), 1) := by decide +kernel
theorem dX6_critical_28 : decode cX6_critical 28 = .ok (.if_icmp .ne 7, 3) := by decide +kernel
theorem dX6_critical_31 : decode cX6_critical 31 = .ok (.iconst (-1), 1) := by decide +kernel
theorem dX6_critical_32 : decode cX6_critical 32 = .ok (.goto 14, 3) := by decide +kernel
theorem dX6_critical_35 : decode cX6_critical 35 = .ok (.aload_n 0, 1) := by decide +kernel
theorem dX6_critical_36 : decode cX6_critical 36 = .ok (.getfield 10, 3) := by decide +kernel
theorem dX6_critical_39 : decode cX6_critical 39 = .ok (.getfield 166, 3) := by decide +kernel
theorem dX6_critical_42 : decode cX6_critical 42 = .ok (.iload_n 1, 1) := by decide +kernel
theorem dX6_critical_43 : decode cX6_critical 43 = .ok (.invokevirtual 122, 3) := by decide +kernel
theorem dX6_critical_46 : decode cX6_critical 46 = .ok (.ireturn, 1) := by decide +kernel
theorem dX6_turnsToBalance_0 : decode cX6_turnsToBalance 0 = .ok (.aload_n 0, 1) := by decide +kernel
theorem dX6_turnsToBalance_1 : decode cX6_turnsToBalance 1 = .ok (.getfield 16, 3) := by decide +kernel
theorem dX6_turnsToBalance_4 : decode cX6_turnsToBalance 4 = .ok (.aload_n 0, 1) := by decide +kernel
theorem dX6_turnsToBalance_5 : decode cX6_turnsToBalance 5 = .ok (.getfield 10, 3) := by decide +kernel
theorem dX6_turnsToBalance_8 : decode cX6_turnsToBalance 8 = .ok (.invokevirtual 228, 3) := by decide +kernel
theorem dX6_turnsToBalance_11 : decode cX6_turnsToBalance 11 = .ok (.aload_n 0, 1) := by decide +kernel
theorem dX6_turnsToBalance_12 : decode cX6_turnsToBalance 12 = .ok (.getfield 22, 3) := by decide +kernel
theorem dX6_turnsToBalance_15 : decode cX6_turnsToBalance 15 = .ok (.aload_n 0, 1) := by decide +kernel
theorem dX6_turnsToBalance_16 : decode cX6_turnsToBalance 16 = .ok (.getfield 16, 3) := by decide +kernel
theorem dX6_turnsToBalance_19 : decode cX6_turnsToBalance 19 = .ok (.invokevirtual 113, 3) := by decide +kernel
theorem dX6_turnsToBalance_22 : decode cX6_turnsToBalance 22 = .ok (.pop, 1) := by decide +kernel
theorem dX6_turnsToBalance_23 : decode cX6_turnsToBalance 23 = .ok (.aload_n 0, 1) := by decide +kernel
theorem dX6_turnsToBalance_24 : decode cX6_turnsToBalance 24 = .ok (.getfield 16, 3) := by decide +kernel
theorem dX6_turnsToBalance_27 : decode cX6_turnsToBalance 27 = .ok (.getfield 182, 3) := by decide +kernel
theorem dX6_turnsToBalance_30 : decode cX6_turnsToBalance 30 = .ok (.aload_n 0, 1) := by decide +kernel
theorem dX6_turnsToBalance_31 : decode cX6_turnsToBalance 31 = .ok (.getfield 10, 3) := by decide +kernel
theorem dX6_turnsToBalance_34 : decode cX6_turnsToBalance 34 = .ok (.getfield 182, 3) := by decide +kernel
theorem dX6_turnsToBalance_37 : decode cX6_turnsToBalance 37 = .ok (.isub, 1) := by decide +kernel
theorem dX6_turnsToBalance_38 : decode cX6_turnsToBalance 38 = .ok (.ireturn, 1) := by decide +kernel
theorem dX6_leastCapacity_0 : decode cX6_leastCapacity 0 = .ok (.aload_n 0, 1) := by decide +kernel
theorem dX6_leastCapacity_1 : decode cX6_leastCapacity 1 = .ok (.getfield 29, 3) := by decide +kernel
theorem dX6_leastCapacity_4 : decode cX6_leastCapacity 4 = .ok (.aload_n 0, 1) := by decide +kernel
theorem dX6_leastCapacity_5 : decode cX6_leastCapacity 5 = .ok (.getfield 10, 3) := by decide +kernel
theorem dX6_leastCapacity_8 : decode cX6_leastCapacity 8 = .ok (.invokevirtual 204, 3) := by decide +kernel
theorem dX6_leastCapacity_11 : decode cX6_leastCapacity 11 = .ok (.aload_n 0, 1) := by decide +kernel
theorem dX6_leastCapacity_12 : decode cX6_leastCapacity 12 = .ok (.getfield 29, 3) := by decide +kernel
theorem dX6_leastCapacity_15 : decode cX6_leastCapacity 15 = .ok (.getfield 210, 3) := by decide +kernel
theorem dX6_leastCapacity_18 : decode cX6_leastCapacity 18 = .ok (.ireturn, 1) := by decide +kernel
theorem dX6_density_0 : decode cX6_density 0 = .ok (.aload_n 0, 1) := by decide +kernel
theorem dX6_density_1 : decode cX6_density 1 = .ok (.getfield 29, 3) := by decide +kernel
theorem dX6_density_4 : decode cX6_density 4 = .ok (.aload_n 0, 1) := by decide +kernel
theorem dX6_density_5 : decode cX6_density 5 = .ok (.getfield 10, 3) := by decide +kernel
theorem dX6_density_8 : decode cX6_density 8 = .ok (.invokevirtual 204, 3) := by decide +kernel
theorem dX6_density_11 : decode cX6_density 11 = .ok (.aload_n 0, 1) := by decide +kernel
theorem dX6_density_12 : decode cX6_density 12 = .ok (.getfield 29, 3) := by decide +kernel
theorem dX6_density_15 : decode cX6_density 15 = .ok (.getfield 207, 3) := by decide +kernel
theorem dX6_density_18 : decode cX6_density 18 = .ok (.invokestatic 139, 3) := by decide +kernel
theorem dX6_density_21 : decode cX6_density 21 = .ok (.istore_n 1, 1) := by decide +kernel
theorem dX6_density_22 : decode cX6_density 22 = .ok (.iload_n 1, 1) := by decide +kernel
theorem dX6_density_23 : decode cX6_density 23 = .ok (.iconst 1, 1) := by decide +kernel
theorem dX6_density_24 : decode cX6_density 24 = .ok (.if_icmp .ge 5, 3) := by decide +kernel
theorem dX6_density_27 : decode cX6_density 27 = .ok (.dconst 0, 1) := by decide +kernel
theorem dX6_density_28 : decode cX6_density 28 = .ok (.dreturn, 1) := by decide +kernel
theorem dX6_density_29 : decode cX6_density 29 = .ok (.aload_n 0, 1) := by decide +kernel
theorem dX6_density_30 : decode cX6_density 30 = .ok (.getfield 10, 3) := by decide +kernel
theorem dX6_density_33 : decode cX6_density 33 = .ok (.aload_n 0, 1) := by decide +kernel
theorem dX6_density_34 : decode cX6_density 34 = .ok (.getfield 29, 3) := by decide +kernel
theorem dX6_density_37 : decode cX6_density 37 = .ok (.getfield 207, 3) := by decide +kernel
theorem dX6_density_40 : decode cX6_density 40 = .ok (.invokevirtual 201, 3) := by decide +kernel
theorem dX6_density_43 : decode cX6_density 43 = .ok (.i2d, 1) := by decide +kernel
theorem dX6_density_44 : decode cX6_density 44 = .ok (.iload_n 1, 1) := by decide +kernel
theorem dX6_density_45 : decode cX6_density 45 = .ok (.i2d, 1) := by decide +kernel
theorem dX6_density_46 : decode cX6_density 46 = .ok (.ddiv, 1) := by decide +kernel
theorem dX6_density_47 : decode cX6_density 47 = .ok (.dreturn, 1) := by decide +kernel
theorem dX6_append_0 : decode cX6_append 0 = .ok (.iload_n 1, 1) := by decide +kernel
theorem dX6_append_1 : decode cX6_append 1 = .ok (.ifCond .lt 9, 3) := by decide +kernel
theorem dX6_append_4 : decode cX6_append 4 = .ok (.iload_n 1, 1) := by decide +kernel
theorem dX6_append_5 : decode cX6_append 5 = .ok (.bipush 127, 2) := by decide +kernel
theorem dX6_append_7 : decode cX6_append 7 = .ok (.if_icmp .le 13, 3) := by decide +kernel
theorem dX6_append_10 : decode cX6_append 10 = .ok (.new 47, 3) := by decide +kernel
theorem dX6_append_13 : decode cX6_append 13 = .ok (.dup, 1) := by decide +kernel
theorem dX6_append_14 : decode cX6_append 14 = .ok (.ldc 231, 2) := by decide +kernel
theorem dX6_append_16 : decode cX6_append 16 = .ok (.invokespecial 51, 3) := by decide +kernel
theorem dX6_append_19 : decode cX6_append 19 = .ok (.athrow, 1) := by decide +kernel
theorem dX6_append_20 : decode cX6_append 20 = .ok (.aload_n 0, 1) := by decide +kernel
theorem dX6_append_21 : decode cX6_append 21 = .ok (.getfield 36, 3) := by decide +kernel
theorem dX6_append_24 : decode cX6_append 24 = .ok (.getfield 233, 3) := by decide +kernel
theorem dX6_append_27 : decode cX6_append 27 = .ok (.bipush 100, 2) := by decide +kernel
theorem dX6_append_29 : decode cX6_append 29 = .ok (.if_icmp .lt 13, 3) := by decide +kernel
theorem dX6_append_32 : decode cX6_append 32 = .ok (.new 80, 3) := by decide +kernel
theorem dX6_append_35 : decode cX6_append 35 = .ok (.dup, 1) := by decide +kernel
theorem dX6_append_36 : decode cX6_append 36 = .ok (.ldc 236, 2) := by decide +kernel
theorem dX6_append_38 : decode cX6_append 38 = .ok (.invokespecial 84, 3) := by decide +kernel
theorem dX6_append_41 : decode cX6_append 41 = .ok (.athrow, 1) := by decide +kernel
theorem dX6_append_42 : decode cX6_append 42 = .ok (.aload_n 0, 1) := by decide +kernel
theorem dX6_append_43 : decode cX6_append 43 = .ok (.getfield 36, 3) := by decide +kernel
theorem dX6_append_46 : decode cX6_append 46 = .ok (.iload_n 1, 1) := by decide +kernel
theorem dX6_append_47 : decode cX6_append 47 = .ok (.invokevirtual 238, 3) := by decide +kernel
theorem dX6_append_50 : decode cX6_append 50 = .ok (.ireturn, 1) := by decide +kernel
theorem dX6_clearText_0 : decode cX6_clearText 0 = .ok (.aload_n 0, 1) := by decide +kernel
theorem dX6_clearText_1 : decode cX6_clearText 1 = .ok (.getfield 36, 3) := by decide +kernel
theorem dX6_clearText_4 : decode cX6_clearText 4 = .ok (.invokevirtual 241, 3) := by decide +kernel
theorem dX6_clearText_7 : decode cX6_clearText 7 = .ok (.ireturn, 1) := by decide +kernel
theorem dX6_carryOut_0 : decode cX6_carryOut 0 = .ok (.aload_n 0, 1) := by decide +kernel
theorem dX6_carryOut_1 : decode cX6_carryOut 1 = .ok (.getfield 36, 3) := by decide +kernel
theorem dX6_carryOut_4 : decode cX6_carryOut 4 = .ok (.invokevirtual 244, 3) := by decide +kernel
theorem dX6_carryOut_7 : decode cX6_carryOut 7 = .ok (.istore_n 1, 1) := by decide +kernel
theorem dX6_carryOut_8 : decode cX6_carryOut 8 = .ok (.iload_n 1, 1) := by decide +kernel
theorem dX6_carryOut_9 : decode cX6_carryOut 9 = .ok (.iconst (-1), 1) := by decide +kernel
theorem dX6_carryOut_10 : decode cX6_carryOut 10 = .ok (.if_icmp .eq 8, 3) := by decide +kernel
theorem dX6_carryOut_13 : decode cX6_carryOut 13 = .ok (.bipush (-10), 2) := by decide +kernel
theorem dX6_carryOut_15 : decode cX6_carryOut 15 = .ok (.iload_n 1, 1) := by decide +kernel
theorem dX6_carryOut_16 : decode cX6_carryOut 16 = .ok (.isub, 1) := by decide +kernel
theorem dX6_carryOut_17 : decode cX6_carryOut 17 = .ok (.ireturn, 1) := by decide +kernel
theorem dX6_carryOut_18 : decode cX6_carryOut 18 = .ok (.aload_n 0, 1) := by decide +kernel
theorem dX6_carryOut_19 : decode cX6_carryOut 19 = .ok (.getfield 43, 3) := by decide +kernel
theorem dX6_carryOut_22 : decode cX6_carryOut 22 = .ok (.aload_n 0, 1) := by decide +kernel
theorem dX6_carryOut_23 : decode cX6_carryOut 23 = .ok (.getfield 10, 3) := by decide +kernel
theorem dX6_carryOut_26 : decode cX6_carryOut 26 = .ok (.invokevirtual 58, 3) := by decide +kernel
theorem dX6_carryOut_29 : decode cX6_carryOut 29 = .ok (.aload_n 0, 1) := by decide +kernel
theorem dX6_carryOut_30 : decode cX6_carryOut 30 = .ok (.getfield 29, 3) := by decide +kernel
theorem dX6_carryOut_33 : decode cX6_carryOut 33 = .ok (.invokevirtual 66, 3) := by decide +kernel
theorem dX6_carryOut_36 : decode cX6_carryOut 36 = .ok (.aload_n 0, 1) := by decide +kernel
theorem dX6_carryOut_37 : decode cX6_carryOut 37 = .ok (.getfield 36, 3) := by decide +kernel
theorem dX6_carryOut_40 : decode cX6_carryOut 40 = .ok (.invokevirtual 247, 3) := by decide +kernel
theorem dX6_carryOut_43 : decode cX6_carryOut 43 = .ok (.iconst 0, 1) := by decide +kernel
theorem dX6_carryOut_44 : decode cX6_carryOut 44 = .ok (.istore_n 2, 1) := by decide +kernel
theorem dX6_carryOut_45 : decode cX6_carryOut 45 = .ok (.iload_n 2, 1) := by decide +kernel
theorem dX6_carryOut_46 : decode cX6_carryOut 46 = .ok (.bipush 100, 2) := by decide +kernel
theorem dX6_carryOut_48 : decode cX6_carryOut 48 = .ok (.if_icmp .ge 26, 3) := by decide +kernel
theorem dX6_carryOut_51 : decode cX6_carryOut 51 = .ok (.aload_n 0, 1) := by decide +kernel
theorem dX6_carryOut_52 : decode cX6_carryOut 52 = .ok (.getfield 36, 3) := by decide +kernel
theorem dX6_carryOut_55 : decode cX6_carryOut 55 = .ok (.invokevirtual 250, 3) := by decide +kernel
theorem dX6_carryOut_58 : decode cX6_carryOut 58 = .ok (.ifCond .eq 16, 3) := by decide +kernel
theorem dX6_carryOut_61 : decode cX6_carryOut 61 = .ok (.aload_n 0, 1) := by decide +kernel
theorem dX6_carryOut_62 : decode cX6_carryOut 62 = .ok (.invokevirtual 253, 3) := by decide +kernel
theorem dX6_carryOut_65 : decode cX6_carryOut 65 = .ok (.ifCond .eq 9, 3) := by decide +kernel
theorem dX6_carryOut_68 : decode cX6_carryOut 68 = .ok (.iinc 2 1, 3) := by decide +kernel
theorem dX6_carryOut_71 : decode cX6_carryOut 71 = .ok (.goto (-26), 3) := by decide +kernel
theorem dX6_carryOut_74 : decode cX6_carryOut 74 = .ok (.iload_n 2, 1) := by decide +kernel
theorem dX6_carryOut_75 : decode cX6_carryOut 75 = .ok (.ireturn, 1) := by decide +kernel
theorem dX6_undo_0 : decode cX6_undo 0 = .ok (.aload_n 0, 1) := by decide +kernel
theorem dX6_undo_1 : decode cX6_undo 1 = .ok (.getfield 43, 3) := by decide +kernel
theorem dX6_undo_4 : decode cX6_undo 4 = .ok (.getfield 256, 3) := by decide +kernel
theorem dX6_undo_7 : decode cX6_undo 7 = .ok (.ifCond .ne 14, 3) := by decide +kernel
theorem dX6_undo_10 : decode cX6_undo 10 = .ok (.new 80, 3) := by decide +kernel
theorem dX6_undo_13 : decode cX6_undo 13 = .ok (.dup, 1) := by decide +kernel
theorem dX6_undo_14 : decode cX6_undo 14 = .ok (.ldc_w 259, 3) := by decide +kernel
theorem dX6_undo_17 : decode cX6_undo 17 = .ok (.invokespecial 84, 3) := by decide +kernel
theorem dX6_undo_20 : decode cX6_undo 20 = .ok (.athrow, 1) := by decide +kernel
theorem dX6_undo_21 : decode cX6_undo 21 = .ok (.aload_n 0, 1) := by decide +kernel
theorem dX6_undo_22 : decode cX6_undo 22 = .ok (.getfield 43, 3) := by decide +kernel
theorem dX6_undo_25 : decode cX6_undo 25 = .ok (.aload_n 0, 1) := by decide +kernel
theorem dX6_undo_26 : decode cX6_undo 26 = .ok (.getfield 10, 3) := by decide +kernel
theorem dX6_undo_29 : decode cX6_undo 29 = .ok (.invokevirtual 261, 3) := by decide +kernel
theorem dX6_undo_32 : decode cX6_undo 32 = .ok (.aload_n 0, 1) := by decide +kernel
theorem dX6_undo_33 : decode cX6_undo 33 = .ok (.getfield 29, 3) := by decide +kernel
theorem dX6_undo_36 : decode cX6_undo 36 = .ok (.invokevirtual 66, 3) := by decide +kernel
theorem dX6_undo_39 : decode cX6_undo 39 = .ok (.aload_n 0, 1) := by decide +kernel
theorem dX6_undo_40 : decode cX6_undo 40 = .ok (.getfield 43, 3) := by decide +kernel
theorem dX6_undo_43 : decode cX6_undo 43 = .ok (.getfield 256, 3) := by decide +kernel
theorem dX6_undo_46 : decode cX6_undo 46 = .ok (.ireturn, 1) := by decide +kernel
theorem dX6_digest_0 : decode cX6_digest 0 = .ok (.ldc2_w 264, 3) := by decide +kernel
theorem dX6_digest_3 : decode cX6_digest 3 = .ok (.aload_n 0, 1) := by decide +kernel
theorem dX6_digest_4 : decode cX6_digest 4 = .ok (.getfield 36, 3) := by decide +kernel
theorem dX6_digest_7 : decode cX6_digest 7 = .ok (.getfield 233, 3) := by decide +kernel
theorem dX6_digest_10 : decode cX6_digest 10 = .ok (.i2l, 1) := by decide +kernel
theorem dX6_digest_11 : decode cX6_digest 11 = .ok (.invokestatic 266, 3) := by decide +kernel
theorem dX6_digest_14 : decode cX6_digest 14 = .ok (.lstore_n 1, 1) := by decide +kernel
theorem dX6_digest_15 : decode cX6_digest 15 = .ok (.iconst 0, 1) := by decide +kernel
theorem dX6_digest_16 : decode cX6_digest 16 = .ok (.istore_n 3, 1) := by decide +kernel
theorem dX6_digest_17 : decode cX6_digest 17 = .ok (.iload_n 3, 1) := by decide +kernel
theorem dX6_digest_18 : decode cX6_digest 18 = .ok (.bipush 8, 2) := by decide +kernel
theorem dX6_digest_20 : decode cX6_digest 20 = .ok (.if_icmp .ge 20, 3) := by decide +kernel
theorem dX6_digest_23 : decode cX6_digest 23 = .ok (.lload_n 1, 1) := by decide +kernel
theorem dX6_digest_24 : decode cX6_digest 24 = .ok (.aload_n 0, 1) := by decide +kernel
theorem dX6_digest_25 : decode cX6_digest 25 = .ok (.iload_n 3, 1) := by decide +kernel
theorem dX6_digest_26 : decode cX6_digest 26 = .ok (.invokevirtual 270, 3) := by decide +kernel
theorem dX6_digest_29 : decode cX6_digest 29 = .ok (.i2l, 1) := by decide +kernel
theorem dX6_digest_30 : decode cX6_digest 30 = .ok (.invokestatic 266, 3) := by decide +kernel
theorem dX6_digest_33 : decode cX6_digest 33 = .ok (.lstore_n 1, 1) := by decide +kernel
theorem dX6_digest_34 : decode cX6_digest 34 = .ok (.iinc 3 1, 3) := by decide +kernel
theorem dX6_digest_37 : decode cX6_digest 37 = .ok (.goto (-20), 3) := by decide +kernel
theorem dX6_digest_40 : decode cX6_digest 40 = .ok (.iconst 0, 1) := by decide +kernel
theorem dX6_digest_41 : decode cX6_digest 41 = .ok (.istore_n 3, 1) := by decide +kernel
theorem dX6_digest_42 : decode cX6_digest 42 = .ok (.iload_n 3, 1) := by decide +kernel
theorem dX6_digest_43 : decode cX6_digest 43 = .ok (.aload_n 0, 1) := by decide +kernel
theorem dX6_digest_44 : decode cX6_digest 44 = .ok (.getfield 10, 3) := by decide +kernel
theorem dX6_digest_47 : decode cX6_digest 47 = .ok (.getfield 169, 3) := by decide +kernel
theorem dX6_digest_50 : decode cX6_digest 50 = .ok (.if_icmp .ge 37, 3) := by decide +kernel
theorem dX6_digest_53 : decode cX6_digest 53 = .ok (.iconst 0, 1) := by decide +kernel
theorem dX6_digest_54 : decode cX6_digest 54 = .ok (.istore 4, 2) := by decide +kernel
theorem dX6_digest_56 : decode cX6_digest 56 = .ok (.iload 4, 2) := by decide +kernel
theorem dX6_digest_58 : decode cX6_digest 58 = .ok (.iconst 5, 1) := by decide +kernel
theorem dX6_digest_59 : decode cX6_digest 59 = .ok (.if_icmp .ge 22, 3) := by decide +kernel
theorem dX6_digest_62 : decode cX6_digest 62 = .ok (.lload_n 1, 1) := by decide +kernel
theorem dX6_digest_63 : decode cX6_digest 63 = .ok (.aload_n 0, 1) := by decide +kernel
theorem dX6_digest_64 : decode cX6_digest 64 = .ok (.iload_n 3, 1) := by decide +kernel
theorem dX6_digest_65 : decode cX6_digest 65 = .ok (.iload 4, 2) := by decide +kernel
theorem dX6_digest_67 : decode cX6_digest 67 = .ok (.invokevirtual 273, 3) := by decide +kernel
theorem dX6_digest_70 : decode cX6_digest 70 = .ok (.i2l, 1) := by decide +kernel
theorem dX6_digest_71 : decode cX6_digest 71 = .ok (.invokestatic 266, 3) := by decide +kernel
theorem dX6_digest_74 : decode cX6_digest 74 = .ok (.lstore_n 1, 1) := by decide +kernel
theorem dX6_digest_75 : decode cX6_digest 75 = .ok (.iinc 4 1, 3) := by decide +kernel
theorem dX6_digest_78 : decode cX6_digest 78 = .ok (.goto (-22), 3) := by decide +kernel
theorem dX6_digest_81 : decode cX6_digest 81 = .ok (.iinc 3 1, 3) := by decide +kernel
theorem dX6_digest_84 : decode cX6_digest 84 = .ok (.goto (-42), 3) := by decide +kernel
theorem dX6_digest_87 : decode cX6_digest 87 = .ok (.iconst 0, 1) := by decide +kernel
theorem dX6_digest_88 : decode cX6_digest 88 = .ok (.istore_n 3, 1) := by decide +kernel
theorem dX6_digest_89 : decode cX6_digest 89 = .ok (.iload_n 3, 1) := by decide +kernel
theorem dX6_digest_90 : decode cX6_digest 90 = .ok (.aload_n 0, 1) := by decide +kernel
theorem dX6_digest_91 : decode cX6_digest 91 = .ok (.getfield 10, 3) := by decide +kernel
theorem dX6_digest_94 : decode cX6_digest 94 = .ok (.getfield 54, 3) := by decide +kernel
theorem dX6_digest_97 : decode cX6_digest 97 = .ok (.if_icmp .ge 59, 3) := by decide +kernel
theorem dX6_digest_100 : decode cX6_digest 100 = .ok (.aload_n 0, 1) := by decide +kernel
theorem dX6_digest_101 : decode cX6_digest 101 = .ok (.getfield 10, 3) := by decide +kernel
theorem dX6_digest_104 : decode cX6_digest 104 = .ok (.getfield 166, 3) := by decide +kernel
theorem dX6_digest_107 : decode cX6_digest 107 = .ok (.iload_n 3, 1) := by decide +kernel
theorem dX6_digest_108 : decode cX6_digest 108 = .ok (.invokevirtual 122, 3) := by decide +kernel
theorem dX6_digest_111 : decode cX6_digest 111 = .ok (.istore 4, 2) := by decide +kernel
theorem dX6_digest_113 : decode cX6_digest 113 = .ok (.lload_n 1, 1) := by decide +kernel
theorem dX6_digest_114 : decode cX6_digest 114 = .ok (.iload 4, 2) := by decide +kernel
theorem dX6_digest_116 : decode cX6_digest 116 = .ok (.i2l, 1) := by decide +kernel
theorem dX6_digest_117 : decode cX6_digest 117 = .ok (.invokestatic 266, 3) := by decide +kernel
theorem dX6_digest_120 : decode cX6_digest 120 = .ok (.lstore_n 1, 1) := by decide +kernel
theorem dX6_digest_121 : decode cX6_digest 121 = .ok (.iconst 0, 1) := by decide +kernel
theorem dX6_digest_122 : decode cX6_digest 122 = .ok (.istore 5, 2) := by decide +kernel
theorem dX6_digest_124 : decode cX6_digest 124 = .ok (.iload 5, 2) := by decide +kernel
theorem dX6_digest_126 : decode cX6_digest 126 = .ok (.iconst 4, 1) := by decide +kernel
theorem dX6_digest_127 : decode cX6_digest 127 = .ok (.if_icmp .ge 23, 3) := by decide +kernel
theorem dX6_digest_130 : decode cX6_digest 130 = .ok (.lload_n 1, 1) := by decide +kernel
theorem dX6_digest_131 : decode cX6_digest 131 = .ok (.aload_n 0, 1) := by decide +kernel
theorem dX6_digest_132 : decode cX6_digest 132 = .ok (.iload 4, 2) := by decide +kernel
theorem dX6_digest_134 : decode cX6_digest 134 = .ok (.iload 5, 2) := by decide +kernel
theorem dX6_digest_136 : decode cX6_digest 136 = .ok (.invokevirtual 276, 3) := by decide +kernel
theorem dX6_digest_139 : decode cX6_digest 139 = .ok (.i2l, 1) := by decide +kernel
theorem dX6_digest_140 : decode cX6_digest 140 = .ok (.invokestatic 266, 3) := by decide +kernel
theorem dX6_digest_143 : decode cX6_digest 143 = .ok (.lstore_n 1, 1) := by decide +kernel
theorem dX6_digest_144 : decode cX6_digest 144 = .ok (.iinc 5 1, 3) := by decide +kernel
theorem dX6_digest_147 : decode cX6_digest 147 = .ok (.goto (-23), 3) := by decide +kernel
theorem dX6_digest_150 : decode cX6_digest 150 = .ok (.iinc 3 1, 3) := by decide +kernel
theorem dX6_digest_153 : decode cX6_digest 153 = .ok (.goto (-64), 3) := by decide +kernel
theorem dX6_digest_156 : decode cX6_digest 156 = .ok (.lload_n 1, 1) := by decide +kernel
theorem dX6_digest_157 : decode cX6_digest 157 = .ok (.aload_n 0, 1) := by decide +kernel
theorem dX6_digest_158 : decode cX6_digest 158 = .ok (.invokevirtual 279, 3) := by decide +kernel
theorem dX6_digest_161 : decode cX6_digest 161 = .ok (.i2l, 1) := by decide +kernel
theorem dX6_digest_162 : decode cX6_digest 162 = .ok (.invokestatic 266, 3) := by decide +kernel
theorem dX6_digest_165 : decode cX6_digest 165 = .ok (.lstore_n 1, 1) := by decide +kernel
theorem dX6_digest_166 : decode cX6_digest 166 = .ok (.lload_n 1, 1) := by decide +kernel
theorem dX6_digest_167 : decode cX6_digest 167 = .ok (.aload_n 0, 1) := by decide +kernel
theorem dX6_digest_168 : decode cX6_digest 168 = .ok (.invokevirtual 282, 3) := by decide +kernel
theorem dX6_digest_171 : decode cX6_digest 171 = .ok (.i2l, 1) := by decide +kernel
theorem dX6_digest_172 : decode cX6_digest 172 = .ok (.invokestatic 266, 3) := by decide +kernel
theorem dX6_digest_175 : decode cX6_digest 175 = .ok (.lstore_n 1, 1) := by decide +kernel
theorem dX6_digest_176 : decode cX6_digest 176 = .ok (.lload_n 1, 1) := by decide +kernel
theorem dX6_digest_177 : decode cX6_digest 177 = .ok (.aload_n 0, 1) := by decide +kernel
theorem dX6_digest_178 : decode cX6_digest 178 = .ok (.invokevirtual 285, 3) := by decide +kernel
theorem dX6_digest_181 : decode cX6_digest 181 = .ok (.i2l, 1) := by decide +kernel
theorem dX6_digest_182 : decode cX6_digest 182 = .ok (.invokestatic 266, 3) := by decide +kernel
theorem dX6_digest_185 : decode cX6_digest 185 = .ok (.lstore_n 1, 1) := by decide +kernel
theorem dX6_digest_186 : decode cX6_digest 186 = .ok (.lload_n 1, 1) := by decide +kernel
theorem dX6_digest_187 : decode cX6_digest 187 = .ok (.aload_n 0, 1) := by decide +kernel
theorem dX6_digest_188 : decode cX6_digest 188 = .ok (.getfield 43, 3) := by decide +kernel
theorem dX6_digest_191 : decode cX6_digest 191 = .ok (.getfield 256, 3) := by decide +kernel
theorem dX6_digest_194 : decode cX6_digest 194 = .ok (.i2l, 1) := by decide +kernel
theorem dX6_digest_195 : decode cX6_digest 195 = .ok (.invokestatic 266, 3) := by decide +kernel
theorem dX6_digest_198 : decode cX6_digest 198 = .ok (.lreturn, 1) := by decide +kernel
theorem dX6_mix_0 : decode cX6_mix 0 = .ok (.ldc2_w 288, 3) := by decide +kernel
theorem dX6_mix_3 : decode cX6_mix 3 = .ok (.lload_n 0, 1) := by decide +kernel
theorem dX6_mix_4 : decode cX6_mix 4 = .ok (.lmul, 1) := by decide +kernel
theorem dX6_mix_5 : decode cX6_mix 5 = .ok (.lload_n 2, 1) := by decide +kernel
theorem dX6_mix_6 : decode cX6_mix 6 = .ok (.ladd, 1) := by decide +kernel
theorem dX6_mix_7 : decode cX6_mix 7 = .ok (.lreturn, 1) := by decide +kernel
theorem dX6_checkNode_0 : decode cX6_checkNode 0 = .ok (.aload_n 0, 1) := by decide +kernel
theorem dX6_checkNode_1 : decode cX6_checkNode 1 = .ok (.getfield 10, 3) := by decide +kernel
theorem dX6_checkNode_4 : decode cX6_checkNode 4 = .ok (.iload_n 1, 1) := by decide +kernel
theorem dX6_checkNode_5 : decode cX6_checkNode 5 = .ok (.invokevirtual 290, 3) := by decide +kernel
theorem dX6_checkNode_8 : decode cX6_checkNode 8 = .ok (.ifCond .ne 14, 3) := by decide +kernel
theorem dX6_checkNode_11 : decode cX6_checkNode 11 = .ok (.new 161, 3) := by decide +kernel
theorem dX6_checkNode_14 : decode cX6_checkNode 14 = .ok (.dup, 1) := by decide +kernel
theorem dX6_checkNode_15 : decode cX6_checkNode 15 = .ok (.ldc_w 294, 3) := by decide +kernel
theorem dX6_checkNode_18 : decode cX6_checkNode 18 = .ok (.invokespecial 165, 3) := by decide +kernel
theorem dX6_checkNode_21 : decode cX6_checkNode 21 = .ok (.athrow, 1) := by decide +kernel
theorem dX6_checkNode_22 : decode cX6_checkNode 22 = .ok (.return_, 1) := by decide +kernel
theorem dX6_checkDifferent_0 : decode cX6_checkDifferent 0 = .ok (.iload_n 0, 1) := by decide +kernel
theorem dX6_checkDifferent_1 : decode cX6_checkDifferent 1 = .ok (.iload_n 1, 1) := by decide +kernel
theorem dX6_checkDifferent_2 : decode cX6_checkDifferent 2 = .ok (.if_icmp .ne 14, 3) := by decide +kernel
theorem dX6_checkDifferent_5 : decode cX6_checkDifferent 5 = .ok (.new 47, 3) := by decide +kernel
theorem dX6_checkDifferent_8 : decode cX6_checkDifferent 8 = .ok (.dup, 1) := by decide +kernel
theorem dX6_checkDifferent_9 : decode cX6_checkDifferent 9 = .ok (.ldc_w 296, 3) := by decide +kernel
theorem dX6_checkDifferent_12 : decode cX6_checkDifferent 12 = .ok (.invokespecial 51, 3) := by decide +kernel
theorem dX6_checkDifferent_15 : decode cX6_checkDifferent 15 = .ok (.athrow, 1) := by decide +kernel
theorem dX6_checkDifferent_16 : decode cX6_checkDifferent 16 = .ok (.return_, 1) := by decide +kernel
theorem dX6_checkedSlot_0 : decode cX6_checkedSlot 0 = .ok (.aload_n 0, 1) := by decide +kernel
theorem dX6_checkedSlot_1 : decode cX6_checkedSlot 1 = .ok (.getfield 10, 3) := by decide +kernel
theorem dX6_checkedSlot_4 : decode cX6_checkedSlot 4 = .ok (.iload_n 1, 1) := by decide +kernel
theorem dX6_checkedSlot_5 : decode cX6_checkedSlot 5 = .ok (.invokevirtual 298, 3) := by decide +kernel
theorem dX6_checkedSlot_8 : decode cX6_checkedSlot 8 = .ok (.istore_n 2, 1) := by decide +kernel
theorem dX6_checkedSlot_9 : decode cX6_checkedSlot 9 = .ok (.iload_n 2, 1) := by decide +kernel
theorem dX6_checkedSlot_10 : decode cX6_checkedSlot 10 = .ok (.iconst (-1), 1) := by decide +kernel
theorem dX6_checkedSlot_11 : decode cX6_checkedSlot 11 = .ok (.if_icmp .ne 14, 3) := by decide +kernel
theorem dX6_checkedSlot_14 : decode cX6_checkedSlot 14 = .ok (.new 301, 3) := by decide +kernel
theorem dX6_checkedSlot_17 : decode cX6_checkedSlot 17 = .ok (.dup, 1) := by decide +kernel
theorem dX6_checkedSlot_18 : decode cX6_checkedSlot 18 = .ok (.ldc_w 303, 3) := by decide +kernel
theorem dX6_checkedSlot_21 : decode cX6_checkedSlot 21 = .ok (.invokespecial 305, 3) := by decide +kernel
theorem dX6_checkedSlot_24 : decode cX6_checkedSlot 24 = .ok (.athrow, 1) := by decide +kernel
theorem dX6_checkedSlot_25 : decode cX6_checkedSlot 25 = .ok (.iload_n 2, 1) := by decide +kernel
theorem dX6_checkedSlot_26 : decode cX6_checkedSlot 26 = .ok (.ireturn, 1) := by decide +kernel
theorem dX6_obeyOrder_0 : decode cX6_obeyOrder 0 = .ok (.aload_n 0, 1) := by decide +kernel
theorem dX6_obeyOrder_1 : decode cX6_obeyOrder 1 = .ok (.getfield 36, 3) := by decide +kernel
theorem dX6_obeyOrder_4 : decode cX6_obeyOrder 4 = .ok (.getfield 306, 3) := by decide +kernel
theorem dX6_obeyOrder_7 : decode cX6_obeyOrder 7 = .ok (.lookupswitch 179 #[(43, 57), (45, 76), (98, 146), (99, 160), (114, 102), (116, 76)], 57) := by decide +kernel
theorem dX6_obeyOrder_64 : decode cX6_obeyOrder 64 = .ok (.aload_n 0, 1) := by decide +kernel
theorem dX6_obeyOrder_65 : decode cX6_obeyOrder 65 = .ok (.aload_n 0, 1) := by decide +kernel
theorem dX6_obeyOrder_66 : decode cX6_obeyOrder 66 = .ok (.getfield 36, 3) := by decide +kernel
theorem dX6_obeyOrder_69 : decode cX6_obeyOrder 69 = .ok (.getfield 309, 3) := by decide +kernel
theorem dX6_obeyOrder_72 : decode cX6_obeyOrder 72 = .ok (.aload_n 0, 1) := by decide +kernel
theorem dX6_obeyOrder_73 : decode cX6_obeyOrder 73 = .ok (.getfield 36, 3) := by decide +kernel
theorem dX6_obeyOrder_76 : decode cX6_obeyOrder 76 = .ok (.getfield 312, 3) := by decide +kernel
theorem dX6_obeyOrder_79 : decode cX6_obeyOrder 79 = .ok (.invokevirtual 315, 3) := by decide +kernel
theorem dX6_obeyOrder_82 : decode cX6_obeyOrder 82 = .ok (.ireturn, 1) := by decide +kernel
theorem dX6_obeyOrder_83 : decode cX6_obeyOrder 83 = .ok (.aload_n 0, 1) := by decide +kernel
theorem dX6_obeyOrder_84 : decode cX6_obeyOrder 84 = .ok (.aload_n 0, 1) := by decide +kernel
theorem dX6_obeyOrder_85 : decode cX6_obeyOrder 85 = .ok (.getfield 36, 3) := by decide +kernel
theorem dX6_obeyOrder_88 : decode cX6_obeyOrder 88 = .ok (.getfield 306, 3) := by decide +kernel
theorem dX6_obeyOrder_91 : decode cX6_obeyOrder 91 = .ok (.aload_n 0, 1) := by decide +kernel
theorem dX6_obeyOrder_92 : decode cX6_obeyOrder 92 = .ok (.getfield 10, 3) := by decide +kernel
theorem dX6_obeyOrder_95 : decode cX6_obeyOrder 95 = .ok (.aload_n 0, 1) := by decide +kernel
theorem dX6_obeyOrder_96 : decode cX6_obeyOrder 96 = .ok (.getfield 36, 3) := by decide +kernel
theorem dX6_obeyOrder_99 : decode cX6_obeyOrder 99 = .ok (.getfield 319, 3) := by decide +kernel
theorem dX6_obeyOrder_102 : decode cX6_obeyOrder 102 = .ok (.invokevirtual 298, 3) := by decide +kernel
theorem dX6_obeyOrder_105 : decode cX6_obeyOrder 105 = .ok (.invokevirtual 322, 3) := by decide +kernel
theorem dX6_obeyOrder_108 : decode cX6_obeyOrder 108 = .ok (.ireturn, 1) := by decide +kernel
theorem dX6_obeyOrder_109 : decode cX6_obeyOrder 109 = .ok (.aload_n 0, 1) := by decide +kernel
theorem dX6_obeyOrder_110 : decode cX6_obeyOrder 110 = .ok (.getfield 10, 3) := by decide +kernel
theorem dX6_obeyOrder_113 : decode cX6_obeyOrder 113 = .ok (.aload_n 0, 1) := by decide +kernel
theorem dX6_obeyOrder_114 : decode cX6_obeyOrder 114 = .ok (.getfield 36, 3) := by decide +kernel
theorem dX6_obeyOrder_117 : decode cX6_obeyOrder 117 = .ok (.getfield 309, 3) := by decide +kernel
theorem dX6_obeyOrder_120 : decode cX6_obeyOrder 120 = .ok (.invokevirtual 290, 3) := by decide +kernel
theorem dX6_obeyOrder_123 : decode cX6_obeyOrder 123 = .ok (.ifCond .eq 28, 3) := by decide +kernel
theorem dX6_obeyOrder_126 : decode cX6_obeyOrder 126 = .ok (.aload_n 0, 1) := by decide +kernel
theorem dX6_obeyOrder_127 : decode cX6_obeyOrder 127 = .ok (.getfield 22, 3) := by decide +kernel
theorem dX6_obeyOrder_130 : decode cX6_obeyOrder 130 = .ok (.aload_n 0, 1) := by decide +kernel
theorem dX6_obeyOrder_131 : decode cX6_obeyOrder 131 = .ok (.getfield 10, 3) := by decide +kernel
theorem dX6_obeyOrder_134 : decode cX6_obeyOrder 134 = .ok (.aload_n 0, 1) := by decide +kernel
theorem dX6_obeyOrder_135 : decode cX6_obeyOrder 135 = .ok (.getfield 36, 3) := by decide +kernel
theorem dX6_obeyOrder_138 : decode cX6_obeyOrder 138 = .ok (.getfield 309, 3) := by decide +kernel
theorem dX6_obeyOrder_141 : decode cX6_obeyOrder 141 = .ok (.invokevirtual 325, 3) := by decide +kernel
theorem dX6_obeyOrder_144 : decode cX6_obeyOrder 144 = .ok (.ifCond .le 7, 3) := by decide +kernel
theorem dX6_obeyOrder_147 : decode cX6_obeyOrder 147 = .ok (.iconst 1, 1) := by decide +kernel
theorem dX6_obeyOrder_148 : decode cX6_obeyOrder 148 = .ok (.goto 4, 3) := by decide +kernel
theorem dX6_obeyOrder_151 : decode cX6_obeyOrder 151 = .ok (.iconst 0, 1) := by decide +kernel
theorem dX6_obeyOrder_152 : decode cX6_obeyOrder 152 = .ok (.ireturn, 1) := by decide +kernel
theorem dX6_obeyOrder_153 : decode cX6_obeyOrder 153 = .ok (.aload_n 0, 1) := by decide +kernel
theorem dX6_obeyOrder_154 : decode cX6_obeyOrder 154 = .ok (.getfield 22, 3) := by decide +kernel
theorem dX6_obeyOrder_157 : decode cX6_obeyOrder 157 = .ok (.aload_n 0, 1) := by decide +kernel
theorem dX6_obeyOrder_158 : decode cX6_obeyOrder 158 = .ok (.getfield 10, 3) := by decide +kernel
theorem dX6_obeyOrder_161 : decode cX6_obeyOrder 161 = .ok (.invokevirtual 113, 3) := by decide +kernel
theorem dX6_obeyOrder_164 : decode cX6_obeyOrder 164 = .ok (.pop, 1) := by decide +kernel
theorem dX6_obeyOrder_165 : decode cX6_obeyOrder 165 = .ok (.iconst 1, 1) := by decide +kernel
theorem dX6_obeyOrder_166 : decode cX6_obeyOrder 166 = .ok (.ireturn, 1) := by decide +kernel
theorem dX6_obeyOrder_167 : decode cX6_obeyOrder 167 = .ok (.aload_n 0, 1) := by decide +kernel
theorem dX6_obeyOrder_168 : decode cX6_obeyOrder 168 = .ok (.aload_n 0, 1) := by decide +kernel
theorem dX6_obeyOrder_169 : decode cX6_obeyOrder 169 = .ok (.getfield 36, 3) := by decide +kernel
theorem dX6_obeyOrder_172 : decode cX6_obeyOrder 172 = .ok (.getfield 309, 3) := by decide +kernel
theorem dX6_obeyOrder_175 : decode cX6_obeyOrder 175 = .ok (.aload_n 0, 1) := by decide +kernel
theorem dX6_obeyOrder_176 : decode cX6_obeyOrder 176 = .ok (.getfield 36, 3) := by decide +kernel
theorem dX6_obeyOrder_179 : decode cX6_obeyOrder 179 = .ok (.getfield 319, 3) := by decide +kernel
theorem dX6_obeyOrder_182 : decode cX6_obeyOrder 182 = .ok (.invokevirtual 328, 3) := by decide +kernel
theorem dX6_obeyOrder_185 : decode cX6_obeyOrder 185 = .ok (.ireturn, 1) := by decide +kernel
theorem dX6_obeyOrder_186 : decode cX6_obeyOrder 186 = .ok (.iconst 0, 1) := by decide +kernel
theorem dX6_obeyOrder_187 : decode cX6_obeyOrder 187 = .ok (.ireturn, 1) := by decide +kernel
theorem dX6_obeyAdding_0 : decode cX6_obeyAdding 0 = .ok (.aload_n 0, 1) := by decide +kernel
theorem dX6_obeyAdding_1 : decode cX6_obeyAdding 1 = .ok (.getfield 10, 3) := by decide +kernel
theorem dX6_obeyAdding_4 : decode cX6_obeyAdding 4 = .ok (.iload_n 1, 1) := by decide +kernel
theorem dX6_obeyAdding_5 : decode cX6_obeyAdding 5 = .ok (.invokevirtual 290, 3) := by decide +kernel
theorem dX6_obeyAdding_8 : decode cX6_obeyAdding 8 = .ok (.ifCond .eq 29, 3) := by decide +kernel
theorem dX6_obeyAdding_11 : decode cX6_obeyAdding 11 = .ok (.aload_n 0, 1) := by decide +kernel
theorem dX6_obeyAdding_12 : decode cX6_obeyAdding 12 = .ok (.getfield 10, 3) := by decide +kernel
theorem dX6_obeyAdding_15 : decode cX6_obeyAdding 15 = .ok (.iload_n 2, 1) := by decide +kernel
theorem dX6_obeyAdding_16 : decode cX6_obeyAdding 16 = .ok (.invokevirtual 290, 3) := by decide +kernel
theorem dX6_obeyAdding_19 : decode cX6_obeyAdding 19 = .ok (.ifCond .eq 18, 3) := by decide +kernel
theorem dX6_obeyAdding_22 : decode cX6_obeyAdding 22 = .ok (.iload_n 1, 1) := by decide +kernel
theorem dX6_obeyAdding_23 : decode cX6_obeyAdding 23 = .ok (.iload_n 2, 1) := by decide +kernel
theorem dX6_obeyAdding_24 : decode cX6_obeyAdding 24 = .ok (.if_icmp .eq 13, 3) := by decide +kernel
theorem dX6_obeyAdding_27 : decode cX6_obeyAdding 27 = .ok (.aload_n 0, 1) := by decide +kernel
theorem dX6_obeyAdding_28 : decode cX6_obeyAdding 28 = .ok (.getfield 10, 3) := by decide +kernel
theorem dX6_obeyAdding_31 : decode cX6_obeyAdding 31 = .ok (.invokevirtual 76, 3) := by decide +kernel
theorem dX6_obeyAdding_34 : decode cX6_obeyAdding 34 = .ok (.ifCond .eq 5, 3) := by decide +kernel
theorem dX6_obeyAdding_37 : decode cX6_obeyAdding 37 = .ok (.iconst 0, 1) := by decide +kernel
theorem dX6_obeyAdding_38 : decode cX6_obeyAdding 38 = .ok (.ireturn, 1) := by decide +kernel
theorem dX6_obeyAdding_39 : decode cX6_obeyAdding 39 = .ok (.aload_n 0, 1) := by decide +kernel
theorem dX6_obeyAdding_40 : decode cX6_obeyAdding 40 = .ok (.getfield 10, 3) := by decide +kernel
theorem dX6_obeyAdding_43 : decode cX6_obeyAdding 43 = .ok (.iload_n 1, 1) := by decide +kernel
theorem dX6_obeyAdding_44 : decode cX6_obeyAdding 44 = .ok (.iload_n 2, 1) := by decide +kernel
theorem dX6_obeyAdding_45 : decode cX6_obeyAdding 45 = .ok (.invokevirtual 85, 3) := by decide +kernel
theorem dX6_obeyAdding_48 : decode cX6_obeyAdding 48 = .ok (.pop, 1) := by decide +kernel
theorem dX6_obeyAdding_49 : decode cX6_obeyAdding 49 = .ok (.iconst 1, 1) := by decide +kernel
theorem dX6_obeyAdding_50 : decode cX6_obeyAdding 50 = .ok (.ireturn, 1) := by decide +kernel
theorem dX6_obeyForEdge_0 : decode cX6_obeyForEdge 0 = .ok (.iload_n 2, 1) := by decide +kernel
theorem dX6_obeyForEdge_1 : decode cX6_obeyForEdge 1 = .ok (.iconst (-1), 1) := by decide +kernel
theorem dX6_obeyForEdge_2 : decode cX6_obeyForEdge 2 = .ok (.if_icmp .ne 5, 3) := by decide +kernel
theorem dX6_obeyForEdge_5 : decode cX6_obeyForEdge 5 = .ok (.iconst 0, 1) := by decide +kernel
theorem dX6_obeyForEdge_6 : decode cX6_obeyForEdge 6 = .ok (.ireturn, 1) := by decide +kernel
theorem dX6_obeyForEdge_7 : decode cX6_obeyForEdge 7 = .ok (.iload_n 1, 1) := by decide +kernel
theorem dX6_obeyForEdge_8 : decode cX6_obeyForEdge 8 = .ok (.bipush 45, 2) := by decide +kernel
theorem dX6_obeyForEdge_10 : decode cX6_obeyForEdge 10 = .ok (.if_icmp .ne 15, 3) := by decide +kernel
theorem dX6_obeyForEdge_13 : decode cX6_obeyForEdge 13 = .ok (.aload_n 0, 1) := by decide +kernel
theorem dX6_obeyForEdge_14 : decode cX6_obeyForEdge 14 = .ok (.getfield 10, 3) := by decide +kernel
theorem dX6_obeyForEdge_17 : decode cX6_obeyForEdge 17 = .ok (.iload_n 2, 1) := by decide +kernel
theorem dX6_obeyForEdge_18 : decode cX6_obeyForEdge 18 = .ok (.invokevirtual 93, 3) := by decide +kernel
theorem dX6_obeyForEdge_21 : decode cX6_obeyForEdge 21 = .ok (.pop, 1) := by decide +kernel
theorem dX6_obeyForEdge_22 : decode cX6_obeyForEdge 22 = .ok (.goto 12, 3) := by decide +kernel
theorem dX6_obeyForEdge_25 : decode cX6_obeyForEdge 25 = .ok (.aload_n 0, 1) := by decide +kernel
theorem dX6_obeyForEdge_26 : decode cX6_obeyForEdge 26 = .ok (.getfield 10, 3) := by decide +kernel
theorem dX6_obeyForEdge_29 : decode cX6_obeyForEdge 29 = .ok (.iload_n 2, 1) := by decide +kernel
theorem dX6_obeyForEdge_30 : decode cX6_obeyForEdge 30 = .ok (.invokevirtual 96, 3) := by decide +kernel
theorem dX6_obeyForEdge_33 : decode cX6_obeyForEdge 33 = .ok (.pop, 1) := by decide +kernel
theorem dX6_obeyForEdge_34 : decode cX6_obeyForEdge 34 = .ok (.iconst 1, 1) := by decide +kernel
theorem dX6_obeyForEdge_35 : decode cX6_obeyForEdge 35 = .ok (.ireturn, 1) := by decide +kernel
theorem dX6_obeyCapacity_0 : decode cX6_obeyCapacity 0 = .ok (.aload_n 0, 1) := by decide +kernel
theorem dX6_obeyCapacity_1 : decode cX6_obeyCapacity 1 = .ok (.getfield 10, 3) := by decide +kernel
theorem dX6_obeyCapacity_4 : decode cX6_obeyCapacity 4 = .ok (.iload_n 1, 1) := by decide +kernel
theorem dX6_obeyCapacity_5 : decode cX6_obeyCapacity 5 = .ok (.invokevirtual 290, 3) := by decide +kernel
theorem dX6_obeyCapacity_8 : decode cX6_obeyCapacity 8 = .ok (.ifCond .ne 5, 3) := by decide +kernel
theorem dX6_obeyCapacity_11 : decode cX6_obeyCapacity 11 = .ok (.iconst 0, 1) := by decide +kernel
theorem dX6_obeyCapacity_12 : decode cX6_obeyCapacity 12 = .ok (.ireturn, 1) := by decide +kernel
theorem dX6_obeyCapacity_13 : decode cX6_obeyCapacity 13 = .ok (.aload_n 0, 1) := by decide +kernel
theorem dX6_obeyCapacity_14 : decode cX6_obeyCapacity 14 = .ok (.getfield 10, 3) := by decide +kernel
theorem dX6_obeyCapacity_17 : decode cX6_obeyCapacity 17 = .ok (.getfield 118, 3) := by decide +kernel
theorem dX6_obeyCapacity_20 : decode cX6_obeyCapacity 20 = .ok (.iload_n 1, 1) := by decide +kernel
theorem dX6_obeyCapacity_21 : decode cX6_obeyCapacity 21 = .ok (.iload_n 2, 1) := by decide +kernel
theorem dX6_obeyCapacity_22 : decode cX6_obeyCapacity 22 = .ok (.invokevirtual 127, 3) := by decide +kernel
theorem dX6_obeyCapacity_25 : decode cX6_obeyCapacity 25 = .ok (.iconst 1, 1) := by decide +kernel
theorem dX6_obeyCapacity_26 : decode cX6_obeyCapacity 26 = .ok (.ireturn, 1) := by decide +kernel
theorem dX7_init_0 : decode cX7_init 0 = .ok (.aload_n 0, 1) := by decide +kernel
theorem dX7_init_1 : decode cX7_init 1 = .ok (.invokespecial 1, 3) := by decide +kernel
theorem dX7_init_4 : decode cX7_init 4 = .ok (.aload_n 0, 1) := by decide +kernel
theorem dX7_init_5 : decode cX7_init 5 = .ok (.sipush 216, 3) := by decide +kernel
theorem dX7_init_8 : decode cX7_init 8 = .ok (.newarray .int, 2) := by decide +kernel
theorem dX7_init_10 : decode cX7_init 10 = .ok (.putfield 7, 3) := by decide +kernel
theorem dX7_init_13 : decode cX7_init 13 = .ok (.aload_n 0, 1) := by decide +kernel
theorem dX7_init_14 : decode cX7_init 14 = .ok (.sipush 216, 3) := by decide +kernel
theorem dX7_init_17 : decode cX7_init 17 = .ok (.newarray .int, 2) := by decide +kernel
theorem dX7_init_19 : decode cX7_init 19 = .ok (.putfield 13, 3) := by decide +kernel
theorem dX7_init_22 : decode cX7_init 22 = .ok (.aload_n 0, 1) := by decide +kernel
theorem dX7_init_23 : decode cX7_init 23 = .ok (.sipush 864, 3) := by decide +kernel
theorem dX7_init_26 : decode cX7_init 26 = .ok (.newarray .int, 2) := by decide +kernel
theorem dX7_init_28 : decode cX7_init 28 = .ok (.putfield 16, 3) := by decide +kernel
theorem dX7_init_31 : decode cX7_init 31 = .ok (.aload_n 0, 1) := by decide +kernel
theorem dX7_init_32 : decode cX7_init 32 = .ok (.bipush 100, 2) := by decide +kernel
theorem dX7_init_34 : decode cX7_init 34 = .ok (.newarray .int, 2) := by decide +kernel
theorem dX7_init_36 : decode cX7_init 36 = .ok (.putfield 19, 3) := by decide +kernel
theorem dX7_init_39 : decode cX7_init 39 = .ok (.aload_n 0, 1) := by decide +kernel
theorem dX7_init_40 : decode cX7_init 40 = .ok (.bipush 12, 2) := by decide +kernel
theorem dX7_init_42 : decode cX7_init 42 = .ok (.newarray .int, 2) := by decide +kernel
theorem dX7_init_44 : decode cX7_init 44 = .ok (.putfield 22, 3) := by decide +kernel
theorem dX7_init_47 : decode cX7_init 47 = .ok (.aload_n 0, 1) := by decide +kernel
theorem dX7_init_48 : decode cX7_init 48 = .ok (.bipush 12, 2) := by decide +kernel
theorem dX7_init_50 : decode cX7_init 50 = .ok (.newarray .int, 2) := by decide +kernel
theorem dX7_init_52 : decode cX7_init 52 = .ok (.putfield 25, 3) := by decide +kernel
theorem dX7_init_55 : decode cX7_init 55 = .ok (.aload_n 0, 1) := by decide +kernel
theorem dX7_init_56 : decode cX7_init 56 = .ok (.bipush 6, 2) := by decide +kernel
theorem dX7_init_58 : decode cX7_init 58 = .ok (.invokevirtual 28, 3) := by decide +kernel
theorem dX7_init_61 : decode cX7_init 61 = .ok (.return_, 1) := by decide +kernel
theorem dX7_thrown_0 : decode cX7_thrown 0 = .ok (.aload_n 0, 1) := by decide +kernel
theorem dX7_thrown_1 : decode cX7_thrown 1 = .ok (.getfield 32, 3) := by decide +kernel
theorem dX7_thrown_4 : decode cX7_thrown 4 = .ok (.ireturn, 1) := by decide +kernel
theorem dX7_in_0 : decode cX7_in 0 = .ok (.iload_n 0, 1) := by decide +kernel
theorem dX7_in_1 : decode cX7_in 1 = .ok (.iload_n 1, 1) := by decide +kernel
theorem dX7_in_2 : decode cX7_in 2 = .ok (.if_icmp .lt 12, 3) := by decide +kernel
theorem dX7_in_5 : decode cX7_in 5 = .ok (.iload_n 0, 1) := by decide +kernel
theorem dX7_in_6 : decode cX7_in 6 = .ok (.iload_n 2, 1) := by decide +kernel
theorem dX7_in_7 : decode cX7_in 7 = .ok (.if_icmp .gt 7, 3) := by decide +kernel
theorem dX7_in_10 : decode cX7_in 10 = .ok (.iconst 1, 1) := by decide +kernel
theorem dX7_in_11 : decode cX7_in 11 = .ok (.goto 4, 3) := by decide +kernel
theorem dX7_in_14 : decode cX7_in 14 = .ok (.iconst 0, 1) := by decide +kernel
theorem dX7_in_15 : decode cX7_in 15 = .ok (.ireturn, 1) := by decide +kernel
theorem dX7_refuses_0 : decode cX7_refuses 0 = .ok (.aload_n 0, 1) := by decide +kernel
theorem dX7_refuses_1 : decode cX7_refuses 1 = .ok (.iload_n 1, 1) := by decide +kernel
theorem dX7_refuses_2 : decode cX7_refuses 2 = .ok (.ifCond .eq 7, 3) := by decide +kernel
theorem dX7_refuses_5 : decode cX7_refuses 5 = .ok (.iconst 1, 1) := by decide +kernel
theorem dX7_refuses_6 : decode cX7_refuses 6 = .ok (.goto 20, 3) := by decide +kernel
theorem dX7_refuses_9 : decode cX7_refuses 9 = .ok (.iload_n 2, 1) := by decide +kernel
theorem dX7_refuses_10 : decode cX7_refuses 10 = .ok (.ifCond .eq 7, 3) := by decide +kernel
theorem dX7_refuses_13 : decode cX7_refuses 13 = .ok (.iconst 2, 1) := by decide +kernel
theorem dX7_refuses_14 : decode cX7_refuses 14 = .ok (.goto 12, 3) := by decide +kernel
theorem dX7_refuses_17 : decode cX7_refuses 17 = .ok (.iload_n 3, 1) := by decide +kernel
theorem dX7_refuses_18 : decode cX7_refuses 18 = .ok (.ifCond .eq 7, 3) := by decide +kernel
theorem dX7_refuses_21 : decode cX7_refuses 21 = .ok (.iconst 3, 1) := by decide +kernel
theorem dX7_refuses_22 : decode cX7_refuses 22 = .ok (.goto 4, 3) := by decide +kernel
theorem dX7_refuses_25 : decode cX7_refuses 25 = .ok (.iconst 0, 1) := by decide +kernel
theorem dX7_refuses_26 : decode cX7_refuses 26 = .ok (.putfield 32, 3) := by decide +kernel
theorem dX7_refuses_29 : decode cX7_refuses 29 = .ok (.aload_n 0, 1) := by decide +kernel
theorem dX7_refuses_30 : decode cX7_refuses 30 = .ok (.getfield 32, 3) := by decide +kernel
theorem dX7_refuses_33 : decode cX7_refuses 33 = .ok (.ifCond .eq 7, 3) := by decide +kernel
theorem dX7_refuses_36 : decode cX7_refuses 36 = .ok (.iconst 1, 1) := by decide +kernel
theorem dX7_refuses_37 : decode cX7_refuses 37 = .ok (.goto 4, 3) := by decide +kernel
theorem dX7_refuses_40 : decode cX7_refuses 40 = .ok (.iconst 0, 1) := by decide +kernel
theorem dX7_refuses_41 : decode cX7_refuses 41 = .ok (.ireturn, 1) := by decide +kernel
theorem dX7_begins_0 : decode cX7_begins 0 = .ok (.iconst 0, 1) := by decide +kernel
theorem dX7_begins_1 : decode cX7_begins 1 = .ok (.istore_n 2, 1) := by decide +kernel
theorem dX7_begins_2 : decode cX7_begins 2 = .ok (.iload_n 2, 1) := by decide +kernel
theorem dX7_begins_3 : decode cX7_begins 3 = .ok (.sipush 216, 3) := by decide +kernel
theorem dX7_begins_6 : decode cX7_begins 6 = .ok (.if_icmp .ge 16, 3) := by decide +kernel
theorem dX7_begins_9 : decode cX7_begins 9 = .ok (.aload_n 0, 1) := by decide +kernel
theorem dX7_begins_10 : decode cX7_begins 10 = .ok (.getfield 7, 3) := by decide +kernel
theorem dX7_begins_13 : decode cX7_begins 13 = .ok (.iload_n 2, 1) := by decide +kernel
theorem dX7_begins_14 : decode cX7_begins 14 = .ok (.iconst 0, 1) := by decide +kernel
theorem dX7_begins_15 : decode cX7_begins 15 = .ok (.iastore, 1) := by decide +kernel
theorem dX7_begins_16 : decode cX7_begins 16 = .ok (.iinc 2 1, 3) := by decide +kernel
theorem dX7_begins_19 : decode cX7_begins 19 = .ok (.goto (-17), 3) := by decide +kernel
theorem dX7_begins_22 : decode cX7_begins 22 = .ok (.aload_n 0, 1) := by decide +kernel
theorem dX7_begins_23 : decode cX7_begins 23 = .ok (.getfield 7, 3) := by decide +kernel
theorem dX7_begins_26 : decode cX7_begins 26 = .ok (.iconst 0, 1) := by decide +kernel
theorem dX7_begins_27 : decode cX7_begins 27 = .ok (.iload_n 1, 1) := by decide +kernel
theorem dX7_begins_28 : decode cX7_begins 28 = .ok (.iastore, 1) := by decide +kernel
theorem dX7_begins_29 : decode cX7_begins 29 = .ok (.iconst 0, 1) := by decide +kernel
theorem dX7_begins_30 : decode cX7_begins 30 = .ok (.istore_n 2, 1) := by decide +kernel
theorem dX7_begins_31 : decode cX7_begins 31 = .ok (.iload_n 2, 1) := by decide +kernel
theorem dX7_begins_32 : decode cX7_begins 32 = .ok (.bipush 12, 2) := by decide +kernel
theorem dX7_begins_34 : decode cX7_begins 34 = .ok (.if_icmp .ge 18, 3) := by decide +kernel
theorem dX7_begins_37 : decode cX7_begins 37 = .ok (.aload_n 0, 1) := by decide +kernel
theorem dX7_begins_38 : decode cX7_begins 38 = .ok (.getfield 7, 3) := by decide +kernel
theorem dX7_begins_41 : decode cX7_begins 41 = .ok (.iconst 4, 1) := by decide +kernel
theorem dX7_begins_42 : decode cX7_begins 42 = .ok (.iload_n 2, 1) := by decide +kernel
theorem dX7_begins_43 : decode cX7_begins 43 = .ok (.iadd, 1) := by decide +kernel
theorem dX7_begins_44 : decode cX7_begins 44 = .ok (.iconst 3, 1) := by decide +kernel
theorem dX7_begins_45 : decode cX7_begins 45 = .ok (.iastore, 1) := by decide +kernel
theorem dX7_begins_46 : decode cX7_begins 46 = .ok (.iinc 2 1, 3) := by decide +kernel
theorem dX7_begins_49 : decode cX7_begins 49 = .ok (.goto (-18), 3) := by decide +kernel
theorem dX7_begins_52 : decode cX7_begins 52 = .ok (.return_, 1) := by decide +kernel
theorem dX7_isNode_0 : decode cX7_isNode 0 = .ok (.iload_n 1, 1) := by decide +kernel
theorem dX7_isNode_1 : decode cX7_isNode 1 = .ok (.iconst 0, 1) := by decide +kernel
theorem dX7_isNode_2 : decode cX7_isNode 2 = .ok (.aload_n 0, 1) := by decide +kernel
theorem dX7_isNode_3 : decode cX7_isNode 3 = .ok (.getfield 7, 3) := by decide +kernel
theorem dX7_isNode_6 : decode cX7_isNode 6 = .ok (.iconst 0, 1) := by decide +kernel
theorem dX7_isNode_7 : decode cX7_isNode 7 = .ok (.iaload, 1) := by decide +kernel
theorem dX7_isNode_8 : decode cX7_isNode 8 = .ok (.iconst 1, 1) := by decide +kernel
theorem dX7_isNode_9 : decode cX7_isNode 9 = .ok (.isub, 1) := by decide +kernel
theorem dX7_isNode_10 : decode cX7_isNode 10 = .ok (.invokestatic 36, 3) := by decide +kernel
theorem dX7_isNode_13 : decode cX7_isNode 13 = .ok (.ireturn, 1) := by decide +kernel
theorem dX7_copy_0 : decode cX7_copy 0 = .ok (.iconst 0, 1) := by decide +kernel
theorem dX7_copy_1 : decode cX7_copy 1 = .ok (.istore_n 1, 1) := by decide +kernel
theorem dX7_copy_2 : decode cX7_copy 2 = .ok (.iload_n 1, 1) := by decide +kernel
theorem dX7_copy_3 : decode cX7_copy 3 = .ok (.sipush 216, 3) := by decide +kernel
theorem dX7_copy_6 : decode cX7_copy 6 = .ok (.if_icmp .ge 21, 3) := by decide +kernel
theorem dX7_copy_9 : decode cX7_copy 9 = .ok (.aload_n 0, 1) := by decide +kernel
theorem dX7_copy_10 : decode cX7_copy 10 = .ok (.getfield 13, 3) := by decide +kernel
theorem dX7_copy_13 : decode cX7_copy 13 = .ok (.iload_n 1, 1) := by decide +kernel
theorem dX7_copy_14 : decode cX7_copy 14 = .ok (.aload_n 0, 1) := by decide +kernel
theorem dX7_copy_15 : decode cX7_copy 15 = .ok (.getfield 7, 3) := by decide +kernel
theorem dX7_copy_18 : decode cX7_copy 18 = .ok (.iload_n 1, 1) := by decide +kernel
theorem dX7_copy_19 : decode cX7_copy 19 = .ok (.iaload, 1) := by decide +kernel
theorem dX7_copy_20 : decode cX7_copy 20 = .ok (.iastore, 1) := by decide +kernel
theorem dX7_copy_21 : decode cX7_copy 21 = .ok (.iinc 1 1, 3) := by decide +kernel
theorem dX7_copy_24 : decode cX7_copy 24 = .ok (.goto (-22), 3) := by decide +kernel
theorem dX7_copy_27 : decode cX7_copy 27 = .ok (.return_, 1) := by decide +kernel
theorem dX7_back_0 : decode cX7_back 0 = .ok (.iconst 0, 1) := by decide +kernel
theorem dX7_back_1 : decode cX7_back 1 = .ok (.istore_n 1, 1) := by decide +kernel
theorem dX7_back_2 : decode cX7_back 2 = .ok (.iload_n 1, 1) := by decide +kernel
theorem dX7_back_3 : decode cX7_back 3 = .ok (.sipush 216, 3) := by decide +kernel
theorem dX7_back_6 : decode cX7_back 6 = .ok (.if_icmp .ge 21, 3) := by decide +kernel
theorem dX7_back_9 : decode cX7_back 9 = .ok (.aload_n 0, 1) := by decide +kernel
theorem dX7_back_10 : decode cX7_back 10 = .ok (.getfield 7, 3) := by decide +kernel
theorem dX7_back_13 : decode cX7_back 13 = .ok (.iload_n 1, 1) := by decide +kernel
theorem dX7_back_14 : decode cX7_back 14 = .ok (.aload_n 0, 1) := by decide +kernel
theorem dX7_back_15 : decode cX7_back 15 = .ok (.getfield 13, 3) := by decide +kernel
theorem dX7_back_18 : decode cX7_back 18 = .ok (.iload_n 1, 1) := by decide +kernel
theorem dX7_back_19 : decode cX7_back 19 = .ok (.iaload, 1) := by decide +kernel
theorem dX7_back_20 : decode cX7_back 20 = .ok (.iastore, 1) := by decide +kernel
theorem dX7_back_21 : decode cX7_back 21 = .ok (.iinc 1 1, 3) := by decide +kernel
theorem dX7_back_24 : decode cX7_back 24 = .ok (.goto (-22), 3) := by decide +kernel
theorem dX7_back_27 : decode cX7_back 27 = .ok (.return_, 1) := by decide +kernel
theorem dX7_save_0 : decode cX7_save 0 = .ok (.iconst 0, 1) := by decide +kernel
theorem dX7_save_1 : decode cX7_save 1 = .ok (.istore_n 1, 1) := by decide +kernel
theorem dX7_save_2 : decode cX7_save 2 = .ok (.iload_n 1, 1) := by decide +kernel
theorem dX7_save_3 : decode cX7_save 3 = .ok (.sipush 216, 3) := by decide +kernel
theorem dX7_save_6 : decode cX7_save 6 = .ok (.if_icmp .ge 30, 3) := by decide +kernel
theorem dX7_save_9 : decode cX7_save 9 = .ok (.aload_n 0, 1) := by decide +kernel
theorem dX7_save_10 : decode cX7_save 10 = .ok (.getfield 16, 3) := by decide +kernel
theorem dX7_save_13 : decode cX7_save 13 = .ok (.sipush 216, 3) := by decide +kernel
theorem dX7_save_16 : decode cX7_save 16 = .ok (.aload_n 0, 1) := by decide +kernel
theorem dX7_save_17 : decode cX7_save 17 = .ok (.getfield 40, 3) := by decide +kernel
theorem dX7_save_20 : decode cX7_save 20 = .ok (.imul, 1) := by decide +kernel
theorem dX7_save_21 : decode cX7_save 21 = .ok (.iload_n 1, 1) := by decide +kernel
theorem dX7_save_22 : decode cX7_save 22 = .ok (.iadd, 1) := by decide +kernel
theorem dX7_save_23 : decode cX7_save 23 = .ok (.aload_n 0, 1) := by decide +kernel
theorem dX7_save_24 : decode cX7_save 24 = .ok (.getfield 7, 3) := by decide +kernel
theorem dX7_save_27 : decode cX7_save 27 = .ok (.iload_n 1, 1) := by decide +kernel
theorem dX7_save_28 : decode cX7_save 28 = .ok (.iaload, 1) := by decide +kernel
theorem dX7_save_29 : decode cX7_save 29 = .ok (.iastore, 1) := by decide +kernel
theorem dX7_save_30 : decode cX7_save 30 = .ok (.iinc 1 1, 3) := by decide +kernel
theorem dX7_save_33 : decode cX7_save 33 = .ok (.goto (-31), 3) := by decide +kernel
theorem dX7_save_36 : decode cX7_save 36 = .ok (.aload_n 0, 1) := by decide +kernel
theorem dX7_save_37 : decode cX7_save 37 = .ok (.aload_n 0, 1) := by decide +kernel
theorem dX7_save_38 : decode cX7_save 38 = .ok (.getfield 40, 3) := by decide +kernel
theorem dX7_save_41 : decode cX7_save 41 = .ok (.iconst 1, 1) := by decide +kernel
theorem dX7_save_42 : decode cX7_save 42 = .ok (.iadd, 1) := by decide +kernel
theorem dX7_save_43 : decode cX7_save 43 = .ok (.iconst 4, 1) := by decide +kernel
theorem dX7_save_44 : decode cX7_save 44 = .ok (.irem, 1) := by decide +kernel
theorem dX7_save_45 : decode cX7_save 45 = .ok (.putfield 40, 3) := by decide +kernel
theorem dX7_save_48 : decode cX7_save 48 = .ok (.aload_n 0, 1) := by decide +kernel
theorem dX7_save_49 : decode cX7_save 49 = .ok (.aload_n 0, 1) := by decide +kernel
theorem dX7_save_50 : decode cX7_save 50 = .ok (.getfield 43, 3) := by decide +kernel
theorem dX7_save_53 : decode cX7_save 53 = .ok (.iconst 4, 1) := by decide +kernel
theorem dX7_save_54 : decode cX7_save 54 = .ok (.if_icmp .ge 12, 3) := by decide +kernel
theorem dX7_save_57 : decode cX7_save 57 = .ok (.aload_n 0, 1) := by decide +kernel
theorem dX7_save_58 : decode cX7_save 58 = .ok (.getfield 43, 3) := by decide +kernel
theorem dX7_save_61 : decode cX7_save 61 = .ok (.iconst 1, 1) := by decide +kernel
theorem dX7_save_62 : decode cX7_save 62 = .ok (.iadd, 1) := by decide +kernel
theorem dX7_save_63 : decode cX7_save 63 = .ok (.goto 4, 3) := by decide +kernel
theorem dX7_save_66 : decode cX7_save 66 = .ok (.iconst 4, 1) := by decide +kernel
theorem dX7_save_67 : decode cX7_save 67 = .ok (.putfield 43, 3) := by decide +kernel
theorem dX7_save_70 : decode cX7_save 70 = .ok (.return_, 1) := by decide +kernel
theorem dX7_undo_0 : decode cX7_undo 0 = .ok (.aload_n 0, 1) := by decide +kernel
theorem dX7_undo_1 : decode cX7_undo 1 = .ok (.aload_n 0, 1) := by decide +kernel
theorem dX7_undo_2 : decode cX7_undo 2 = .ok (.getfield 43, 3) := by decide +kernel
theorem dX7_undo_5 : decode cX7_undo 5 = .ok (.ifCond .ne 7, 3) := by decide +kernel
theorem dX7_undo_8 : decode cX7_undo 8 = .ok (.iconst 1, 1) := by decide +kernel
theorem dX7_undo_9 : decode cX7_undo 9 = .ok (.goto 4, 3) := by decide +kernel
theorem dX7_undo_12 : decode cX7_undo 12 = .ok (.iconst 0, 1) := by decide +kernel
theorem dX7_undo_13 : decode cX7_undo 13 = .ok (.iconst 0, 1) := by decide +kernel
theorem dX7_undo_14 : decode cX7_undo 14 = .ok (.iconst 0, 1) := by decide +kernel
theorem dX7_undo_15 : decode cX7_undo 15 = .ok (.invokevirtual 46, 3) := by decide +kernel
theorem dX7_undo_18 : decode cX7_undo 18 = .ok (.ifCond .eq 5, 3) := by decide +kernel
theorem dX7_undo_21 : decode cX7_undo 21 = .ok (.iconst 0, 1) := by decide +kernel
theorem dX7_undo_22 : decode cX7_undo 22 = .ok (.ireturn, 1) := by decide +kernel
theorem dX7_undo_23 : decode cX7_undo 23 = .ok (.aload_n 0, 1) := by decide +kernel
theorem dX7_undo_24 : decode cX7_undo 24 = .ok (.aload_n 0, 1) := by decide +kernel
theorem dX7_undo_25 : decode cX7_undo 25 = .ok (.getfield 40, 3) := by decide +kernel
theorem dX7_undo_28 : decode cX7_undo 28 = .ok (.iconst 4, 1) := by decide +kernel
theorem dX7_undo_29 : decode cX7_undo 29 = .ok (.iadd, 1) := by decide +kernel
theorem dX7_undo_30 : decode cX7_undo 30 = .ok (.iconst 1, 1) := by decide +kernel
theorem dX7_undo_31 : decode cX7_undo 31 = .ok (.isub, 1) := by decide +kernel
theorem dX7_undo_32 : decode cX7_undo 32 = .ok (.iconst 4, 1) := by decide +kernel
theorem dX7_undo_33 : decode cX7_undo 33 = .ok (.irem, 1) := by decide +kernel
theorem dX7_undo_34 : decode cX7_undo 34 = .ok (.putfield 40, 3) := by decide +kernel
theorem dX7_undo_37 : decode cX7_undo 37 = .ok (.aload_n 0, 1) := by decide +kernel
theorem dX7_undo_38 : decode cX7_undo 38 = .ok (.dup, 1) := by decide +kernel
theorem dX7_undo_39 : decode cX7_undo 39 = .ok (.getfield 43, 3) := by decide +kernel
theorem dX7_undo_42 : decode cX7_undo 42 = .ok (.iconst 1, 1) := by decide +kernel
theorem dX7_undo_43 : decode cX7_undo 43 = .ok (.isub, 1) := by decide +kernel
theorem dX7_undo_44 : decode cX7_undo 44 = .ok (.putfield 43, 3) := by decide +kernel
theorem dX7_undo_47 : decode cX7_undo 47 = .ok (.iconst 0, 1) := by decide +kernel
theorem dX7_undo_48 : decode cX7_undo 48 = .ok (.istore_n 1, 1) := by decide +kernel
theorem dX7_undo_49 : decode cX7_undo 49 = .ok (.iload_n 1, 1) := by decide +kernel
theorem dX7_undo_50 : decode cX7_undo 50 = .ok (.sipush 216, 3) := by decide +kernel
theorem dX7_undo_53 : decode cX7_undo 53 = .ok (.if_icmp .ge 30, 3) := by decide +kernel
theorem dX7_undo_56 : decode cX7_undo 56 = .ok (.aload_n 0, 1) := by decide +kernel
theorem dX7_undo_57 : decode cX7_undo 57 = .ok (.getfield 7, 3) := by decide +kernel
theorem dX7_undo_60 : decode cX7_undo 60 = .ok (.iload_n 1, 1) := by decide +kernel
theorem dX7_undo_61 : decode cX7_undo 61 = .ok (.aload_n 0, 1) := by decide +kernel
theorem dX7_undo_62 : decode cX7_undo 62 = .ok (.getfield 16, 3) := by decide +kernel
theorem dX7_undo_65 : decode cX7_undo 65 = .ok (.sipush 216, 3) := by decide +kernel
theorem dX7_undo_68 : decode cX7_undo 68 = .ok (.aload_n 0, 1) := by decide +kernel
theorem dX7_undo_69 : decode cX7_undo 69 = .ok (.getfield 40, 3) := by decide +kernel
theorem dX7_undo_72 : decode cX7_undo 72 = .ok (.imul, 1) := by decide +kernel
theorem dX7_undo_73 : decode cX7_undo 73 = .ok (.iload_n 1, 1) := by decide +kernel
theorem dX7_undo_74 : decode cX7_undo 74 = .ok (.iadd, 1) := by decide +kernel
theorem dX7_undo_75 : decode cX7_undo 75 = .ok (.iaload, 1) := by decide +kernel
theorem dX7_undo_76 : decode cX7_undo 76 = .ok (.iastore, 1) := by decide +kernel
theorem dX7_undo_77 : decode cX7_undo 77 = .ok (.iinc 1 1, 3) := by decide +kernel
theorem dX7_undo_80 : decode cX7_undo 80 = .ok (.goto (-31), 3) := by decide +kernel
theorem dX7_undo_83 : decode cX7_undo 83 = .ok (.aload_n 0, 1) := by decide +kernel
theorem dX7_undo_84 : decode cX7_undo 84 = .ok (.getfield 43, 3) := by decide +kernel
theorem dX7_undo_87 : decode cX7_undo 87 = .ok (.ireturn, 1) := by decide +kernel
theorem dX7_placeOf_0 : decode cX7_placeOf 0 = .ok (.iconst 0, 1) := by decide +kernel
theorem dX7_placeOf_1 : decode cX7_placeOf 1 = .ok (.istore_n 2, 1) := by decide +kernel
theorem dX7_placeOf_2 : decode cX7_placeOf 2 = .ok (.iload_n 2, 1) := by decide +kernel
theorem dX7_placeOf_3 : decode cX7_placeOf 3 = .ok (.aload_n 0, 1) := by decide +kernel
theorem dX7_placeOf_4 : decode cX7_placeOf 4 = .ok (.getfield 7, 3) := by decide +kernel
theorem dX7_placeOf_7 : decode cX7_placeOf 7 = .ok (.iconst 3, 1) := by decide +kernel
theorem dX7_placeOf_8 : decode cX7_placeOf 8 = .ok (.iaload, 1) := by decide +kernel
theorem dX7_placeOf_9 : decode cX7_placeOf 9 = .ok (.if_icmp .ge 24, 3) := by decide +kernel
theorem dX7_placeOf_12 : decode cX7_placeOf 12 = .ok (.aload_n 0, 1) := by decide +kernel
theorem dX7_placeOf_13 : decode cX7_placeOf 13 = .ok (.getfield 7, 3) := by decide +kernel
theorem dX7_placeOf_16 : decode cX7_placeOf 16 = .ok (.bipush 16, 2) := by decide +kernel
theorem dX7_placeOf_18 : decode cX7_placeOf 18 = .ok (.iload_n 2, 1) := by decide +kernel
theorem dX7_placeOf_19 : decode cX7_placeOf 19 = .ok (.iadd, 1) := by decide +kernel
theorem dX7_placeOf_20 : decode cX7_placeOf 20 = .ok (.iaload, 1) := by decide +kernel
theorem dX7_placeOf_21 : decode cX7_placeOf 21 = .ok (.iload_n 1, 1) := by decide +kernel
theorem dX7_placeOf_22 : decode cX7_placeOf 22 = .ok (.if_icmp .ne 5, 3) := by decide +kernel
theorem dX7_placeOf_25 : decode cX7_placeOf 25 = .ok (.iload_n 2, 1) := by decide +kernel
theorem dX7_placeOf_26 : decode cX7_placeOf 26 = .ok (.ireturn, 1) := by decide +kernel
theorem dX7_placeOf_27 : decode cX7_placeOf 27 = .ok (.iinc 2 1, 3) := by decide +kernel
theorem dX7_placeOf_30 : decode cX7_placeOf 30 = .ok (.goto (-28), 3) := by decide +kernel
theorem dX7_placeOf_33 : decode cX7_placeOf 33 = .ok (.iconst (-1), 1) := by decide +kernel
theorem dX7_placeOf_34 : decode cX7_placeOf 34 = .ok (.ireturn, 1) := by decide +kernel
theorem dX7_holder_0 : decode cX7_holder 0 = .ok (.aload_n 0, 1) := by decide +kernel
theorem dX7_holder_1 : decode cX7_holder 1 = .ok (.getfield 7, 3) := by decide +kernel
theorem dX7_holder_4 : decode cX7_holder 4 = .ok (.sipush 136, 3) := by decide +kernel
theorem dX7_holder_7 : decode cX7_holder 7 = .ok (.iload_n 1, 1) := by decide +kernel
theorem dX7_holder_8 : decode cX7_holder 8 = .ok (.iadd, 1) := by decide +kernel
theorem dX7_holder_9 : decode cX7_holder 9 = .ok (.iaload, 1) := by decide +kernel
theorem dX7_holder_10 : decode cX7_holder 10 = .ok (.ifCond .ne 15, 3) := by decide +kernel
theorem dX7_holder_13 : decode cX7_holder 13 = .ok (.aload_n 0, 1) := by decide +kernel
theorem dX7_holder_14 : decode cX7_holder 14 = .ok (.getfield 7, 3) := by decide +kernel
theorem dX7_holder_17 : decode cX7_holder 17 = .ok (.bipush 56, 2) := by decide +kernel
theorem dX7_holder_19 : decode cX7_holder 19 = .ok (.iload_n 1, 1) := by decide +kernel
theorem dX7_holder_20 : decode cX7_holder 20 = .ok (.iadd, 1) := by decide +kernel
theorem dX7_holder_21 : decode cX7_holder 21 = .ok (.iaload, 1) := by decide +kernel
theorem dX7_holder_22 : decode cX7_holder 22 = .ok (.goto 12, 3) := by decide +kernel
theorem dX7_holder_25 : decode cX7_holder 25 = .ok (.aload_n 0, 1) := by decide +kernel
theorem dX7_holder_26 : decode cX7_holder 26 = .ok (.getfield 7, 3) := by decide +kernel
theorem dX7_holder_29 : decode cX7_holder 29 = .ok (.bipush 96, 2) := by decide +kernel
theorem dX7_holder_31 : decode cX7_holder 31 = .ok (.iload_n 1, 1) := by decide +kernel
theorem dX7_holder_32 : decode cX7_holder 32 = .ok (.iadd, 1) := by decide +kernel
theorem dX7_holder_33 : decode cX7_holder 33 = .ok (.iaload, 1) := by decide +kernel
theorem dX7_holder_34 : decode cX7_holder 34 = .ok (.ireturn, 1) := by decide +kernel
theorem dX7_other_0 : decode cX7_other 0 = .ok (.aload_n 0, 1) := by decide +kernel
theorem dX7_other_1 : decode cX7_other 1 = .ok (.getfield 7, 3) := by decide +kernel
theorem dX7_other_4 : decode cX7_other 4 = .ok (.sipush 136, 3) := by decide +kernel
theorem dX7_other_7 : decode cX7_other 7 = .ok (.iload_n 1, 1) := by decide +kernel
theorem dX7_other_8 : decode cX7_other 8 = .ok (.iadd, 1) := by decide +kernel
theorem dX7_other_9 : decode cX7_other 9 = .ok (.iaload, 1) := by decide +kernel
theorem dX7_other_10 : decode cX7_other 10 = .ok (.ifCond .ne 15, 3) := by decide +kernel
theorem dX7_other_13 : decode cX7_other 13 = .ok (.aload_n 0, 1) := by decide +kernel
theorem dX7_other_14 : decode cX7_other 14 = .ok (.getfield 7, 3) := by decide +kernel
theorem dX7_other_17 : decode cX7_other 17 = .ok (.bipush 96, 2) := by decide +kernel
theorem dX7_other_19 : decode cX7_other 19 = .ok (.iload_n 1, 1) := by decide +kernel
theorem dX7_other_20 : decode cX7_other 20 = .ok (.iadd, 1) := by decide +kernel
theorem dX7_other_21 : decode cX7_other 21 = .ok (.iaload, 1) := by decide +kernel
theorem dX7_other_22 : decode cX7_other 22 = .ok (.goto 12, 3) := by decide +kernel
theorem dX7_other_25 : decode cX7_other 25 = .ok (.aload_n 0, 1) := by decide +kernel
theorem dX7_other_26 : decode cX7_other 26 = .ok (.getfield 7, 3) := by decide +kernel
theorem dX7_other_29 : decode cX7_other 29 = .ok (.bipush 56, 2) := by decide +kernel
theorem dX7_other_31 : decode cX7_other 31 = .ok (.iload_n 1, 1) := by decide +kernel
theorem dX7_other_32 : decode cX7_other 32 = .ok (.iadd, 1) := by decide +kernel
theorem dX7_other_33 : decode cX7_other 33 = .ok (.iaload, 1) := by decide +kernel
theorem dX7_other_34 : decode cX7_other 34 = .ok (.ireturn, 1) := by decide +kernel
theorem dX7_load_0 : decode cX7_load 0 = .ok (.iconst 0, 1) := by decide +kernel
theorem dX7_load_1 : decode cX7_load 1 = .ok (.istore_n 2, 1) := by decide +kernel
theorem dX7_load_2 : decode cX7_load 2 = .ok (.iconst 0, 1) := by decide +kernel
theorem dX7_load_3 : decode cX7_load 3 = .ok (.istore_n 3, 1) := by decide +kernel
theorem dX7_load_4 : decode cX7_load 4 = .ok (.iload_n 3, 1) := by decide +kernel
theorem dX7_load_5 : decode cX7_load 5 = .ok (.aload_n 0, 1) := by decide +kernel
theorem dX7_load_6 : decode cX7_load 6 = .ok (.getfield 7, 3) := by decide +kernel
theorem dX7_load_9 : decode cX7_load 9 = .ok (.iconst 3, 1) := by decide +kernel
theorem dX7_load_10 : decode cX7_load 10 = .ok (.iaload, 1) := by decide +kernel
theorem dX7_load_11 : decode cX7_load 11 = .ok (.if_icmp .ge 26, 3) := by decide +kernel
theorem dX7_load_14 : decode cX7_load 14 = .ok (.iload_n 2, 1) := by decide +kernel
theorem dX7_load_15 : decode cX7_load 15 = .ok (.aload_n 0, 1) := by decide +kernel
theorem dX7_load_16 : decode cX7_load 16 = .ok (.iload_n 3, 1) := by decide +kernel
theorem dX7_load_17 : decode cX7_load 17 = .ok (.invokevirtual 50, 3) := by decide +kernel
theorem dX7_load_20 : decode cX7_load 20 = .ok (.iload_n 1, 1) := by decide +kernel
theorem dX7_load_21 : decode cX7_load 21 = .ok (.if_icmp .ne 7, 3) := by decide +kernel
theorem dX7_load_24 : decode cX7_load 24 = .ok (.iconst 1, 1) := by decide +kernel
theorem dX7_load_25 : decode cX7_load 25 = .ok (.goto 4, 3) := by decide +kernel
theorem dX7_load_28 : decode cX7_load 28 = .ok (.iconst 0, 1) := by decide +kernel
theorem dX7_load_29 : decode cX7_load 29 = .ok (.iadd, 1) := by decide +kernel
theorem dX7_load_30 : decode cX7_load 30 = .ok (.istore_n 2, 1) := by decide +kernel
theorem dX7_load_31 : decode cX7_load 31 = .ok (.iinc 3 1, 3) := by decide +kernel
theorem dX7_load_34 : decode cX7_load 34 = .ok (.goto (-30), 3) := by decide +kernel
theorem dX7_load_37 : decode cX7_load 37 = .ok (.iload_n 2, 1) := by decide +kernel
theorem dX7_load_38 : decode cX7_load 38 = .ok (.ireturn, 1) := by decide +kernel
theorem dX7_turns_0 : decode cX7_turns 0 = .ok (.aload_n 0, 1) := by decide +kernel
theorem dX7_turns_1 : decode cX7_turns 1 = .ok (.getfield 7, 3) := by decide +kernel
theorem dX7_turns_4 : decode cX7_turns 4 = .ok (.sipush 136, 3) := by decide +kernel
theorem dX7_turns_7 : decode cX7_turns 7 = .ok (.iload_n 1, 1) := by decide +kernel
theorem dX7_turns_8 : decode cX7_turns 8 = .ok (.iadd, 1) := by decide +kernel
theorem dX7_turns_9 : decode cX7_turns 9 = .ok (.iconst 1, 1) := by decide +kernel
theorem dX7_turns_10 : decode cX7_turns 10 = .ok (.aload_n 0, 1) := by decide +kernel
theorem dX7_turns_11 : decode cX7_turns 11 = .ok (.getfield 7, 3) := by decide +kernel
theorem dX7_turns_14 : decode cX7_turns 14 = .ok (.sipush 136, 3) := by decide +kernel
theorem dX7_turns_17 : decode cX7_turns 17 = .ok (.iload_n 1, 1) := by decide +kernel
theorem dX7_turns_18 : decode cX7_turns 18 = .ok (.iadd, 1) := by decide +kernel
theorem dX7_turns_19 : decode cX7_turns 19 = .ok (.iaload, 1) := by decide +kernel
theorem dX7_turns_20 : decode cX7_turns 20 = .ok (.isub, 1) := by decide +kernel
theorem dX7_turns_21 : decode cX7_turns 21 = .ok (.iastore, 1) := by decide +kernel
theorem dX7_turns_22 : decode cX7_turns 22 = .ok (.aload_n 0, 1) := by decide +kernel
theorem dX7_turns_23 : decode cX7_turns 23 = .ok (.getfield 7, 3) := by decide +kernel
theorem dX7_turns_26 : decode cX7_turns 26 = .ok (.sipush 176, 3) := by decide +kernel
theorem dX7_turns_29 : decode cX7_turns 29 = .ok (.iload_n 1, 1) := by decide +kernel
theorem dX7_turns_30 : decode cX7_turns 30 = .ok (.iadd, 1) := by decide +kernel
theorem dX7_turns_31 : decode cX7_turns 31 = .ok (.dup2, 1) := by decide +kernel
theorem dX7_turns_32 : decode cX7_turns 32 = .ok (.iaload, 1) := by decide +kernel
theorem dX7_turns_33 : decode cX7_turns 33 = .ok (.iconst 1, 1) := by decide +kernel
theorem dX7_turns_34 : decode cX7_turns 34 = .ok (.iadd, 1) := by decide +kernel
theorem dX7_turns_35 : decode cX7_turns 35 = .ok (.iastore, 1) := by decide +kernel
theorem dX7_turns_36 : decode cX7_turns 36 = .ok (.aload_n 0, 1) := by decide +kernel
theorem dX7_turns_37 : decode cX7_turns 37 = .ok (.getfield 7, 3) := by decide +kernel
theorem dX7_turns_40 : decode cX7_turns 40 = .ok (.iconst 2, 1) := by decide +kernel
theorem dX7_turns_41 : decode cX7_turns 41 = .ok (.dup2, 1) := by decide +kernel
theorem dX7_turns_42 : decode cX7_turns 42 = .ok (.iaload, 1) := by decide +kernel
theorem dX7_turns_43 : decode cX7_turns 43 = .ok (.iconst 1, 1) := by decide +kernel
theorem dX7_turns_44 : decode cX7_turns 44 = .ok (.iadd, 1) := by decide +kernel
theorem dX7_turns_45 : decode cX7_turns 45 = .ok (.iastore, 1) := by decide +kernel
theorem dX7_turns_46 : decode cX7_turns 46 = .ok (.return_, 1) := by decide +kernel
theorem dX7_adds_0 : decode cX7_adds 0 = .ok (.aload_n 0, 1) := by decide +kernel
theorem dX7_adds_1 : decode cX7_adds 1 = .ok (.getfield 7, 3) := by decide +kernel
theorem dX7_adds_4 : decode cX7_adds 4 = .ok (.iconst 3, 1) := by decide +kernel
theorem dX7_adds_5 : decode cX7_adds 5 = .ok (.iaload, 1) := by decide +kernel
theorem dX7_adds_6 : decode cX7_adds 6 = .ok (.istore_n 3, 1) := by decide +kernel
theorem dX7_adds_7 : decode cX7_adds 7 = .ok (.aload_n 0, 1) := by decide +kernel
theorem dX7_adds_8 : decode cX7_adds 8 = .ok (.getfield 7, 3) := by decide +kernel
theorem dX7_adds_11 : decode cX7_adds 11 = .ok (.bipush 16, 2) := by decide +kernel
theorem dX7_adds_13 : decode cX7_adds 13 = .ok (.iload_n 3, 1) := by decide +kernel
theorem dX7_adds_14 : decode cX7_adds 14 = .ok (.iadd, 1) := by decide +kernel
theorem dX7_adds_15 : decode cX7_adds 15 = .ok (.aload_n 0, 1) := by decide +kernel
theorem dX7_adds_16 : decode cX7_adds 16 = .ok (.getfield 7, 3) := by decide +kernel
theorem dX7_adds_19 : decode cX7_adds 19 = .ok (.iconst 1, 1) := by decide +kernel
theorem dX7_adds_20 : decode cX7_adds 20 = .ok (.iaload, 1) := by decide +kernel
theorem dX7_adds_21 : decode cX7_adds 21 = .ok (.iastore, 1) := by decide +kernel
theorem dX7_adds_22 : decode cX7_adds 22 = .ok (.aload_n 0, 1) := by decide +kernel
theorem dX7_adds_23 : decode cX7_adds 23 = .ok (.getfield 7, 3) := by decide +kernel
theorem dX7_adds_26 : decode cX7_adds 26 = .ok (.bipush 56, 2) := by decide +kernel
theorem dX7_adds_28 : decode cX7_adds 28 = .ok (.iload_n 3, 1) := by decide +kernel
theorem dX7_adds_29 : decode cX7_adds 29 = .ok (.iadd, 1) := by decide +kernel
theorem dX7_adds_30 : decode cX7_adds 30 = .ok (.iload_n 1, 1) := by decide +kernel
theorem dX7_adds_31 : decode cX7_adds 31 = .ok (.iastore, 1) := by decide +kernel
theorem dX7_adds_32 : decode cX7_adds 32 = .ok (.aload_n 0, 1) := by decide +kernel
theorem dX7_adds_33 : decode cX7_adds 33 = .ok (.getfield 7, 3) := by decide +kernel
theorem dX7_adds_36 : decode cX7_adds 36 = .ok (.bipush 96, 2) := by decide +kernel
theorem dX7_adds_38 : decode cX7_adds 38 = .ok (.iload_n 3, 1) := by decide +kernel
theorem dX7_adds_39 : decode cX7_adds 39 = .ok (.iadd, 1) := by decide +kernel
theorem dX7_adds_40 : decode cX7_adds 40 = .ok (.iload_n 2, 1) := by decide +kernel
theorem dX7_adds_41 : decode cX7_adds 41 = .ok (.iastore, 1) := by decide +kernel
theorem dX7_adds_42 : decode cX7_adds 42 = .ok (.aload_n 0, 1) := by decide +kernel
theorem dX7_adds_43 : decode cX7_adds 43 = .ok (.getfield 7, 3) := by decide +kernel
theorem dX7_adds_46 : decode cX7_adds 46 = .ok (.sipush 136, 3) := by decide +kernel
theorem dX7_adds_49 : decode cX7_adds 49 = .ok (.iload_n 3, 1) := by decide +kernel
theorem dX7_adds_50 : decode cX7_adds 50 = .ok (.iadd, 1) := by decide +kernel
theorem dX7_adds_51 : decode cX7_adds 51 = .ok (.aload_n 0, 1) := by decide +kernel
theorem dX7_adds_52 : decode cX7_adds 52 = .ok (.iload_n 2, 1) := by decide +kernel
theorem dX7_adds_53 : decode cX7_adds 53 = .ok (.invokevirtual 54, 3) := by decide +kernel
theorem dX7_adds_56 : decode cX7_adds 56 = .ok (.aload_n 0, 1) := by decide +kernel
theorem dX7_adds_57 : decode cX7_adds 57 = .ok (.iload_n 1, 1) := by decide +kernel
theorem dX7_adds_58 : decode cX7_adds 58 = .ok (.invokevirtual 54, 3) := by decide +kernel
theorem dX7_adds_61 : decode cX7_adds 61 = .ok (.if_icmp .ge 7, 3) := by decide +kernel
theorem dX7_adds_64 : decode cX7_adds 64 = .ok (.iconst 1, 1) := by decide +kernel
theorem dX7_adds_65 : decode cX7_adds 65 = .ok (.goto 4, 3) := by decide +kernel
theorem dX7_adds_68 : decode cX7_adds 68 = .ok (.iconst 0, 1) := by decide +kernel
theorem dX7_adds_69 : decode cX7_adds 69 = .ok (.iastore, 1) := by decide +kernel
theorem dX7_adds_70 : decode cX7_adds 70 = .ok (.aload_n 0, 1) := by decide +kernel
theorem dX7_adds_71 : decode cX7_adds 71 = .ok (.getfield 7, 3) := by decide +kernel
theorem dX7_adds_74 : decode cX7_adds 74 = .ok (.sipush 176, 3) := by decide +kernel
theorem dX7_adds_77 : decode cX7_adds 77 = .ok (.iload_n 3, 1) := by decide +kernel
theorem dX7_adds_78 : decode cX7_adds 78 = .ok (.iadd, 1) := by decide +kernel
theorem dX7_adds_79 : decode cX7_adds 79 = .ok (.iconst 0, 1) := by decide +kernel
theorem dX7_adds_80 : decode cX7_adds 80 = .ok (.iastore, 1) := by decide +kernel
theorem dX7_adds_81 : decode cX7_adds 81 = .ok (.aload_n 0, 1) := by decide +kernel
theorem dX7_adds_82 : decode cX7_adds 82 = .ok (.getfield 7, 3) := by decide +kernel
theorem dX7_adds_85 : decode cX7_adds 85 = .ok (.iconst 3, 1) := by decide +kernel
theorem dX7_adds_86 : decode cX7_adds 86 = .ok (.dup2, 1) := by decide +kernel
theorem dX7_adds_87 : decode cX7_adds 87 = .ok (.iaload, 1) := by decide +kernel
theorem dX7_adds_88 : decode cX7_adds 88 = .ok (.iconst 1, 1) := by decide +kernel
theorem dX7_adds_89 : decode cX7_adds 89 = .ok (.iadd, 1) := by decide +kernel
theorem dX7_adds_90 : decode cX7_adds 90 = .ok (.iastore, 1) := by decide +kernel
theorem dX7_adds_91 : decode cX7_adds 91 = .ok (.aload_n 0, 1) := by decide +kernel
theorem dX7_adds_92 : decode cX7_adds 92 = .ok (.getfield 7, 3) := by decide +kernel
theorem dX7_adds_95 : decode cX7_adds 95 = .ok (.iconst 1, 1) := by decide +kernel
theorem dX7_adds_96 : decode cX7_adds 96 = .ok (.dup2, 1) := by decide +kernel
theorem dX7_adds_97 : decode cX7_adds 97 = .ok (.iaload, 1) := by decide +kernel
theorem dX7_adds_98 : decode cX7_adds 98 = .ok (.iconst 1, 1) := by decide +kernel
theorem dX7_adds_99 : decode cX7_adds 99 = .ok (.iadd, 1) := by decide +kernel
theorem dX7_adds_100 : decode cX7_adds 100 = .ok (.iastore, 1) := by decide +kernel
theorem dX7_adds_101 : decode cX7_adds 101 = .ok (.aload_n 0, 1) := by decide +kernel
theorem dX7_adds_102 : decode cX7_adds 102 = .ok (.getfield 7, 3) := by decide +kernel
theorem dX7_adds_105 : decode cX7_adds 105 = .ok (.iconst 1, 1) := by decide +kernel
theorem dX7_adds_106 : decode cX7_adds 106 = .ok (.iaload, 1) := by decide +kernel
theorem dX7_adds_107 : decode cX7_adds 107 = .ok (.iconst 1, 1) := by decide +kernel
theorem dX7_adds_108 : decode cX7_adds 108 = .ok (.isub, 1) := by decide +kernel
theorem dX7_adds_109 : decode cX7_adds 109 = .ok (.ireturn, 1) := by decide +kernel
theorem dX7_removes_0 : decode cX7_removes 0 = .ok (.aload_n 0, 1) := by decide +kernel
theorem dX7_removes_1 : decode cX7_removes 1 = .ok (.iload_n 1, 1) := by decide +kernel
theorem dX7_removes_2 : decode cX7_removes 2 = .ok (.invokevirtual 50, 3) := by decide +kernel
theorem dX7_removes_5 : decode cX7_removes 5 = .ok (.istore_n 2, 1) := by decide +kernel
theorem dX7_removes_6 : decode cX7_removes 6 = .ok (.aload_n 0, 1) := by decide +kernel
theorem dX7_removes_7 : decode cX7_removes 7 = .ok (.getfield 7, 3) := by decide +kernel
theorem dX7_removes_10 : decode cX7_removes 10 = .ok (.iconst 3, 1) := by decide +kernel
theorem dX7_removes_11 : decode cX7_removes 11 = .ok (.dup2, 1) := by decide +kernel
theorem dX7_removes_12 : decode cX7_removes 12 = .ok (.iaload, 1) := by decide +kernel
theorem dX7_removes_13 : decode cX7_removes 13 = .ok (.iconst 1, 1) := by decide +kernel
theorem dX7_removes_14 : decode cX7_removes 14 = .ok (.isub, 1) := by decide +kernel
theorem dX7_removes_15 : decode cX7_removes 15 = .ok (.iastore, 1) := by decide +kernel
theorem dX7_removes_16 : decode cX7_removes 16 = .ok (.iload_n 1, 1) := by decide +kernel
theorem dX7_removes_17 : decode cX7_removes 17 = .ok (.istore_n 3, 1) := by decide +kernel
theorem dX7_removes_18 : decode cX7_removes 18 = .ok (.iload_n 3, 1) := by decide +kernel
theorem dX7_removes_19 : decode cX7_removes 19 = .ok (.aload_n 0, 1) := by decide +kernel
theorem dX7_removes_20 : decode cX7_removes 20 = .ok (.getfield 7, 3) := by decide +kernel
theorem dX7_removes_23 : decode cX7_removes 23 = .ok (.iconst 3, 1) := by decide +kernel
theorem dX7_removes_24 : decode cX7_removes 24 = .ok (.iaload, 1) := by decide +kernel
theorem dX7_removes_25 : decode cX7_removes 25 = .ok (.if_icmp .ge 47, 3) := by decide +kernel
theorem dX7_removes_28 : decode cX7_removes 28 = .ok (.bipush 16, 2) := by decide +kernel
theorem dX7_removes_30 : decode cX7_removes 30 = .ok (.istore 4, 2) := by decide +kernel
theorem dX7_removes_32 : decode cX7_removes 32 = .ok (.iload 4, 2) := by decide +kernel
theorem dX7_removes_34 : decode cX7_removes 34 = .ok (.sipush 216, 3) := by decide +kernel
theorem dX7_removes_37 : decode cX7_removes 37 = .ok (.if_icmp .ge 29, 3) := by decide +kernel
theorem dX7_removes_40 : decode cX7_removes 40 = .ok (.aload_n 0, 1) := by decide +kernel
theorem dX7_removes_41 : decode cX7_removes 41 = .ok (.getfield 7, 3) := by decide +kernel
theorem dX7_removes_44 : decode cX7_removes 44 = .ok (.iload 4, 2) := by decide +kernel
theorem dX7_removes_46 : decode cX7_removes 46 = .ok (.iload_n 3, 1) := by decide +kernel
theorem dX7_removes_47 : decode cX7_removes 47 = .ok (.iadd, 1) := by decide +kernel
theorem dX7_removes_48 : decode cX7_removes 48 = .ok (.aload_n 0, 1) := by decide +kernel
theorem dX7_removes_49 : decode cX7_removes 49 = .ok (.getfield 7, 3) := by decide +kernel
theorem dX7_removes_52 : decode cX7_removes 52 = .ok (.iload 4, 2) := by decide +kernel
theorem dX7_removes_54 : decode cX7_removes 54 = .ok (.iload_n 3, 1) := by decide +kernel
theorem dX7_removes_55 : decode cX7_removes 55 = .ok (.iadd, 1) := by decide +kernel
theorem dX7_removes_56 : decode cX7_removes 56 = .ok (.iconst 1, 1) := by decide +kernel
theorem dX7_removes_57 : decode cX7_removes 57 = .ok (.iadd, 1) := by decide +kernel
theorem dX7_removes_58 : decode cX7_removes 58 = .ok (.iaload, 1) := by decide +kernel
theorem dX7_removes_59 : decode cX7_removes 59 = .ok (.iastore, 1) := by decide +kernel
theorem dX7_removes_60 : decode cX7_removes 60 = .ok (.iinc 4 40, 3) := by decide +kernel
theorem dX7_removes_63 : decode cX7_removes 63 = .ok (.goto (-31), 3) := by decide +kernel
theorem dX7_removes_66 : decode cX7_removes 66 = .ok (.iinc 3 1, 3) := by decide +kernel
theorem dX7_removes_69 : decode cX7_removes 69 = .ok (.goto (-51), 3) := by decide +kernel
theorem dX7_removes_72 : decode cX7_removes 72 = .ok (.iload_n 2, 1) := by decide +kernel
theorem dX7_removes_73 : decode cX7_removes 73 = .ok (.ireturn, 1) := by decide +kernel
theorem dX7_begin_0 : decode cX7_begin 0 = .ok (.aload_n 0, 1) := by decide +kernel
theorem dX7_begin_1 : decode cX7_begin 1 = .ok (.iload_n 1, 1) := by decide +kernel
theorem dX7_begin_2 : decode cX7_begin 2 = .ok (.iconst 2, 1) := by decide +kernel
theorem dX7_begin_3 : decode cX7_begin 3 = .ok (.bipush 12, 2) := by decide +kernel
theorem dX7_begin_5 : decode cX7_begin 5 = .ok (.invokestatic 36, 3) := by decide +kernel
theorem dX7_begin_8 : decode cX7_begin 8 = .ok (.ifCond .ne 7, 3) := by decide +kernel
theorem dX7_begin_11 : decode cX7_begin 11 = .ok (.iconst 1, 1) := by decide +kernel
theorem dX7_begin_12 : decode cX7_begin 12 = .ok (.goto 4, 3) := by decide +kernel
theorem dX7_begin_15 : decode cX7_begin 15 = .ok (.iconst 0, 1) := by decide +kernel
theorem dX7_begin_16 : decode cX7_begin 16 = .ok (.iconst 0, 1) := by decide +kernel
theorem dX7_begin_17 : decode cX7_begin 17 = .ok (.iconst 0, 1) := by decide +kernel
theorem dX7_begin_18 : decode cX7_begin 18 = .ok (.invokevirtual 46, 3) := by decide +kernel
theorem dX7_begin_21 : decode cX7_begin 21 = .ok (.ifCond .eq 5, 3) := by decide +kernel
theorem dX7_begin_24 : decode cX7_begin 24 = .ok (.iconst 0, 1) := by decide +kernel
theorem dX7_begin_25 : decode cX7_begin 25 = .ok (.ireturn, 1) := by decide +kernel
theorem dX7_begin_26 : decode cX7_begin 26 = .ok (.aload_n 0, 1) := by decide +kernel
theorem dX7_begin_27 : decode cX7_begin 27 = .ok (.invokevirtual 57, 3) := by decide +kernel
theorem dX7_begin_30 : decode cX7_begin 30 = .ok (.aload_n 0, 1) := by decide +kernel
theorem dX7_begin_31 : decode cX7_begin 31 = .ok (.getfield 7, 3) := by decide +kernel
theorem dX7_begin_34 : decode cX7_begin 34 = .ok (.iconst 3, 1) := by decide +kernel
theorem dX7_begin_35 : decode cX7_begin 35 = .ok (.iaload, 1) := by decide +kernel
theorem dX7_begin_36 : decode cX7_begin 36 = .ok (.istore_n 2, 1) := by decide +kernel
theorem dX7_begin_37 : decode cX7_begin 37 = .ok (.aload_n 0, 1) := by decide +kernel
theorem dX7_begin_38 : decode cX7_begin 38 = .ok (.iload_n 1, 1) := by decide +kernel
theorem dX7_begin_39 : decode cX7_begin 39 = .ok (.invokevirtual 28, 3) := by decide +kernel
theorem dX7_begin_42 : decode cX7_begin 42 = .ok (.iload_n 2, 1) := by decide +kernel
theorem dX7_begin_43 : decode cX7_begin 43 = .ok (.ireturn, 1) := by decide +kernel
theorem dX7_refusesAdd_0 : decode cX7_refusesAdd 0 = .ok (.aload_n 0, 1) := by decide +kernel
theorem dX7_refusesAdd_1 : decode cX7_refusesAdd 1 = .ok (.aload_n 0, 1) := by decide +kernel
theorem dX7_refusesAdd_2 : decode cX7_refusesAdd 2 = .ok (.iload_n 1, 1) := by decide +kernel
theorem dX7_refusesAdd_3 : decode cX7_refusesAdd 3 = .ok (.invokevirtual 60, 3) := by decide +kernel
theorem dX7_refusesAdd_6 : decode cX7_refusesAdd 6 = .ok (.ifCond .eq 11, 3) := by decide +kernel
theorem dX7_refusesAdd_9 : decode cX7_refusesAdd 9 = .ok (.aload_n 0, 1) := by decide +kernel
theorem dX7_refusesAdd_10 : decode cX7_refusesAdd 10 = .ok (.iload_n 2, 1) := by decide +kernel
theorem dX7_refusesAdd_11 : decode cX7_refusesAdd 11 = .ok (.invokevirtual 60, 3) := by decide +kernel
theorem dX7_refusesAdd_14 : decode cX7_refusesAdd 14 = .ok (.ifCond .ne 7, 3) := by decide +kernel
theorem dX7_refusesAdd_17 : decode cX7_refusesAdd 17 = .ok (.iconst 1, 1) := by decide +kernel
theorem dX7_refusesAdd_18 : decode cX7_refusesAdd 18 = .ok (.goto 4, 3) := by decide +kernel
theorem dX7_refusesAdd_21 : decode cX7_refusesAdd 21 = .ok (.iconst 0, 1) := by decide +kernel
theorem dX7_refusesAdd_22 : decode cX7_refusesAdd 22 = .ok (.iload_n 1, 1) := by decide +kernel
theorem dX7_refusesAdd_23 : decode cX7_refusesAdd 23 = .ok (.iload_n 2, 1) := by decide +kernel
theorem dX7_refusesAdd_24 : decode cX7_refusesAdd 24 = .ok (.if_icmp .ne 7, 3) := by decide +kernel
theorem dX7_refusesAdd_27 : decode cX7_refusesAdd 27 = .ok (.iconst 1, 1) := by decide +kernel
theorem dX7_refusesAdd_28 : decode cX7_refusesAdd 28 = .ok (.goto 4, 3) := by decide +kernel
theorem dX7_refusesAdd_31 : decode cX7_refusesAdd 31 = .ok (.iconst 0, 1) := by decide +kernel
theorem dX7_refusesAdd_32 : decode cX7_refusesAdd 32 = .ok (.aload_n 0, 1) := by decide +kernel
theorem dX7_refusesAdd_33 : decode cX7_refusesAdd 33 = .ok (.getfield 7, 3) := by decide +kernel
theorem dX7_refusesAdd_36 : decode cX7_refusesAdd 36 = .ok (.iconst 3, 1) := by decide +kernel
theorem dX7_refusesAdd_37 : decode cX7_refusesAdd 37 = .ok (.iaload, 1) := by decide +kernel
theorem dX7_refusesAdd_38 : decode cX7_refusesAdd 38 = .ok (.bipush 40, 2) := by decide +kernel
theorem dX7_refusesAdd_40 : decode cX7_refusesAdd 40 = .ok (.if_icmp .ne 7, 3) := by decide +kernel
theorem dX7_refusesAdd_43 : decode cX7_refusesAdd 43 = .ok (.iconst 1, 1) := by decide +kernel
theorem dX7_refusesAdd_44 : decode cX7_refusesAdd 44 = .ok (.goto 4, 3) := by decide +kernel
theorem dX7_refusesAdd_47 : decode cX7_refusesAdd 47 = .ok (.iconst 0, 1) := by decide +kernel
theorem dX7_refusesAdd_48 : decode cX7_refusesAdd 48 = .ok (.invokevirtual 46, 3) := by decide +kernel
theorem dX7_refusesAdd_51 : decode cX7_refusesAdd 51 = .ok (.ireturn, 1) := by decide +kernel
theorem dX7_add_0 : decode cX7_add 0 = .ok (.aload_n 0, 1) := by decide +kernel
theorem dX7_add_1 : decode cX7_add 1 = .ok (.iload_n 1, 1) := by decide +kernel
theorem dX7_add_2 : decode cX7_add 2 = .ok (.iload_n 2, 1) := by decide +kernel
theorem dX7_add_3 : decode cX7_add 3 = .ok (.invokevirtual 64, 3) := by decide +kernel
theorem dX7_add_6 : decode cX7_add 6 = .ok (.ifCond .eq 5, 3) := by decide +kernel
theorem dX7_add_9 : decode cX7_add 9 = .ok (.iconst 0, 1) := by decide +kernel
theorem dX7_add_10 : decode cX7_add 10 = .ok (.ireturn, 1) := by decide +kernel
theorem dX7_add_11 : decode cX7_add 11 = .ok (.aload_n 0, 1) := by decide +kernel
theorem dX7_add_12 : decode cX7_add 12 = .ok (.invokevirtual 57, 3) := by decide +kernel
theorem dX7_add_15 : decode cX7_add 15 = .ok (.aload_n 0, 1) := by decide +kernel
theorem dX7_add_16 : decode cX7_add 16 = .ok (.iload_n 1, 1) := by decide +kernel
theorem dX7_add_17 : decode cX7_add 17 = .ok (.iload_n 2, 1) := by decide +kernel
theorem dX7_add_18 : decode cX7_add 18 = .ok (.invokevirtual 68, 3) := by decide +kernel
theorem dX7_add_21 : decode cX7_add 21 = .ok (.ireturn, 1) := by decide +kernel
theorem dX7_refusesEdge_0 : decode cX7_refusesEdge 0 = .ok (.aload_n 0, 1) := by decide +kernel
theorem dX7_refusesEdge_1 : decode cX7_refusesEdge 1 = .ok (.aload_n 0, 1) := by decide +kernel
theorem dX7_refusesEdge_2 : decode cX7_refusesEdge 2 = .ok (.iload_n 1, 1) := by decide +kernel
theorem dX7_refusesEdge_3 : decode cX7_refusesEdge 3 = .ok (.invokevirtual 72, 3) := by decide +kernel
theorem dX7_refusesEdge_6 : decode cX7_refusesEdge 6 = .ok (.ifCond .ge 7, 3) := by decide +kernel
theorem dX7_refusesEdge_9 : decode cX7_refusesEdge 9 = .ok (.iconst 1, 1) := by decide +kernel
theorem dX7_refusesEdge_10 : decode cX7_refusesEdge 10 = .ok (.goto 4, 3) := by decide +kernel
theorem dX7_refusesEdge_13 : decode cX7_refusesEdge 13 = .ok (.iconst 0, 1) := by decide +kernel
theorem dX7_refusesEdge_14 : decode cX7_refusesEdge 14 = .ok (.iconst 0, 1) := by decide +kernel
theorem dX7_refusesEdge_15 : decode cX7_refusesEdge 15 = .ok (.iconst 0, 1) := by decide +kernel
theorem dX7_refusesEdge_16 : decode cX7_refusesEdge 16 = .ok (.invokevirtual 46, 3) := by decide +kernel
theorem dX7_refusesEdge_19 : decode cX7_refusesEdge 19 = .ok (.ireturn, 1) := by decide +kernel
theorem dX7_remove_0 : decode cX7_remove 0 = .ok (.aload_n 0, 1) := by decide +kernel
theorem dX7_remove_1 : decode cX7_remove 1 = .ok (.iload_n 1, 1) := by decide +kernel
theorem dX7_remove_2 : decode cX7_remove 2 = .ok (.invokevirtual 75, 3) := by decide +kernel
theorem dX7_remove_5 : decode cX7_remove 5 = .ok (.ifCond .eq 5, 3) := by decide +kernel
theorem dX7_remove_8 : decode cX7_remove 8 = .ok (.iconst 0, 1) := by decide +kernel
theorem dX7_remove_9 : decode cX7_remove 9 = .ok (.ireturn, 1) := by decide +kernel
theorem dX7_remove_10 : decode cX7_remove 10 = .ok (.aload_n 0, 1) := by decide +kernel
theorem dX7_remove_11 : decode cX7_remove 11 = .ok (.invokevirtual 57, 3) := by decide +kernel
theorem dX7_remove_14 : decode cX7_remove 14 = .ok (.aload_n 0, 1) := by decide +kernel
theorem dX7_remove_15 : decode cX7_remove 15 = .ok (.aload_n 0, 1) := by decide +kernel
theorem dX7_remove_16 : decode cX7_remove 16 = .ok (.iload_n 1, 1) := by decide +kernel
theorem dX7_remove_17 : decode cX7_remove 17 = .ok (.invokevirtual 72, 3) := by decide +kernel
theorem dX7_remove_20 : decode cX7_remove 20 = .ok (.invokevirtual 78, 3) := by decide +kernel
theorem dX7_remove_23 : decode cX7_remove 23 = .ok (.ireturn, 1) := by decide +kernel
theorem dX7_turn_0 : decode cX7_turn 0 = .ok (.aload_n 0, 1) := by decide +kernel
theorem dX7_turn_1 : decode cX7_turn 1 = .ok (.iload_n 1, 1) := by decide +kernel
theorem dX7_turn_2 : decode cX7_turn 2 = .ok (.invokevirtual 75, 3) := by decide +kernel
theorem dX7_turn_5 : decode cX7_turn 5 = .ok (.ifCond .eq 5, 3) := by decide +kernel
theorem dX7_turn_8 : decode cX7_turn 8 = .ok (.iconst 0, 1) := by decide +kernel
theorem dX7_turn_9 : decode cX7_turn 9 = .ok (.ireturn, 1) := by decide +kernel
theorem dX7_turn_10 : decode cX7_turn 10 = .ok (.aload_n 0, 1) := by decide +kernel
theorem dX7_turn_11 : decode cX7_turn 11 = .ok (.invokevirtual 57, 3) := by decide +kernel
theorem dX7_turn_14 : decode cX7_turn 14 = .ok (.aload_n 0, 1) := by decide +kernel
theorem dX7_turn_15 : decode cX7_turn 15 = .ok (.iload_n 1, 1) := by decide +kernel
theorem dX7_turn_16 : decode cX7_turn 16 = .ok (.invokevirtual 72, 3) := by decide +kernel
theorem dX7_turn_19 : decode cX7_turn 19 = .ok (.istore_n 2, 1) := by decide +kernel
theorem dX7_turn_20 : decode cX7_turn 20 = .ok (.aload_n 0, 1) := by decide +kernel
theorem dX7_turn_21 : decode cX7_turn 21 = .ok (.iload_n 2, 1) := by decide +kernel
theorem dX7_turn_22 : decode cX7_turn 22 = .ok (.invokevirtual 81, 3) := by decide +kernel
theorem dX7_turn_25 : decode cX7_turn 25 = .ok (.aload_n 0, 1) := by decide +kernel
theorem dX7_turn_26 : decode cX7_turn 26 = .ok (.iload_n 2, 1) := by decide +kernel
theorem dX7_turn_27 : decode cX7_turn 27 = .ok (.invokevirtual 50, 3) := by decide +kernel
theorem dX7_turn_30 : decode cX7_turn 30 = .ok (.ireturn, 1) := by decide +kernel
theorem dX7_visits_0 : decode cX7_visits 0 = .ok (.aload_n 0, 1) := by decide +kernel
theorem dX7_visits_1 : decode cX7_visits 1 = .ok (.getfield 22, 3) := by decide +kernel
theorem dX7_visits_4 : decode cX7_visits 4 = .ok (.iconst 0, 1) := by decide +kernel
theorem dX7_visits_5 : decode cX7_visits 5 = .ok (.iload_n 1, 1) := by decide +kernel
theorem dX7_visits_6 : decode cX7_visits 6 = .ok (.iastore, 1) := by decide +kernel
theorem dX7_visits_7 : decode cX7_visits 7 = .ok (.aload_n 0, 1) := by decide +kernel
theorem dX7_visits_8 : decode cX7_visits 8 = .ok (.iconst 1, 1) := by decide +kernel
theorem dX7_visits_9 : decode cX7_visits 9 = .ok (.putfield 84, 3) := by decide +kernel
theorem dX7_visits_12 : decode cX7_visits 12 = .ok (.aload_n 0, 1) := by decide +kernel
theorem dX7_visits_13 : decode cX7_visits 13 = .ok (.iconst 1, 1) := by decide +kernel
theorem dX7_visits_14 : decode cX7_visits 14 = .ok (.iload_n 1, 1) := by decide +kernel
theorem dX7_visits_15 : decode cX7_visits 15 = .ok (.ishl, 1) := by decide +kernel
theorem dX7_visits_16 : decode cX7_visits 16 = .ok (.putfield 87, 3) := by decide +kernel
theorem dX7_visits_19 : decode cX7_visits 19 = .ok (.aload_n 0, 1) := by decide +kernel
theorem dX7_visits_20 : decode cX7_visits 20 = .ok (.getfield 25, 3) := by decide +kernel
theorem dX7_visits_23 : decode cX7_visits 23 = .ok (.iload_n 1, 1) := by decide +kernel
theorem dX7_visits_24 : decode cX7_visits 24 = .ok (.iconst (-1), 1) := by decide +kernel
theorem dX7_visits_25 : decode cX7_visits 25 = .ok (.iastore, 1) := by decide +kernel
theorem dX7_visits_26 : decode cX7_visits 26 = .ok (.iconst 0, 1) := by decide +kernel
theorem dX7_visits_27 : decode cX7_visits 27 = .ok (.istore_n 2, 1) := by decide +kernel
theorem dX7_visits_28 : decode cX7_visits 28 = .ok (.iload_n 2, 1) := by decide +kernel
theorem dX7_visits_29 : decode cX7_visits 29 = .ok (.aload_n 0, 1) := by decide +kernel
theorem dX7_visits_30 : decode cX7_visits 30 = .ok (.getfield 84, 3) := by decide +kernel
theorem dX7_visits_33 : decode cX7_visits 33 = .ok (.if_icmp .ge 102, 3) := by decide +kernel
theorem dX7_visits_36 : decode cX7_visits 36 = .ok (.iconst 0, 1) := by decide +kernel
theorem dX7_visits_37 : decode cX7_visits 37 = .ok (.istore_n 3, 1) := by decide +kernel
theorem dX7_visits_38 : decode cX7_visits 38 = .ok (.iload_n 3, 1) := by decide +kernel
theorem dX7_visits_39 : decode cX7_visits 39 = .ok (.aload_n 0, 1) := by decide +kernel
theorem dX7_visits_40 : decode cX7_visits 40 = .ok (.getfield 7, 3) := by decide +kernel
theorem dX7_visits_43 : decode cX7_visits 43 = .ok (.iconst 3, 1) := by decide +kernel
theorem dX7_visits_44 : decode cX7_visits 44 = .ok (.iaload, 1) := by decide +kernel
theorem dX7_visits_45 : decode cX7_visits 45 = .ok (.if_icmp .ge 84, 3) := by decide +kernel
theorem dX7_visits_48 : decode cX7_visits 48 = .ok (.aload_n 0, 1) := by decide +kernel
theorem dX7_visits_49 : decode cX7_visits 49 = .ok (.iload_n 3, 1) := by decide +kernel
theorem dX7_visits_50 : decode cX7_visits 50 = .ok (.invokevirtual 90, 3) := by decide +kernel
theorem dX7_visits_53 : decode cX7_visits 53 = .ok (.istore 4, 2) := by decide +kernel
theorem dX7_visits_55 : decode cX7_visits 55 = .ok (.aload_n 0, 1) := by decide +kernel
theorem dX7_visits_56 : decode cX7_visits 56 = .ok (.iload_n 3, 1) := by decide +kernel
theorem dX7_visits_57 : decode cX7_visits 57 = .ok (.invokevirtual 50, 3) := by decide +kernel
theorem dX7_visits_60 : decode cX7_visits 60 = .ok (.aload_n 0, 1) := by decide +kernel
theorem dX7_visits_61 : decode cX7_visits 61 = .ok (.getfield 22, 3) := by decide +kernel
theorem dX7_visits_64 : decode cX7_visits 64 = .ok (.iload_n 2, 1) := by decide +kernel
theorem dX7_visits_65 : decode cX7_visits 65 = .ok (.iaload, 1) := by decide +kernel
theorem dX7_visits_66 : decode cX7_visits 66 = .ok (.if_icmp .ne 57, 3) := by decide +kernel
theorem dX7_visits_69 : decode cX7_visits 69 = .ok (.aload_n 0, 1) := by decide +kernel
theorem dX7_visits_70 : decode cX7_visits 70 = .ok (.getfield 87, 3) := by decide +kernel
theorem dX7_visits_73 : decode cX7_visits 73 = .ok (.iload 4, 2) := by decide +kernel
theorem dX7_visits_75 : decode cX7_visits 75 = .ok (.ishr, 1) := by decide +kernel
theorem dX7_visits_76 : decode cX7_visits 76 = .ok (.iconst 1, 1) := by decide +kernel
theorem dX7_visits_77 : decode cX7_visits 77 = .ok (.iand, 1) := by decide +kernel
theorem dX7_visits_78 : decode cX7_visits 78 = .ok (.ifCond .ne 45, 3) := by decide +kernel
theorem dX7_visits_81 : decode cX7_visits 81 = .ok (.aload_n 0, 1) := by decide +kernel
theorem dX7_visits_82 : decode cX7_visits 82 = .ok (.dup, 1) := by decide +kernel
theorem dX7_visits_83 : decode cX7_visits 83 = .ok (.getfield 87, 3) := by decide +kernel
theorem dX7_visits_86 : decode cX7_visits 86 = .ok (.iconst 1, 1) := by decide +kernel
theorem dX7_visits_87 : decode cX7_visits 87 = .ok (.iload 4, 2) := by decide +kernel
theorem dX7_visits_89 : decode cX7_visits 89 = .ok (.ishl, 1) := by decide +kernel
theorem dX7_visits_90 : decode cX7_visits 90 = .ok (.ior, 1) := by decide +kernel
theorem dX7_visits_91 : decode cX7_visits 91 = .ok (.putfield 87, 3) := by decide +kernel
theorem dX7_visits_94 : decode cX7_visits 94 = .ok (.aload_n 0, 1) := by decide +kernel
theorem dX7_visits_95 : decode cX7_visits 95 = .ok (.getfield 25, 3) := by decide +kernel
theorem dX7_visits_98 : decode cX7_visits 98 = .ok (.iload 4, 2) := by decide +kernel
theorem dX7_visits_100 : decode cX7_visits 100 = .ok (.iload_n 3, 1) := by decide +kernel
theorem dX7_visits_101 : decode cX7_visits 101 = .ok (.iastore, 1) := by decide +kernel
theorem dX7_visits_102 : decode cX7_visits 102 = .ok (.aload_n 0, 1) := by decide +kernel
theorem dX7_visits_103 : decode cX7_visits 103 = .ok (.getfield 22, 3) := by decide +kernel
theorem dX7_visits_106 : decode cX7_visits 106 = .ok (.aload_n 0, 1) := by decide +kernel
theorem dX7_visits_107 : decode cX7_visits 107 = .ok (.getfield 84, 3) := by decide +kernel
theorem dX7_visits_110 : decode cX7_visits 110 = .ok (.iload 4, 2) := by decide +kernel
theorem dX7_visits_112 : decode cX7_visits 112 = .ok (.iastore, 1) := by decide +kernel
theorem dX7_visits_113 : decode cX7_visits 113 = .ok (.aload_n 0, 1) := by decide +kernel
theorem dX7_visits_114 : decode cX7_visits 114 = .ok (.dup, 1) := by decide +kernel
theorem dX7_visits_115 : decode cX7_visits 115 = .ok (.getfield 84, 3) := by decide +kernel
theorem dX7_visits_118 : decode cX7_visits 118 = .ok (.iconst 1, 1) := by decide +kernel
theorem dX7_visits_119 : decode cX7_visits 119 = .ok (.iadd, 1) := by decide +kernel
theorem dX7_visits_120 : decode cX7_visits 120 = .ok (.putfield 84, 3) := by decide +kernel
theorem dX7_visits_123 : decode cX7_visits 123 = .ok (.iinc 3 1, 3) := by decide +kernel
theorem dX7_visits_126 : decode cX7_visits 126 = .ok (.goto (-88), 3) := by decide +kernel
theorem dX7_visits_129 : decode cX7_visits 129 = .ok (.iinc 2 1, 3) := by decide +kernel
theorem dX7_visits_132 : decode cX7_visits 132 = .ok (.goto (-104), 3) := by decide +kernel
theorem dX7_visits_135 : decode cX7_visits 135 = .ok (.return_, 1) := by decide +kernel
theorem dX7_lengthTo_0 : decode cX7_lengthTo 0 = .ok (.iconst 0, 1) := by decide +kernel
theorem dX7_lengthTo_1 : decode cX7_lengthTo 1 = .ok (.istore_n 2, 1) := by decide +kernel
theorem dX7_lengthTo_2 : decode cX7_lengthTo 2 = .ok (.iload_n 1, 1) := by decide +kernel
theorem dX7_lengthTo_3 : decode cX7_lengthTo 3 = .ok (.istore_n 3, 1) := by decide +kernel
theorem dX7_lengthTo_4 : decode cX7_lengthTo 4 = .ok (.aload_n 0, 1) := by decide +kernel
theorem dX7_lengthTo_5 : decode cX7_lengthTo 5 = .ok (.getfield 25, 3) := by decide +kernel
theorem dX7_lengthTo_8 : decode cX7_lengthTo 8 = .ok (.iload_n 3, 1) := by decide +kernel
theorem dX7_lengthTo_9 : decode cX7_lengthTo 9 = .ok (.iaload, 1) := by decide +kernel
theorem dX7_lengthTo_10 : decode cX7_lengthTo 10 = .ok (.ifCond .lt 20, 3) := by decide +kernel
theorem dX7_lengthTo_13 : decode cX7_lengthTo 13 = .ok (.aload_n 0, 1) := by decide +kernel
theorem dX7_lengthTo_14 : decode cX7_lengthTo 14 = .ok (.aload_n 0, 1) := by decide +kernel
theorem dX7_lengthTo_15 : decode cX7_lengthTo 15 = .ok (.getfield 25, 3) := by decide +kernel
theorem dX7_lengthTo_18 : decode cX7_lengthTo 18 = .ok (.iload_n 3, 1) := by decide +kernel
theorem dX7_lengthTo_19 : decode cX7_lengthTo 19 = .ok (.iaload, 1) := by decide +kernel
theorem dX7_lengthTo_20 : decode cX7_lengthTo 20 = .ok (.invokevirtual 50, 3) := by decide +kernel
theorem dX7_lengthTo_23 : decode cX7_lengthTo 23 = .ok (.istore_n 3, 1) := by decide +kernel
theorem dX7_lengthTo_24 : decode cX7_lengthTo 24 = .ok (.iinc 2 1, 3) := by decide +kernel
theorem dX7_lengthTo_27 : decode cX7_lengthTo 27 = .ok (.goto (-23), 3) := by decide +kernel
theorem dX7_lengthTo_30 : decode cX7_lengthTo 30 = .ok (.iload_n 2, 1) := by decide +kernel
theorem dX7_lengthTo_31 : decode cX7_lengthTo 31 = .ok (.ireturn, 1) := by decide +kernel
theorem dX7_reliefOf_0 : decode cX7_reliefOf 0 = .ok (.aload_n 0, 1) := by decide +kernel
theorem dX7_reliefOf_1 : decode cX7_reliefOf 1 = .ok (.iload_n 1, 1) := by decide +kernel
theorem dX7_reliefOf_2 : decode cX7_reliefOf 2 = .ok (.invokevirtual 93, 3) := by decide +kernel
theorem dX7_reliefOf_5 : decode cX7_reliefOf 5 = .ok (.aload_n 0, 1) := by decide +kernel
theorem dX7_reliefOf_6 : decode cX7_reliefOf 6 = .ok (.iload_n 1, 1) := by decide +kernel
theorem dX7_reliefOf_7 : decode cX7_reliefOf 7 = .ok (.invokevirtual 54, 3) := by decide +kernel
theorem dX7_reliefOf_10 : decode cX7_reliefOf 10 = .ok (.istore_n 2, 1) := by decide +kernel
theorem dX7_reliefOf_11 : decode cX7_reliefOf 11 = .ok (.iconst 1, 1) := by decide +kernel
theorem dX7_reliefOf_12 : decode cX7_reliefOf 12 = .ok (.istore_n 3, 1) := by decide +kernel
theorem dX7_reliefOf_13 : decode cX7_reliefOf 13 = .ok (.iload_n 3, 1) := by decide +kernel
theorem dX7_reliefOf_14 : decode cX7_reliefOf 14 = .ok (.aload_n 0, 1) := by decide +kernel
theorem dX7_reliefOf_15 : decode cX7_reliefOf 15 = .ok (.getfield 84, 3) := by decide +kernel
theorem dX7_reliefOf_18 : decode cX7_reliefOf 18 = .ok (.if_icmp .ge 32, 3) := by decide +kernel
theorem dX7_reliefOf_21 : decode cX7_reliefOf 21 = .ok (.aload_n 0, 1) := by decide +kernel
theorem dX7_reliefOf_22 : decode cX7_reliefOf 22 = .ok (.aload_n 0, 1) := by decide +kernel
theorem dX7_reliefOf_23 : decode cX7_reliefOf 23 = .ok (.getfield 22, 3) := by decide +kernel
theorem dX7_reliefOf_26 : decode cX7_reliefOf 26 = .ok (.iload_n 3, 1) := by decide +kernel
theorem dX7_reliefOf_27 : decode cX7_reliefOf 27 = .ok (.iaload, 1) := by decide +kernel
theorem dX7_reliefOf_28 : decode cX7_reliefOf 28 = .ok (.invokevirtual 54, 3) := by decide +kernel
theorem dX7_reliefOf_31 : decode cX7_reliefOf 31 = .ok (.iload_n 2, 1) := by decide +kernel
theorem dX7_reliefOf_32 : decode cX7_reliefOf 32 = .ok (.iconst 2, 1) := by decide +kernel
theorem dX7_reliefOf_33 : decode cX7_reliefOf 33 = .ok (.isub, 1) := by decide +kernel
theorem dX7_reliefOf_34 : decode cX7_reliefOf 34 = .ok (.if_icmp .gt 10, 3) := by decide +kernel
theorem dX7_reliefOf_37 : decode cX7_reliefOf 37 = .ok (.aload_n 0, 1) := by decide +kernel
theorem dX7_reliefOf_38 : decode cX7_reliefOf 38 = .ok (.getfield 22, 3) := by decide +kernel
theorem dX7_reliefOf_41 : decode cX7_reliefOf 41 = .ok (.iload_n 3, 1) := by decide +kernel
theorem dX7_reliefOf_42 : decode cX7_reliefOf 42 = .ok (.iaload, 1) := by decide +kernel
theorem dX7_reliefOf_43 : decode cX7_reliefOf 43 = .ok (.ireturn, 1) := by decide +kernel
theorem dX7_reliefOf_44 : decode cX7_reliefOf 44 = .ok (.iinc 3 1, 3) := by decide +kernel
theorem dX7_reliefOf_47 : decode cX7_reliefOf 47 = .ok (.goto (-34), 3) := by decide +kernel
theorem dX7_reliefOf_50 : decode cX7_reliefOf 50 = .ok (.iconst (-1), 1) := by decide +kernel
theorem dX7_reliefOf_51 : decode cX7_reliefOf 51 = .ok (.ireturn, 1) := by decide +kernel
theorem dX7_relieves_0 : decode cX7_relieves 0 = .ok (.aload_n 0, 1) := by decide +kernel
theorem dX7_relieves_1 : decode cX7_relieves 1 = .ok (.iload_n 1, 1) := by decide +kernel
theorem dX7_relieves_2 : decode cX7_relieves 2 = .ok (.invokevirtual 96, 3) := by decide +kernel
theorem dX7_relieves_5 : decode cX7_relieves 5 = .ok (.istore_n 2, 1) := by decide +kernel
theorem dX7_relieves_6 : decode cX7_relieves 6 = .ok (.iconst 0, 1) := by decide +kernel
theorem dX7_relieves_7 : decode cX7_relieves 7 = .ok (.istore_n 3, 1) := by decide +kernel
theorem dX7_relieves_8 : decode cX7_relieves 8 = .ok (.iload_n 2, 1) := by decide +kernel
theorem dX7_relieves_9 : decode cX7_relieves 9 = .ok (.ifCond .lt 39, 3) := by decide +kernel
theorem dX7_relieves_12 : decode cX7_relieves 12 = .ok (.aload_n 0, 1) := by decide +kernel
theorem dX7_relieves_13 : decode cX7_relieves 13 = .ok (.getfield 25, 3) := by decide +kernel
theorem dX7_relieves_16 : decode cX7_relieves 16 = .ok (.iload_n 2, 1) := by decide +kernel
theorem dX7_relieves_17 : decode cX7_relieves 17 = .ok (.iaload, 1) := by decide +kernel
theorem dX7_relieves_18 : decode cX7_relieves 18 = .ok (.ifCond .lt 30, 3) := by decide +kernel
theorem dX7_relieves_21 : decode cX7_relieves 21 = .ok (.aload_n 0, 1) := by decide +kernel
theorem dX7_relieves_22 : decode cX7_relieves 22 = .ok (.getfield 25, 3) := by decide +kernel
theorem dX7_relieves_25 : decode cX7_relieves 25 = .ok (.iload_n 2, 1) := by decide +kernel
theorem dX7_relieves_26 : decode cX7_relieves 26 = .ok (.iaload, 1) := by decide +kernel
theorem dX7_relieves_27 : decode cX7_relieves 27 = .ok (.istore 4, 2) := by decide +kernel
theorem dX7_relieves_29 : decode cX7_relieves 29 = .ok (.aload_n 0, 1) := by decide +kernel
theorem dX7_relieves_30 : decode cX7_relieves 30 = .ok (.iload 4, 2) := by decide +kernel
theorem dX7_relieves_32 : decode cX7_relieves 32 = .ok (.invokevirtual 50, 3) := by decide +kernel
theorem dX7_relieves_35 : decode cX7_relieves 35 = .ok (.istore_n 2, 1) := by decide +kernel
theorem dX7_relieves_36 : decode cX7_relieves 36 = .ok (.aload_n 0, 1) := by decide +kernel
theorem dX7_relieves_37 : decode cX7_relieves 37 = .ok (.iload 4, 2) := by decide +kernel
theorem dX7_relieves_39 : decode cX7_relieves 39 = .ok (.invokevirtual 81, 3) := by decide +kernel
theorem dX7_relieves_42 : decode cX7_relieves 42 = .ok (.iinc 3 1, 3) := by decide +kernel
theorem dX7_relieves_45 : decode cX7_relieves 45 = .ok (.goto (-37), 3) := by decide +kernel
theorem dX7_relieves_48 : decode cX7_relieves 48 = .ok (.iload_n 3, 1) := by decide +kernel
theorem dX7_relieves_49 : decode cX7_relieves 49 = .ok (.ireturn, 1) := by decide +kernel
theorem dX7_greatest_0 : decode cX7_greatest 0 = .ok (.iconst 0, 1) := by decide +kernel
theorem dX7_greatest_1 : decode cX7_greatest 1 = .ok (.istore_n 1, 1) := by decide +kernel
theorem dX7_greatest_2 : decode cX7_greatest 2 = .ok (.iconst 0, 1) := by decide +kernel
theorem dX7_greatest_3 : decode cX7_greatest 3 = .ok (.istore_n 2, 1) := by decide +kernel
theorem dX7_greatest_4 : decode cX7_greatest 4 = .ok (.iload_n 2, 1) := by decide +kernel
theorem dX7_greatest_5 : decode cX7_greatest 5 = .ok (.aload_n 0, 1) := by decide +kernel
theorem dX7_greatest_6 : decode cX7_greatest 6 = .ok (.getfield 7, 3) := by decide +kernel
theorem dX7_greatest_9 : decode cX7_greatest 9 = .ok (.iconst 0, 1) := by decide +kernel
theorem dX7_greatest_10 : decode cX7_greatest 10 = .ok (.iaload, 1) := by decide +kernel
theorem dX7_greatest_11 : decode cX7_greatest 11 = .ok (.if_icmp .ge 28, 3) := by decide +kernel
theorem dX7_greatest_14 : decode cX7_greatest 14 = .ok (.aload_n 0, 1) := by decide +kernel
theorem dX7_greatest_15 : decode cX7_greatest 15 = .ok (.iload_n 2, 1) := by decide +kernel
theorem dX7_greatest_16 : decode cX7_greatest 16 = .ok (.invokevirtual 54, 3) := by decide +kernel
theorem dX7_greatest_19 : decode cX7_greatest 19 = .ok (.iload_n 1, 1) := by decide +kernel
theorem dX7_greatest_20 : decode cX7_greatest 20 = .ok (.if_icmp .le 11, 3) := by decide +kernel
theorem dX7_greatest_23 : decode cX7_greatest 23 = .ok (.aload_n 0, 1) := by decide +kernel
theorem dX7_greatest_24 : decode cX7_greatest 24 = .ok (.iload_n 2, 1) := by decide +kernel
theorem dX7_greatest_25 : decode cX7_greatest 25 = .ok (.invokevirtual 54, 3) := by decide +kernel
theorem dX7_greatest_28 : decode cX7_greatest 28 = .ok (.goto 4, 3) := by decide +kernel
theorem dX7_greatest_31 : decode cX7_greatest 31 = .ok (.iload_n 1, 1) := by decide +kernel
theorem dX7_greatest_32 : decode cX7_greatest 32 = .ok (.istore_n 1, 1) := by decide +kernel
theorem dX7_greatest_33 : decode cX7_greatest 33 = .ok (.iinc 2 1, 3) := by decide +kernel
theorem dX7_greatest_36 : decode cX7_greatest 36 = .ok (.goto (-32), 3) := by decide +kernel
theorem dX7_greatest_39 : decode cX7_greatest 39 = .ok (.iload_n 1, 1) := by decide +kernel
theorem dX7_greatest_40 : decode cX7_greatest 40 = .ok (.ireturn, 1) := by decide +kernel
theorem dX7_balances_0 : decode cX7_balances 0 = .ok (.iconst 0, 1) := by decide +kernel
theorem dX7_balances_1 : decode cX7_balances 1 = .ok (.istore_n 1, 1) := by decide +kernel
theorem dX7_balances_2 : decode cX7_balances 2 = .ok (.iconst 1, 1) := by decide +kernel
theorem dX7_balances_3 : decode cX7_balances 3 = .ok (.istore_n 2, 1) := by decide +kernel
theorem dX7_balances_4 : decode cX7_balances 4 = .ok (.iload_n 2, 1) := by decide +kernel
theorem dX7_balances_5 : decode cX7_balances 5 = .ok (.ifCond .eq 74, 3) := by decide +kernel
theorem dX7_balances_8 : decode cX7_balances 8 = .ok (.iconst 0, 1) := by decide +kernel
theorem dX7_balances_9 : decode cX7_balances 9 = .ok (.istore_n 2, 1) := by decide +kernel
theorem dX7_balances_10 : decode cX7_balances 10 = .ok (.aload_n 0, 1) := by decide +kernel
theorem dX7_balances_11 : decode cX7_balances 11 = .ok (.invokevirtual 99, 3) := by decide +kernel
theorem dX7_balances_14 : decode cX7_balances 14 = .ok (.istore_n 3, 1) := by decide +kernel
theorem dX7_balances_15 : decode cX7_balances 15 = .ok (.iconst 0, 1) := by decide +kernel
theorem dX7_balances_16 : decode cX7_balances 16 = .ok (.istore 4, 2) := by decide +kernel
theorem dX7_balances_18 : decode cX7_balances 18 = .ok (.iload 4, 2) := by decide +kernel
theorem dX7_balances_20 : decode cX7_balances 20 = .ok (.aload_n 0, 1) := by decide +kernel
theorem dX7_balances_21 : decode cX7_balances 21 = .ok (.getfield 7, 3) := by decide +kernel
theorem dX7_balances_24 : decode cX7_balances 24 = .ok (.iconst 0, 1) := by decide +kernel
theorem dX7_balances_25 : decode cX7_balances 25 = .ok (.iaload, 1) := by decide +kernel
theorem dX7_balances_26 : decode cX7_balances 26 = .ok (.if_icmp .ge 38, 3) := by decide +kernel
theorem dX7_balances_29 : decode cX7_balances 29 = .ok (.iload_n 2, 1) := by decide +kernel
theorem dX7_balances_30 : decode cX7_balances 30 = .ok (.ifCond .ne 34, 3) := by decide +kernel
theorem dX7_balances_33 : decode cX7_balances 33 = .ok (.aload_n 0, 1) := by decide +kernel
theorem dX7_balances_34 : decode cX7_balances 34 = .ok (.iload 4, 2) := by decide +kernel
theorem dX7_balances_36 : decode cX7_balances 36 = .ok (.invokevirtual 54, 3) := by decide +kernel
theorem dX7_balances_39 : decode cX7_balances 39 = .ok (.iload_n 3, 1) := by decide +kernel
theorem dX7_balances_40 : decode cX7_balances 40 = .ok (.if_icmp .ne 16, 3) := by decide +kernel
theorem dX7_balances_43 : decode cX7_balances 43 = .ok (.aload_n 0, 1) := by decide +kernel
theorem dX7_balances_44 : decode cX7_balances 44 = .ok (.iload 4, 2) := by decide +kernel
theorem dX7_balances_46 : decode cX7_balances 46 = .ok (.invokevirtual 103, 3) := by decide +kernel
theorem dX7_balances_49 : decode cX7_balances 49 = .ok (.ifCond .le 7, 3) := by decide +kernel
theorem dX7_balances_52 : decode cX7_balances 52 = .ok (.iconst 1, 1) := by decide +kernel
theorem dX7_balances_53 : decode cX7_balances 53 = .ok (.goto 4, 3) := by decide +kernel
theorem dX7_balances_56 : decode cX7_balances 56 = .ok (.iconst 0, 1) := by decide +kernel
theorem dX7_balances_57 : decode cX7_balances 57 = .ok (.istore_n 2, 1) := by decide +kernel
theorem dX7_balances_58 : decode cX7_balances 58 = .ok (.iinc 4 1, 3) := by decide +kernel
theorem dX7_balances_61 : decode cX7_balances 61 = .ok (.goto (-43), 3) := by decide +kernel
theorem dX7_balances_64 : decode cX7_balances 64 = .ok (.iload_n 1, 1) := by decide +kernel
theorem dX7_balances_65 : decode cX7_balances 65 = .ok (.iload_n 2, 1) := by decide +kernel
theorem dX7_balances_66 : decode cX7_balances 66 = .ok (.ifCond .eq 7, 3) := by decide +kernel
theorem dX7_balances_69 : decode cX7_balances 69 = .ok (.iconst 1, 1) := by decide +kernel
theorem dX7_balances_70 : decode cX7_balances 70 = .ok (.goto 4, 3) := by decide +kernel
theorem dX7_balances_73 : decode cX7_balances 73 = .ok (.iconst 0, 1) := by decide +kernel
theorem dX7_balances_74 : decode cX7_balances 74 = .ok (.iadd, 1) := by decide +kernel
theorem dX7_balances_75 : decode cX7_balances 75 = .ok (.istore_n 1, 1) := by decide +kernel
theorem dX7_balances_76 : decode cX7_balances 76 = .ok (.goto (-72), 3) := by decide +kernel
theorem dX7_balances_79 : decode cX7_balances 79 = .ok (.iload_n 1, 1) := by decide +kernel
theorem dX7_balances_80 : decode cX7_balances 80 = .ok (.ireturn, 1) := by decide +kernel
theorem dX7_refusesRelief_0 : decode cX7_refusesRelief 0 = .ok (.aload_n 0, 1) := by decide +kernel
theorem dX7_refusesRelief_1 : decode cX7_refusesRelief 1 = .ok (.aload_n 0, 1) := by decide +kernel
theorem dX7_refusesRelief_2 : decode cX7_refusesRelief 2 = .ok (.iload_n 1, 1) := by decide +kernel
theorem dX7_refusesRelief_3 : decode cX7_refusesRelief 3 = .ok (.invokevirtual 60, 3) := by decide +kernel
theorem dX7_refusesRelief_6 : decode cX7_refusesRelief 6 = .ok (.ifCond .ne 7, 3) := by decide +kernel
theorem dX7_refusesRelief_9 : decode cX7_refusesRelief 9 = .ok (.iconst 1, 1) := by decide +kernel
theorem dX7_refusesRelief_10 : decode cX7_refusesRelief 10 = .ok (.goto 4, 3) := by decide +kernel
theorem dX7_refusesRelief_13 : decode cX7_refusesRelief 13 = .ok (.iconst 0, 1) := by decide +kernel
theorem dX7_refusesRelief_14 : decode cX7_refusesRelief 14 = .ok (.aload_n 0, 1) := by decide +kernel
theorem dX7_refusesRelief_15 : decode cX7_refusesRelief 15 = .ok (.iload_n 1, 1) := by decide +kernel
theorem dX7_refusesRelief_16 : decode cX7_refusesRelief 16 = .ok (.invokevirtual 60, 3) := by decide +kernel
theorem dX7_refusesRelief_19 : decode cX7_refusesRelief 19 = .ok (.ifCond .eq 15, 3) := by decide +kernel
theorem dX7_refusesRelief_22 : decode cX7_refusesRelief 22 = .ok (.aload_n 0, 1) := by decide +kernel
theorem dX7_refusesRelief_23 : decode cX7_refusesRelief 23 = .ok (.iload_n 1, 1) := by decide +kernel
theorem dX7_refusesRelief_24 : decode cX7_refusesRelief 24 = .ok (.invokevirtual 96, 3) := by decide +kernel
theorem dX7_refusesRelief_27 : decode cX7_refusesRelief 27 = .ok (.ifCond .ge 7, 3) := by decide +kernel
theorem dX7_refusesRelief_30 : decode cX7_refusesRelief 30 = .ok (.iconst 1, 1) := by decide +kernel
theorem dX7_refusesRelief_31 : decode cX7_refusesRelief 31 = .ok (.goto 4, 3) := by decide +kernel
theorem dX7_refusesRelief_34 : decode cX7_refusesRelief 34 = .ok (.iconst 0, 1) := by decide +kernel
theorem dX7_refusesRelief_35 : decode cX7_refusesRelief 35 = .ok (.iconst 0, 1) := by decide +kernel
theorem dX7_refusesRelief_36 : decode cX7_refusesRelief 36 = .ok (.invokevirtual 46, 3) := by decide +kernel
theorem dX7_refusesRelief_39 : decode cX7_refusesRelief 39 = .ok (.ireturn, 1) := by decide +kernel
theorem dX7_relieve_0 : decode cX7_relieve 0 = .ok (.aload_n 0, 1) := by decide +kernel
theorem dX7_relieve_1 : decode cX7_relieve 1 = .ok (.iload_n 1, 1) := by decide +kernel
theorem dX7_relieve_2 : decode cX7_relieve 2 = .ok (.invokevirtual 106, 3) := by decide +kernel
theorem dX7_relieve_5 : decode cX7_relieve 5 = .ok (.ifCond .eq 5, 3) := by decide +kernel
theorem dX7_relieve_8 : decode cX7_relieve 8 = .ok (.iconst 0, 1) := by decide +kernel
theorem dX7_relieve_9 : decode cX7_relieve 9 = .ok (.ireturn, 1) := by decide +kernel
theorem dX7_relieve_10 : decode cX7_relieve 10 = .ok (.aload_n 0, 1) := by decide +kernel
theorem dX7_relieve_11 : decode cX7_relieve 11 = .ok (.invokevirtual 57, 3) := by decide +kernel
theorem dX7_relieve_14 : decode cX7_relieve 14 = .ok (.aload_n 0, 1) := by decide +kernel
theorem dX7_relieve_15 : decode cX7_relieve 15 = .ok (.iload_n 1, 1) := by decide +kernel
theorem dX7_relieve_16 : decode cX7_relieve 16 = .ok (.invokevirtual 103, 3) := by decide +kernel
theorem dX7_relieve_19 : decode cX7_relieve 19 = .ok (.ireturn, 1) := by decide +kernel
theorem dX7_balance_0 : decode cX7_balance 0 = .ok (.aload_n 0, 1) := by decide +kernel
theorem dX7_balance_1 : decode cX7_balance 1 = .ok (.iconst 0, 1) := by decide +kernel
theorem dX7_balance_2 : decode cX7_balance 2 = .ok (.putfield 32, 3) := by decide +kernel
theorem dX7_balance_5 : decode cX7_balance 5 = .ok (.aload_n 0, 1) := by decide +kernel
theorem dX7_balance_6 : decode cX7_balance 6 = .ok (.invokevirtual 57, 3) := by decide +kernel
theorem dX7_balance_9 : decode cX7_balance 9 = .ok (.aload_n 0, 1) := by decide +kernel
theorem dX7_balance_10 : decode cX7_balance 10 = .ok (.invokevirtual 109, 3) := by decide +kernel
theorem dX7_balance_13 : decode cX7_balance 13 = .ok (.ireturn, 1) := by decide +kernel
theorem dX7_refusesCapacity_0 : decode cX7_refusesCapacity 0 = .ok (.aload_n 0, 1) := by decide +kernel
theorem dX7_refusesCapacity_1 : decode cX7_refusesCapacity 1 = .ok (.aload_n 0, 1) := by decide +kernel
theorem dX7_refusesCapacity_2 : decode cX7_refusesCapacity 2 = .ok (.iload_n 1, 1) := by decide +kernel
theorem dX7_refusesCapacity_3 : decode cX7_refusesCapacity 3 = .ok (.invokevirtual 60, 3) := by decide +kernel
theorem dX7_refusesCapacity_6 : decode cX7_refusesCapacity 6 = .ok (.ifCond .ne 7, 3) := by decide +kernel
theorem dX7_refusesCapacity_9 : decode cX7_refusesCapacity 9 = .ok (.iconst 1, 1) := by decide +kernel
theorem dX7_refusesCapacity_10 : decode cX7_refusesCapacity 10 = .ok (.goto 4, 3) := by decide +kernel
theorem dX7_refusesCapacity_13 : decode cX7_refusesCapacity 13 = .ok (.iconst 0, 1) := by decide +kernel
theorem dX7_refusesCapacity_14 : decode cX7_refusesCapacity 14 = .ok (.iload_n 2, 1) := by decide +kernel
theorem dX7_refusesCapacity_15 : decode cX7_refusesCapacity 15 = .ok (.iconst 0, 1) := by decide +kernel
theorem dX7_refusesCapacity_16 : decode cX7_refusesCapacity 16 = .ok (.bipush 40, 2) := by decide +kernel
theorem dX7_refusesCapacity_18 : decode cX7_refusesCapacity 18 = .ok (.invokestatic 36, 3) := by decide +kernel
theorem dX7_refusesCapacity_21 : decode cX7_refusesCapacity 21 = .ok (.ifCond .ne 7, 3) := by decide +kernel
theorem dX7_refusesCapacity_24 : decode cX7_refusesCapacity 24 = .ok (.iconst 1, 1) := by decide +kernel
theorem dX7_refusesCapacity_25 : decode cX7_refusesCapacity 25 = .ok (.goto 4, 3) := by decide +kernel
theorem dX7_refusesCapacity_28 : decode cX7_refusesCapacity 28 = .ok (.iconst 0, 1) := by decide +kernel
theorem dX7_refusesCapacity_29 : decode cX7_refusesCapacity 29 = .ok (.iconst 0, 1) := by decide +kernel
theorem dX7_refusesCapacity_30 : decode cX7_refusesCapacity 30 = .ok (.invokevirtual 46, 3) := by decide +kernel
theorem dX7_refusesCapacity_33 : decode cX7_refusesCapacity 33 = .ok (.ireturn, 1) := by decide +kernel
theorem dX7_sets_0 : decode cX7_sets 0 = .ok (.aload_n 0, 1) := by decide +kernel
theorem dX7_sets_1 : decode cX7_sets 1 = .ok (.getfield 7, 3) := by decide +kernel
theorem dX7_sets_4 : decode cX7_sets 4 = .ok (.iconst 4, 1) := by decide +kernel
theorem dX7_sets_5 : decode cX7_sets 5 = .ok (.iload_n 1, 1) := by decide +kernel
theorem dX7_sets_6 : decode cX7_sets 6 = .ok (.iadd, 1) := by decide +kernel
theorem dX7_sets_7 : decode cX7_sets 7 = .ok (.iaload, 1) := by decide +kernel
theorem dX7_sets_8 : decode cX7_sets 8 = .ok (.istore_n 3, 1) := by decide +kernel
theorem dX7_sets_9 : decode cX7_sets 9 = .ok (.aload_n 0, 1) := by decide +kernel
theorem dX7_sets_10 : decode cX7_sets 10 = .ok (.getfield 7, 3) := by decide +kernel
theorem dX7_sets_13 : decode cX7_sets 13 = .ok (.iconst 4, 1) := by decide +kernel
theorem dX7_sets_14 : decode cX7_sets 14 = .ok (.iload_n 1, 1) := by decide +kernel
theorem dX7_sets_15 : decode cX7_sets 15 = .ok (.iadd, 1) := by decide +kernel
theorem dX7_sets_16 : decode cX7_sets 16 = .ok (.iload_n 2, 1) := by decide +kernel
theorem dX7_sets_17 : decode cX7_sets 17 = .ok (.iastore, 1) := by decide +kernel
theorem dX7_sets_18 : decode cX7_sets 18 = .ok (.iload_n 3, 1) := by decide +kernel
theorem dX7_sets_19 : decode cX7_sets 19 = .ok (.ireturn, 1) := by decide +kernel
theorem dX7_setCapacity_0 : decode cX7_setCapacity 0 = .ok (.aload_n 0, 1) := by decide +kernel
theorem dX7_setCapacity_1 : decode cX7_setCapacity 1 = .ok (.iload_n 1, 1) := by decide +kernel
theorem dX7_setCapacity_2 : decode cX7_setCapacity 2 = .ok (.iload_n 2, 1) := by decide +kernel
theorem dX7_setCapacity_3 : decode cX7_setCapacity 3 = .ok (.invokevirtual 112, 3) := by decide +kernel
theorem dX7_setCapacity_6 : decode cX7_setCapacity 6 = .ok (.ifCond .eq 5, 3) := by decide +kernel
theorem dX7_setCapacity_9 : decode cX7_setCapacity 9 = .ok (.iconst 0, 1) := by decide +kernel
theorem dX7_setCapacity_10 : decode cX7_setCapacity 10 = .ok (.ireturn, 1) := by decide +kernel
theorem dX7_setCapacity_11 : decode cX7_setCapacity 11 = .ok (.aload_n 0, 1) := by decide +kernel
theorem dX7_setCapacity_12 : decode cX7_setCapacity 12 = .ok (.invokevirtual 57, 3) := by decide +kernel
theorem dX7_setCapacity_15 : decode cX7_setCapacity 15 = .ok (.aload_n 0, 1) := by decide +kernel
theorem dX7_setCapacity_16 : decode cX7_setCapacity 16 = .ok (.iload_n 1, 1) := by decide +kernel
theorem dX7_setCapacity_17 : decode cX7_setCapacity 17 = .ok (.iload_n 2, 1) := by decide +kernel
theorem dX7_setCapacity_18 : decode cX7_setCapacity 18 = .ok (.invokevirtual 115, 3) := by decide +kernel
theorem dX7_setCapacity_21 : decode cX7_setCapacity 21 = .ok (.ireturn, 1) := by decide +kernel
theorem dX7_bits_0 : decode cX7_bits 0 = .ok (.iconst 0, 1) := by decide +kernel
theorem dX7_bits_1 : decode cX7_bits 1 = .ok (.istore_n 1, 1) := by decide +kernel
theorem dX7_bits_2 : decode cX7_bits 2 = .ok (.iload_n 0, 1) := by decide +kernel
theorem dX7_bits_3 : decode cX7_bits 3 = .ok (.istore_n 2, 1) := by decide +kernel
theorem dX7_bits_4 : decode cX7_bits 4 = .ok (.iload_n 2, 1) := by decide +kernel
theorem dX7_bits_5 : decode cX7_bits 5 = .ok (.ifCond .eq 15, 3) := by decide +kernel
theorem dX7_bits_8 : decode cX7_bits 8 = .ok (.iinc 1 1, 3) := by decide +kernel
theorem dX7_bits_11 : decode cX7_bits 11 = .ok (.iload_n 2, 1) := by decide +kernel
theorem dX7_bits_12 : decode cX7_bits 12 = .ok (.iload_n 2, 1) := by decide +kernel
theorem dX7_bits_13 : decode cX7_bits 13 = .ok (.iconst 1, 1) := by decide +kernel
theorem dX7_bits_14 : decode cX7_bits 14 = .ok (.isub, 1) := by decide +kernel
theorem dX7_bits_15 : decode cX7_bits 15 = .ok (.iand, 1) := by decide +kernel
theorem dX7_bits_16 : decode cX7_bits 16 = .ok (.istore_n 2, 1) := by decide +kernel
theorem dX7_bits_17 : decode cX7_bits 17 = .ok (.goto (-13), 3) := by decide +kernel
theorem dX7_bits_20 : decode cX7_bits 20 = .ok (.iload_n 1, 1) := by decide +kernel
theorem dX7_bits_21 : decode cX7_bits 21 = .ok (.ireturn, 1) := by decide +kernel
theorem dX7_neighbours_0 : decode cX7_neighbours 0 = .ok (.iconst 0, 1) := by decide +kernel
theorem dX7_neighbours_1 : decode cX7_neighbours 1 = .ok (.istore_n 2, 1) := by decide +kernel
theorem dX7_neighbours_2 : decode cX7_neighbours 2 = .ok (.iconst 0, 1) := by decide +kernel
theorem dX7_neighbours_3 : decode cX7_neighbours 3 = .ok (.istore_n 3, 1) := by decide +kernel
theorem dX7_neighbours_4 : decode cX7_neighbours 4 = .ok (.iload_n 3, 1) := by decide +kernel
theorem dX7_neighbours_5 : decode cX7_neighbours 5 = .ok (.aload_n 0, 1) := by decide +kernel
theorem dX7_neighbours_6 : decode cX7_neighbours 6 = .ok (.getfield 7, 3) := by decide +kernel
theorem dX7_neighbours_9 : decode cX7_neighbours 9 = .ok (.iconst 3, 1) := by decide +kernel
theorem dX7_neighbours_10 : decode cX7_neighbours 10 = .ok (.iaload, 1) := by decide +kernel
theorem dX7_neighbours_11 : decode cX7_neighbours 11 = .ok (.if_icmp .ge 67, 3) := by decide +kernel
theorem dX7_neighbours_14 : decode cX7_neighbours 14 = .ok (.iload_n 2, 1) := by decide +kernel
theorem dX7_neighbours_15 : decode cX7_neighbours 15 = .ok (.aload_n 0, 1) := by decide +kernel
theorem dX7_neighbours_16 : decode cX7_neighbours 16 = .ok (.getfield 7, 3) := by decide +kernel
theorem dX7_neighbours_19 : decode cX7_neighbours 19 = .ok (.bipush 56, 2) := by decide +kernel
theorem dX7_neighbours_21 : decode cX7_neighbours 21 = .ok (.iload_n 3, 1) := by decide +kernel
theorem dX7_neighbours_22 : decode cX7_neighbours 22 = .ok (.iadd, 1) := by decide +kernel
theorem dX7_neighbours_23 : decode cX7_neighbours 23 = .ok (.iaload, 1) := by decide +kernel
theorem dX7_neighbours_24 : decode cX7_neighbours 24 = .ok (.iload_n 1, 1) := by decide +kernel
theorem dX7_neighbours_25 : decode cX7_neighbours 25 = .ok (.if_icmp .ne 17, 3) := by decide +kernel
theorem dX7_neighbours_28 : decode cX7_neighbours 28 = .ok (.iconst 1, 1) := by decide +kernel
theorem dX7_neighbours_29 : decode cX7_neighbours 29 = .ok (.aload_n 0, 1) := by decide +kernel
theorem dX7_neighbours_30 : decode cX7_neighbours 30 = .ok (.getfield 7, 3) := by decide +kernel
theorem dX7_neighbours_33 : decode cX7_neighbours 33 = .ok (.bipush 96, 2) := by decide +kernel
theorem dX7_neighbours_35 : decode cX7_neighbours 35 = .ok (.iload_n 3, 1) := by decide +kernel
theorem dX7_neighbours_36 : decode cX7_neighbours 36 = .ok (.iadd, 1) := by decide +kernel
theorem dX7_neighbours_37 : decode cX7_neighbours 37 = .ok (.iaload, 1) := by decide +kernel
theorem dX7_neighbours_38 : decode cX7_neighbours 38 = .ok (.ishl, 1) := by decide +kernel
theorem dX7_neighbours_39 : decode cX7_neighbours 39 = .ok (.goto 31, 3) := by decide +kernel
theorem dX7_neighbours_42 : decode cX7_neighbours 42 = .ok (.aload_n 0, 1) := by decide +kernel
theorem dX7_neighbours_43 : decode cX7_neighbours 43 = .ok (.getfield 7, 3) := by decide +kernel
theorem dX7_neighbours_46 : decode cX7_neighbours 46 = .ok (.bipush 96, 2) := by decide +kernel
theorem dX7_neighbours_48 : decode cX7_neighbours 48 = .ok (.iload_n 3, 1) := by decide +kernel
theorem dX7_neighbours_49 : decode cX7_neighbours 49 = .ok (.iadd, 1) := by decide +kernel
theorem dX7_neighbours_50 : decode cX7_neighbours 50 = .ok (.iaload, 1) := by decide +kernel
theorem dX7_neighbours_51 : decode cX7_neighbours 51 = .ok (.iload_n 1, 1) := by decide +kernel
theorem dX7_neighbours_52 : decode cX7_neighbours 52 = .ok (.if_icmp .ne 17, 3) := by decide +kernel
theorem dX7_neighbours_55 : decode cX7_neighbours 55 = .ok (.iconst 1, 1) := by decide +kernel
theorem dX7_neighbours_56 : decode cX7_neighbours 56 = .ok (.aload_n 0, 1) := by decide +kernel
theorem dX7_neighbours_57 : decode cX7_neighbours 57 = .ok (.getfield 7, 3) := by decide +kernel
theorem dX7_neighbours_60 : decode cX7_neighbours 60 = .ok (.bipush 56, 2) := by decide +kernel
theorem dX7_neighbours_62 : decode cX7_neighbours 62 = .ok (.iload_n 3, 1) := by decide +kernel
theorem dX7_neighbours_63 : decode cX7_neighbours 63 = .ok (.iadd, 1) := by decide +kernel
theorem dX7_neighbours_64 : decode cX7_neighbours 64 = .ok (.iaload, 1) := by decide +kernel
theorem dX7_neighbours_65 : decode cX7_neighbours 65 = .ok (.ishl, 1) := by decide +kernel
theorem dX7_neighbours_66 : decode cX7_neighbours 66 = .ok (.goto 4, 3) := by decide +kernel
theorem dX7_neighbours_69 : decode cX7_neighbours 69 = .ok (.iconst 0, 1) := by decide +kernel
theorem dX7_neighbours_70 : decode cX7_neighbours 70 = .ok (.ior, 1) := by decide +kernel
theorem dX7_neighbours_71 : decode cX7_neighbours 71 = .ok (.istore_n 2, 1) := by decide +kernel
theorem dX7_neighbours_72 : decode cX7_neighbours 72 = .ok (.iinc 3 1, 3) := by decide +kernel
theorem dX7_neighbours_75 : decode cX7_neighbours 75 = .ok (.goto (-71), 3) := by decide +kernel
theorem dX7_neighbours_78 : decode cX7_neighbours 78 = .ok (.iload_n 2, 1) := by decide +kernel
theorem dX7_neighbours_79 : decode cX7_neighbours 79 = .ok (.ireturn, 1) := by decide +kernel
theorem dX7_degree_0 : decode cX7_degree 0 = .ok (.iconst 0, 1) := by decide +kernel
theorem dX7_degree_1 : decode cX7_degree 1 = .ok (.istore_n 2, 1) := by decide +kernel
theorem dX7_degree_2 : decode cX7_degree 2 = .ok (.iconst 0, 1) := by decide +kernel
theorem dX7_degree_3 : decode cX7_degree 3 = .ok (.istore_n 3, 1) := by decide +kernel
theorem dX7_degree_4 : decode cX7_degree 4 = .ok (.iload_n 3, 1) := by decide +kernel
theorem dX7_degree_5 : decode cX7_degree 5 = .ok (.aload_n 0, 1) := by decide +kernel
theorem dX7_degree_6 : decode cX7_degree 6 = .ok (.getfield 7, 3) := by decide +kernel
theorem dX7_degree_9 : decode cX7_degree 9 = .ok (.iconst 3, 1) := by decide +kernel
theorem dX7_degree_10 : decode cX7_degree 10 = .ok (.iaload, 1) := by decide +kernel
theorem dX7_degree_11 : decode cX7_degree 11 = .ok (.if_icmp .ge 43, 3) := by decide +kernel
theorem dX7_degree_14 : decode cX7_degree 14 = .ok (.iload_n 2, 1) := by decide +kernel
theorem dX7_degree_15 : decode cX7_degree 15 = .ok (.aload_n 0, 1) := by decide +kernel
theorem dX7_degree_16 : decode cX7_degree 16 = .ok (.getfield 7, 3) := by decide +kernel
theorem dX7_degree_19 : decode cX7_degree 19 = .ok (.bipush 56, 2) := by decide +kernel
theorem dX7_degree_21 : decode cX7_degree 21 = .ok (.iload_n 3, 1) := by decide +kernel
theorem dX7_degree_22 : decode cX7_degree 22 = .ok (.iadd, 1) := by decide +kernel
theorem dX7_degree_23 : decode cX7_degree 23 = .ok (.iaload, 1) := by decide +kernel
theorem dX7_degree_24 : decode cX7_degree 24 = .ok (.iload_n 1, 1) := by decide +kernel
theorem dX7_degree_25 : decode cX7_degree 25 = .ok (.if_icmp .eq 16, 3) := by decide +kernel
theorem dX7_degree_28 : decode cX7_degree 28 = .ok (.aload_n 0, 1) := by decide +kernel
theorem dX7_degree_29 : decode cX7_degree 29 = .ok (.getfield 7, 3) := by decide +kernel
theorem dX7_degree_32 : decode cX7_degree 32 = .ok (.bipush 96, 2) := by decide +kernel
theorem dX7_degree_34 : decode cX7_degree 34 = .ok (.iload_n 3, 1) := by decide +kernel
theorem dX7_degree_35 : decode cX7_degree 35 = .ok (.iadd, 1) := by decide +kernel
theorem dX7_degree_36 : decode cX7_degree 36 = .ok (.iaload, 1) := by decide +kernel
theorem dX7_degree_37 : decode cX7_degree 37 = .ok (.iload_n 1, 1) := by decide +kernel
theorem dX7_degree_38 : decode cX7_degree 38 = .ok (.if_icmp .ne 7, 3) := by decide +kernel
theorem dX7_degree_41 : decode cX7_degree 41 = .ok (.iconst 1, 1) := by decide +kernel
theorem dX7_degree_42 : decode cX7_degree 42 = .ok (.goto 4, 3) := by decide +kernel
theorem dX7_degree_45 : decode cX7_degree 45 = .ok (.iconst 0, 1) := by decide +kernel
theorem dX7_degree_46 : decode cX7_degree 46 = .ok (.iadd, 1) := by decide +kernel
theorem dX7_degree_47 : decode cX7_degree 47 = .ok (.istore_n 2, 1) := by decide +kernel
theorem dX7_degree_48 : decode cX7_degree 48 = .ok (.iinc 3 1, 3) := by decide +kernel
theorem dX7_degree_51 : decode cX7_degree 51 = .ok (.goto (-47), 3) := by decide +kernel
theorem dX7_degree_54 : decode cX7_degree 54 = .ok (.iload_n 2, 1) := by decide +kernel
theorem dX7_degree_55 : decode cX7_degree 55 = .ok (.ireturn, 1) := by decide +kernel
theorem dX7_nodeOf_0 : decode cX7_nodeOf 0 = .ok (.iload_n 2, 1) := by decide +kernel
theorem dX7_nodeOf_1 : decode cX7_nodeOf 1 = .ok (.tableswitch 61 0 3 #[31, 37, 43, 52], 31) := by decide +kernel
theorem dX7_nodeOf_32 : decode cX7_nodeOf 32 = .ok (.aload_n 0, 1) := by decide +kernel
theorem dX7_nodeOf_33 : decode cX7_nodeOf 33 = .ok (.iload_n 1, 1) := by decide +kernel
theorem dX7_nodeOf_34 : decode cX7_nodeOf 34 = .ok (.invokevirtual 54, 3) := by decide +kernel
theorem dX7_nodeOf_37 : decode cX7_nodeOf 37 = .ok (.ireturn, 1) := by decide +kernel
theorem dX7_nodeOf_38 : decode cX7_nodeOf 38 = .ok (.aload_n 0, 1) := by decide +kernel
theorem dX7_nodeOf_39 : decode cX7_nodeOf 39 = .ok (.iload_n 1, 1) := by decide +kernel
theorem dX7_nodeOf_40 : decode cX7_nodeOf 40 = .ok (.invokevirtual 118, 3) := by decide +kernel
theorem dX7_nodeOf_43 : decode cX7_nodeOf 43 = .ok (.ireturn, 1) := by decide +kernel
theorem dX7_nodeOf_44 : decode cX7_nodeOf 44 = .ok (.aload_n 0, 1) := by decide +kernel
theorem dX7_nodeOf_45 : decode cX7_nodeOf 45 = .ok (.getfield 7, 3) := by decide +kernel
theorem dX7_nodeOf_48 : decode cX7_nodeOf 48 = .ok (.iconst 4, 1) := by decide +kernel
theorem dX7_nodeOf_49 : decode cX7_nodeOf 49 = .ok (.iload_n 1, 1) := by decide +kernel
theorem dX7_nodeOf_50 : decode cX7_nodeOf 50 = .ok (.iadd, 1) := by decide +kernel
theorem dX7_nodeOf_51 : decode cX7_nodeOf 51 = .ok (.iaload, 1) := by decide +kernel
theorem dX7_nodeOf_52 : decode cX7_nodeOf 52 = .ok (.ireturn, 1) := by decide +kernel
theorem dX7_nodeOf_53 : decode cX7_nodeOf 53 = .ok (.aload_n 0, 1) := by decide +kernel
theorem dX7_nodeOf_54 : decode cX7_nodeOf 54 = .ok (.iload_n 1, 1) := by decide +kernel
theorem dX7_nodeOf_55 : decode cX7_nodeOf 55 = .ok (.invokevirtual 121, 3) := by decide +kernel
theorem dX7_nodeOf_58 : decode cX7_nodeOf 58 = .ok (.invokestatic 124, 3) := by decide +kernel
theorem dX7_nodeOf_61 : decode cX7_nodeOf 61 = .ok (.ireturn, 1) := by decide +kernel
theorem dX7_nodeOf_62 : decode cX7_nodeOf 62 = .ok (.aload_n 0, 1) := by decide +kernel
theorem dX7_nodeOf_63 : decode cX7_nodeOf 63 = .ok (.iload_n 1, 1) := by decide +kernel
theorem dX7_nodeOf_64 : decode cX7_nodeOf 64 = .ok (.invokevirtual 93, 3) := by decide +kernel
theorem dX7_nodeOf_67 : decode cX7_nodeOf 67 = .ok (.aload_n 0, 1) := by decide +kernel
theorem dX7_nodeOf_68 : decode cX7_nodeOf 68 = .ok (.getfield 87, 3) := by decide +kernel
theorem dX7_nodeOf_71 : decode cX7_nodeOf 71 = .ok (.ireturn, 1) := by decide +kernel
theorem dX7_node_0 : decode cX7_node 0 = .ok (.aload_n 0, 1) := by decide +kernel
theorem dX7_node_1 : decode cX7_node 1 = .ok (.aload_n 0, 1) := by decide +kernel
theorem dX7_node_2 : decode cX7_node 2 = .ok (.iload_n 1, 1) := by decide +kernel
theorem dX7_node_3 : decode cX7_node 3 = .ok (.invokevirtual 60, 3) := by decide +kernel
theorem dX7_node_6 : decode cX7_node 6 = .ok (.ifCond .ne 7, 3) := by decide +kernel
theorem dX7_node_9 : decode cX7_node 9 = .ok (.iconst 1, 1) := by decide +kernel
theorem dX7_node_10 : decode cX7_node 10 = .ok (.goto 4, 3) := by decide +kernel
theorem dX7_node_13 : decode cX7_node 13 = .ok (.iconst 0, 1) := by decide +kernel
theorem dX7_node_14 : decode cX7_node 14 = .ok (.iload_n 2, 1) := by decide +kernel
theorem dX7_node_15 : decode cX7_node 15 = .ok (.iconst 0, 1) := by decide +kernel
theorem dX7_node_16 : decode cX7_node 16 = .ok (.iconst 4, 1) := by decide +kernel
theorem dX7_node_17 : decode cX7_node 17 = .ok (.invokestatic 36, 3) := by decide +kernel
theorem dX7_node_20 : decode cX7_node 20 = .ok (.ifCond .ne 7, 3) := by decide +kernel
theorem dX7_node_23 : decode cX7_node 23 = .ok (.iconst 1, 1) := by decide +kernel
theorem dX7_node_24 : decode cX7_node 24 = .ok (.goto 4, 3) := by decide +kernel
theorem dX7_node_27 : decode cX7_node 27 = .ok (.iconst 0, 1) := by decide +kernel
theorem dX7_node_28 : decode cX7_node 28 = .ok (.iconst 0, 1) := by decide +kernel
theorem dX7_node_29 : decode cX7_node 29 = .ok (.invokevirtual 46, 3) := by decide +kernel
theorem dX7_node_32 : decode cX7_node 32 = .ok (.ifCond .eq 7, 3) := by decide +kernel
theorem dX7_node_35 : decode cX7_node 35 = .ok (.iconst 0, 1) := by decide +kernel
theorem dX7_node_36 : decode cX7_node 36 = .ok (.goto 9, 3) := by decide +kernel
theorem dX7_node_39 : decode cX7_node 39 = .ok (.aload_n 0, 1) := by decide +kernel
theorem dX7_node_40 : decode cX7_node 40 = .ok (.iload_n 1, 1) := by decide +kernel
theorem dX7_node_41 : decode cX7_node 41 = .ok (.iload_n 2, 1) := by decide +kernel
theorem dX7_node_42 : decode cX7_node 42 = .ok (.invokevirtual 127, 3) := by decide +kernel
theorem dX7_node_45 : decode cX7_node 45 = .ok (.ireturn, 1) := by decide +kernel
theorem dX7_edgeOf_0 : decode cX7_edgeOf 0 = .ok (.iload_n 2, 1) := by decide +kernel
theorem dX7_edgeOf_1 : decode cX7_edgeOf 1 = .ok (.ifCond .ne 15, 3) := by decide +kernel
theorem dX7_edgeOf_4 : decode cX7_edgeOf 4 = .ok (.aload_n 0, 1) := by decide +kernel
theorem dX7_edgeOf_5 : decode cX7_edgeOf 5 = .ok (.getfield 7, 3) := by decide +kernel
theorem dX7_edgeOf_8 : decode cX7_edgeOf 8 = .ok (.bipush 56, 2) := by decide +kernel
theorem dX7_edgeOf_10 : decode cX7_edgeOf 10 = .ok (.iload_n 1, 1) := by decide +kernel
theorem dX7_edgeOf_11 : decode cX7_edgeOf 11 = .ok (.iadd, 1) := by decide +kernel
theorem dX7_edgeOf_12 : decode cX7_edgeOf 12 = .ok (.iaload, 1) := by decide +kernel
theorem dX7_edgeOf_13 : decode cX7_edgeOf 13 = .ok (.goto 43, 3) := by decide +kernel
theorem dX7_edgeOf_16 : decode cX7_edgeOf 16 = .ok (.iload_n 2, 1) := by decide +kernel
theorem dX7_edgeOf_17 : decode cX7_edgeOf 17 = .ok (.iconst 1, 1) := by decide +kernel
theorem dX7_edgeOf_18 : decode cX7_edgeOf 18 = .ok (.if_icmp .ne 15, 3) := by decide +kernel
theorem dX7_edgeOf_21 : decode cX7_edgeOf 21 = .ok (.aload_n 0, 1) := by decide +kernel
theorem dX7_edgeOf_22 : decode cX7_edgeOf 22 = .ok (.getfield 7, 3) := by decide +kernel
theorem dX7_edgeOf_25 : decode cX7_edgeOf 25 = .ok (.bipush 96, 2) := by decide +kernel
theorem dX7_edgeOf_27 : decode cX7_edgeOf 27 = .ok (.iload_n 1, 1) := by decide +kernel
theorem dX7_edgeOf_28 : decode cX7_edgeOf 28 = .ok (.iadd, 1) := by decide +kernel
theorem dX7_edgeOf_29 : decode cX7_edgeOf 29 = .ok (.iaload, 1) := by decide +kernel
theorem dX7_edgeOf_30 : decode cX7_edgeOf 30 = .ok (.goto 26, 3) := by decide +kernel
theorem dX7_edgeOf_33 : decode cX7_edgeOf 33 = .ok (.iload_n 2, 1) := by decide +kernel
theorem dX7_edgeOf_34 : decode cX7_edgeOf 34 = .ok (.iconst 2, 1) := by decide +kernel
theorem dX7_edgeOf_35 : decode cX7_edgeOf 35 = .ok (.if_icmp .ne 11, 3) := by decide +kernel
theorem dX7_edgeOf_38 : decode cX7_edgeOf 38 = .ok (.aload_n 0, 1) := by decide +kernel
theorem dX7_edgeOf_39 : decode cX7_edgeOf 39 = .ok (.iload_n 1, 1) := by decide +kernel
theorem dX7_edgeOf_40 : decode cX7_edgeOf 40 = .ok (.invokevirtual 50, 3) := by decide +kernel
theorem dX7_edgeOf_43 : decode cX7_edgeOf 43 = .ok (.goto 13, 3) := by decide +kernel
theorem dX7_edgeOf_46 : decode cX7_edgeOf 46 = .ok (.aload_n 0, 1) := by decide +kernel
theorem dX7_edgeOf_47 : decode cX7_edgeOf 47 = .ok (.getfield 7, 3) := by decide +kernel
theorem dX7_edgeOf_50 : decode cX7_edgeOf 50 = .ok (.sipush 176, 3) := by decide +kernel
theorem dX7_edgeOf_53 : decode cX7_edgeOf 53 = .ok (.iload_n 1, 1) := by decide +kernel
theorem dX7_edgeOf_54 : decode cX7_edgeOf 54 = .ok (.iadd, 1) := by decide +kernel
theorem dX7_edgeOf_55 : decode cX7_edgeOf 55 = .ok (.iaload, 1) := by decide +kernel
theorem dX7_edgeOf_56 : decode cX7_edgeOf 56 = .ok (.ireturn, 1) := by decide +kernel
theorem dX7_edge_0 : decode cX7_edge 0 = .ok (.aload_n 0, 1) := by decide +kernel
theorem dX7_edge_1 : decode cX7_edge 1 = .ok (.aload_n 0, 1) := by decide +kernel
theorem dX7_edge_2 : decode cX7_edge 2 = .ok (.iload_n 1, 1) := by decide +kernel
theorem dX7_edge_3 : decode cX7_edge 3 = .ok (.invokevirtual 72, 3) := by decide +kernel
theorem dX7_edge_6 : decode cX7_edge 6 = .ok (.ifCond .ge 7, 3) := by decide +kernel
theorem dX7_edge_9 : decode cX7_edge 9 = .ok (.iconst 1, 1) := by decide +kernel
theorem dX7_edge_10 : decode cX7_edge 10 = .ok (.goto 4, 3) := by decide +kernel
theorem dX7_edge_13 : decode cX7_edge 13 = .ok (.iconst 0, 1) := by decide +kernel
theorem dX7_edge_14 : decode cX7_edge 14 = .ok (.iload_n 2, 1) := by decide +kernel
theorem dX7_edge_15 : decode cX7_edge 15 = .ok (.iconst 0, 1) := by decide +kernel
theorem dX7_edge_16 : decode cX7_edge 16 = .ok (.iconst 3, 1) := by decide +kernel
theorem dX7_edge_17 : decode cX7_edge 17 = .ok (.invokestatic 36, 3) := by decide +kernel
theorem dX7_edge_20 : decode cX7_edge 20 = .ok (.ifCond .ne 7, 3) := by decide +kernel
theorem dX7_edge_23 : decode cX7_edge 23 = .ok (.iconst 1, 1) := by decide +kernel
theorem dX7_edge_24 : decode cX7_edge 24 = .ok (.goto 4, 3) := by decide +kernel
theorem dX7_edge_27 : decode cX7_edge 27 = .ok (.iconst 0, 1) := by decide +kernel
theorem dX7_edge_28 : decode cX7_edge 28 = .ok (.iconst 0, 1) := by decide +kernel
theorem dX7_edge_29 : decode cX7_edge 29 = .ok (.invokevirtual 46, 3) := by decide +kernel
theorem dX7_edge_32 : decode cX7_edge 32 = .ok (.ifCond .eq 7, 3) := by decide +kernel
theorem dX7_edge_35 : decode cX7_edge 35 = .ok (.iconst 0, 1) := by decide +kernel
theorem dX7_edge_36 : decode cX7_edge 36 = .ok (.goto 13, 3) := by decide +kernel
theorem dX7_edge_39 : decode cX7_edge 39 = .ok (.aload_n 0, 1) := by decide +kernel
theorem dX7_edge_40 : decode cX7_edge 40 = .ok (.aload_n 0, 1) := by decide +kernel
theorem dX7_edge_41 : decode cX7_edge 41 = .ok (.iload_n 1, 1) := by decide +kernel
theorem dX7_edge_42 : decode cX7_edge 42 = .ok (.invokevirtual 72, 3) := by decide +kernel
theorem dX7_edge_45 : decode cX7_edge 45 = .ok (.iload_n 2, 1) := by decide +kernel
theorem dX7_edge_46 : decode cX7_edge 46 = .ok (.invokevirtual 130, 3) := by decide +kernel
theorem dX7_edge_49 : decode cX7_edge 49 = .ok (.ireturn, 1) := by decide +kernel
theorem dX7_edgeAt_0 : decode cX7_edgeAt 0 = .ok (.aload_n 0, 1) := by decide +kernel
theorem dX7_edgeAt_1 : decode cX7_edgeAt 1 = .ok (.iload_n 1, 1) := by decide +kernel
theorem dX7_edgeAt_2 : decode cX7_edgeAt 2 = .ok (.iconst 0, 1) := by decide +kernel
theorem dX7_edgeAt_3 : decode cX7_edgeAt 3 = .ok (.aload_n 0, 1) := by decide +kernel
theorem dX7_edgeAt_4 : decode cX7_edgeAt 4 = .ok (.getfield 7, 3) := by decide +kernel
theorem dX7_edgeAt_7 : decode cX7_edgeAt 7 = .ok (.iconst 3, 1) := by decide +kernel
theorem dX7_edgeAt_8 : decode cX7_edgeAt 8 = .ok (.iaload, 1) := by decide +kernel
theorem dX7_edgeAt_9 : decode cX7_edgeAt 9 = .ok (.iconst 1, 1) := by decide +kernel
theorem dX7_edgeAt_10 : decode cX7_edgeAt 10 = .ok (.isub, 1) := by decide +kernel
theorem dX7_edgeAt_11 : decode cX7_edgeAt 11 = .ok (.invokestatic 36, 3) := by decide +kernel
theorem dX7_edgeAt_14 : decode cX7_edgeAt 14 = .ok (.ifCond .ne 7, 3) := by decide +kernel
theorem dX7_edgeAt_17 : decode cX7_edgeAt 17 = .ok (.iconst 1, 1) := by decide +kernel
theorem dX7_edgeAt_18 : decode cX7_edgeAt 18 = .ok (.goto 4, 3) := by decide +kernel
theorem dX7_edgeAt_21 : decode cX7_edgeAt 21 = .ok (.iconst 0, 1) := by decide +kernel
theorem dX7_edgeAt_22 : decode cX7_edgeAt 22 = .ok (.iconst 0, 1) := by decide +kernel
theorem dX7_edgeAt_23 : decode cX7_edgeAt 23 = .ok (.iconst 0, 1) := by decide +kernel
theorem dX7_edgeAt_24 : decode cX7_edgeAt 24 = .ok (.invokevirtual 46, 3) := by decide +kernel
theorem dX7_edgeAt_27 : decode cX7_edgeAt 27 = .ok (.ifCond .eq 7, 3) := by decide +kernel
theorem dX7_edgeAt_30 : decode cX7_edgeAt 30 = .ok (.iconst 0, 1) := by decide +kernel
theorem dX7_edgeAt_31 : decode cX7_edgeAt 31 = .ok (.goto 12, 3) := by decide +kernel
theorem dX7_edgeAt_34 : decode cX7_edgeAt 34 = .ok (.aload_n 0, 1) := by decide +kernel
theorem dX7_edgeAt_35 : decode cX7_edgeAt 35 = .ok (.getfield 7, 3) := by decide +kernel
theorem dX7_edgeAt_38 : decode cX7_edgeAt 38 = .ok (.bipush 16, 2) := by decide +kernel
theorem dX7_edgeAt_40 : decode cX7_edgeAt 40 = .ok (.iload_n 1, 1) := by decide +kernel
theorem dX7_edgeAt_41 : decode cX7_edgeAt 41 = .ok (.iadd, 1) := by decide +kernel
theorem dX7_edgeAt_42 : decode cX7_edgeAt 42 = .ok (.iaload, 1) := by decide +kernel
theorem dX7_edgeAt_43 : decode cX7_edgeAt 43 = .ok (.ireturn, 1) := by decide +kernel
theorem dX7_valueOf_0 : decode cX7_valueOf 0 = .ok (.bipush 40, 2) := by decide +kernel
theorem dX7_valueOf_2 : decode cX7_valueOf 2 = .ok (.istore_n 2, 1) := by decide +kernel
theorem dX7_valueOf_3 : decode cX7_valueOf 3 = .ok (.iconst 0, 1) := by decide +kernel
theorem dX7_valueOf_4 : decode cX7_valueOf 4 = .ok (.istore_n 3, 1) := by decide +kernel
theorem dX7_valueOf_5 : decode cX7_valueOf 5 = .ok (.iconst 0, 1) := by decide +kernel
theorem dX7_valueOf_6 : decode cX7_valueOf 6 = .ok (.istore 4, 2) := by decide +kernel
theorem dX7_valueOf_8 : decode cX7_valueOf 8 = .ok (.iconst 0, 1) := by decide +kernel
theorem dX7_valueOf_9 : decode cX7_valueOf 9 = .ok (.istore 5, 2) := by decide +kernel
theorem dX7_valueOf_11 : decode cX7_valueOf 11 = .ok (.iload 5, 2) := by decide +kernel
theorem dX7_valueOf_13 : decode cX7_valueOf 13 = .ok (.aload_n 0, 1) := by decide +kernel
theorem dX7_valueOf_14 : decode cX7_valueOf 14 = .ok (.getfield 7, 3) := by decide +kernel
theorem dX7_valueOf_17 : decode cX7_valueOf 17 = .ok (.iconst 0, 1) := by decide +kernel
theorem dX7_valueOf_18 : decode cX7_valueOf 18 = .ok (.iaload, 1) := by decide +kernel
theorem dX7_valueOf_19 : decode cX7_valueOf 19 = .ok (.if_icmp .ge 62, 3) := by decide +kernel
theorem dX7_valueOf_22 : decode cX7_valueOf 22 = .ok (.aload_n 0, 1) := by decide +kernel
theorem dX7_valueOf_23 : decode cX7_valueOf 23 = .ok (.iload 5, 2) := by decide +kernel
theorem dX7_valueOf_25 : decode cX7_valueOf 25 = .ok (.invokevirtual 54, 3) := by decide +kernel
theorem dX7_valueOf_28 : decode cX7_valueOf 28 = .ok (.istore 6, 2) := by decide +kernel
theorem dX7_valueOf_30 : decode cX7_valueOf 30 = .ok (.iload 6, 2) := by decide +kernel
theorem dX7_valueOf_32 : decode cX7_valueOf 32 = .ok (.iload_n 2, 1) := by decide +kernel
theorem dX7_valueOf_33 : decode cX7_valueOf 33 = .ok (.if_icmp .ge 8, 3) := by decide +kernel
theorem dX7_valueOf_36 : decode cX7_valueOf 36 = .ok (.iload 6, 2) := by decide +kernel
theorem dX7_valueOf_38 : decode cX7_valueOf 38 = .ok (.goto 4, 3) := by decide +kernel
theorem dX7_valueOf_41 : decode cX7_valueOf 41 = .ok (.iload_n 2, 1) := by decide +kernel
theorem dX7_valueOf_42 : decode cX7_valueOf 42 = .ok (.istore_n 2, 1) := by decide +kernel
theorem dX7_valueOf_43 : decode cX7_valueOf 43 = .ok (.iload_n 3, 1) := by decide +kernel
theorem dX7_valueOf_44 : decode cX7_valueOf 44 = .ok (.iload 6, 2) := by decide +kernel
theorem dX7_valueOf_46 : decode cX7_valueOf 46 = .ok (.iload 6, 2) := by decide +kernel
theorem dX7_valueOf_48 : decode cX7_valueOf 48 = .ok (.imul, 1) := by decide +kernel
theorem dX7_valueOf_49 : decode cX7_valueOf 49 = .ok (.iadd, 1) := by decide +kernel
theorem dX7_valueOf_50 : decode cX7_valueOf 50 = .ok (.istore_n 3, 1) := by decide +kernel
theorem dX7_valueOf_51 : decode cX7_valueOf 51 = .ok (.iload 4, 2) := by decide +kernel
theorem dX7_valueOf_53 : decode cX7_valueOf 53 = .ok (.iload 6, 2) := by decide +kernel
theorem dX7_valueOf_55 : decode cX7_valueOf 55 = .ok (.aload_n 0, 1) := by decide +kernel
theorem dX7_valueOf_56 : decode cX7_valueOf 56 = .ok (.getfield 7, 3) := by decide +kernel
theorem dX7_valueOf_59 : decode cX7_valueOf 59 = .ok (.iconst 4, 1) := by decide +kernel
theorem dX7_valueOf_60 : decode cX7_valueOf 60 = .ok (.iload 5, 2) := by decide +kernel
theorem dX7_valueOf_62 : decode cX7_valueOf 62 = .ok (.iadd, 1) := by decide +kernel
theorem dX7_valueOf_63 : decode cX7_valueOf 63 = .ok (.iaload, 1) := by decide +kernel
theorem dX7_valueOf_64 : decode cX7_valueOf 64 = .ok (.if_icmp .le 7, 3) := by decide +kernel
theorem dX7_valueOf_67 : decode cX7_valueOf 67 = .ok (.iconst 1, 1) := by decide +kernel
theorem dX7_valueOf_68 : decode cX7_valueOf 68 = .ok (.goto 4, 3) := by decide +kernel
theorem dX7_valueOf_71 : decode cX7_valueOf 71 = .ok (.iconst 0, 1) := by decide +kernel
theorem dX7_valueOf_72 : decode cX7_valueOf 72 = .ok (.iadd, 1) := by decide +kernel
theorem dX7_valueOf_73 : decode cX7_valueOf 73 = .ok (.istore 4, 2) := by decide +kernel
theorem dX7_valueOf_75 : decode cX7_valueOf 75 = .ok (.iinc 5 1, 3) := by decide +kernel
theorem dX7_valueOf_78 : decode cX7_valueOf 78 = .ok (.goto (-67), 3) := by decide +kernel
theorem dX7_valueOf_81 : decode cX7_valueOf 81 = .ok (.iload_n 1, 1) := by decide +kernel
theorem dX7_valueOf_82 : decode cX7_valueOf 82 = .ok (.tableswitch 79 0 6 #[42, 49, 56, 61, 63, 65, 72], 42) := by decide +kernel
theorem dX7_valueOf_124 : decode cX7_valueOf 124 = .ok (.aload_n 0, 1) := by decide +kernel
theorem dX7_valueOf_125 : decode cX7_valueOf 125 = .ok (.getfield 7, 3) := by decide +kernel
theorem dX7_valueOf_128 : decode cX7_valueOf 128 = .ok (.iconst 0, 1) := by decide +kernel
theorem dX7_valueOf_129 : decode cX7_valueOf 129 = .ok (.iaload, 1) := by decide +kernel
theorem dX7_valueOf_130 : decode cX7_valueOf 130 = .ok (.ireturn, 1) := by decide +kernel
theorem dX7_valueOf_131 : decode cX7_valueOf 131 = .ok (.aload_n 0, 1) := by decide +kernel
theorem dX7_valueOf_132 : decode cX7_valueOf 132 = .ok (.getfield 7, 3) := by decide +kernel
theorem dX7_valueOf_135 : decode cX7_valueOf 135 = .ok (.iconst 3, 1) := by decide +kernel
theorem dX7_valueOf_136 : decode cX7_valueOf 136 = .ok (.iaload, 1) := by decide +kernel
theorem dX7_valueOf_137 : decode cX7_valueOf 137 = .ok (.ireturn, 1) := by decide +kernel
theorem dX7_valueOf_138 : decode cX7_valueOf 138 = .ok (.aload_n 0, 1) := by decide +kernel
theorem dX7_valueOf_139 : decode cX7_valueOf 139 = .ok (.invokevirtual 99, 3) := by decide +kernel
theorem dX7_valueOf_142 : decode cX7_valueOf 142 = .ok (.ireturn, 1) := by decide +kernel
theorem dX7_valueOf_143 : decode cX7_valueOf 143 = .ok (.iload_n 2, 1) := by decide +kernel
theorem dX7_valueOf_144 : decode cX7_valueOf 144 = .ok (.ireturn, 1) := by decide +kernel
theorem dX7_valueOf_145 : decode cX7_valueOf 145 = .ok (.iload_n 3, 1) := by decide +kernel
theorem dX7_valueOf_146 : decode cX7_valueOf 146 = .ok (.ireturn, 1) := by decide +kernel
theorem dX7_valueOf_147 : decode cX7_valueOf 147 = .ok (.aload_n 0, 1) := by decide +kernel
theorem dX7_valueOf_148 : decode cX7_valueOf 148 = .ok (.getfield 7, 3) := by decide +kernel
theorem dX7_valueOf_151 : decode cX7_valueOf 151 = .ok (.iconst 2, 1) := by decide +kernel
theorem dX7_valueOf_152 : decode cX7_valueOf 152 = .ok (.iaload, 1) := by decide +kernel
theorem dX7_valueOf_153 : decode cX7_valueOf 153 = .ok (.ireturn, 1) := by decide +kernel
theorem dX7_valueOf_154 : decode cX7_valueOf 154 = .ok (.aload_n 0, 1) := by decide +kernel
theorem dX7_valueOf_155 : decode cX7_valueOf 155 = .ok (.getfield 7, 3) := by decide +kernel
theorem dX7_valueOf_158 : decode cX7_valueOf 158 = .ok (.iconst 1, 1) := by decide +kernel
theorem dX7_valueOf_159 : decode cX7_valueOf 159 = .ok (.iaload, 1) := by decide +kernel
theorem dX7_valueOf_160 : decode cX7_valueOf 160 = .ok (.ireturn, 1) := by decide +kernel
theorem dX7_valueOf_161 : decode cX7_valueOf 161 = .ok (.iload 4, 2) := by decide +kernel
theorem dX7_valueOf_163 : decode cX7_valueOf 163 = .ok (.ireturn, 1) := by decide +kernel
theorem dX7_value_0 : decode cX7_value 0 = .ok (.aload_n 0, 1) := by decide +kernel
theorem dX7_value_1 : decode cX7_value 1 = .ok (.iload_n 1, 1) := by decide +kernel
theorem dX7_value_2 : decode cX7_value 2 = .ok (.iconst 0, 1) := by decide +kernel
theorem dX7_value_3 : decode cX7_value 3 = .ok (.bipush 7, 2) := by decide +kernel
theorem dX7_value_5 : decode cX7_value 5 = .ok (.invokestatic 36, 3) := by decide +kernel
theorem dX7_value_8 : decode cX7_value 8 = .ok (.ifCond .ne 7, 3) := by decide +kernel
theorem dX7_value_11 : decode cX7_value 11 = .ok (.iconst 1, 1) := by decide +kernel
theorem dX7_value_12 : decode cX7_value 12 = .ok (.goto 4, 3) := by decide +kernel
theorem dX7_value_15 : decode cX7_value 15 = .ok (.iconst 0, 1) := by decide +kernel
theorem dX7_value_16 : decode cX7_value 16 = .ok (.iconst 0, 1) := by decide +kernel
theorem dX7_value_17 : decode cX7_value 17 = .ok (.iconst 0, 1) := by decide +kernel
theorem dX7_value_18 : decode cX7_value 18 = .ok (.invokevirtual 46, 3) := by decide +kernel
theorem dX7_value_21 : decode cX7_value 21 = .ok (.ifCond .eq 7, 3) := by decide +kernel
theorem dX7_value_24 : decode cX7_value 24 = .ok (.iconst 0, 1) := by decide +kernel
theorem dX7_value_25 : decode cX7_value 25 = .ok (.goto 8, 3) := by decide +kernel
theorem dX7_value_28 : decode cX7_value 28 = .ok (.aload_n 0, 1) := by decide +kernel
theorem dX7_value_29 : decode cX7_value 29 = .ok (.iload_n 1, 1) := by decide +kernel
theorem dX7_value_30 : decode cX7_value 30 = .ok (.invokevirtual 133, 3) := by decide +kernel
theorem dX7_value_33 : decode cX7_value 33 = .ok (.ireturn, 1) := by decide +kernel
theorem dX7_pathOf_0 : decode cX7_pathOf 0 = .ok (.aload_n 0, 1) := by decide +kernel
theorem dX7_pathOf_1 : decode cX7_pathOf 1 = .ok (.iload_n 1, 1) := by decide +kernel
theorem dX7_pathOf_2 : decode cX7_pathOf 2 = .ok (.invokevirtual 93, 3) := by decide +kernel
theorem dX7_pathOf_5 : decode cX7_pathOf 5 = .ok (.aload_n 0, 1) := by decide +kernel
theorem dX7_pathOf_6 : decode cX7_pathOf 6 = .ok (.getfield 87, 3) := by decide +kernel
theorem dX7_pathOf_9 : decode cX7_pathOf 9 = .ok (.iload_n 2, 1) := by decide +kernel
theorem dX7_pathOf_10 : decode cX7_pathOf 10 = .ok (.ishr, 1) := by decide +kernel
theorem dX7_pathOf_11 : decode cX7_pathOf 11 = .ok (.iconst 1, 1) := by decide +kernel
theorem dX7_pathOf_12 : decode cX7_pathOf 12 = .ok (.iand, 1) := by decide +kernel
theorem dX7_pathOf_13 : decode cX7_pathOf 13 = .ok (.ifCond .ne 7, 3) := by decide +kernel
theorem dX7_pathOf_16 : decode cX7_pathOf 16 = .ok (.iconst (-1), 1) := by decide +kernel
theorem dX7_pathOf_17 : decode cX7_pathOf 17 = .ok (.goto 8, 3) := by decide +kernel
theorem dX7_pathOf_20 : decode cX7_pathOf 20 = .ok (.aload_n 0, 1) := by decide +kernel
theorem dX7_pathOf_21 : decode cX7_pathOf 21 = .ok (.iload_n 2, 1) := by decide +kernel
theorem dX7_pathOf_22 : decode cX7_pathOf 22 = .ok (.invokevirtual 136, 3) := by decide +kernel
theorem dX7_pathOf_25 : decode cX7_pathOf 25 = .ok (.ireturn, 1) := by decide +kernel
theorem dX7_path_0 : decode cX7_path 0 = .ok (.aload_n 0, 1) := by decide +kernel
theorem dX7_path_1 : decode cX7_path 1 = .ok (.aload_n 0, 1) := by decide +kernel
theorem dX7_path_2 : decode cX7_path 2 = .ok (.iload_n 1, 1) := by decide +kernel
theorem dX7_path_3 : decode cX7_path 3 = .ok (.invokevirtual 60, 3) := by decide +kernel
theorem dX7_path_6 : decode cX7_path 6 = .ok (.ifCond .eq 11, 3) := by decide +kernel
theorem dX7_path_9 : decode cX7_path 9 = .ok (.aload_n 0, 1) := by decide +kernel
theorem dX7_path_10 : decode cX7_path 10 = .ok (.iload_n 2, 1) := by decide +kernel
theorem dX7_path_11 : decode cX7_path 11 = .ok (.invokevirtual 60, 3) := by decide +kernel
theorem dX7_path_14 : decode cX7_path 14 = .ok (.ifCond .ne 7, 3) := by decide +kernel
theorem dX7_path_17 : decode cX7_path 17 = .ok (.iconst 1, 1) := by decide +kernel
theorem dX7_path_18 : decode cX7_path 18 = .ok (.goto 4, 3) := by decide +kernel
theorem dX7_path_21 : decode cX7_path 21 = .ok (.iconst 0, 1) := by decide +kernel
theorem dX7_path_22 : decode cX7_path 22 = .ok (.iconst 0, 1) := by decide +kernel
theorem dX7_path_23 : decode cX7_path 23 = .ok (.iconst 0, 1) := by decide +kernel
theorem dX7_path_24 : decode cX7_path 24 = .ok (.invokevirtual 46, 3) := by decide +kernel
theorem dX7_path_27 : decode cX7_path 27 = .ok (.ifCond .eq 7, 3) := by decide +kernel
theorem dX7_path_30 : decode cX7_path 30 = .ok (.iconst 0, 1) := by decide +kernel
theorem dX7_path_31 : decode cX7_path 31 = .ok (.goto 9, 3) := by decide +kernel
theorem dX7_path_34 : decode cX7_path 34 = .ok (.aload_n 0, 1) := by decide +kernel
theorem dX7_path_35 : decode cX7_path 35 = .ok (.iload_n 1, 1) := by decide +kernel
theorem dX7_path_36 : decode cX7_path 36 = .ok (.iload_n 2, 1) := by decide +kernel
theorem dX7_path_37 : decode cX7_path 37 = .ok (.invokevirtual 139, 3) := by decide +kernel
theorem dX7_path_40 : decode cX7_path 40 = .ok (.ireturn, 1) := by decide +kernel
theorem dX7_step_0 : decode cX7_step 0 = .ok (.aload_n 0, 1) := by decide +kernel
theorem dX7_step_1 : decode cX7_step 1 = .ok (.aload_n 0, 1) := by decide +kernel
theorem dX7_step_2 : decode cX7_step 2 = .ok (.iload_n 1, 1) := by decide +kernel
theorem dX7_step_3 : decode cX7_step 3 = .ok (.invokevirtual 60, 3) := by decide +kernel
theorem dX7_step_6 : decode cX7_step 6 = .ok (.ifCond .eq 27, 3) := by decide +kernel
theorem dX7_step_9 : decode cX7_step 9 = .ok (.aload_n 0, 1) := by decide +kernel
theorem dX7_step_10 : decode cX7_step 10 = .ok (.iload_n 2, 1) := by decide +kernel
theorem dX7_step_11 : decode cX7_step 11 = .ok (.invokevirtual 60, 3) := by decide +kernel
theorem dX7_step_14 : decode cX7_step 14 = .ok (.ifCond .eq 19, 3) := by decide +kernel
theorem dX7_step_17 : decode cX7_step 17 = .ok (.iload_n 3, 1) := by decide +kernel
theorem dX7_step_18 : decode cX7_step 18 = .ok (.iconst 0, 1) := by decide +kernel
theorem dX7_step_19 : decode cX7_step 19 = .ok (.aload_n 0, 1) := by decide +kernel
theorem dX7_step_20 : decode cX7_step 20 = .ok (.iload_n 1, 1) := by decide +kernel
theorem dX7_step_21 : decode cX7_step 21 = .ok (.iload_n 2, 1) := by decide +kernel
theorem dX7_step_22 : decode cX7_step 22 = .ok (.invokevirtual 139, 3) := by decide +kernel
theorem dX7_step_25 : decode cX7_step 25 = .ok (.iconst 1, 1) := by decide +kernel
theorem dX7_step_26 : decode cX7_step 26 = .ok (.isub, 1) := by decide +kernel
theorem dX7_step_27 : decode cX7_step 27 = .ok (.invokestatic 36, 3) := by decide +kernel
theorem dX7_step_30 : decode cX7_step 30 = .ok (.ifCond .ne 7, 3) := by decide +kernel
theorem dX7_step_33 : decode cX7_step 33 = .ok (.iconst 1, 1) := by decide +kernel
theorem dX7_step_34 : decode cX7_step 34 = .ok (.goto 4, 3) := by decide +kernel
theorem dX7_step_37 : decode cX7_step 37 = .ok (.iconst 0, 1) := by decide +kernel
theorem dX7_step_38 : decode cX7_step 38 = .ok (.iconst 0, 1) := by decide +kernel
theorem dX7_step_39 : decode cX7_step 39 = .ok (.iconst 0, 1) := by decide +kernel
theorem dX7_step_40 : decode cX7_step 40 = .ok (.invokevirtual 46, 3) := by decide +kernel
theorem dX7_step_43 : decode cX7_step 43 = .ok (.ifCond .eq 5, 3) := by decide +kernel
theorem dX7_step_46 : decode cX7_step 46 = .ok (.iconst 0, 1) := by decide +kernel
theorem dX7_step_47 : decode cX7_step 47 = .ok (.ireturn, 1) := by decide +kernel
theorem dX7_step_48 : decode cX7_step 48 = .ok (.iload_n 2, 1) := by decide +kernel
theorem dX7_step_49 : decode cX7_step 49 = .ok (.istore 4, 2) := by decide +kernel
theorem dX7_step_51 : decode cX7_step 51 = .ok (.aload_n 0, 1) := by decide +kernel
theorem dX7_step_52 : decode cX7_step 52 = .ok (.iload_n 2, 1) := by decide +kernel
theorem dX7_step_53 : decode cX7_step 53 = .ok (.invokevirtual 136, 3) := by decide +kernel
theorem dX7_step_56 : decode cX7_step 56 = .ok (.iconst 1, 1) := by decide +kernel
theorem dX7_step_57 : decode cX7_step 57 = .ok (.isub, 1) := by decide +kernel
theorem dX7_step_58 : decode cX7_step 58 = .ok (.istore 5, 2) := by decide +kernel
theorem dX7_step_60 : decode cX7_step 60 = .ok (.iload 5, 2) := by decide +kernel
theorem dX7_step_62 : decode cX7_step 62 = .ok (.iload_n 3, 1) := by decide +kernel
theorem dX7_step_63 : decode cX7_step 63 = .ok (.if_icmp .le 22, 3) := by decide +kernel
theorem dX7_step_66 : decode cX7_step 66 = .ok (.aload_n 0, 1) := by decide +kernel
theorem dX7_step_67 : decode cX7_step 67 = .ok (.aload_n 0, 1) := by decide +kernel
theorem dX7_step_68 : decode cX7_step 68 = .ok (.getfield 25, 3) := by decide +kernel
theorem dX7_step_71 : decode cX7_step 71 = .ok (.iload 4, 2) := by decide +kernel
theorem dX7_step_73 : decode cX7_step 73 = .ok (.iaload, 1) := by decide +kernel
theorem dX7_step_74 : decode cX7_step 74 = .ok (.invokevirtual 50, 3) := by decide +kernel
theorem dX7_step_77 : decode cX7_step 77 = .ok (.istore 4, 2) := by decide +kernel
theorem dX7_step_79 : decode cX7_step 79 = .ok (.iinc 5 (-1), 3) := by decide +kernel
theorem dX7_step_82 : decode cX7_step 82 = .ok (.goto (-22), 3) := by decide +kernel
theorem dX7_step_85 : decode cX7_step 85 = .ok (.aload_n 0, 1) := by decide +kernel
theorem dX7_step_86 : decode cX7_step 86 = .ok (.getfield 7, 3) := by decide +kernel
theorem dX7_step_89 : decode cX7_step 89 = .ok (.bipush 16, 2) := by decide +kernel
theorem dX7_step_91 : decode cX7_step 91 = .ok (.aload_n 0, 1) := by decide +kernel
theorem dX7_step_92 : decode cX7_step 92 = .ok (.getfield 25, 3) := by decide +kernel
theorem dX7_step_95 : decode cX7_step 95 = .ok (.iload 4, 2) := by decide +kernel
theorem dX7_step_97 : decode cX7_step 97 = .ok (.iaload, 1) := by decide +kernel
theorem dX7_step_98 : decode cX7_step 98 = .ok (.iadd, 1) := by decide +kernel
theorem dX7_step_99 : decode cX7_step 99 = .ok (.iaload, 1) := by decide +kernel
theorem dX7_step_100 : decode cX7_step 100 = .ok (.ireturn, 1) := by decide +kernel
theorem dX7_innerOf_0 : decode cX7_innerOf 0 = .ok (.iload_n 3, 1) := by decide +kernel
theorem dX7_innerOf_1 : decode cX7_innerOf 1 = .ok (.ifCond .eq 14, 3) := by decide +kernel
theorem dX7_innerOf_4 : decode cX7_innerOf 4 = .ok (.iload_n 1, 1) := by decide +kernel
theorem dX7_innerOf_5 : decode cX7_innerOf 5 = .ok (.iload_n 3, 1) := by decide +kernel
theorem dX7_innerOf_6 : decode cX7_innerOf 6 = .ok (.iand, 1) := by decide +kernel
theorem dX7_innerOf_7 : decode cX7_innerOf 7 = .ok (.iload_n 3, 1) := by decide +kernel
theorem dX7_innerOf_8 : decode cX7_innerOf 8 = .ok (.if_icmp .ne 7, 3) := by decide +kernel
theorem dX7_innerOf_11 : decode cX7_innerOf 11 = .ok (.iconst 1, 1) := by decide +kernel
theorem dX7_innerOf_12 : decode cX7_innerOf 12 = .ok (.goto 4, 3) := by decide +kernel
theorem dX7_innerOf_15 : decode cX7_innerOf 15 = .ok (.iconst 0, 1) := by decide +kernel
theorem dX7_innerOf_16 : decode cX7_innerOf 16 = .ok (.istore 4, 2) := by decide +kernel
theorem dX7_innerOf_18 : decode cX7_innerOf 18 = .ok (.iconst 0, 1) := by decide +kernel
theorem dX7_innerOf_19 : decode cX7_innerOf 19 = .ok (.istore 5, 2) := by decide +kernel
theorem dX7_innerOf_21 : decode cX7_innerOf 21 = .ok (.iload 5, 2) := by decide +kernel
theorem dX7_innerOf_23 : decode cX7_innerOf 23 = .ok (.aload_n 0, 1) := by decide +kernel
theorem dX7_innerOf_24 : decode cX7_innerOf 24 = .ok (.getfield 7, 3) := by decide +kernel
theorem dX7_innerOf_27 : decode cX7_innerOf 27 = .ok (.iconst 3, 1) := by decide +kernel
theorem dX7_innerOf_28 : decode cX7_innerOf 28 = .ok (.iaload, 1) := by decide +kernel
theorem dX7_innerOf_29 : decode cX7_innerOf 29 = .ok (.if_icmp .ge 61, 3) := by decide +kernel
theorem dX7_innerOf_32 : decode cX7_innerOf 32 = .ok (.iload 4, 2) := by decide +kernel
theorem dX7_innerOf_34 : decode cX7_innerOf 34 = .ok (.iload 5, 2) := by decide +kernel
theorem dX7_innerOf_36 : decode cX7_innerOf 36 = .ok (.iload_n 2, 1) := by decide +kernel
theorem dX7_innerOf_37 : decode cX7_innerOf 37 = .ok (.if_icmp .eq 43, 3) := by decide +kernel
theorem dX7_innerOf_40 : decode cX7_innerOf 40 = .ok (.iload_n 1, 1) := by decide +kernel
theorem dX7_innerOf_41 : decode cX7_innerOf 41 = .ok (.aload_n 0, 1) := by decide +kernel
theorem dX7_innerOf_42 : decode cX7_innerOf 42 = .ok (.getfield 7, 3) := by decide +kernel
theorem dX7_innerOf_45 : decode cX7_innerOf 45 = .ok (.bipush 56, 2) := by decide +kernel
theorem dX7_innerOf_47 : decode cX7_innerOf 47 = .ok (.iload 5, 2) := by decide +kernel
theorem dX7_innerOf_49 : decode cX7_innerOf 49 = .ok (.iadd, 1) := by decide +kernel
theorem dX7_innerOf_50 : decode cX7_innerOf 50 = .ok (.iaload, 1) := by decide +kernel
theorem dX7_innerOf_51 : decode cX7_innerOf 51 = .ok (.ishr, 1) := by decide +kernel
