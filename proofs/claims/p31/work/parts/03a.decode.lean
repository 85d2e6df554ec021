theorem dX0_init_0 : decode cX0_init 0 = .ok (.aload_n 0, 1) := by decide +kernel
theorem dX0_init_1 : decode cX0_init 1 = .ok (.invokespecial 3, 3) := by decide +kernel
theorem dX0_init_4 : decode cX0_init 4 = .ok (.aload_n 0, 1) := by decide +kernel
theorem dX0_init_5 : decode cX0_init 5 = .ok (.new 9, 3) := by decide +kernel
theorem dX0_init_8 : decode cX0_init 8 = .ok (.dup, 1) := by decide +kernel
theorem dX0_init_9 : decode cX0_init 9 = .ok (.bipush 40, 2) := by decide +kernel
theorem dX0_init_11 : decode cX0_init 11 = .ok (.invokespecial 11, 3) := by decide +kernel
theorem dX0_init_14 : decode cX0_init 14 = .ok (.putfield 14, 3) := by decide +kernel
theorem dX0_init_17 : decode cX0_init 17 = .ok (.aload_n 0, 1) := by decide +kernel
theorem dX0_init_18 : decode cX0_init 18 = .ok (.new 9, 3) := by decide +kernel
theorem dX0_init_21 : decode cX0_init 21 = .ok (.dup, 1) := by decide +kernel
theorem dX0_init_22 : decode cX0_init 22 = .ok (.bipush 40, 2) := by decide +kernel
theorem dX0_init_24 : decode cX0_init 24 = .ok (.invokespecial 11, 3) := by decide +kernel
theorem dX0_init_27 : decode cX0_init 27 = .ok (.putfield 20, 3) := by decide +kernel
theorem dX0_init_30 : decode cX0_init 30 = .ok (.aload_n 0, 1) := by decide +kernel
theorem dX0_init_31 : decode cX0_init 31 = .ok (.new 9, 3) := by decide +kernel
theorem dX0_init_34 : decode cX0_init 34 = .ok (.dup, 1) := by decide +kernel
theorem dX0_init_35 : decode cX0_init 35 = .ok (.bipush 40, 2) := by decide +kernel
theorem dX0_init_37 : decode cX0_init 37 = .ok (.invokespecial 11, 3) := by decide +kernel
theorem dX0_init_40 : decode cX0_init 40 = .ok (.putfield 23, 3) := by decide +kernel
theorem dX0_init_43 : decode cX0_init 43 = .ok (.aload_n 0, 1) := by decide +kernel
theorem dX0_init_44 : decode cX0_init 44 = .ok (.new 9, 3) := by decide +kernel
theorem dX0_init_47 : decode cX0_init 47 = .ok (.dup, 1) := by decide +kernel
theorem dX0_init_48 : decode cX0_init 48 = .ok (.bipush 40, 2) := by decide +kernel
theorem dX0_init_50 : decode cX0_init 50 = .ok (.invokespecial 11, 3) := by decide +kernel
theorem dX0_init_53 : decode cX0_init 53 = .ok (.putfield 26, 3) := by decide +kernel
theorem dX0_init_56 : decode cX0_init 56 = .ok (.aload_n 0, 1) := by decide +kernel
theorem dX0_init_57 : decode cX0_init 57 = .ok (.new 9, 3) := by decide +kernel
theorem dX0_init_60 : decode cX0_init 60 = .ok (.dup, 1) := by decide +kernel
theorem dX0_init_61 : decode cX0_init 61 = .ok (.bipush 40, 2) := by decide +kernel
theorem dX0_init_63 : decode cX0_init 63 = .ok (.invokespecial 11, 3) := by decide +kernel
theorem dX0_init_66 : decode cX0_init 66 = .ok (.putfield 29, 3) := by decide +kernel
theorem dX0_init_69 : decode cX0_init 69 = .ok (.aload_n 0, 1) := by decide +kernel
theorem dX0_init_70 : decode cX0_init 70 = .ok (.new 9, 3) := by decide +kernel
theorem dX0_init_73 : decode cX0_init 73 = .ok (.dup, 1) := by decide +kernel
theorem dX0_init_74 : decode cX0_init 74 = .ok (.bipush 12, 2) := by decide +kernel
theorem dX0_init_76 : decode cX0_init 76 = .ok (.invokespecial 11, 3) := by decide +kernel
theorem dX0_init_79 : decode cX0_init 79 = .ok (.putfield 32, 3) := by decide +kernel
theorem dX0_init_82 : decode cX0_init 82 = .ok (.aload_n 0, 1) := by decide +kernel
theorem dX0_init_83 : decode cX0_init 83 = .ok (.new 9, 3) := by decide +kernel
theorem dX0_init_86 : decode cX0_init 86 = .ok (.dup, 1) := by decide +kernel
theorem dX0_init_87 : decode cX0_init 87 = .ok (.bipush 12, 2) := by decide +kernel
theorem dX0_init_89 : decode cX0_init 89 = .ok (.invokespecial 11, 3) := by decide +kernel
theorem dX0_init_92 : decode cX0_init 92 = .ok (.putfield 35, 3) := by decide +kernel
theorem dX0_init_95 : decode cX0_init 95 = .ok (.aload_n 0, 1) := by decide +kernel
theorem dX0_init_96 : decode cX0_init 96 = .ok (.bipush 6, 2) := by decide +kernel
theorem dX0_init_98 : decode cX0_init 98 = .ok (.invokevirtual 38, 3) := by decide +kernel
theorem dX0_init_101 : decode cX0_init 101 = .ok (.return_, 1) := by decide +kernel
theorem dX0_restart_0 : decode cX0_restart 0 = .ok (.aload_n 0, 1) := by decide +kernel
theorem dX0_restart_1 : decode cX0_restart 1 = .ok (.iload_n 1, 1) := by decide +kernel
theorem dX0_restart_2 : decode cX0_restart 2 = .ok (.putfield 41, 3) := by decide +kernel
theorem dX0_restart_5 : decode cX0_restart 5 = .ok (.aload_n 0, 1) := by decide +kernel
theorem dX0_restart_6 : decode cX0_restart 6 = .ok (.iconst 0, 1) := by decide +kernel
theorem dX0_restart_7 : decode cX0_restart 7 = .ok (.putfield 45, 3) := by decide +kernel
theorem dX0_restart_10 : decode cX0_restart 10 = .ok (.aload_n 0, 1) := by decide +kernel
theorem dX0_restart_11 : decode cX0_restart 11 = .ok (.iconst 0, 1) := by decide +kernel
theorem dX0_restart_12 : decode cX0_restart 12 = .ok (.putfield 48, 3) := by decide +kernel
theorem dX0_restart_15 : decode cX0_restart 15 = .ok (.aload_n 0, 1) := by decide +kernel
theorem dX0_restart_16 : decode cX0_restart 16 = .ok (.iconst 0, 1) := by decide +kernel
theorem dX0_restart_17 : decode cX0_restart 17 = .ok (.putfield 51, 3) := by decide +kernel
theorem dX0_restart_20 : decode cX0_restart 20 = .ok (.aload_n 0, 1) := by decide +kernel
theorem dX0_restart_21 : decode cX0_restart 21 = .ok (.getfield 32, 3) := by decide +kernel
theorem dX0_restart_24 : decode cX0_restart 24 = .ok (.iconst 0, 1) := by decide +kernel
theorem dX0_restart_25 : decode cX0_restart 25 = .ok (.invokevirtual 54, 3) := by decide +kernel
theorem dX0_restart_28 : decode cX0_restart 28 = .ok (.aload_n 0, 1) := by decide +kernel
theorem dX0_restart_29 : decode cX0_restart 29 = .ok (.getfield 35, 3) := by decide +kernel
theorem dX0_restart_32 : decode cX0_restart 32 = .ok (.iconst 3, 1) := by decide +kernel
theorem dX0_restart_33 : decode cX0_restart 33 = .ok (.invokevirtual 54, 3) := by decide +kernel
theorem dX0_restart_36 : decode cX0_restart 36 = .ok (.return_, 1) := by decide +kernel
theorem dX0_copyFrom_0 : decode cX0_copyFrom 0 = .ok (.aload_n 0, 1) := by decide +kernel
theorem dX0_copyFrom_1 : decode cX0_copyFrom 1 = .ok (.getfield 14, 3) := by decide +kernel
theorem dX0_copyFrom_4 : decode cX0_copyFrom 4 = .ok (.aload_n 1, 1) := by decide +kernel
theorem dX0_copyFrom_5 : decode cX0_copyFrom 5 = .ok (.getfield 14, 3) := by decide +kernel
theorem dX0_copyFrom_8 : decode cX0_copyFrom 8 = .ok (.invokevirtual 57, 3) := by decide +kernel
theorem dX0_copyFrom_11 : decode cX0_copyFrom 11 = .ok (.aload_n 0, 1) := by decide +kernel
theorem dX0_copyFrom_12 : decode cX0_copyFrom 12 = .ok (.getfield 20, 3) := by decide +kernel
theorem dX0_copyFrom_15 : decode cX0_copyFrom 15 = .ok (.aload_n 1, 1) := by decide +kernel
theorem dX0_copyFrom_16 : decode cX0_copyFrom 16 = .ok (.getfield 20, 3) := by decide +kernel
theorem dX0_copyFrom_19 : decode cX0_copyFrom 19 = .ok (.invokevirtual 57, 3) := by decide +kernel
theorem dX0_copyFrom_22 : decode cX0_copyFrom 22 = .ok (.aload_n 0, 1) := by decide +kernel
theorem dX0_copyFrom_23 : decode cX0_copyFrom 23 = .ok (.getfield 23, 3) := by decide +kernel
theorem dX0_copyFrom_26 : decode cX0_copyFrom 26 = .ok (.aload_n 1, 1) := by decide +kernel
theorem dX0_copyFrom_27 : decode cX0_copyFrom 27 = .ok (.getfield 23, 3) := by decide +kernel
theorem dX0_copyFrom_30 : decode cX0_copyFrom 30 = .ok (.invokevirtual 57, 3) := by decide +kernel
theorem dX0_copyFrom_33 : decode cX0_copyFrom 33 = .ok (.aload_n 0, 1) := by decide +kernel
theorem dX0_copyFrom_34 : decode cX0_copyFrom 34 = .ok (.getfield 26, 3) := by decide +kernel
theorem dX0_copyFrom_37 : decode cX0_copyFrom 37 = .ok (.aload_n 1, 1) := by decide +kernel
theorem dX0_copyFrom_38 : decode cX0_copyFrom 38 = .ok (.getfield 26, 3) := by decide +kernel
theorem dX0_copyFrom_41 : decode cX0_copyFrom 41 = .ok (.invokevirtual 57, 3) := by decide +kernel
theorem dX0_copyFrom_44 : decode cX0_copyFrom 44 = .ok (.aload_n 0, 1) := by decide +kernel
theorem dX0_copyFrom_45 : decode cX0_copyFrom 45 = .ok (.getfield 29, 3) := by decide +kernel
theorem dX0_copyFrom_48 : decode cX0_copyFrom 48 = .ok (.aload_n 1, 1) := by decide +kernel
theorem dX0_copyFrom_49 : decode cX0_copyFrom 49 = .ok (.getfield 29, 3) := by decide +kernel
theorem dX0_copyFrom_52 : decode cX0_copyFrom 52 = .ok (.invokevirtual 57, 3) := by decide +kernel
theorem dX0_copyFrom_55 : decode cX0_copyFrom 55 = .ok (.aload_n 0, 1) := by decide +kernel
theorem dX0_copyFrom_56 : decode cX0_copyFrom 56 = .ok (.getfield 32, 3) := by decide +kernel
theorem dX0_copyFrom_59 : decode cX0_copyFrom 59 = .ok (.aload_n 1, 1) := by decide +kernel
theorem dX0_copyFrom_60 : decode cX0_copyFrom 60 = .ok (.getfield 32, 3) := by decide +kernel
theorem dX0_copyFrom_63 : decode cX0_copyFrom 63 = .ok (.invokevirtual 57, 3) := by decide +kernel
theorem dX0_copyFrom_66 : decode cX0_copyFrom 66 = .ok (.aload_n 0, 1) := by decide +kernel
theorem dX0_copyFrom_67 : decode cX0_copyFrom 67 = .ok (.getfield 35, 3) := by decide +kernel
theorem dX0_copyFrom_70 : decode cX0_copyFrom 70 = .ok (.aload_n 1, 1) := by decide +kernel
theorem dX0_copyFrom_71 : decode cX0_copyFrom 71 = .ok (.getfield 35, 3) := by decide +kernel
theorem dX0_copyFrom_74 : decode cX0_copyFrom 74 = .ok (.invokevirtual 57, 3) := by decide +kernel
theorem dX0_copyFrom_77 : decode cX0_copyFrom 77 = .ok (.aload_n 0, 1) := by decide +kernel
theorem dX0_copyFrom_78 : decode cX0_copyFrom 78 = .ok (.aload_n 1, 1) := by decide +kernel
theorem dX0_copyFrom_79 : decode cX0_copyFrom 79 = .ok (.getfield 41, 3) := by decide +kernel
theorem dX0_copyFrom_82 : decode cX0_copyFrom 82 = .ok (.putfield 41, 3) := by decide +kernel
theorem dX0_copyFrom_85 : decode cX0_copyFrom 85 = .ok (.aload_n 0, 1) := by decide +kernel
theorem dX0_copyFrom_86 : decode cX0_copyFrom 86 = .ok (.aload_n 1, 1) := by decide +kernel
theorem dX0_copyFrom_87 : decode cX0_copyFrom 87 = .ok (.getfield 45, 3) := by decide +kernel
theorem dX0_copyFrom_90 : decode cX0_copyFrom 90 = .ok (.putfield 45, 3) := by decide +kernel
theorem dX0_copyFrom_93 : decode cX0_copyFrom 93 = .ok (.aload_n 0, 1) := by decide +kernel
theorem dX0_copyFrom_94 : decode cX0_copyFrom 94 = .ok (.aload_n 1, 1) := by decide +kernel
theorem dX0_copyFrom_95 : decode cX0_copyFrom 95 = .ok (.getfield 48, 3) := by decide +kernel
theorem dX0_copyFrom_98 : decode cX0_copyFrom 98 = .ok (.putfield 48, 3) := by decide +kernel
theorem dX0_copyFrom_101 : decode cX0_copyFrom 101 = .ok (.aload_n 0, 1) := by decide +kernel
theorem dX0_copyFrom_102 : decode cX0_copyFrom 102 = .ok (.aload_n 1, 1) := by decide +kernel
theorem dX0_copyFrom_103 : decode cX0_copyFrom 103 = .ok (.getfield 51, 3) := by decide +kernel
theorem dX0_copyFrom_106 : decode cX0_copyFrom 106 = .ok (.putfield 51, 3) := by decide +kernel
theorem dX0_copyFrom_109 : decode cX0_copyFrom 109 = .ok (.return_, 1) := by decide +kernel
theorem dX0_hasNode_0 : decode cX0_hasNode 0 = .ok (.iload_n 1, 1) := by decide +kernel
theorem dX0_hasNode_1 : decode cX0_hasNode 1 = .ok (.ifCond .lt 15, 3) := by decide +kernel
theorem dX0_hasNode_4 : decode cX0_hasNode 4 = .ok (.iload_n 1, 1) := by decide +kernel
theorem dX0_hasNode_5 : decode cX0_hasNode 5 = .ok (.aload_n 0, 1) := by decide +kernel
theorem dX0_hasNode_6 : decode cX0_hasNode 6 = .ok (.getfield 41, 3) := by decide +kernel
theorem dX0_hasNode_9 : decode cX0_hasNode 9 = .ok (.if_icmp .ge 7, 3) := by decide +kernel
theorem dX0_hasNode_12 : decode cX0_hasNode 12 = .ok (.iconst 1, 1) := by decide +kernel
theorem dX0_hasNode_13 : decode cX0_hasNode 13 = .ok (.goto 4, 3) := by decide +kernel
theorem dX0_hasNode_16 : decode cX0_hasNode 16 = .ok (.iconst 0, 1) := by decide +kernel
theorem dX0_hasNode_17 : decode cX0_hasNode 17 = .ok (.ireturn, 1) := by decide +kernel
theorem dX0_isFull_0 : decode cX0_isFull 0 = .ok (.aload_n 0, 1) := by decide +kernel
theorem dX0_isFull_1 : decode cX0_isFull 1 = .ok (.getfield 45, 3) := by decide +kernel
theorem dX0_isFull_4 : decode cX0_isFull 4 = .ok (.bipush 40, 2) := by decide +kernel
theorem dX0_isFull_6 : decode cX0_isFull 6 = .ok (.if_icmp .lt 7, 3) := by decide +kernel
theorem dX0_isFull_9 : decode cX0_isFull 9 = .ok (.iconst 1, 1) := by decide +kernel
theorem dX0_isFull_10 : decode cX0_isFull 10 = .ok (.goto 4, 3) := by decide +kernel
theorem dX0_isFull_13 : decode cX0_isFull 13 = .ok (.iconst 0, 1) := by decide +kernel
theorem dX0_isFull_14 : decode cX0_isFull 14 = .ok (.ireturn, 1) := by decide +kernel
theorem dX0_slotOf_0 : decode cX0_slotOf 0 = .ok (.iconst 0, 1) := by decide +kernel
theorem dX0_slotOf_1 : decode cX0_slotOf 1 = .ok (.istore_n 2, 1) := by decide +kernel
theorem dX0_slotOf_2 : decode cX0_slotOf 2 = .ok (.iload_n 2, 1) := by decide +kernel
theorem dX0_slotOf_3 : decode cX0_slotOf 3 = .ok (.aload_n 0, 1) := by decide +kernel
theorem dX0_slotOf_4 : decode cX0_slotOf 4 = .ok (.getfield 45, 3) := by decide +kernel
theorem dX0_slotOf_7 : decode cX0_slotOf 7 = .ok (.if_icmp .ge 23, 3) := by decide +kernel
theorem dX0_slotOf_10 : decode cX0_slotOf 10 = .ok (.aload_n 0, 1) := by decide +kernel
theorem dX0_slotOf_11 : decode cX0_slotOf 11 = .ok (.getfield 14, 3) := by decide +kernel
theorem dX0_slotOf_14 : decode cX0_slotOf 14 = .ok (.iload_n 2, 1) := by decide +kernel
theorem dX0_slotOf_15 : decode cX0_slotOf 15 = .ok (.invokevirtual 61, 3) := by decide +kernel
theorem dX0_slotOf_18 : decode cX0_slotOf 18 = .ok (.iload_n 1, 1) := by decide +kernel
theorem dX0_slotOf_19 : decode cX0_slotOf 19 = .ok (.if_icmp .ne 5, 3) := by decide +kernel
theorem dX0_slotOf_22 : decode cX0_slotOf 22 = .ok (.iload_n 2, 1) := by decide +kernel
theorem dX0_slotOf_23 : decode cX0_slotOf 23 = .ok (.ireturn, 1) := by decide +kernel
theorem dX0_slotOf_24 : decode cX0_slotOf 24 = .ok (.iinc 2 1, 3) := by decide +kernel
theorem dX0_slotOf_27 : decode cX0_slotOf 27 = .ok (.goto (-25), 3) := by decide +kernel
theorem dX0_slotOf_30 : decode cX0_slotOf 30 = .ok (.iconst (-1), 1) := by decide +kernel
theorem dX0_slotOf_31 : decode cX0_slotOf 31 = .ok (.ireturn, 1) := by decide +kernel
theorem dX0_join_0 : decode cX0_join 0 = .ok (.aload_n 0, 1) := by decide +kernel
theorem dX0_join_1 : decode cX0_join 1 = .ok (.getfield 45, 3) := by decide +kernel
theorem dX0_join_4 : decode cX0_join 4 = .ok (.istore_n 3, 1) := by decide +kernel
theorem dX0_join_5 : decode cX0_join 5 = .ok (.aload_n 0, 1) := by decide +kernel
theorem dX0_join_6 : decode cX0_join 6 = .ok (.getfield 48, 3) := by decide +kernel
theorem dX0_join_9 : decode cX0_join 9 = .ok (.istore 4, 2) := by decide +kernel
theorem dX0_join_11 : decode cX0_join 11 = .ok (.aload_n 0, 1) := by decide +kernel
theorem dX0_join_12 : decode cX0_join 12 = .ok (.getfield 32, 3) := by decide +kernel
theorem dX0_join_15 : decode cX0_join 15 = .ok (.iload_n 2, 1) := by decide +kernel
theorem dX0_join_16 : decode cX0_join 16 = .ok (.invokevirtual 61, 3) := by decide +kernel
theorem dX0_join_19 : decode cX0_join 19 = .ok (.aload_n 0, 1) := by decide +kernel
theorem dX0_join_20 : decode cX0_join 20 = .ok (.getfield 32, 3) := by decide +kernel
theorem dX0_join_23 : decode cX0_join 23 = .ok (.iload_n 1, 1) := by decide +kernel
theorem dX0_join_24 : decode cX0_join 24 = .ok (.invokevirtual 61, 3) := by decide +kernel
theorem dX0_join_27 : decode cX0_join 27 = .ok (.if_icmp .ge 7, 3) := by decide +kernel
theorem dX0_join_30 : decode cX0_join 30 = .ok (.iload_n 2, 1) := by decide +kernel
theorem dX0_join_31 : decode cX0_join 31 = .ok (.goto 4, 3) := by decide +kernel
theorem dX0_join_34 : decode cX0_join 34 = .ok (.iload_n 1, 1) := by decide +kernel
theorem dX0_join_35 : decode cX0_join 35 = .ok (.istore 5, 2) := by decide +kernel
theorem dX0_join_37 : decode cX0_join 37 = .ok (.aload_n 0, 1) := by decide +kernel
theorem dX0_join_38 : decode cX0_join 38 = .ok (.getfield 14, 3) := by decide +kernel
theorem dX0_join_41 : decode cX0_join 41 = .ok (.iload_n 3, 1) := by decide +kernel
theorem dX0_join_42 : decode cX0_join 42 = .ok (.iload 4, 2) := by decide +kernel
theorem dX0_join_44 : decode cX0_join 44 = .ok (.invokevirtual 65, 3) := by decide +kernel
theorem dX0_join_47 : decode cX0_join 47 = .ok (.aload_n 0, 1) := by decide +kernel
theorem dX0_join_48 : decode cX0_join 48 = .ok (.getfield 20, 3) := by decide +kernel
theorem dX0_join_51 : decode cX0_join 51 = .ok (.iload_n 3, 1) := by decide +kernel
theorem dX0_join_52 : decode cX0_join 52 = .ok (.iload_n 1, 1) := by decide +kernel
theorem dX0_join_53 : decode cX0_join 53 = .ok (.invokevirtual 65, 3) := by decide +kernel
theorem dX0_join_56 : decode cX0_join 56 = .ok (.aload_n 0, 1) := by decide +kernel
theorem dX0_join_57 : decode cX0_join 57 = .ok (.getfield 23, 3) := by decide +kernel
theorem dX0_join_60 : decode cX0_join 60 = .ok (.iload_n 3, 1) := by decide +kernel
theorem dX0_join_61 : decode cX0_join 61 = .ok (.iload_n 2, 1) := by decide +kernel
theorem dX0_join_62 : decode cX0_join 62 = .ok (.invokevirtual 65, 3) := by decide +kernel
theorem dX0_join_65 : decode cX0_join 65 = .ok (.aload_n 0, 1) := by decide +kernel
theorem dX0_join_66 : decode cX0_join 66 = .ok (.getfield 26, 3) := by decide +kernel
theorem dX0_join_69 : decode cX0_join 69 = .ok (.iload_n 3, 1) := by decide +kernel
theorem dX0_join_70 : decode cX0_join 70 = .ok (.iload 5, 2) := by decide +kernel
theorem dX0_join_72 : decode cX0_join 72 = .ok (.invokevirtual 65, 3) := by decide +kernel
theorem dX0_join_75 : decode cX0_join 75 = .ok (.aload_n 0, 1) := by decide +kernel
theorem dX0_join_76 : decode cX0_join 76 = .ok (.getfield 29, 3) := by decide +kernel
theorem dX0_join_79 : decode cX0_join 79 = .ok (.iload_n 3, 1) := by decide +kernel
theorem dX0_join_80 : decode cX0_join 80 = .ok (.iconst 0, 1) := by decide +kernel
theorem dX0_join_81 : decode cX0_join 81 = .ok (.invokevirtual 65, 3) := by decide +kernel
theorem dX0_join_84 : decode cX0_join 84 = .ok (.aload_n 0, 1) := by decide +kernel
theorem dX0_join_85 : decode cX0_join 85 = .ok (.getfield 32, 3) := by decide +kernel
theorem dX0_join_88 : decode cX0_join 88 = .ok (.iload 5, 2) := by decide +kernel
theorem dX0_join_90 : decode cX0_join 90 = .ok (.iconst 1, 1) := by decide +kernel
theorem dX0_join_91 : decode cX0_join 91 = .ok (.invokevirtual 69, 3) := by decide +kernel
theorem dX0_join_94 : decode cX0_join 94 = .ok (.aload_n 0, 1) := by decide +kernel
theorem dX0_join_95 : decode cX0_join 95 = .ok (.dup, 1) := by decide +kernel
theorem dX0_join_96 : decode cX0_join 96 = .ok (.getfield 45, 3) := by decide +kernel
theorem dX0_join_99 : decode cX0_join 99 = .ok (.iconst 1, 1) := by decide +kernel
theorem dX0_join_100 : decode cX0_join 100 = .ok (.iadd, 1) := by decide +kernel
theorem dX0_join_101 : decode cX0_join 101 = .ok (.putfield 45, 3) := by decide +kernel
theorem dX0_join_104 : decode cX0_join 104 = .ok (.aload_n 0, 1) := by decide +kernel
theorem dX0_join_105 : decode cX0_join 105 = .ok (.dup, 1) := by decide +kernel
theorem dX0_join_106 : decode cX0_join 106 = .ok (.getfield 48, 3) := by decide +kernel
theorem dX0_join_109 : decode cX0_join 109 = .ok (.iconst 1, 1) := by decide +kernel
theorem dX0_join_110 : decode cX0_join 110 = .ok (.iadd, 1) := by decide +kernel
theorem dX0_join_111 : decode cX0_join 111 = .ok (.putfield 48, 3) := by decide +kernel
theorem dX0_join_114 : decode cX0_join 114 = .ok (.iload 4, 2) := by decide +kernel
theorem dX0_join_116 : decode cX0_join 116 = .ok (.ireturn, 1) := by decide +kernel
theorem dX0_cut_0 : decode cX0_cut 0 = .ok (.aload_n 0, 1) := by decide +kernel
theorem dX0_cut_1 : decode cX0_cut 1 = .ok (.getfield 26, 3) := by decide +kernel
theorem dX0_cut_4 : decode cX0_cut 4 = .ok (.iload_n 1, 1) := by decide +kernel
theorem dX0_cut_5 : decode cX0_cut 5 = .ok (.invokevirtual 61, 3) := by decide +kernel
theorem dX0_cut_8 : decode cX0_cut 8 = .ok (.istore_n 2, 1) := by decide +kernel
theorem dX0_cut_9 : decode cX0_cut 9 = .ok (.aload_n 0, 1) := by decide +kernel
theorem dX0_cut_10 : decode cX0_cut 10 = .ok (.getfield 32, 3) := by decide +kernel
theorem dX0_cut_13 : decode cX0_cut 13 = .ok (.iload_n 2, 1) := by decide +kernel
theorem dX0_cut_14 : decode cX0_cut 14 = .ok (.iconst (-1), 1) := by decide +kernel
theorem dX0_cut_15 : decode cX0_cut 15 = .ok (.invokevirtual 69, 3) := by decide +kernel
theorem dX0_cut_18 : decode cX0_cut 18 = .ok (.aload_n 0, 1) := by decide +kernel
theorem dX0_cut_19 : decode cX0_cut 19 = .ok (.getfield 14, 3) := by decide +kernel
theorem dX0_cut_22 : decode cX0_cut 22 = .ok (.iload_n 1, 1) := by decide +kernel
theorem dX0_cut_23 : decode cX0_cut 23 = .ok (.invokevirtual 72, 3) := by decide +kernel
theorem dX0_cut_26 : decode cX0_cut 26 = .ok (.aload_n 0, 1) := by decide +kernel
theorem dX0_cut_27 : decode cX0_cut 27 = .ok (.getfield 20, 3) := by decide +kernel
theorem dX0_cut_30 : decode cX0_cut 30 = .ok (.iload_n 1, 1) := by decide +kernel
theorem dX0_cut_31 : decode cX0_cut 31 = .ok (.invokevirtual 72, 3) := by decide +kernel
theorem dX0_cut_34 : decode cX0_cut 34 = .ok (.aload_n 0, 1) := by decide +kernel
theorem dX0_cut_35 : decode cX0_cut 35 = .ok (.getfield 23, 3) := by decide +kernel
theorem dX0_cut_38 : decode cX0_cut 38 = .ok (.iload_n 1, 1) := by decide +kernel
theorem dX0_cut_39 : decode cX0_cut 39 = .ok (.invokevirtual 72, 3) := by decide +kernel
theorem dX0_cut_42 : decode cX0_cut 42 = .ok (.aload_n 0, 1) := by decide +kernel
theorem dX0_cut_43 : decode cX0_cut 43 = .ok (.getfield 26, 3) := by decide +kernel
theorem dX0_cut_46 : decode cX0_cut 46 = .ok (.iload_n 1, 1) := by decide +kernel
theorem dX0_cut_47 : decode cX0_cut 47 = .ok (.invokevirtual 72, 3) := by decide +kernel
theorem dX0_cut_50 : decode cX0_cut 50 = .ok (.aload_n 0, 1) := by decide +kernel
theorem dX0_cut_51 : decode cX0_cut 51 = .ok (.getfield 29, 3) := by decide +kernel
theorem dX0_cut_54 : decode cX0_cut 54 = .ok (.iload_n 1, 1) := by decide +kernel
theorem dX0_cut_55 : decode cX0_cut 55 = .ok (.invokevirtual 72, 3) := by decide +kernel
theorem dX0_cut_58 : decode cX0_cut 58 = .ok (.aload_n 0, 1) := by decide +kernel
theorem dX0_cut_59 : decode cX0_cut 59 = .ok (.dup, 1) := by decide +kernel
theorem dX0_cut_60 : decode cX0_cut 60 = .ok (.getfield 45, 3) := by decide +kernel
theorem dX0_cut_63 : decode cX0_cut 63 = .ok (.iconst 1, 1) := by decide +kernel
theorem dX0_cut_64 : decode cX0_cut 64 = .ok (.isub, 1) := by decide +kernel
theorem dX0_cut_65 : decode cX0_cut 65 = .ok (.putfield 45, 3) := by decide +kernel
theorem dX0_cut_68 : decode cX0_cut 68 = .ok (.iload_n 2, 1) := by decide +kernel
theorem dX0_cut_69 : decode cX0_cut 69 = .ok (.ireturn, 1) := by decide +kernel
theorem dX0_flip_0 : decode cX0_flip 0 = .ok (.aload_n 0, 1) := by decide +kernel
theorem dX0_flip_1 : decode cX0_flip 1 = .ok (.getfield 26, 3) := by decide +kernel
theorem dX0_flip_4 : decode cX0_flip 4 = .ok (.iload_n 1, 1) := by decide +kernel
theorem dX0_flip_5 : decode cX0_flip 5 = .ok (.invokevirtual 61, 3) := by decide +kernel
theorem dX0_flip_8 : decode cX0_flip 8 = .ok (.istore_n 2, 1) := by decide +kernel
theorem dX0_flip_9 : decode cX0_flip 9 = .ok (.aload_n 0, 1) := by decide +kernel
theorem dX0_flip_10 : decode cX0_flip 10 = .ok (.getfield 20, 3) := by decide +kernel
theorem dX0_flip_13 : decode cX0_flip 13 = .ok (.iload_n 1, 1) := by decide +kernel
theorem dX0_flip_14 : decode cX0_flip 14 = .ok (.invokevirtual 61, 3) := by decide +kernel
theorem dX0_flip_17 : decode cX0_flip 17 = .ok (.aload_n 0, 1) := by decide +kernel
theorem dX0_flip_18 : decode cX0_flip 18 = .ok (.getfield 23, 3) := by decide +kernel
theorem dX0_flip_21 : decode cX0_flip 21 = .ok (.iload_n 1, 1) := by decide +kernel
theorem dX0_flip_22 : decode cX0_flip 22 = .ok (.invokevirtual 61, 3) := by decide +kernel
theorem dX0_flip_25 : decode cX0_flip 25 = .ok (.iadd, 1) := by decide +kernel
theorem dX0_flip_26 : decode cX0_flip 26 = .ok (.iload_n 2, 1) := by decide +kernel
theorem dX0_flip_27 : decode cX0_flip 27 = .ok (.isub, 1) := by decide +kernel
theorem dX0_flip_28 : decode cX0_flip 28 = .ok (.istore_n 3, 1) := by decide +kernel
theorem dX0_flip_29 : decode cX0_flip 29 = .ok (.aload_n 0, 1) := by decide +kernel
theorem dX0_flip_30 : decode cX0_flip 30 = .ok (.getfield 32, 3) := by decide +kernel
theorem dX0_flip_33 : decode cX0_flip 33 = .ok (.iload_n 2, 1) := by decide +kernel
theorem dX0_flip_34 : decode cX0_flip 34 = .ok (.iconst (-1), 1) := by decide +kernel
theorem dX0_flip_35 : decode cX0_flip 35 = .ok (.invokevirtual 69, 3) := by decide +kernel
theorem dX0_flip_38 : decode cX0_flip 38 = .ok (.aload_n 0, 1) := by decide +kernel
theorem dX0_flip_39 : decode cX0_flip 39 = .ok (.getfield 32, 3) := by decide +kernel
theorem dX0_flip_42 : decode cX0_flip 42 = .ok (.iload_n 3, 1) := by decide +kernel
theorem dX0_flip_43 : decode cX0_flip 43 = .ok (.iconst 1, 1) := by decide +kernel
theorem dX0_flip_44 : decode cX0_flip 44 = .ok (.invokevirtual 69, 3) := by decide +kernel
theorem dX0_flip_47 : decode cX0_flip 47 = .ok (.aload_n 0, 1) := by decide +kernel
theorem dX0_flip_48 : decode cX0_flip 48 = .ok (.getfield 26, 3) := by decide +kernel
theorem dX0_flip_51 : decode cX0_flip 51 = .ok (.iload_n 1, 1) := by decide +kernel
theorem dX0_flip_52 : decode cX0_flip 52 = .ok (.iload_n 3, 1) := by decide +kernel
theorem dX0_flip_53 : decode cX0_flip 53 = .ok (.invokevirtual 65, 3) := by decide +kernel
theorem dX0_flip_56 : decode cX0_flip 56 = .ok (.aload_n 0, 1) := by decide +kernel
theorem dX0_flip_57 : decode cX0_flip 57 = .ok (.getfield 29, 3) := by decide +kernel
theorem dX0_flip_60 : decode cX0_flip 60 = .ok (.iload_n 1, 1) := by decide +kernel
theorem dX0_flip_61 : decode cX0_flip 61 = .ok (.iconst 1, 1) := by decide +kernel
theorem dX0_flip_62 : decode cX0_flip 62 = .ok (.invokevirtual 69, 3) := by decide +kernel
theorem dX0_flip_65 : decode cX0_flip 65 = .ok (.aload_n 0, 1) := by decide +kernel
theorem dX0_flip_66 : decode cX0_flip 66 = .ok (.dup, 1) := by decide +kernel
theorem dX0_flip_67 : decode cX0_flip 67 = .ok (.getfield 51, 3) := by decide +kernel
theorem dX0_flip_70 : decode cX0_flip 70 = .ok (.iconst 1, 1) := by decide +kernel
theorem dX0_flip_71 : decode cX0_flip 71 = .ok (.iadd, 1) := by decide +kernel
theorem dX0_flip_72 : decode cX0_flip 72 = .ok (.putfield 51, 3) := by decide +kernel
theorem dX0_flip_75 : decode cX0_flip 75 = .ok (.iload_n 3, 1) := by decide +kernel
theorem dX0_flip_76 : decode cX0_flip 76 = .ok (.ireturn, 1) := by decide +kernel
theorem dX0_endNotHolding_0 : decode cX0_endNotHolding 0 = .ok (.aload_n 0, 1) := by decide +kernel
theorem dX0_endNotHolding_1 : decode cX0_endNotHolding 1 = .ok (.getfield 20, 3) := by decide +kernel
theorem dX0_endNotHolding_4 : decode cX0_endNotHolding 4 = .ok (.iload_n 1, 1) := by decide +kernel
theorem dX0_endNotHolding_5 : decode cX0_endNotHolding 5 = .ok (.invokevirtual 61, 3) := by decide +kernel
theorem dX0_endNotHolding_8 : decode cX0_endNotHolding 8 = .ok (.aload_n 0, 1) := by decide +kernel
theorem dX0_endNotHolding_9 : decode cX0_endNotHolding 9 = .ok (.getfield 23, 3) := by decide +kernel
theorem dX0_endNotHolding_12 : decode cX0_endNotHolding 12 = .ok (.iload_n 1, 1) := by decide +kernel
theorem dX0_endNotHolding_13 : decode cX0_endNotHolding 13 = .ok (.invokevirtual 61, 3) := by decide +kernel
theorem dX0_endNotHolding_16 : decode cX0_endNotHolding 16 = .ok (.iadd, 1) := by decide +kernel
theorem dX0_endNotHolding_17 : decode cX0_endNotHolding 17 = .ok (.aload_n 0, 1) := by decide +kernel
theorem dX0_endNotHolding_18 : decode cX0_endNotHolding 18 = .ok (.getfield 26, 3) := by decide +kernel
theorem dX0_endNotHolding_21 : decode cX0_endNotHolding 21 = .ok (.iload_n 1, 1) := by decide +kernel
theorem dX0_endNotHolding_22 : decode cX0_endNotHolding 22 = .ok (.invokevirtual 61, 3) := by decide +kernel
theorem dX0_endNotHolding_25 : decode cX0_endNotHolding 25 = .ok (.isub, 1) := by decide +kernel
theorem dX0_endNotHolding_26 : decode cX0_endNotHolding 26 = .ok (.ireturn, 1) := by decide +kernel
theorem dX0_endsOf_0 : decode cX0_endsOf 0 = .ok (.iconst 1, 1) := by decide +kernel
theorem dX0_endsOf_1 : decode cX0_endsOf 1 = .ok (.aload_n 0, 1) := by decide +kernel
theorem dX0_endsOf_2 : decode cX0_endsOf 2 = .ok (.getfield 20, 3) := by decide +kernel
theorem dX0_endsOf_5 : decode cX0_endsOf 5 = .ok (.iload_n 1, 1) := by decide +kernel
theorem dX0_endsOf_6 : decode cX0_endsOf 6 = .ok (.invokevirtual 61, 3) := by decide +kernel
theorem dX0_endsOf_9 : decode cX0_endsOf 9 = .ok (.ishl, 1) := by decide +kernel
theorem dX0_endsOf_10 : decode cX0_endsOf 10 = .ok (.iconst 1, 1) := by decide +kernel
theorem dX0_endsOf_11 : decode cX0_endsOf 11 = .ok (.aload_n 0, 1) := by decide +kernel
theorem dX0_endsOf_12 : decode cX0_endsOf 12 = .ok (.getfield 23, 3) := by decide +kernel
theorem dX0_endsOf_15 : decode cX0_endsOf 15 = .ok (.iload_n 1, 1) := by decide +kernel
theorem dX0_endsOf_16 : decode cX0_endsOf 16 = .ok (.invokevirtual 61, 3) := by decide +kernel
theorem dX0_endsOf_19 : decode cX0_endsOf 19 = .ok (.ishl, 1) := by decide +kernel
theorem dX0_endsOf_20 : decode cX0_endsOf 20 = .ok (.ior, 1) := by decide +kernel
theorem dX0_endsOf_21 : decode cX0_endsOf 21 = .ok (.ireturn, 1) := by decide +kernel
theorem dX0_edgesOf_0 : decode cX0_edgesOf 0 = .ok (.iconst 0, 1) := by decide +kernel
theorem dX0_edgesOf_1 : decode cX0_edgesOf 1 = .ok (.istore_n 2, 1) := by decide +kernel
theorem dX0_edgesOf_2 : decode cX0_edgesOf 2 = .ok (.iconst 0, 1) := by decide +kernel
theorem dX0_edgesOf_3 : decode cX0_edgesOf 3 = .ok (.istore_n 3, 1) := by decide +kernel
theorem dX0_edgesOf_4 : decode cX0_edgesOf 4 = .ok (.iload_n 3, 1) := by decide +kernel
theorem dX0_edgesOf_5 : decode cX0_edgesOf 5 = .ok (.aload_n 0, 1) := by decide +kernel
theorem dX0_edgesOf_6 : decode cX0_edgesOf 6 = .ok (.getfield 45, 3) := by decide +kernel
theorem dX0_edgesOf_9 : decode cX0_edgesOf 9 = .ok (.if_icmp .ge 24, 3) := by decide +kernel
theorem dX0_edgesOf_12 : decode cX0_edgesOf 12 = .ok (.aload_n 0, 1) := by decide +kernel
theorem dX0_edgesOf_13 : decode cX0_edgesOf 13 = .ok (.iload_n 3, 1) := by decide +kernel
theorem dX0_edgesOf_14 : decode cX0_edgesOf 14 = .ok (.invokevirtual 75, 3) := by decide +kernel
theorem dX0_edgesOf_17 : decode cX0_edgesOf 17 = .ok (.iconst 1, 1) := by decide +kernel
theorem dX0_edgesOf_18 : decode cX0_edgesOf 18 = .ok (.iload_n 1, 1) := by decide +kernel
theorem dX0_edgesOf_19 : decode cX0_edgesOf 19 = .ok (.ishl, 1) := by decide +kernel
theorem dX0_edgesOf_20 : decode cX0_edgesOf 20 = .ok (.iand, 1) := by decide +kernel
theorem dX0_edgesOf_21 : decode cX0_edgesOf 21 = .ok (.ifCond .eq 6, 3) := by decide +kernel
theorem dX0_edgesOf_24 : decode cX0_edgesOf 24 = .ok (.iinc 2 1, 3) := by decide +kernel
theorem dX0_edgesOf_27 : decode cX0_edgesOf 27 = .ok (.iinc 3 1, 3) := by decide +kernel
theorem dX0_edgesOf_30 : decode cX0_edgesOf 30 = .ok (.goto (-26), 3) := by decide +kernel
theorem dX0_edgesOf_33 : decode cX0_edgesOf 33 = .ok (.iload_n 2, 1) := by decide +kernel
theorem dX0_edgesOf_34 : decode cX0_edgesOf 34 = .ok (.ireturn, 1) := by decide +kernel
theorem dX0_neighboursOf_0 : decode cX0_neighboursOf 0 = .ok (.iconst 0, 1) := by decide +kernel
theorem dX0_neighboursOf_1 : decode cX0_neighboursOf 1 = .ok (.istore_n 2, 1) := by decide +kernel
theorem dX0_neighboursOf_2 : decode cX0_neighboursOf 2 = .ok (.iconst 0, 1) := by decide +kernel
theorem dX0_neighboursOf_3 : decode cX0_neighboursOf 3 = .ok (.istore_n 3, 1) := by decide +kernel
theorem dX0_neighboursOf_4 : decode cX0_neighboursOf 4 = .ok (.iload_n 3, 1) := by decide +kernel
theorem dX0_neighboursOf_5 : decode cX0_neighboursOf 5 = .ok (.aload_n 0, 1) := by decide +kernel
theorem dX0_neighboursOf_6 : decode cX0_neighboursOf 6 = .ok (.getfield 45, 3) := by decide +kernel
theorem dX0_neighboursOf_9 : decode cX0_neighboursOf 9 = .ok (.if_icmp .ge 29, 3) := by decide +kernel
theorem dX0_neighboursOf_12 : decode cX0_neighboursOf 12 = .ok (.aload_n 0, 1) := by decide +kernel
theorem dX0_neighboursOf_13 : decode cX0_neighboursOf 13 = .ok (.iload_n 3, 1) := by decide +kernel
theorem dX0_neighboursOf_14 : decode cX0_neighboursOf 14 = .ok (.invokevirtual 75, 3) := by decide +kernel
theorem dX0_neighboursOf_17 : decode cX0_neighboursOf 17 = .ok (.iconst 1, 1) := by decide +kernel
theorem dX0_neighboursOf_18 : decode cX0_neighboursOf 18 = .ok (.iload_n 1, 1) := by decide +kernel
theorem dX0_neighboursOf_19 : decode cX0_neighboursOf 19 = .ok (.ishl, 1) := by decide +kernel
theorem dX0_neighboursOf_20 : decode cX0_neighboursOf 20 = .ok (.iand, 1) := by decide +kernel
theorem dX0_neighboursOf_21 : decode cX0_neighboursOf 21 = .ok (.ifCond .eq 11, 3) := by decide +kernel
theorem dX0_neighboursOf_24 : decode cX0_neighboursOf 24 = .ok (.iload_n 2, 1) := by decide +kernel
theorem dX0_neighboursOf_25 : decode cX0_neighboursOf 25 = .ok (.aload_n 0, 1) := by decide +kernel
theorem dX0_neighboursOf_26 : decode cX0_neighboursOf 26 = .ok (.iload_n 3, 1) := by decide +kernel
theorem dX0_neighboursOf_27 : decode cX0_neighboursOf 27 = .ok (.invokevirtual 75, 3) := by decide +kernel
theorem dX0_neighboursOf_30 : decode cX0_neighboursOf 30 = .ok (.ior, 1) := by decide +kernel
theorem dX0_neighboursOf_31 : decode cX0_neighboursOf 31 = .ok (.istore_n 2, 1) := by decide +kernel
theorem dX0_neighboursOf_32 : decode cX0_neighboursOf 32 = .ok (.iinc 3 1, 3) := by decide +kernel
theorem dX0_neighboursOf_35 : decode cX0_neighboursOf 35 = .ok (.goto (-31), 3) := by decide +kernel
theorem dX0_neighboursOf_38 : decode cX0_neighboursOf 38 = .ok (.iload_n 2, 1) := by decide +kernel
theorem dX0_neighboursOf_39 : decode cX0_neighboursOf 39 = .ok (.iconst 1, 1) := by decide +kernel
theorem dX0_neighboursOf_40 : decode cX0_neighboursOf 40 = .ok (.iload_n 1, 1) := by decide +kernel
theorem dX0_neighboursOf_41 : decode cX0_neighboursOf 41 = .ok (.ishl, 1) := by decide +kernel
theorem dX0_neighboursOf_42 : decode cX0_neighboursOf 42 = .ok (.iconst (-1), 1) := by decide +kernel
theorem dX0_neighboursOf_43 : decode cX0_neighboursOf 43 = .ok (.ixor, 1) := by decide +kernel
theorem dX0_neighboursOf_44 : decode cX0_neighboursOf 44 = .ok (.iand, 1) := by decide +kernel
theorem dX0_neighboursOf_45 : decode cX0_neighboursOf 45 = .ok (.ireturn, 1) := by decide +kernel
theorem dX0_countJoining_0 : decode cX0_countJoining 0 = .ok (.aload_n 2, 1) := by decide +kernel
theorem dX0_countJoining_1 : decode cX0_countJoining 1 = .ok (.iconst 0, 1) := by decide +kernel
theorem dX0_countJoining_2 : decode cX0_countJoining 2 = .ok (.invokevirtual 54, 3) := by decide +kernel
theorem dX0_countJoining_5 : decode cX0_countJoining 5 = .ok (.iconst 0, 1) := by decide +kernel
theorem dX0_countJoining_6 : decode cX0_countJoining 6 = .ok (.istore_n 3, 1) := by decide +kernel
theorem dX0_countJoining_7 : decode cX0_countJoining 7 = .ok (.iload_n 3, 1) := by decide +kernel
theorem dX0_countJoining_8 : decode cX0_countJoining 8 = .ok (.aload_n 0, 1) := by decide +kernel
theorem dX0_countJoining_9 : decode cX0_countJoining 9 = .ok (.getfield 45, 3) := by decide +kernel
theorem dX0_countJoining_12 : decode cX0_countJoining 12 = .ok (.if_icmp .ge 62, 3) := by decide +kernel
theorem dX0_countJoining_15 : decode cX0_countJoining 15 = .ok (.aload_n 0, 1) := by decide +kernel
theorem dX0_countJoining_16 : decode cX0_countJoining 16 = .ok (.getfield 20, 3) := by decide +kernel
theorem dX0_countJoining_19 : decode cX0_countJoining 19 = .ok (.iload_n 3, 1) := by decide +kernel
theorem dX0_countJoining_20 : decode cX0_countJoining 20 = .ok (.invokevirtual 61, 3) := by decide +kernel
theorem dX0_countJoining_23 : decode cX0_countJoining 23 = .ok (.iload_n 1, 1) := by decide +kernel
theorem dX0_countJoining_24 : decode cX0_countJoining 24 = .ok (.if_icmp .ne 19, 3) := by decide +kernel
theorem dX0_countJoining_27 : decode cX0_countJoining 27 = .ok (.aload_n 2, 1) := by decide +kernel
theorem dX0_countJoining_28 : decode cX0_countJoining 28 = .ok (.aload_n 0, 1) := by decide +kernel
theorem dX0_countJoining_29 : decode cX0_countJoining 29 = .ok (.getfield 23, 3) := by decide +kernel
theorem dX0_countJoining_32 : decode cX0_countJoining 32 = .ok (.iload_n 3, 1) := by decide +kernel
theorem dX0_countJoining_33 : decode cX0_countJoining 33 = .ok (.invokevirtual 61, 3) := by decide +kernel
theorem dX0_countJoining_36 : decode cX0_countJoining 36 = .ok (.iconst 1, 1) := by decide +kernel
theorem dX0_countJoining_37 : decode cX0_countJoining 37 = .ok (.invokevirtual 69, 3) := by decide +kernel
theorem dX0_countJoining_40 : decode cX0_countJoining 40 = .ok (.goto 28, 3) := by decide +kernel
theorem dX0_countJoining_43 : decode cX0_countJoining 43 = .ok (.aload_n 0, 1) := by decide +kernel
theorem dX0_countJoining_44 : decode cX0_countJoining 44 = .ok (.getfield 23, 3) := by decide +kernel
theorem dX0_countJoining_47 : decode cX0_countJoining 47 = .ok (.iload_n 3, 1) := by decide +kernel
theorem dX0_countJoining_48 : decode cX0_countJoining 48 = .ok (.invokevirtual 61, 3) := by decide +kernel
theorem dX0_countJoining_51 : decode cX0_countJoining 51 = .ok (.iload_n 1, 1) := by decide +kernel
theorem dX0_countJoining_52 : decode cX0_countJoining 52 = .ok (.if_icmp .ne 16, 3) := by decide +kernel
theorem dX0_countJoining_55 : decode cX0_countJoining 55 = .ok (.aload_n 2, 1) := by decide +kernel
theorem dX0_countJoining_56 : decode cX0_countJoining 56 = .ok (.aload_n 0, 1) := by decide +kernel
theorem dX0_countJoining_57 : decode cX0_countJoining 57 = .ok (.getfield 20, 3) := by decide +kernel
theorem dX0_countJoining_60 : decode cX0_countJoining 60 = .ok (.iload_n 3, 1) := by decide +kernel
theorem dX0_countJoining_61 : decode cX0_countJoining 61 = .ok (.invokevirtual 61, 3) := by decide +kernel
theorem dX0_countJoining_64 : decode cX0_countJoining 64 = .ok (.iconst 1, 1) := by decide +kernel
theorem dX0_countJoining_65 : decode cX0_countJoining 65 = .ok (.invokevirtual 69, 3) := by decide +kernel
theorem dX0_countJoining_68 : decode cX0_countJoining 68 = .ok (.iinc 3 1, 3) := by decide +kernel
theorem dX0_countJoining_71 : decode cX0_countJoining 71 = .ok (.goto (-64), 3) := by decide +kernel
theorem dX0_countJoining_74 : decode cX0_countJoining 74 = .ok (.return_, 1) := by decide +kernel
theorem dX0_edgesWithin_0 : decode cX0_edgesWithin 0 = .ok (.iconst 0, 1) := by decide +kernel
theorem dX0_edgesWithin_1 : decode cX0_edgesWithin 1 = .ok (.istore_n 2, 1) := by decide +kernel
theorem dX0_edgesWithin_2 : decode cX0_edgesWithin 2 = .ok (.iconst 0, 1) := by decide +kernel
theorem dX0_edgesWithin_3 : decode cX0_edgesWithin 3 = .ok (.istore_n 3, 1) := by decide +kernel
theorem dX0_edgesWithin_4 : decode cX0_edgesWithin 4 = .ok (.iload_n 3, 1) := by decide +kernel
theorem dX0_edgesWithin_5 : decode cX0_edgesWithin 5 = .ok (.aload_n 0, 1) := by decide +kernel
theorem dX0_edgesWithin_6 : decode cX0_edgesWithin 6 = .ok (.getfield 45, 3) := by decide +kernel
theorem dX0_edgesWithin_9 : decode cX0_edgesWithin 9 = .ok (.if_icmp .ge 24, 3) := by decide +kernel
theorem dX0_edgesWithin_12 : decode cX0_edgesWithin 12 = .ok (.aload_n 0, 1) := by decide +kernel
theorem dX0_edgesWithin_13 : decode cX0_edgesWithin 13 = .ok (.iload_n 3, 1) := by decide +kernel
theorem dX0_edgesWithin_14 : decode cX0_edgesWithin 14 = .ok (.invokevirtual 75, 3) := by decide +kernel
theorem dX0_edgesWithin_17 : decode cX0_edgesWithin 17 = .ok (.iload_n 1, 1) := by decide +kernel
theorem dX0_edgesWithin_18 : decode cX0_edgesWithin 18 = .ok (.iconst (-1), 1) := by decide +kernel
theorem dX0_edgesWithin_19 : decode cX0_edgesWithin 19 = .ok (.ixor, 1) := by decide +kernel
theorem dX0_edgesWithin_20 : decode cX0_edgesWithin 20 = .ok (.iand, 1) := by decide +kernel
theorem dX0_edgesWithin_21 : decode cX0_edgesWithin 21 = .ok (.ifCond .ne 6, 3) := by decide +kernel
theorem dX0_edgesWithin_24 : decode cX0_edgesWithin 24 = .ok (.iinc 2 1, 3) := by decide +kernel
theorem dX0_edgesWithin_27 : decode cX0_edgesWithin 27 = .ok (.iinc 3 1, 3) := by decide +kernel
theorem dX0_edgesWithin_30 : decode cX0_edgesWithin 30 = .ok (.goto (-26), 3) := by decide +kernel
theorem dX0_edgesWithin_33 : decode cX0_edgesWithin 33 = .ok (.iload_n 2, 1) := by decide +kernel
theorem dX0_edgesWithin_34 : decode cX0_edgesWithin 34 = .ok (.ireturn, 1) := by decide +kernel
theorem dX0_firstSlotWithin_0 : decode cX0_firstSlotWithin 0 = .ok (.iconst 0, 1) := by decide +kernel
theorem dX0_firstSlotWithin_1 : decode cX0_firstSlotWithin 1 = .ok (.istore_n 2, 1) := by decide +kernel
theorem dX0_firstSlotWithin_2 : decode cX0_firstSlotWithin 2 = .ok (.iload_n 2, 1) := by decide +kernel
theorem dX0_firstSlotWithin_3 : decode cX0_firstSlotWithin 3 = .ok (.aload_n 0, 1) := by decide +kernel
theorem dX0_firstSlotWithin_4 : decode cX0_firstSlotWithin 4 = .ok (.getfield 45, 3) := by decide +kernel
theorem dX0_firstSlotWithin_7 : decode cX0_firstSlotWithin 7 = .ok (.if_icmp .ge 23, 3) := by decide +kernel
theorem dX0_firstSlotWithin_10 : decode cX0_firstSlotWithin 10 = .ok (.aload_n 0, 1) := by decide +kernel
theorem dX0_firstSlotWithin_11 : decode cX0_firstSlotWithin 11 = .ok (.iload_n 2, 1) := by decide +kernel
theorem dX0_firstSlotWithin_12 : decode cX0_firstSlotWithin 12 = .ok (.invokevirtual 75, 3) := by decide +kernel
theorem dX0_firstSlotWithin_15 : decode cX0_firstSlotWithin 15 = .ok (.iload_n 1, 1) := by decide +kernel
theorem dX0_firstSlotWithin_16 : decode cX0_firstSlotWithin 16 = .ok (.iconst (-1), 1) := by decide +kernel
theorem dX0_firstSlotWithin_17 : decode cX0_firstSlotWithin 17 = .ok (.ixor, 1) := by decide +kernel
theorem dX0_firstSlotWithin_18 : decode cX0_firstSlotWithin 18 = .ok (.iand, 1) := by decide +kernel
theorem dX0_firstSlotWithin_19 : decode cX0_firstSlotWithin 19 = .ok (.ifCond .ne 5, 3) := by decide +kernel
theorem dX0_firstSlotWithin_22 : decode cX0_firstSlotWithin 22 = .ok (.iload_n 2, 1) := by decide +kernel
theorem dX0_firstSlotWithin_23 : decode cX0_firstSlotWithin 23 = .ok (.ireturn, 1) := by decide +kernel
theorem dX0_firstSlotWithin_24 : decode cX0_firstSlotWithin 24 = .ok (.iinc 2 1, 3) := by decide +kernel
theorem dX0_firstSlotWithin_27 : decode cX0_firstSlotWithin 27 = .ok (.goto (-25), 3) := by decide +kernel
theorem dX0_firstSlotWithin_30 : decode cX0_firstSlotWithin 30 = .ok (.iconst (-1), 1) := by decide +kernel
theorem dX0_firstSlotWithin_31 : decode cX0_firstSlotWithin 31 = .ok (.ireturn, 1) := by decide +kernel
theorem dX0_greatestLoad_0 : decode cX0_greatestLoad 0 = .ok (.iconst 0, 1) := by decide +kernel
theorem dX0_greatestLoad_1 : decode cX0_greatestLoad 1 = .ok (.istore_n 1, 1) := by decide +kernel
theorem dX0_greatestLoad_2 : decode cX0_greatestLoad 2 = .ok (.iconst 0, 1) := by decide +kernel
theorem dX0_greatestLoad_3 : decode cX0_greatestLoad 3 = .ok (.istore_n 2, 1) := by decide +kernel
theorem dX0_greatestLoad_4 : decode cX0_greatestLoad 4 = .ok (.iload_n 2, 1) := by decide +kernel
theorem dX0_greatestLoad_5 : decode cX0_greatestLoad 5 = .ok (.aload_n 0, 1) := by decide +kernel
theorem dX0_greatestLoad_6 : decode cX0_greatestLoad 6 = .ok (.getfield 41, 3) := by decide +kernel
theorem dX0_greatestLoad_9 : decode cX0_greatestLoad 9 = .ok (.if_icmp .ge 22, 3) := by decide +kernel
theorem dX0_greatestLoad_12 : decode cX0_greatestLoad 12 = .ok (.iload_n 1, 1) := by decide +kernel
theorem dX0_greatestLoad_13 : decode cX0_greatestLoad 13 = .ok (.aload_n 0, 1) := by decide +kernel
theorem dX0_greatestLoad_14 : decode cX0_greatestLoad 14 = .ok (.getfield 32, 3) := by decide +kernel
theorem dX0_greatestLoad_17 : decode cX0_greatestLoad 17 = .ok (.iload_n 2, 1) := by decide +kernel
theorem dX0_greatestLoad_18 : decode cX0_greatestLoad 18 = .ok (.invokevirtual 61, 3) := by decide +kernel
theorem dX0_greatestLoad_21 : decode cX0_greatestLoad 21 = .ok (.invokestatic 78, 3) := by decide +kernel
theorem dX0_greatestLoad_24 : decode cX0_greatestLoad 24 = .ok (.istore_n 1, 1) := by decide +kernel
theorem dX0_greatestLoad_25 : decode cX0_greatestLoad 25 = .ok (.iinc 2 1, 3) := by decide +kernel
theorem dX0_greatestLoad_28 : decode cX0_greatestLoad 28 = .ok (.goto (-24), 3) := by decide +kernel
theorem dX0_greatestLoad_31 : decode cX0_greatestLoad 31 = .ok (.iload_n 1, 1) := by decide +kernel
theorem dX0_greatestLoad_32 : decode cX0_greatestLoad 32 = .ok (.ireturn, 1) := by decide +kernel
theorem dX0_leastLoad_0 : decode cX0_leastLoad 0 = .ok (.bipush 40, 2) := by decide +kernel
theorem dX0_leastLoad_2 : decode cX0_leastLoad 2 = .ok (.istore_n 1, 1) := by decide +kernel
theorem dX0_leastLoad_3 : decode cX0_leastLoad 3 = .ok (.iconst 0, 1) := by decide +kernel
theorem dX0_leastLoad_4 : decode cX0_leastLoad 4 = .ok (.istore_n 2, 1) := by decide +kernel
theorem dX0_leastLoad_5 : decode cX0_leastLoad 5 = .ok (.iload_n 2, 1) := by decide +kernel
theorem dX0_leastLoad_6 : decode cX0_leastLoad 6 = .ok (.aload_n 0, 1) := by decide +kernel
theorem dX0_leastLoad_7 : decode cX0_leastLoad 7 = .ok (.getfield 41, 3) := by decide +kernel
theorem dX0_leastLoad_10 : decode cX0_leastLoad 10 = .ok (.if_icmp .ge 22, 3) := by decide +kernel
theorem dX0_leastLoad_13 : decode cX0_leastLoad 13 = .ok (.iload_n 1, 1) := by decide +kernel
theorem dX0_leastLoad_14 : decode cX0_leastLoad 14 = .ok (.aload_n 0, 1) := by decide +kernel
theorem dX0_leastLoad_15 : decode cX0_leastLoad 15 = .ok (.getfield 32, 3) := by decide +kernel
theorem dX0_leastLoad_18 : decode cX0_leastLoad 18 = .ok (.iload_n 2, 1) := by decide +kernel
theorem dX0_leastLoad_19 : decode cX0_leastLoad 19 = .ok (.invokevirtual 61, 3) := by decide +kernel
theorem dX0_leastLoad_22 : decode cX0_leastLoad 22 = .ok (.invokestatic 84, 3) := by decide +kernel
theorem dX0_leastLoad_25 : decode cX0_leastLoad 25 = .ok (.istore_n 1, 1) := by decide +kernel
theorem dX0_leastLoad_26 : decode cX0_leastLoad 26 = .ok (.iinc 2 1, 3) := by decide +kernel
theorem dX0_leastLoad_29 : decode cX0_leastLoad 29 = .ok (.goto (-24), 3) := by decide +kernel
theorem dX0_leastLoad_32 : decode cX0_leastLoad 32 = .ok (.iload_n 1, 1) := by decide +kernel
theorem dX0_leastLoad_33 : decode cX0_leastLoad 33 = .ok (.ireturn, 1) := by decide +kernel
theorem dX0_squaresOfLoads_0 : decode cX0_squaresOfLoads 0 = .ok (.iconst 0, 1) := by decide +kernel
theorem dX0_squaresOfLoads_1 : decode cX0_squaresOfLoads 1 = .ok (.istore_n 1, 1) := by decide +kernel
theorem dX0_squaresOfLoads_2 : decode cX0_squaresOfLoads 2 = .ok (.iconst 0, 1) := by decide +kernel
theorem dX0_squaresOfLoads_3 : decode cX0_squaresOfLoads 3 = .ok (.istore_n 2, 1) := by decide +kernel
theorem dX0_squaresOfLoads_4 : decode cX0_squaresOfLoads 4 = .ok (.iload_n 2, 1) := by decide +kernel
theorem dX0_squaresOfLoads_5 : decode cX0_squaresOfLoads 5 = .ok (.aload_n 0, 1) := by decide +kernel
theorem dX0_squaresOfLoads_6 : decode cX0_squaresOfLoads 6 = .ok (.getfield 41, 3) := by decide +kernel
theorem dX0_squaresOfLoads_9 : decode cX0_squaresOfLoads 9 = .ok (.if_icmp .ge 29, 3) := by decide +kernel
theorem dX0_squaresOfLoads_12 : decode cX0_squaresOfLoads 12 = .ok (.iload_n 1, 1) := by decide +kernel
theorem dX0_squaresOfLoads_13 : decode cX0_squaresOfLoads 13 = .ok (.aload_n 0, 1) := by decide +kernel
theorem dX0_squaresOfLoads_14 : decode cX0_squaresOfLoads 14 = .ok (.getfield 32, 3) := by decide +kernel
theorem dX0_squaresOfLoads_17 : decode cX0_squaresOfLoads 17 = .ok (.iload_n 2, 1) := by decide +kernel
theorem dX0_squaresOfLoads_18 : decode cX0_squaresOfLoads 18 = .ok (.invokevirtual 61, 3) := by decide +kernel
theorem dX0_squaresOfLoads_21 : decode cX0_squaresOfLoads 21 = .ok (.aload_n 0, 1) := by decide +kernel
theorem dX0_squaresOfLoads_22 : decode cX0_squaresOfLoads 22 = .ok (.getfield 32, 3) := by decide +kernel
theorem dX0_squaresOfLoads_25 : decode cX0_squaresOfLoads 25 = .ok (.iload_n 2, 1) := by decide +kernel
theorem dX0_squaresOfLoads_26 : decode cX0_squaresOfLoads 26 = .ok (.invokevirtual 61, 3) := by decide +kernel
theorem dX0_squaresOfLoads_29 : decode cX0_squaresOfLoads 29 = .ok (.imul, 1) := by decide +kernel
theorem dX0_squaresOfLoads_30 : decode cX0_squaresOfLoads 30 = .ok (.iadd, 1) := by decide +kernel
theorem dX0_squaresOfLoads_31 : decode cX0_squaresOfLoads 31 = .ok (.istore_n 1, 1) := by decide +kernel
theorem dX0_squaresOfLoads_32 : decode cX0_squaresOfLoads 32 = .ok (.iinc 2 1, 3) := by decide +kernel
theorem dX0_squaresOfLoads_35 : decode cX0_squaresOfLoads 35 = .ok (.goto (-31), 3) := by decide +kernel
theorem dX0_squaresOfLoads_38 : decode cX0_squaresOfLoads 38 = .ok (.iload_n 1, 1) := by decide +kernel
theorem dX0_squaresOfLoads_39 : decode cX0_squaresOfLoads 39 = .ok (.ireturn, 1) := by decide +kernel
theorem dX0_overloadedNodes_0 : decode cX0_overloadedNodes 0 = .ok (.iconst 0, 1) := by decide +kernel
theorem dX0_overloadedNodes_1 : decode cX0_overloadedNodes 1 = .ok (.istore_n 1, 1) := by decide +kernel
theorem dX0_overloadedNodes_2 : decode cX0_overloadedNodes 2 = .ok (.iconst 0, 1) := by decide +kernel
theorem dX0_overloadedNodes_3 : decode cX0_overloadedNodes 3 = .ok (.istore_n 2, 1) := by decide +kernel
theorem dX0_overloadedNodes_4 : decode cX0_overloadedNodes 4 = .ok (.iload_n 2, 1) := by decide +kernel
theorem dX0_overloadedNodes_5 : decode cX0_overloadedNodes 5 = .ok (.aload_n 0, 1) := by decide +kernel
theorem dX0_overloadedNodes_6 : decode cX0_overloadedNodes 6 = .ok (.getfield 41, 3) := by decide +kernel
theorem dX0_overloadedNodes_9 : decode cX0_overloadedNodes 9 = .ok (.if_icmp .ge 31, 3) := by decide +kernel
theorem dX0_overloadedNodes_12 : decode cX0_overloadedNodes 12 = .ok (.aload_n 0, 1) := by decide +kernel
theorem dX0_overloadedNodes_13 : decode cX0_overloadedNodes 13 = .ok (.getfield 32, 3) := by decide +kernel
theorem dX0_overloadedNodes_16 : decode cX0_overloadedNodes 16 = .ok (.iload_n 2, 1) := by decide +kernel
theorem dX0_overloadedNodes_17 : decode cX0_overloadedNodes 17 = .ok (.invokevirtual 61, 3) := by decide +kernel
theorem dX0_overloadedNodes_20 : decode cX0_overloadedNodes 20 = .ok (.aload_n 0, 1) := by decide +kernel
theorem dX0_overloadedNodes_21 : decode cX0_overloadedNodes 21 = .ok (.getfield 35, 3) := by decide +kernel
theorem dX0_overloadedNodes_24 : decode cX0_overloadedNodes 24 = .ok (.iload_n 2, 1) := by decide +kernel
theorem dX0_overloadedNodes_25 : decode cX0_overloadedNodes 25 = .ok (.invokevirtual 61, 3) := by decide +kernel
theorem dX0_overloadedNodes_28 : decode cX0_overloadedNodes 28 = .ok (.if_icmp .le 6, 3) := by decide +kernel
theorem dX0_overloadedNodes_31 : decode cX0_overloadedNodes 31 = .ok (.iinc 1 1, 3) := by decide +kernel
theorem dX0_overloadedNodes_34 : decode cX0_overloadedNodes 34 = .ok (.iinc 2 1, 3) := by decide +kernel
theorem dX0_overloadedNodes_37 : decode cX0_overloadedNodes 37 = .ok (.goto (-33), 3) := by decide +kernel
theorem dX0_overloadedNodes_40 : decode cX0_overloadedNodes 40 = .ok (.iload_n 1, 1) := by decide +kernel
theorem dX0_overloadedNodes_41 : decode cX0_overloadedNodes 41 = .ok (.ireturn, 1) := by decide +kernel
theorem dX1_init_0 : decode cX1_init 0 = .ok (.aload_n 0, 1) := by decide +kernel
theorem dX1_init_1 : decode cX1_init 1 = .ok (.invokespecial 3, 3) := by decide +kernel
theorem dX1_init_4 : decode cX1_init 4 = .ok (.aload_n 0, 1) := by decide +kernel
theorem dX1_init_5 : decode cX1_init 5 = .ok (.iconst 4, 1) := by decide +kernel
theorem dX1_init_6 : decode cX1_init 6 = .ok (.anewarray 9, 3) := by decide +kernel
theorem dX1_init_9 : decode cX1_init 9 = .ok (.putfield 11, 3) := by decide +kernel
theorem dX1_init_12 : decode cX1_init 12 = .ok (.iconst 0, 1) := by decide +kernel
theorem dX1_init_13 : decode cX1_init 13 = .ok (.istore_n 1, 1) := by decide +kernel
theorem dX1_init_14 : decode cX1_init 14 = .ok (.iload_n 1, 1) := by decide +kernel
theorem dX1_init_15 : decode cX1_init 15 = .ok (.aload_n 0, 1) := by decide +kernel
theorem dX1_init_16 : decode cX1_init 16 = .ok (.getfield 11, 3) := by decide +kernel
theorem dX1_init_19 : decode cX1_init 19 = .ok (.arraylength, 1) := by decide +kernel
theorem dX1_init_20 : decode cX1_init 20 = .ok (.if_icmp .ge 22, 3) := by decide +kernel
theorem dX1_init_23 : decode cX1_init 23 = .ok (.aload_n 0, 1) := by decide +kernel
theorem dX1_init_24 : decode cX1_init 24 = .ok (.getfield 11, 3) := by decide +kernel
theorem dX1_init_27 : decode cX1_init 27 = .ok (.iload_n 1, 1) := by decide +kernel
theorem dX1_init_28 : decode cX1_init 28 = .ok (.new 9, 3) := by decide +kernel
theorem dX1_init_31 : decode cX1_init 31 = .ok (.dup, 1) := by decide +kernel
theorem dX1_init_32 : decode cX1_init 32 = .ok (.invokespecial 17, 3) := by decide +kernel
theorem dX1_init_35 : decode cX1_init 35 = .ok (.aastore, 1) := by decide +kernel
theorem dX1_init_36 : decode cX1_init 36 = .ok (.iinc 1 1, 3) := by decide +kernel
theorem dX1_init_39 : decode cX1_init 39 = .ok (.goto (-25), 3) := by decide +kernel
theorem dX1_init_42 : decode cX1_init 42 = .ok (.return_, 1) := by decide +kernel
theorem dX1_save_0 : decode cX1_save 0 = .ok (.aload_n 0, 1) := by decide +kernel
theorem dX1_save_1 : decode cX1_save 1 = .ok (.getfield 18, 3) := by decide +kernel
theorem dX1_save_4 : decode cX1_save 4 = .ok (.ifCond .lt 27, 3) := by decide +kernel
theorem dX1_save_7 : decode cX1_save 7 = .ok (.aload_n 0, 1) := by decide +kernel
theorem dX1_save_8 : decode cX1_save 8 = .ok (.getfield 18, 3) := by decide +kernel
theorem dX1_save_11 : decode cX1_save 11 = .ok (.aload_n 0, 1) := by decide +kernel
theorem dX1_save_12 : decode cX1_save 12 = .ok (.getfield 11, 3) := by decide +kernel
theorem dX1_save_15 : decode cX1_save 15 = .ok (.arraylength, 1) := by decide +kernel
theorem dX1_save_16 : decode cX1_save 16 = .ok (.if_icmp .ge 15, 3) := by decide +kernel
theorem dX1_save_19 : decode cX1_save 19 = .ok (.aload_n 0, 1) := by decide +kernel
theorem dX1_save_20 : decode cX1_save 20 = .ok (.getfield 11, 3) := by decide +kernel
theorem dX1_save_23 : decode cX1_save 23 = .ok (.aload_n 0, 1) := by decide +kernel
theorem dX1_save_24 : decode cX1_save 24 = .ok (.getfield 18, 3) := by decide +kernel
theorem dX1_save_27 : decode cX1_save 27 = .ok (.aaload, 1) := by decide +kernel
theorem dX1_save_28 : decode cX1_save 28 = .ok (.ifnonnull 4, 3) := by decide +kernel
theorem dX1_save_31 : decode cX1_save 31 = .ok (.return_, 1) := by decide +kernel
theorem dX1_save_32 : decode cX1_save 32 = .ok (.aload_n 0, 1) := by decide +kernel
theorem dX1_save_33 : decode cX1_save 33 = .ok (.getfield 11, 3) := by decide +kernel
theorem dX1_save_36 : decode cX1_save 36 = .ok (.aload_n 0, 1) := by decide +kernel
theorem dX1_save_37 : decode cX1_save 37 = .ok (.getfield 18, 3) := by decide +kernel
theorem dX1_save_40 : decode cX1_save 40 = .ok (.aaload, 1) := by decide +kernel
theorem dX1_save_41 : decode cX1_save 41 = .ok (.aload_n 1, 1) := by decide +kernel
theorem dX1_save_42 : decode cX1_save 42 = .ok (.invokevirtual 22, 3) := by decide +kernel
theorem dX1_save_45 : decode cX1_save 45 = .ok (.aload_n 0, 1) := by decide +kernel
theorem dX1_save_46 : decode cX1_save 46 = .ok (.aload_n 0, 1) := by decide +kernel
theorem dX1_save_47 : decode cX1_save 47 = .ok (.getfield 18, 3) := by decide +kernel
theorem dX1_save_50 : decode cX1_save 50 = .ok (.iconst 1, 1) := by decide +kernel
theorem dX1_save_51 : decode cX1_save 51 = .ok (.iadd, 1) := by decide +kernel
theorem dX1_save_52 : decode cX1_save 52 = .ok (.iconst 4, 1) := by decide +kernel
theorem dX1_save_53 : decode cX1_save 53 = .ok (.if_icmp .ge 12, 3) := by decide +kernel
theorem dX1_save_56 : decode cX1_save 56 = .ok (.aload_n 0, 1) := by decide +kernel
theorem dX1_save_57 : decode cX1_save 57 = .ok (.getfield 18, 3) := by decide +kernel
theorem dX1_save_60 : decode cX1_save 60 = .ok (.iconst 1, 1) := by decide +kernel
theorem dX1_save_61 : decode cX1_save 61 = .ok (.iadd, 1) := by decide +kernel
theorem dX1_save_62 : decode cX1_save 62 = .ok (.goto 4, 3) := by decide +kernel
theorem dX1_save_65 : decode cX1_save 65 = .ok (.iconst 0, 1) := by decide +kernel
theorem dX1_save_66 : decode cX1_save 66 = .ok (.putfield 18, 3) := by decide +kernel
theorem dX1_save_69 : decode cX1_save 69 = .ok (.aload_n 0, 1) := by decide +kernel
theorem dX1_save_70 : decode cX1_save 70 = .ok (.aload_n 0, 1) := by decide +kernel
theorem dX1_save_71 : decode cX1_save 71 = .ok (.getfield 26, 3) := by decide +kernel
theorem dX1_save_74 : decode cX1_save 74 = .ok (.iconst 1, 1) := by decide +kernel
theorem dX1_save_75 : decode cX1_save 75 = .ok (.iadd, 1) := by decide +kernel
theorem dX1_save_76 : decode cX1_save 76 = .ok (.iconst 4, 1) := by decide +kernel
theorem dX1_save_77 : decode cX1_save 77 = .ok (.invokestatic 29, 3) := by decide +kernel
theorem dX1_save_80 : decode cX1_save 80 = .ok (.putfield 26, 3) := by decide +kernel
theorem dX1_save_83 : decode cX1_save 83 = .ok (.return_, 1) := by decide +kernel
theorem dX1_restore_0 : decode cX1_restore 0 = .ok (.aload_n 0, 1) := by decide +kernel
theorem dX1_restore_1 : decode cX1_restore 1 = .ok (.getfield 18, 3) := by decide +kernel
theorem dX1_restore_4 : decode cX1_restore 4 = .ok (.ifCond .le 12, 3) := by decide +kernel
theorem dX1_restore_7 : decode cX1_restore 7 = .ok (.aload_n 0, 1) := by decide +kernel
theorem dX1_restore_8 : decode cX1_restore 8 = .ok (.getfield 18, 3) := by decide +kernel
theorem dX1_restore_11 : decode cX1_restore 11 = .ok (.iconst 1, 1) := by decide +kernel
theorem dX1_restore_12 : decode cX1_restore 12 = .ok (.isub, 1) := by decide +kernel
theorem dX1_restore_13 : decode cX1_restore 13 = .ok (.goto 4, 3) := by decide +kernel
theorem dX1_restore_16 : decode cX1_restore 16 = .ok (.iconst 3, 1) := by decide +kernel
theorem dX1_restore_17 : decode cX1_restore 17 = .ok (.istore_n 2, 1) := by decide +kernel
theorem dX1_restore_18 : decode cX1_restore 18 = .ok (.aload_n 0, 1) := by decide +kernel
theorem dX1_restore_19 : decode cX1_restore 19 = .ok (.getfield 26, 3) := by decide +kernel
theorem dX1_restore_22 : decode cX1_restore 22 = .ok (.iconst 1, 1) := by decide +kernel
theorem dX1_restore_23 : decode cX1_restore 23 = .ok (.if_icmp .lt 21, 3) := by decide +kernel
theorem dX1_restore_26 : decode cX1_restore 26 = .ok (.iload_n 2, 1) := by decide +kernel
theorem dX1_restore_27 : decode cX1_restore 27 = .ok (.aload_n 0, 1) := by decide +kernel
theorem dX1_restore_28 : decode cX1_restore 28 = .ok (.getfield 11, 3) := by decide +kernel
theorem dX1_restore_31 : decode cX1_restore 31 = .ok (.arraylength, 1) := by decide +kernel
theorem dX1_restore_32 : decode cX1_restore 32 = .ok (.if_icmp .ge 12, 3) := by decide +kernel
theorem dX1_restore_35 : decode cX1_restore 35 = .ok (.aload_n 0, 1) := by decide +kernel
theorem dX1_restore_36 : decode cX1_restore 36 = .ok (.getfield 11, 3) := by decide +kernel
theorem dX1_restore_39 : decode cX1_restore 39 = .ok (.iload_n 2, 1) := by decide +kernel
theorem dX1_restore_40 : decode cX1_restore 40 = .ok (.aaload, 1) := by decide +kernel
theorem dX1_restore_41 : decode cX1_restore 41 = .ok (.ifnonnull 4, 3) := by decide +kernel
theorem dX1_restore_44 : decode cX1_restore 44 = .ok (.return_, 1) := by decide +kernel
theorem dX1_restore_45 : decode cX1_restore 45 = .ok (.aload_n 1, 1) := by decide +kernel
theorem dX1_restore_46 : decode cX1_restore 46 = .ok (.aload_n 0, 1) := by decide +kernel
theorem dX1_restore_47 : decode cX1_restore 47 = .ok (.getfield 11, 3) := by decide +kernel
theorem dX1_restore_50 : decode cX1_restore 50 = .ok (.iload_n 2, 1) := by decide +kernel
theorem dX1_restore_51 : decode cX1_restore 51 = .ok (.aaload, 1) := by decide +kernel
theorem dX1_restore_52 : decode cX1_restore 52 = .ok (.invokevirtual 22, 3) := by decide +kernel
theorem dX1_restore_55 : decode cX1_restore 55 = .ok (.aload_n 0, 1) := by decide +kernel
theorem dX1_restore_56 : decode cX1_restore 56 = .ok (.iload_n 2, 1) := by decide +kernel
theorem dX1_restore_57 : decode cX1_restore 57 = .ok (.putfield 18, 3) := by decide +kernel
theorem dX1_restore_60 : decode cX1_restore 60 = .ok (.aload_n 0, 1) := by decide +kernel
theorem dX1_restore_61 : decode cX1_restore 61 = .ok (.dup, 1) := by decide +kernel
theorem dX1_restore_62 : decode cX1_restore 62 = .ok (.getfield 26, 3) := by decide +kernel
theorem dX1_restore_65 : decode cX1_restore 65 = .ok (.iconst 1, 1) := by decide +kernel
theorem dX1_restore_66 : decode cX1_restore 66 = .ok (.isub, 1) := by decide +kernel
theorem dX1_restore_67 : decode cX1_restore 67 = .ok (.putfield 26, 3) := by decide +kernel
theorem dX1_restore_70 : decode cX1_restore 70 = .ok (.return_, 1) := by decide +kernel
theorem dX2_init_0 : decode cX2_init 0 = .ok (.aload_n 0, 1) := by decide +kernel
theorem dX2_init_1 : decode cX2_init 1 = .ok (.invokespecial 3, 3) := by decide +kernel
theorem dX2_init_4 : decode cX2_init 4 = .ok (.aload_n 0, 1) := by decide +kernel
theorem dX2_init_5 : decode cX2_init 5 = .ok (.new 9, 3) := by decide +kernel
theorem dX2_init_8 : decode cX2_init 8 = .ok (.dup, 1) := by decide +kernel
theorem dX2_init_9 : decode cX2_init 9 = .ok (.bipush 100, 2) := by decide +kernel
theorem dX2_init_11 : decode cX2_init 11 = .ok (.invokespecial 11, 3) := by decide +kernel
theorem dX2_init_14 : decode cX2_init 14 = .ok (.putfield 14, 3) := by decide +kernel
theorem dX2_init_17 : decode cX2_init 17 = .ok (.aload_n 0, 1) := by decide +kernel
theorem dX2_init_18 : decode cX2_init 18 = .ok (.iconst (-1), 1) := by decide +kernel
theorem dX2_init_19 : decode cX2_init 19 = .ok (.putfield 20, 3) := by decide +kernel
theorem dX2_init_22 : decode cX2_init 22 = .ok (.return_, 1) := by decide +kernel
theorem dX2_put_0 : decode cX2_put 0 = .ok (.aload_n 0, 1) := by decide +kernel
theorem dX2_put_1 : decode cX2_put 1 = .ok (.getfield 24, 3) := by decide +kernel
theorem dX2_put_4 : decode cX2_put 4 = .ok (.bipush 100, 2) := by decide +kernel
theorem dX2_put_6 : decode cX2_put 6 = .ok (.if_icmp .ge 25, 3) := by decide +kernel
theorem dX2_put_9 : decode cX2_put 9 = .ok (.aload_n 0, 1) := by decide +kernel
theorem dX2_put_10 : decode cX2_put 10 = .ok (.getfield 14, 3) := by decide +kernel
theorem dX2_put_13 : decode cX2_put 13 = .ok (.aload_n 0, 1) := by decide +kernel
theorem dX2_put_14 : decode cX2_put 14 = .ok (.getfield 24, 3) := by decide +kernel
theorem dX2_put_17 : decode cX2_put 17 = .ok (.iload_n 1, 1) := by decide +kernel
theorem dX2_put_18 : decode cX2_put 18 = .ok (.invokevirtual 27, 3) := by decide +kernel
theorem dX2_put_21 : decode cX2_put 21 = .ok (.aload_n 0, 1) := by decide +kernel
theorem dX2_put_22 : decode cX2_put 22 = .ok (.dup, 1) := by decide +kernel
theorem dX2_put_23 : decode cX2_put 23 = .ok (.getfield 24, 3) := by decide +kernel
theorem dX2_put_26 : decode cX2_put 26 = .ok (.iconst 1, 1) := by decide +kernel
theorem dX2_put_27 : decode cX2_put 27 = .ok (.iadd, 1) := by decide +kernel
theorem dX2_put_28 : decode cX2_put 28 = .ok (.putfield 24, 3) := by decide +kernel
theorem dX2_put_31 : decode cX2_put 31 = .ok (.aload_n 0, 1) := by decide +kernel
theorem dX2_put_32 : decode cX2_put 32 = .ok (.getfield 24, 3) := by decide +kernel
theorem dX2_put_35 : decode cX2_put 35 = .ok (.ireturn, 1) := by decide +kernel
theorem dX2_rewind_0 : decode cX2_rewind 0 = .ok (.aload_n 0, 1) := by decide +kernel
theorem dX2_rewind_1 : decode cX2_rewind 1 = .ok (.iconst 0, 1) := by decide +kernel
theorem dX2_rewind_2 : decode cX2_rewind 2 = .ok (.putfield 31, 3) := by decide +kernel
theorem dX2_rewind_5 : decode cX2_rewind 5 = .ok (.aload_n 0, 1) := by decide +kernel
theorem dX2_rewind_6 : decode cX2_rewind 6 = .ok (.iconst (-1), 1) := by decide +kernel
theorem dX2_rewind_7 : decode cX2_rewind 7 = .ok (.putfield 20, 3) := by decide +kernel
theorem dX2_rewind_10 : decode cX2_rewind 10 = .ok (.return_, 1) := by decide +kernel
theorem dX2_findSyntaxError_0 : decode cX2_findSyntaxError 0 = .ok (.aload_n 0, 1) := by decide +kernel
theorem dX2_findSyntaxError_1 : decode cX2_findSyntaxError 1 = .ok (.invokevirtual 34, 3) := by decide +kernel
theorem dX2_findSyntaxError_4 : decode cX2_findSyntaxError 4 = .ok (.iconst 1, 1) := by decide +kernel
theorem dX2_findSyntaxError_5 : decode cX2_findSyntaxError 5 = .ok (.istore_n 1, 1) := by decide +kernel
theorem dX2_findSyntaxError_6 : decode cX2_findSyntaxError 6 = .ok (.iconst 0, 1) := by decide +kernel
theorem dX2_findSyntaxError_7 : decode cX2_findSyntaxError 7 = .ok (.istore_n 2, 1) := by decide +kernel
theorem dX2_findSyntaxError_8 : decode cX2_findSyntaxError 8 = .ok (.iload_n 2, 1) := by decide +kernel
theorem dX2_findSyntaxError_9 : decode cX2_findSyntaxError 9 = .ok (.bipush 100, 2) := by decide +kernel
theorem dX2_findSyntaxError_11 : decode cX2_findSyntaxError 11 = .ok (.if_icmp .ge 18, 3) := by decide +kernel
theorem dX2_findSyntaxError_14 : decode cX2_findSyntaxError 14 = .ok (.iload_n 1, 1) := by decide +kernel
theorem dX2_findSyntaxError_15 : decode cX2_findSyntaxError 15 = .ok (.ifCond .eq 14, 3) := by decide +kernel
theorem dX2_findSyntaxError_18 : decode cX2_findSyntaxError 18 = .ok (.aload_n 0, 1) := by decide +kernel
theorem dX2_findSyntaxError_19 : decode cX2_findSyntaxError 19 = .ok (.invokevirtual 37, 3) := by decide +kernel
theorem dX2_findSyntaxError_22 : decode cX2_findSyntaxError 22 = .ok (.istore_n 1, 1) := by decide +kernel
theorem dX2_findSyntaxError_23 : decode cX2_findSyntaxError 23 = .ok (.iinc 2 1, 3) := by decide +kernel
theorem dX2_findSyntaxError_26 : decode cX2_findSyntaxError 26 = .ok (.goto (-18), 3) := by decide +kernel
theorem dX2_findSyntaxError_29 : decode cX2_findSyntaxError 29 = .ok (.aload_n 0, 1) := by decide +kernel
theorem dX2_findSyntaxError_30 : decode cX2_findSyntaxError 30 = .ok (.getfield 20, 3) := by decide +kernel
theorem dX2_findSyntaxError_33 : decode cX2_findSyntaxError 33 = .ok (.ireturn, 1) := by decide +kernel
theorem dX2_readOrder_0 : decode cX2_readOrder 0 = .ok (.aload_n 0, 1) := by decide +kernel
theorem dX2_readOrder_1 : decode cX2_readOrder 1 = .ok (.getfield 31, 3) := by decide +kernel
theorem dX2_readOrder_4 : decode cX2_readOrder 4 = .ok (.aload_n 0, 1) := by decide +kernel
theorem dX2_readOrder_5 : decode cX2_readOrder 5 = .ok (.getfield 24, 3) := by decide +kernel
theorem dX2_readOrder_8 : decode cX2_readOrder 8 = .ok (.if_icmp .lt 5, 3) := by decide +kernel
theorem dX2_readOrder_11 : decode cX2_readOrder 11 = .ok (.iconst 0, 1) := by decide +kernel
theorem dX2_readOrder_12 : decode cX2_readOrder 12 = .ok (.ireturn, 1) := by decide +kernel
theorem dX2_readOrder_13 : decode cX2_readOrder 13 = .ok (.aload_n 0, 1) := by decide +kernel
theorem dX2_readOrder_14 : decode cX2_readOrder 14 = .ok (.aload_n 0, 1) := by decide +kernel
theorem dX2_readOrder_15 : decode cX2_readOrder 15 = .ok (.invokevirtual 41, 3) := by decide +kernel
theorem dX2_readOrder_18 : decode cX2_readOrder 18 = .ok (.putfield 45, 3) := by decide +kernel
theorem dX2_readOrder_21 : decode cX2_readOrder 21 = .ok (.aload_n 0, 1) := by decide +kernel
theorem dX2_readOrder_22 : decode cX2_readOrder 22 = .ok (.getfield 45, 3) := by decide +kernel
theorem dX2_readOrder_25 : decode cX2_readOrder 25 = .ok (.lookupswitch 167 #[(43, 59), (45, 84), (98, 124), (99, 133), (114, 107), (116, 84)], 59) := by decide +kernel
theorem dX2_readOrder_84 : decode cX2_readOrder 84 = .ok (.aload_n 0, 1) := by decide +kernel
theorem dX2_readOrder_85 : decode cX2_readOrder 85 = .ok (.bipush 43, 2) := by decide +kernel
theorem dX2_readOrder_87 : decode cX2_readOrder 87 = .ok (.invokevirtual 48, 3) := by decide +kernel
theorem dX2_readOrder_90 : decode cX2_readOrder 90 = .ok (.aload_n 0, 1) := by decide +kernel
theorem dX2_readOrder_91 : decode cX2_readOrder 91 = .ok (.aload_n 0, 1) := by decide +kernel
theorem dX2_readOrder_92 : decode cX2_readOrder 92 = .ok (.invokevirtual 51, 3) := by decide +kernel
theorem dX2_readOrder_95 : decode cX2_readOrder 95 = .ok (.putfield 54, 3) := by decide +kernel
theorem dX2_readOrder_98 : decode cX2_readOrder 98 = .ok (.aload_n 0, 1) := by decide +kernel
theorem dX2_readOrder_99 : decode cX2_readOrder 99 = .ok (.aload_n 0, 1) := by decide +kernel
theorem dX2_readOrder_100 : decode cX2_readOrder 100 = .ok (.invokevirtual 51, 3) := by decide +kernel
theorem dX2_readOrder_103 : decode cX2_readOrder 103 = .ok (.putfield 57, 3) := by decide +kernel
theorem dX2_readOrder_106 : decode cX2_readOrder 106 = .ok (.goto 94, 3) := by decide +kernel
theorem dX2_readOrder_109 : decode cX2_readOrder 109 = .ok (.aload_n 0, 1) := by decide +kernel
theorem dX2_readOrder_110 : decode cX2_readOrder 110 = .ok (.aload_n 0, 1) := by decide +kernel
theorem dX2_readOrder_111 : decode cX2_readOrder 111 = .ok (.getfield 45, 3) := by decide +kernel
theorem dX2_readOrder_114 : decode cX2_readOrder 114 = .ok (.invokevirtual 48, 3) := by decide +kernel
theorem dX2_readOrder_117 : decode cX2_readOrder 117 = .ok (.aload_n 0, 1) := by decide +kernel
theorem dX2_readOrder_118 : decode cX2_readOrder 118 = .ok (.aload_n 0, 1) := by decide +kernel
theorem dX2_readOrder_119 : decode cX2_readOrder 119 = .ok (.iconst 3, 1) := by decide +kernel
theorem dX2_readOrder_120 : decode cX2_readOrder 120 = .ok (.sipush 999, 3) := by decide +kernel
theorem dX2_readOrder_123 : decode cX2_readOrder 123 = .ok (.invokevirtual 60, 3) := by decide +kernel
theorem dX2_readOrder_126 : decode cX2_readOrder 126 = .ok (.putfield 64, 3) := by decide +kernel
theorem dX2_readOrder_129 : decode cX2_readOrder 129 = .ok (.goto 71, 3) := by decide +kernel
theorem dX2_readOrder_132 : decode cX2_readOrder 132 = .ok (.aload_n 0, 1) := by decide +kernel
theorem dX2_readOrder_133 : decode cX2_readOrder 133 = .ok (.bipush 114, 2) := by decide +kernel
theorem dX2_readOrder_135 : decode cX2_readOrder 135 = .ok (.invokevirtual 48, 3) := by decide +kernel
theorem dX2_readOrder_138 : decode cX2_readOrder 138 = .ok (.aload_n 0, 1) := by decide +kernel
theorem dX2_readOrder_139 : decode cX2_readOrder 139 = .ok (.aload_n 0, 1) := by decide +kernel
theorem dX2_readOrder_140 : decode cX2_readOrder 140 = .ok (.invokevirtual 51, 3) := by decide +kernel
theorem dX2_readOrder_143 : decode cX2_readOrder 143 = .ok (.putfield 54, 3) := by decide +kernel
theorem dX2_readOrder_146 : decode cX2_readOrder 146 = .ok (.goto 54, 3) := by decide +kernel
theorem dX2_readOrder_149 : decode cX2_readOrder 149 = .ok (.aload_n 0, 1) := by decide +kernel
theorem dX2_readOrder_150 : decode cX2_readOrder 150 = .ok (.bipush 98, 2) := by decide +kernel
theorem dX2_readOrder_152 : decode cX2_readOrder 152 = .ok (.invokevirtual 48, 3) := by decide +kernel
theorem dX2_readOrder_155 : decode cX2_readOrder 155 = .ok (.goto 45, 3) := by decide +kernel
theorem dX2_readOrder_158 : decode cX2_readOrder 158 = .ok (.aload_n 0, 1) := by decide +kernel
theorem dX2_readOrder_159 : decode cX2_readOrder 159 = .ok (.bipush 99, 2) := by decide +kernel
theorem dX2_readOrder_161 : decode cX2_readOrder 161 = .ok (.invokevirtual 48, 3) := by decide +kernel
theorem dX2_readOrder_164 : decode cX2_readOrder 164 = .ok (.aload_n 0, 1) := by decide +kernel
theorem dX2_readOrder_165 : decode cX2_readOrder 165 = .ok (.aload_n 0, 1) := by decide +kernel
theorem dX2_readOrder_166 : decode cX2_readOrder 166 = .ok (.invokevirtual 51, 3) := by decide +kernel
theorem dX2_readOrder_169 : decode cX2_readOrder 169 = .ok (.putfield 54, 3) := by decide +kernel
theorem dX2_readOrder_172 : decode cX2_readOrder 172 = .ok (.aload_n 0, 1) := by decide +kernel
theorem dX2_readOrder_173 : decode cX2_readOrder 173 = .ok (.bipush 61, 2) := by decide +kernel
theorem dX2_readOrder_175 : decode cX2_readOrder 175 = .ok (.invokevirtual 48, 3) := by decide +kernel
theorem dX2_readOrder_178 : decode cX2_readOrder 178 = .ok (.aload_n 0, 1) := by decide +kernel
theorem dX2_readOrder_179 : decode cX2_readOrder 179 = .ok (.aload_n 0, 1) := by decide +kernel
theorem dX2_readOrder_180 : decode cX2_readOrder 180 = .ok (.iconst 2, 1) := by decide +kernel
theorem dX2_readOrder_181 : decode cX2_readOrder 181 = .ok (.bipush 40, 2) := by decide +kernel
theorem dX2_readOrder_183 : decode cX2_readOrder 183 = .ok (.invokevirtual 60, 3) := by decide +kernel
theorem dX2_readOrder_186 : decode cX2_readOrder 186 = .ok (.putfield 64, 3) := by decide +kernel
theorem dX2_readOrder_189 : decode cX2_readOrder 189 = .ok (.goto 11, 3) := by decide +kernel
theorem dX2_readOrder_192 : decode cX2_readOrder 192 = .ok (.aload_n 0, 1) := by decide +kernel
theorem dX2_readOrder_193 : decode cX2_readOrder 193 = .ok (.aload_n 0, 1) := by decide +kernel
theorem dX2_readOrder_194 : decode cX2_readOrder 194 = .ok (.getfield 31, 3) := by decide +kernel
theorem dX2_readOrder_197 : decode cX2_readOrder 197 = .ok (.invokevirtual 67, 3) := by decide +kernel
theorem dX2_readOrder_200 : decode cX2_readOrder 200 = .ok (.aload_n 0, 1) := by decide +kernel
theorem dX2_readOrder_201 : decode cX2_readOrder 201 = .ok (.bipush 59, 2) := by decide +kernel
theorem dX2_readOrder_203 : decode cX2_readOrder 203 = .ok (.invokevirtual 48, 3) := by decide +kernel
theorem dX2_readOrder_206 : decode cX2_readOrder 206 = .ok (.aload_n 0, 1) := by decide +kernel
theorem dX2_readOrder_207 : decode cX2_readOrder 207 = .ok (.getfield 20, 3) := by decide +kernel
theorem dX2_readOrder_210 : decode cX2_readOrder 210 = .ok (.iconst (-1), 1) := by decide +kernel
theorem dX2_readOrder_211 : decode cX2_readOrder 211 = .ok (.if_icmp .ne 7, 3) := by decide +kernel
theorem dX2_readOrder_214 : decode cX2_readOrder 214 = .ok (.iconst 1, 1) := by decide +kernel
theorem dX2_readOrder_215 : decode cX2_readOrder 215 = .ok (.goto 4, 3) := by decide +kernel
theorem dX2_readOrder_218 : decode cX2_readOrder 218 = .ok (.iconst 0, 1) := by decide +kernel
theorem dX2_readOrder_219 : decode cX2_readOrder 219 = .ok (.ireturn, 1) := by decide +kernel
theorem dX2_current_0 : decode cX2_current 0 = .ok (.aload_n 0, 1) := by decide +kernel
theorem dX2_current_1 : decode cX2_current 1 = .ok (.getfield 31, 3) := by decide +kernel
theorem dX2_current_4 : decode cX2_current 4 = .ok (.aload_n 0, 1) := by decide +kernel
theorem dX2_current_5 : decode cX2_current 5 = .ok (.getfield 24, 3) := by decide +kernel
theorem dX2_current_8 : decode cX2_current 8 = .ok (.if_icmp .ge 17, 3) := by decide +kernel
theorem dX2_current_11 : decode cX2_current 11 = .ok (.aload_n 0, 1) := by decide +kernel
theorem dX2_current_12 : decode cX2_current 12 = .ok (.getfield 14, 3) := by decide +kernel
theorem dX2_current_15 : decode cX2_current 15 = .ok (.aload_n 0, 1) := by decide +kernel
theorem dX2_current_16 : decode cX2_current 16 = .ok (.getfield 31, 3) := by decide +kernel
theorem dX2_current_19 : decode cX2_current 19 = .ok (.invokevirtual 70, 3) := by decide +kernel
theorem dX2_current_22 : decode cX2_current 22 = .ok (.goto 4, 3) := by decide +kernel
theorem dX2_current_25 : decode cX2_current 25 = .ok (.iconst (-1), 1) := by decide +kernel
theorem dX2_current_26 : decode cX2_current 26 = .ok (.ireturn, 1) := by decide +kernel
theorem dX2_noteWrong_0 : decode cX2_noteWrong 0 = .ok (.aload_n 0, 1) := by decide +kernel
theorem dX2_noteWrong_1 : decode cX2_noteWrong 1 = .ok (.getfield 20, 3) := by decide +kernel
theorem dX2_noteWrong_4 : decode cX2_noteWrong 4 = .ok (.iconst (-1), 1) := by decide +kernel
theorem dX2_noteWrong_5 : decode cX2_noteWrong 5 = .ok (.if_icmp .ne 8, 3) := by decide +kernel
theorem dX2_noteWrong_8 : decode cX2_noteWrong 8 = .ok (.aload_n 0, 1) := by decide +kernel
theorem dX2_noteWrong_9 : decode cX2_noteWrong 9 = .ok (.iload_n 1, 1) := by decide +kernel
theorem dX2_noteWrong_10 : decode cX2_noteWrong 10 = .ok (.putfield 20, 3) := by decide +kernel
theorem dX2_noteWrong_13 : decode cX2_noteWrong 13 = .ok (.return_, 1) := by decide +kernel
theorem dX2_readSign_0 : decode cX2_readSign 0 = .ok (.aload_n 0, 1) := by decide +kernel
theorem dX2_readSign_1 : decode cX2_readSign 1 = .ok (.getfield 20, 3) := by decide +kernel
theorem dX2_readSign_4 : decode cX2_readSign 4 = .ok (.iconst (-1), 1) := by decide +kernel
theorem dX2_readSign_5 : decode cX2_readSign 5 = .ok (.if_icmp .ne 24, 3) := by decide +kernel
theorem dX2_readSign_8 : decode cX2_readSign 8 = .ok (.aload_n 0, 1) := by decide +kernel
theorem dX2_readSign_9 : decode cX2_readSign 9 = .ok (.invokevirtual 41, 3) := by decide +kernel
theorem dX2_readSign_12 : decode cX2_readSign 12 = .ok (.iload_n 1, 1) := by decide +kernel
theorem dX2_readSign_13 : decode cX2_readSign 13 = .ok (.if_icmp .ne 16, 3) := by decide +kernel
theorem dX2_readSign_16 : decode cX2_readSign 16 = .ok (.aload_n 0, 1) := by decide +kernel
theorem dX2_readSign_17 : decode cX2_readSign 17 = .ok (.dup, 1) := by decide +kernel
theorem dX2_readSign_18 : decode cX2_readSign 18 = .ok (.getfield 31, 3) := by decide +kernel
theorem dX2_readSign_21 : decode cX2_readSign 21 = .ok (.iconst 1, 1) := by decide +kernel
theorem dX2_readSign_22 : decode cX2_readSign 22 = .ok (.iadd, 1) := by decide +kernel
theorem dX2_readSign_23 : decode cX2_readSign 23 = .ok (.putfield 31, 3) := by decide +kernel
theorem dX2_readSign_26 : decode cX2_readSign 26 = .ok (.goto 11, 3) := by decide +kernel
theorem dX2_readSign_29 : decode cX2_readSign 29 = .ok (.aload_n 0, 1) := by decide +kernel
theorem dX2_readSign_30 : decode cX2_readSign 30 = .ok (.aload_n 0, 1) := by decide +kernel
theorem dX2_readSign_31 : decode cX2_readSign 31 = .ok (.getfield 31, 3) := by decide +kernel
theorem dX2_readSign_34 : decode cX2_readSign 34 = .ok (.invokevirtual 67, 3) := by decide +kernel
theorem dX2_readSign_37 : decode cX2_readSign 37 = .ok (.return_, 1) := by decide +kernel
theorem dX2_readNode_0 : decode cX2_readNode 0 = .ok (.aload_n 0, 1) := by decide +kernel
theorem dX2_readNode_1 : decode cX2_readNode 1 = .ok (.invokevirtual 41, 3) := by decide +kernel
theorem dX2_readNode_4 : decode cX2_readNode 4 = .ok (.bipush 97, 2) := by decide +kernel
theorem dX2_readNode_6 : decode cX2_readNode 6 = .ok (.isub, 1) := by decide +kernel
theorem dX2_readNode_7 : decode cX2_readNode 7 = .ok (.istore_n 1, 1) := by decide +kernel
theorem dX2_readNode_8 : decode cX2_readNode 8 = .ok (.aload_n 0, 1) := by decide +kernel
theorem dX2_readNode_9 : decode cX2_readNode 9 = .ok (.getfield 20, 3) := by decide +kernel
theorem dX2_readNode_12 : decode cX2_readNode 12 = .ok (.iconst (-1), 1) := by decide +kernel
theorem dX2_readNode_13 : decode cX2_readNode 13 = .ok (.if_icmp .ne 25, 3) := by decide +kernel
theorem dX2_readNode_16 : decode cX2_readNode 16 = .ok (.iload_n 1, 1) := by decide +kernel
theorem dX2_readNode_17 : decode cX2_readNode 17 = .ok (.ifCond .lt 21, 3) := by decide +kernel
theorem dX2_readNode_20 : decode cX2_readNode 20 = .ok (.iload_n 1, 1) := by decide +kernel
theorem dX2_readNode_21 : decode cX2_readNode 21 = .ok (.bipush 12, 2) := by decide +kernel
theorem dX2_readNode_23 : decode cX2_readNode 23 = .ok (.if_icmp .ge 15, 3) := by decide +kernel
theorem dX2_readNode_26 : decode cX2_readNode 26 = .ok (.aload_n 0, 1) := by decide +kernel
theorem dX2_readNode_27 : decode cX2_readNode 27 = .ok (.dup, 1) := by decide +kernel
theorem dX2_readNode_28 : decode cX2_readNode 28 = .ok (.getfield 31, 3) := by decide +kernel
theorem dX2_readNode_31 : decode cX2_readNode 31 = .ok (.iconst 1, 1) := by decide +kernel
theorem dX2_readNode_32 : decode cX2_readNode 32 = .ok (.iadd, 1) := by decide +kernel
theorem dX2_readNode_33 : decode cX2_readNode 33 = .ok (.putfield 31, 3) := by decide +kernel
theorem dX2_readNode_36 : decode cX2_readNode 36 = .ok (.iload_n 1, 1) := by decide +kernel
theorem dX2_readNode_37 : decode cX2_readNode 37 = .ok (.ireturn, 1) := by decide +kernel
theorem dX2_readNode_38 : decode cX2_readNode 38 = .ok (.aload_n 0, 1) := by decide +kernel
theorem dX2_readNode_39 : decode cX2_readNode 39 = .ok (.aload_n 0, 1) := by decide +kernel
theorem dX2_readNode_40 : decode cX2_readNode 40 = .ok (.getfield 31, 3) := by decide +kernel
theorem dX2_readNode_43 : decode cX2_readNode 43 = .ok (.invokevirtual 67, 3) := by decide +kernel
theorem dX2_readNode_46 : decode cX2_readNode 46 = .ok (.iconst (-1), 1) := by decide +kernel
theorem dX2_readNode_47 : decode cX2_readNode 47 = .ok (.ireturn, 1) := by decide +kernel
theorem dX2_readNumber_0 : decode cX2_readNumber 0 = .ok (.aload_n 0, 1) := by decide +kernel
theorem dX2_readNumber_1 : decode cX2_readNumber 1 = .ok (.getfield 31, 3) := by decide +kernel
theorem dX2_readNumber_4 : decode cX2_readNumber 4 = .ok (.istore_n 3, 1) := by decide +kernel
theorem dX2_readNumber_5 : decode cX2_readNumber 5 = .ok (.iconst 0, 1) := by decide +kernel
theorem dX2_readNumber_6 : decode cX2_readNumber 6 = .ok (.istore 4, 2) := by decide +kernel
theorem dX2_readNumber_8 : decode cX2_readNumber 8 = .ok (.iconst 0, 1) := by decide +kernel
theorem dX2_readNumber_9 : decode cX2_readNumber 9 = .ok (.istore 5, 2) := by decide +kernel
theorem dX2_readNumber_11 : decode cX2_readNumber 11 = .ok (.iload 5, 2) := by decide +kernel
theorem dX2_readNumber_13 : decode cX2_readNumber 13 = .ok (.iload_n 1, 1) := by decide +kernel
theorem dX2_readNumber_14 : decode cX2_readNumber 14 = .ok (.if_icmp .ge 49, 3) := by decide +kernel
theorem dX2_readNumber_17 : decode cX2_readNumber 17 = .ok (.aload_n 0, 1) := by decide +kernel
theorem dX2_readNumber_18 : decode cX2_readNumber 18 = .ok (.getfield 20, 3) := by decide +kernel
theorem dX2_readNumber_21 : decode cX2_readNumber 21 = .ok (.iconst (-1), 1) := by decide +kernel
theorem dX2_readNumber_22 : decode cX2_readNumber 22 = .ok (.if_icmp .ne 41, 3) := by decide +kernel
theorem dX2_readNumber_25 : decode cX2_readNumber 25 = .ok (.aload_n 0, 1) := by decide +kernel
theorem dX2_readNumber_26 : decode cX2_readNumber 26 = .ok (.invokevirtual 74, 3) := by decide +kernel
theorem dX2_readNumber_29 : decode cX2_readNumber 29 = .ok (.ifCond .eq 34, 3) := by decide +kernel
theorem dX2_readNumber_32 : decode cX2_readNumber 32 = .ok (.iload 4, 2) := by decide +kernel
theorem dX2_readNumber_34 : decode cX2_readNumber 34 = .ok (.bipush 10, 2) := by decide +kernel
theorem dX2_readNumber_36 : decode cX2_readNumber 36 = .ok (.imul, 1) := by decide +kernel
theorem dX2_readNumber_37 : decode cX2_readNumber 37 = .ok (.aload_n 0, 1) := by decide +kernel
theorem dX2_readNumber_38 : decode cX2_readNumber 38 = .ok (.invokevirtual 41, 3) := by decide +kernel
theorem dX2_readNumber_41 : decode cX2_readNumber 41 = .ok (.iadd, 1) := by decide +kernel
theorem dX2_readNumber_42 : decode cX2_readNumber 42 = .ok (.bipush 48, 2) := by decide +kernel
theorem dX2_readNumber_44 : decode cX2_readNumber 44 = .ok (.isub, 1) := by decide +kernel
theorem dX2_readNumber_45 : decode cX2_readNumber 45 = .ok (.istore 4, 2) := by decide +kernel
theorem dX2_readNumber_47 : decode cX2_readNumber 47 = .ok (.aload_n 0, 1) := by decide +kernel
theorem dX2_readNumber_48 : decode cX2_readNumber 48 = .ok (.dup, 1) := by decide +kernel
theorem dX2_readNumber_49 : decode cX2_readNumber 49 = .ok (.getfield 31, 3) := by decide +kernel
theorem dX2_readNumber_52 : decode cX2_readNumber 52 = .ok (.iconst 1, 1) := by decide +kernel
theorem dX2_readNumber_53 : decode cX2_readNumber 53 = .ok (.iadd, 1) := by decide +kernel
theorem dX2_readNumber_54 : decode cX2_readNumber 54 = .ok (.putfield 31, 3) := by decide +kernel
theorem dX2_readNumber_57 : decode cX2_readNumber 57 = .ok (.iinc 5 1, 3) := by decide +kernel
theorem dX2_readNumber_60 : decode cX2_readNumber 60 = .ok (.goto (-49), 3) := by decide +kernel
theorem dX2_readNumber_63 : decode cX2_readNumber 63 = .ok (.aload_n 0, 1) := by decide +kernel
theorem dX2_readNumber_64 : decode cX2_readNumber 64 = .ok (.getfield 31, 3) := by decide +kernel
theorem dX2_readNumber_67 : decode cX2_readNumber 67 = .ok (.iload_n 3, 1) := by decide +kernel
theorem dX2_readNumber_68 : decode cX2_readNumber 68 = .ok (.if_icmp .eq 10, 3) := by decide +kernel
theorem dX2_readNumber_71 : decode cX2_readNumber 71 = .ok (.aload_n 0, 1) := by decide +kernel
theorem dX2_readNumber_72 : decode cX2_readNumber 72 = .ok (.invokevirtual 74, 3) := by decide +kernel
theorem dX2_readNumber_75 : decode cX2_readNumber 75 = .ok (.ifCond .eq 14, 3) := by decide +kernel
theorem dX2_readNumber_78 : decode cX2_readNumber 78 = .ok (.aload_n 0, 1) := by decide +kernel
theorem dX2_readNumber_79 : decode cX2_readNumber 79 = .ok (.aload_n 0, 1) := by decide +kernel
theorem dX2_readNumber_80 : decode cX2_readNumber 80 = .ok (.getfield 31, 3) := by decide +kernel
theorem dX2_readNumber_83 : decode cX2_readNumber 83 = .ok (.invokevirtual 67, 3) := by decide +kernel
theorem dX2_readNumber_86 : decode cX2_readNumber 86 = .ok (.goto 14, 3) := by decide +kernel
theorem dX2_readNumber_89 : decode cX2_readNumber 89 = .ok (.iload 4, 2) := by decide +kernel
theorem dX2_readNumber_91 : decode cX2_readNumber 91 = .ok (.iload_n 2, 1) := by decide +kernel
theorem dX2_readNumber_92 : decode cX2_readNumber 92 = .ok (.if_icmp .le 8, 3) := by decide +kernel
theorem dX2_readNumber_95 : decode cX2_readNumber 95 = .ok (.aload_n 0, 1) := by decide +kernel
theorem dX2_readNumber_96 : decode cX2_readNumber 96 = .ok (.iload_n 3, 1) := by decide +kernel
theorem dX2_readNumber_97 : decode cX2_readNumber 97 = .ok (.invokevirtual 67, 3) := by decide +kernel
theorem dX2_readNumber_100 : decode cX2_readNumber 100 = .ok (.iload 4, 2) := by decide +kernel
theorem dX2_readNumber_102 : decode cX2_readNumber 102 = .ok (.ireturn, 1) := by decide +kernel
theorem dX2_isAtDigit_0 : decode cX2_isAtDigit 0 = .ok (.aload_n 0, 1) := by decide +kernel
theorem dX2_isAtDigit_1 : decode cX2_isAtDigit 1 = .ok (.invokevirtual 41, 3) := by decide +kernel
theorem dX2_isAtDigit_4 : decode cX2_isAtDigit 4 = .ok (.bipush 48, 2) := by decide +kernel
theorem dX2_isAtDigit_6 : decode cX2_isAtDigit 6 = .ok (.if_icmp .lt 16, 3) := by decide +kernel
theorem dX2_isAtDigit_9 : decode cX2_isAtDigit 9 = .ok (.aload_n 0, 1) := by decide +kernel
theorem dX2_isAtDigit_10 : decode cX2_isAtDigit 10 = .ok (.invokevirtual 41, 3) := by decide +kernel
theorem dX2_isAtDigit_13 : decode cX2_isAtDigit 13 = .ok (.bipush 57, 2) := by decide +kernel
theorem dX2_isAtDigit_15 : decode cX2_isAtDigit 15 = .ok (.if_icmp .gt 7, 3) := by decide +kernel
theorem dX2_isAtDigit_18 : decode cX2_isAtDigit 18 = .ok (.iconst 1, 1) := by decide +kernel
theorem dX2_isAtDigit_19 : decode cX2_isAtDigit 19 = .ok (.goto 4, 3) := by decide +kernel
theorem dX2_isAtDigit_22 : decode cX2_isAtDigit 22 = .ok (.iconst 0, 1) := by decide +kernel
theorem dX2_isAtDigit_23 : decode cX2_isAtDigit 23 = .ok (.ireturn, 1) := by decide +kernel
theorem dX3_init_0 : decode cX3_init 0 = .ok (.aload_n 0, 1) := by decide +kernel
theorem dX3_init_1 : decode cX3_init 1 = .ok (.invokespecial 3, 3) := by decide +kernel
theorem dX3_init_4 : decode cX3_init 4 = .ok (.aload_n 0, 1) := by decide +kernel
theorem dX3_init_5 : decode cX3_init 5 = .ok (.sipush 4096, 3) := by decide +kernel
theorem dX3_init_8 : decode cX3_init 8 = .ok (.newarray .int, 2) := by decide +kernel
theorem dX3_init_10 : decode cX3_init 10 = .ok (.putfield 9, 3) := by decide +kernel
theorem dX3_init_13 : decode cX3_init 13 = .ok (.aload_n 0, 1) := by decide +kernel
theorem dX3_init_14 : decode cX3_init 14 = .ok (.sipush 4096, 3) := by decide +kernel
theorem dX3_init_17 : decode cX3_init 17 = .ok (.newarray .int, 2) := by decide +kernel
theorem dX3_init_19 : decode cX3_init 19 = .ok (.putfield 15, 3) := by decide +kernel
theorem dX3_init_22 : decode cX3_init 22 = .ok (.aload_n 0, 1) := by decide +kernel
theorem dX3_init_23 : decode cX3_init 23 = .ok (.new 18, 3) := by decide +kernel
theorem dX3_init_26 : decode cX3_init 26 = .ok (.dup, 1) := by decide +kernel
theorem dX3_init_27 : decode cX3_init 27 = .ok (.bipush 12, 2) := by decide +kernel
theorem dX3_init_29 : decode cX3_init 29 = .ok (.invokespecial 20, 3) := by decide +kernel
theorem dX3_init_32 : decode cX3_init 32 = .ok (.putfield 23, 3) := by decide +kernel
theorem dX3_init_35 : decode cX3_init 35 = .ok (.return_, 1) := by decide +kernel
theorem dX3_forget_0 : decode cX3_forget 0 = .ok (.aload_n 0, 1) := by decide +kernel
theorem dX3_forget_1 : decode cX3_forget 1 = .ok (.iconst 0, 1) := by decide +kernel
theorem dX3_forget_2 : decode cX3_forget 2 = .ok (.putfield 27, 3) := by decide +kernel
theorem dX3_forget_5 : decode cX3_forget 5 = .ok (.return_, 1) := by decide +kernel
theorem dX3_learn_0 : decode cX3_learn 0 = .ok (.aload_n 0, 1) := by decide +kernel
theorem dX3_learn_1 : decode cX3_learn 1 = .ok (.getfield 27, 3) := by decide +kernel
theorem dX3_learn_4 : decode cX3_learn 4 = .ok (.ifCond .eq 4, 3) := by decide +kernel
theorem dX3_learn_7 : decode cX3_learn 7 = .ok (.return_, 1) := by decide +kernel
theorem dX3_learn_8 : decode cX3_learn 8 = .ok (.aload_n 0, 1) := by decide +kernel
theorem dX3_learn_9 : decode cX3_learn 9 = .ok (.getfield 9, 3) := by decide +kernel
theorem dX3_learn_12 : decode cX3_learn 12 = .ok (.iconst 0, 1) := by decide +kernel
theorem dX3_learn_13 : decode cX3_learn 13 = .ok (.iconst 0, 1) := by decide +kernel
theorem dX3_learn_14 : decode cX3_learn 14 = .ok (.iastore, 1) := by decide +kernel
theorem dX3_learn_15 : decode cX3_learn 15 = .ok (.aload_n 0, 1) := by decide +kernel
theorem dX3_learn_16 : decode cX3_learn 16 = .ok (.iconst 1, 1) := by decide +kernel
theorem dX3_learn_17 : decode cX3_learn 17 = .ok (.putfield 31, 3) := by decide +kernel
theorem dX3_learn_20 : decode cX3_learn 20 = .ok (.iconst 0, 1) := by decide +kernel
theorem dX3_learn_21 : decode cX3_learn 21 = .ok (.istore_n 2, 1) := by decide +kernel
theorem dX3_learn_22 : decode cX3_learn 22 = .ok (.iload_n 2, 1) := by decide +kernel
theorem dX3_learn_23 : decode cX3_learn 23 = .ok (.aload_n 1, 1) := by decide +kernel
theorem dX3_learn_24 : decode cX3_learn 24 = .ok (.getfield 35, 3) := by decide +kernel
theorem dX3_learn_27 : decode cX3_learn 27 = .ok (.if_icmp .ge 35, 3) := by decide +kernel
theorem dX3_learn_30 : decode cX3_learn 30 = .ok (.aload_n 0, 1) := by decide +kernel
theorem dX3_learn_31 : decode cX3_learn 31 = .ok (.getfield 31, 3) := by decide +kernel
theorem dX3_learn_34 : decode cX3_learn 34 = .ok (.iconst 2, 1) := by decide +kernel
theorem dX3_learn_35 : decode cX3_learn 35 = .ok (.imul, 1) := by decide +kernel
theorem dX3_learn_36 : decode cX3_learn 36 = .ok (.sipush 4096, 3) := by decide +kernel
theorem dX3_learn_39 : decode cX3_learn 39 = .ok (.if_icmp .gt 23, 3) := by decide +kernel
theorem dX3_learn_42 : decode cX3_learn 42 = .ok (.aload_n 1, 1) := by decide +kernel
theorem dX3_learn_43 : decode cX3_learn 43 = .ok (.iload_n 2, 1) := by decide +kernel
theorem dX3_learn_44 : decode cX3_learn 44 = .ok (.aload_n 0, 1) := by decide +kernel
theorem dX3_learn_45 : decode cX3_learn 45 = .ok (.getfield 23, 3) := by decide +kernel
theorem dX3_learn_48 : decode cX3_learn 48 = .ok (.invokevirtual 40, 3) := by decide +kernel
theorem dX3_learn_51 : decode cX3_learn 51 = .ok (.aload_n 0, 1) := by decide +kernel
theorem dX3_learn_52 : decode cX3_learn 52 = .ok (.iload_n 2, 1) := by decide +kernel
theorem dX3_learn_53 : decode cX3_learn 53 = .ok (.invokevirtual 44, 3) := by decide +kernel
theorem dX3_learn_56 : decode cX3_learn 56 = .ok (.iinc 2 1, 3) := by decide +kernel
theorem dX3_learn_59 : decode cX3_learn 59 = .ok (.goto (-37), 3) := by decide +kernel
theorem dX3_learn_62 : decode cX3_learn 62 = .ok (.aload_n 0, 1) := by decide +kernel
theorem dX3_learn_63 : decode cX3_learn 63 = .ok (.aload_n 0, 1) := by decide +kernel
theorem dX3_learn_64 : decode cX3_learn 64 = .ok (.iconst 0, 1) := by decide +kernel
theorem dX3_learn_65 : decode cX3_learn 65 = .ok (.iconst 0, 1) := by decide +kernel
theorem dX3_learn_66 : decode cX3_learn 66 = .ok (.invokevirtual 47, 3) := by decide +kernel
theorem dX3_learn_69 : decode cX3_learn 69 = .ok (.putfield 51, 3) := by decide +kernel
theorem dX3_learn_72 : decode cX3_learn 72 = .ok (.aload_n 0, 1) := by decide +kernel
theorem dX3_learn_73 : decode cX3_learn 73 = .ok (.aload_n 0, 1) := by decide +kernel
theorem dX3_learn_74 : decode cX3_learn 74 = .ok (.aload_n 0, 1) := by decide +kernel
theorem dX3_learn_75 : decode cX3_learn 75 = .ok (.getfield 51, 3) := by decide +kernel
theorem dX3_learn_78 : decode cX3_learn 78 = .ok (.iconst 0, 1) := by decide +kernel
theorem dX3_learn_79 : decode cX3_learn 79 = .ok (.iconst 0, 1) := by decide +kernel
theorem dX3_learn_80 : decode cX3_learn 80 = .ok (.invokevirtual 54, 3) := by decide +kernel
theorem dX3_learn_83 : decode cX3_learn 83 = .ok (.putfield 58, 3) := by decide +kernel
theorem dX3_learn_86 : decode cX3_learn 86 = .ok (.aload_n 0, 1) := by decide +kernel
theorem dX3_learn_87 : decode cX3_learn 87 = .ok (.iconst 1, 1) := by decide +kernel
theorem dX3_learn_88 : decode cX3_learn 88 = .ok (.putfield 27, 3) := by decide +kernel
theorem dX3_learn_91 : decode cX3_learn 91 = .ok (.return_, 1) := by decide +kernel
theorem dX3_addSetsWith_0 : decode cX3_addSetsWith 0 = .ok (.aload_n 0, 1) := by decide +kernel
theorem dX3_addSetsWith_1 : decode cX3_addSetsWith 1 = .ok (.getfield 9, 3) := by decide +kernel
theorem dX3_addSetsWith_4 : decode cX3_addSetsWith 4 = .ok (.aload_n 0, 1) := by decide +kernel
theorem dX3_addSetsWith_5 : decode cX3_addSetsWith 5 = .ok (.getfield 31, 3) := by decide +kernel
theorem dX3_addSetsWith_8 : decode cX3_addSetsWith 8 = .ok (.aload_n 0, 1) := by decide +kernel
theorem dX3_addSetsWith_9 : decode cX3_addSetsWith 9 = .ok (.getfield 23, 3) := by decide +kernel
theorem dX3_addSetsWith_12 : decode cX3_addSetsWith 12 = .ok (.iload_n 1, 1) := by decide +kernel
theorem dX3_addSetsWith_13 : decode cX3_addSetsWith 13 = .ok (.invokestatic 61, 3) := by decide +kernel
theorem dX3_addSetsWith_16 : decode cX3_addSetsWith 16 = .ok (.iconst 0, 1) := by decide +kernel
theorem dX3_addSetsWith_17 : decode cX3_addSetsWith 17 = .ok (.istore_n 2, 1) := by decide +kernel
theorem dX3_addSetsWith_18 : decode cX3_addSetsWith 18 = .ok (.iload_n 2, 1) := by decide +kernel
theorem dX3_addSetsWith_19 : decode cX3_addSetsWith 19 = .ok (.aload_n 0, 1) := by decide +kernel
theorem dX3_addSetsWith_20 : decode cX3_addSetsWith 20 = .ok (.getfield 31, 3) := by decide +kernel
theorem dX3_addSetsWith_23 : decode cX3_addSetsWith 23 = .ok (.if_icmp .ge 43, 3) := by decide +kernel
theorem dX3_addSetsWith_26 : decode cX3_addSetsWith 26 = .ok (.aload_n 0, 1) := by decide +kernel
theorem dX3_addSetsWith_27 : decode cX3_addSetsWith 27 = .ok (.getfield 31, 3) := by decide +kernel
theorem dX3_addSetsWith_30 : decode cX3_addSetsWith 30 = .ok (.iload_n 2, 1) := by decide +kernel
theorem dX3_addSetsWith_31 : decode cX3_addSetsWith 31 = .ok (.iadd, 1) := by decide +kernel
theorem dX3_addSetsWith_32 : decode cX3_addSetsWith 32 = .ok (.aload_n 0, 1) := by decide +kernel
theorem dX3_addSetsWith_33 : decode cX3_addSetsWith 33 = .ok (.getfield 9, 3) := by decide +kernel
theorem dX3_addSetsWith_36 : decode cX3_addSetsWith 36 = .ok (.arraylength, 1) := by decide +kernel
theorem dX3_addSetsWith_37 : decode cX3_addSetsWith 37 = .ok (.if_icmp .ge 29, 3) := by decide +kernel
theorem dX3_addSetsWith_40 : decode cX3_addSetsWith 40 = .ok (.aload_n 0, 1) := by decide +kernel
theorem dX3_addSetsWith_41 : decode cX3_addSetsWith 41 = .ok (.getfield 9, 3) := by decide +kernel
theorem dX3_addSetsWith_44 : decode cX3_addSetsWith 44 = .ok (.aload_n 0, 1) := by decide +kernel
theorem dX3_addSetsWith_45 : decode cX3_addSetsWith 45 = .ok (.getfield 31, 3) := by decide +kernel
theorem dX3_addSetsWith_48 : decode cX3_addSetsWith 48 = .ok (.iload_n 2, 1) := by decide +kernel
theorem dX3_addSetsWith_49 : decode cX3_addSetsWith 49 = .ok (.iadd, 1) := by decide +kernel
theorem dX3_addSetsWith_50 : decode cX3_addSetsWith 50 = .ok (.dup2, 1) := by decide +kernel
theorem dX3_addSetsWith_51 : decode cX3_addSetsWith 51 = .ok (.iaload, 1) := by decide +kernel
theorem dX3_addSetsWith_52 : decode cX3_addSetsWith 52 = .ok (.aload_n 0, 1) := by decide +kernel
theorem dX3_addSetsWith_53 : decode cX3_addSetsWith 53 = .ok (.getfield 9, 3) := by decide +kernel
theorem dX3_addSetsWith_56 : decode cX3_addSetsWith 56 = .ok (.iload_n 2, 1) := by decide +kernel
theorem dX3_addSetsWith_57 : decode cX3_addSetsWith 57 = .ok (.iaload, 1) := by decide +kernel
theorem dX3_addSetsWith_58 : decode cX3_addSetsWith 58 = .ok (.iadd, 1) := by decide +kernel
theorem dX3_addSetsWith_59 : decode cX3_addSetsWith 59 = .ok (.iastore, 1) := by decide +kernel
theorem dX3_addSetsWith_60 : decode cX3_addSetsWith 60 = .ok (.iinc 2 1, 3) := by decide +kernel
theorem dX3_addSetsWith_63 : decode cX3_addSetsWith 63 = .ok (.goto (-45), 3) := by decide +kernel
theorem dX3_addSetsWith_66 : decode cX3_addSetsWith 66 = .ok (.aload_n 0, 1) := by decide +kernel
theorem dX3_addSetsWith_67 : decode cX3_addSetsWith 67 = .ok (.aload_n 0, 1) := by decide +kernel
theorem dX3_addSetsWith_68 : decode cX3_addSetsWith 68 = .ok (.getfield 31, 3) := by decide +kernel
theorem dX3_addSetsWith_71 : decode cX3_addSetsWith 71 = .ok (.iconst 2, 1) := by decide +kernel
theorem dX3_addSetsWith_72 : decode cX3_addSetsWith 72 = .ok (.imul, 1) := by decide +kernel
theorem dX3_addSetsWith_73 : decode cX3_addSetsWith 73 = .ok (.putfield 31, 3) := by decide +kernel
theorem dX3_addSetsWith_76 : decode cX3_addSetsWith 76 = .ok (.return_, 1) := by decide +kernel
theorem dX3_writeSums_0 : decode cX3_writeSums 0 = .ok (.iload_n 1, 1) := by decide +kernel
theorem dX3_writeSums_1 : decode cX3_writeSums 1 = .ok (.ifCond .lt 9, 3) := by decide +kernel
theorem dX3_writeSums_4 : decode cX3_writeSums 4 = .ok (.iload_n 1, 1) := by decide +kernel
theorem dX3_writeSums_5 : decode cX3_writeSums 5 = .ok (.aload_n 0, 1) := by decide +kernel
theorem dX3_writeSums_6 : decode cX3_writeSums 6 = .ok (.arraylength, 1) := by decide +kernel
theorem dX3_writeSums_7 : decode cX3_writeSums 7 = .ok (.if_icmp .lt 4, 3) := by decide +kernel
theorem dX3_writeSums_10 : decode cX3_writeSums 10 = .ok (.return_, 1) := by decide +kernel
theorem dX3_writeSums_11 : decode cX3_writeSums 11 = .ok (.aload_n 0, 1) := by decide +kernel
theorem dX3_writeSums_12 : decode cX3_writeSums 12 = .ok (.iload_n 1, 1) := by decide +kernel
theorem dX3_writeSums_13 : decode cX3_writeSums 13 = .ok (.iconst 0, 1) := by decide +kernel
theorem dX3_writeSums_14 : decode cX3_writeSums 14 = .ok (.iastore, 1) := by decide +kernel
theorem dX3_writeSums_15 : decode cX3_writeSums 15 = .ok (.iconst 1, 1) := by decide +kernel
theorem dX3_writeSums_16 : decode cX3_writeSums 16 = .ok (.istore 4, 2) := by decide +kernel
theorem dX3_writeSums_18 : decode cX3_writeSums 18 = .ok (.iconst 0, 1) := by decide +kernel
theorem dX3_writeSums_19 : decode cX3_writeSums 19 = .ok (.istore 5, 2) := by decide +kernel
theorem dX3_writeSums_21 : decode cX3_writeSums 21 = .ok (.iload 5, 2) := by decide +kernel
theorem dX3_writeSums_23 : decode cX3_writeSums 23 = .ok (.iload_n 3, 1) := by decide +kernel
theorem dX3_writeSums_24 : decode cX3_writeSums 24 = .ok (.if_icmp .ge 76, 3) := by decide +kernel
theorem dX3_writeSums_27 : decode cX3_writeSums 27 = .ok (.iload 5, 2) := by decide +kernel
theorem dX3_writeSums_29 : decode cX3_writeSums 29 = .ok (.bipush 12, 2) := by decide +kernel
theorem dX3_writeSums_31 : decode cX3_writeSums 31 = .ok (.if_icmp .ge 69, 3) := by decide +kernel
theorem dX3_writeSums_34 : decode cX3_writeSums 34 = .ok (.aload_n 2, 1) := by decide +kernel
theorem dX3_writeSums_35 : decode cX3_writeSums 35 = .ok (.iload 5, 2) := by decide +kernel
theorem dX3_writeSums_37 : decode cX3_writeSums 37 = .ok (.invokevirtual 65, 3) := by decide +kernel
theorem dX3_writeSums_40 : decode cX3_writeSums 40 = .ok (.istore 6, 2) := by decide +kernel
theorem dX3_writeSums_42 : decode cX3_writeSums 42 = .ok (.iconst 0, 1) := by decide +kernel
theorem dX3_writeSums_43 : decode cX3_writeSums 43 = .ok (.istore 7, 2) := by decide +kernel
theorem dX3_writeSums_45 : decode cX3_writeSums 45 = .ok (.iload 7, 2) := by decide +kernel
theorem dX3_writeSums_47 : decode cX3_writeSums 47 = .ok (.iload 4, 2) := by decide +kernel
theorem dX3_writeSums_49 : decode cX3_writeSums 49 = .ok (.if_icmp .ge 39, 3) := by decide +kernel
theorem dX3_writeSums_52 : decode cX3_writeSums 52 = .ok (.iload_n 1, 1) := by decide +kernel
theorem dX3_writeSums_53 : decode cX3_writeSums 53 = .ok (.iload 4, 2) := by decide +kernel
theorem dX3_writeSums_55 : decode cX3_writeSums 55 = .ok (.iadd, 1) := by decide +kernel
theorem dX3_writeSums_56 : decode cX3_writeSums 56 = .ok (.iload 7, 2) := by decide +kernel
theorem dX3_writeSums_58 : decode cX3_writeSums 58 = .ok (.iadd, 1) := by decide +kernel
theorem dX3_writeSums_59 : decode cX3_writeSums 59 = .ok (.aload_n 0, 1) := by decide +kernel
theorem dX3_writeSums_60 : decode cX3_writeSums 60 = .ok (.arraylength, 1) := by decide +kernel
theorem dX3_writeSums_61 : decode cX3_writeSums 61 = .ok (.if_icmp .ge 27, 3) := by decide +kernel
theorem dX3_writeSums_64 : decode cX3_writeSums 64 = .ok (.aload_n 0, 1) := by decide +kernel
theorem dX3_writeSums_65 : decode cX3_writeSums 65 = .ok (.iload_n 1, 1) := by decide +kernel
theorem dX3_writeSums_66 : decode cX3_writeSums 66 = .ok (.iload 4, 2) := by decide +kernel
theorem dX3_writeSums_68 : decode cX3_writeSums 68 = .ok (.iadd, 1) := by decide +kernel
theorem dX3_writeSums_69 : decode cX3_writeSums 69 = .ok (.iload 7, 2) := by decide +kernel
theorem dX3_writeSums_71 : decode cX3_writeSums 71 = .ok (.iadd, 1) := by decide +kernel
theorem dX3_writeSums_72 : decode cX3_writeSums 72 = .ok (.aload_n 0, 1) := by decide +kernel
theorem dX3_writeSums_73 : decode cX3_writeSums 73 = .ok (.iload_n 1, 1) := by decide +kernel
theorem dX3_writeSums_74 : decode cX3_writeSums 74 = .ok (.iload 7, 2) := by decide +kernel
theorem dX3_writeSums_76 : decode cX3_writeSums 76 = .ok (.iadd, 1) := by decide +kernel
theorem dX3_writeSums_77 : decode cX3_writeSums 77 = .ok (.iaload, 1) := by decide +kernel
theorem dX3_writeSums_78 : decode cX3_writeSums 78 = .ok (.iload 6, 2) := by decide +kernel
theorem dX3_writeSums_80 : decode cX3_writeSums 80 = .ok (.iadd, 1) := by decide +kernel
theorem dX3_writeSums_81 : decode cX3_writeSums 81 = .ok (.iastore, 1) := by decide +kernel
theorem dX3_writeSums_82 : decode cX3_writeSums 82 = .ok (.iinc 7 1, 3) := by decide +kernel
theorem dX3_writeSums_85 : decode cX3_writeSums 85 = .ok (.goto (-40), 3) := by decide +kernel
theorem dX3_writeSums_88 : decode cX3_writeSums 88 = .ok (.iload 4, 2) := by decide +kernel
theorem dX3_writeSums_90 : decode cX3_writeSums 90 = .ok (.iconst 2, 1) := by decide +kernel
theorem dX3_writeSums_91 : decode cX3_writeSums 91 = .ok (.imul, 1) := by decide +kernel
theorem dX3_writeSums_92 : decode cX3_writeSums 92 = .ok (.istore 4, 2) := by decide +kernel
theorem dX3_writeSums_94 : decode cX3_writeSums 94 = .ok (.iinc 5 1, 3) := by decide +kernel
theorem dX3_writeSums_97 : decode cX3_writeSums 97 = .ok (.goto (-76), 3) := by decide +kernel
theorem dX3_writeSums_100 : decode cX3_writeSums 100 = .ok (.return_, 1) := by decide +kernel
theorem dX3_innerWith_0 : decode cX3_innerWith 0 = .ok (.iload_n 1, 1) := by decide +kernel
theorem dX3_innerWith_1 : decode cX3_innerWith 1 = .ok (.ifCond .lt 12, 3) := by decide +kernel
theorem dX3_innerWith_4 : decode cX3_innerWith 4 = .ok (.iload_n 1, 1) := by decide +kernel
theorem dX3_innerWith_5 : decode cX3_innerWith 5 = .ok (.aload_n 0, 1) := by decide +kernel
theorem dX3_innerWith_6 : decode cX3_innerWith 6 = .ok (.getfield 9, 3) := by decide +kernel
theorem dX3_innerWith_9 : decode cX3_innerWith 9 = .ok (.arraylength, 1) := by decide +kernel
theorem dX3_innerWith_10 : decode cX3_innerWith 10 = .ok (.if_icmp .lt 5, 3) := by decide +kernel
theorem dX3_innerWith_13 : decode cX3_innerWith 13 = .ok (.iconst 0, 1) := by decide +kernel
theorem dX3_innerWith_14 : decode cX3_innerWith 14 = .ok (.ireturn, 1) := by decide +kernel
theorem dX3_innerWith_15 : decode cX3_innerWith 15 = .ok (.iload_n 2, 1) := by decide +kernel
theorem dX3_innerWith_16 : decode cX3_innerWith 16 = .ok (.iload_n 1, 1) := by decide +kernel
theorem dX3_innerWith_17 : decode cX3_innerWith 17 = .ok (.iconst (-1), 1) := by decide +kernel
theorem dX3_innerWith_18 : decode cX3_innerWith 18 = .ok (.ixor, 1) := by decide +kernel
theorem dX3_innerWith_19 : decode cX3_innerWith 19 = .ok (.iand, 1) := by decide +kernel
theorem dX3_innerWith_20 : decode cX3_innerWith 20 = .ok (.ifCond .ne 14, 3) := by decide +kernel
theorem dX3_innerWith_23 : decode cX3_innerWith 23 = .ok (.aload_n 0, 1) := by decide +kernel
theorem dX3_innerWith_24 : decode cX3_innerWith 24 = .ok (.getfield 9, 3) := by decide +kernel
theorem dX3_innerWith_27 : decode cX3_innerWith 27 = .ok (.iload_n 1, 1) := by decide +kernel
theorem dX3_innerWith_28 : decode cX3_innerWith 28 = .ok (.iaload, 1) := by decide +kernel
theorem dX3_innerWith_29 : decode cX3_innerWith 29 = .ok (.iload_n 3, 1) := by decide +kernel
theorem dX3_innerWith_30 : decode cX3_innerWith 30 = .ok (.iadd, 1) := by decide +kernel
theorem dX3_innerWith_31 : decode cX3_innerWith 31 = .ok (.goto 9, 3) := by decide +kernel
theorem dX3_innerWith_34 : decode cX3_innerWith 34 = .ok (.aload_n 0, 1) := by decide +kernel
theorem dX3_innerWith_35 : decode cX3_innerWith 35 = .ok (.getfield 9, 3) := by decide +kernel
theorem dX3_innerWith_38 : decode cX3_innerWith 38 = .ok (.iload_n 1, 1) := by decide +kernel
theorem dX3_innerWith_39 : decode cX3_innerWith 39 = .ok (.iaload, 1) := by decide +kernel
theorem dX3_innerWith_40 : decode cX3_innerWith 40 = .ok (.ireturn, 1) := by decide +kernel
theorem dX3_densestWith_0 : decode cX3_densestWith 0 = .ok (.iconst 0, 1) := by decide +kernel
theorem dX3_densestWith_1 : decode cX3_densestWith 1 = .ok (.istore_n 3, 1) := by decide +kernel
theorem dX3_densestWith_2 : decode cX3_densestWith 2 = .ok (.iconst 0, 1) := by decide +kernel
theorem dX3_densestWith_3 : decode cX3_densestWith 3 = .ok (.istore 4, 2) := by decide +kernel
theorem dX3_densestWith_5 : decode cX3_densestWith 5 = .ok (.iconst 0, 1) := by decide +kernel
theorem dX3_densestWith_6 : decode cX3_densestWith 6 = .ok (.istore 5, 2) := by decide +kernel
theorem dX3_densestWith_8 : decode cX3_densestWith 8 = .ok (.iconst 1, 1) := by decide +kernel
theorem dX3_densestWith_9 : decode cX3_densestWith 9 = .ok (.istore 6, 2) := by decide +kernel
theorem dX3_densestWith_11 : decode cX3_densestWith 11 = .ok (.iload 6, 2) := by decide +kernel
theorem dX3_densestWith_13 : decode cX3_densestWith 13 = .ok (.aload_n 0, 1) := by decide +kernel
theorem dX3_densestWith_14 : decode cX3_densestWith 14 = .ok (.getfield 31, 3) := by decide +kernel
theorem dX3_densestWith_17 : decode cX3_densestWith 17 = .ok (.if_icmp .ge 71, 3) := by decide +kernel
theorem dX3_densestWith_20 : decode cX3_densestWith 20 = .ok (.aload_n 0, 1) := by decide +kernel
theorem dX3_densestWith_21 : decode cX3_densestWith 21 = .ok (.iload 6, 2) := by decide +kernel
theorem dX3_densestWith_23 : decode cX3_densestWith 23 = .ok (.iload_n 1, 1) := by decide +kernel
theorem dX3_densestWith_24 : decode cX3_densestWith 24 = .ok (.iload_n 2, 1) := by decide +kernel
theorem dX3_densestWith_25 : decode cX3_densestWith 25 = .ok (.invokevirtual 69, 3) := by decide +kernel
theorem dX3_densestWith_28 : decode cX3_densestWith 28 = .ok (.istore 7, 2) := by decide +kernel
theorem dX3_densestWith_30 : decode cX3_densestWith 30 = .ok (.iload 6, 2) := by decide +kernel
theorem dX3_densestWith_32 : decode cX3_densestWith 32 = .ok (.invokestatic 72, 3) := by decide +kernel
theorem dX3_densestWith_35 : decode cX3_densestWith 35 = .ok (.istore 8, 2) := by decide +kernel
theorem dX3_densestWith_37 : decode cX3_densestWith 37 = .ok (.iload 7, 2) := by decide +kernel
theorem dX3_densestWith_39 : decode cX3_densestWith 39 = .ok (.iload 5, 2) := by decide +kernel
theorem dX3_densestWith_41 : decode cX3_densestWith 41 = .ok (.imul, 1) := by decide +kernel
theorem dX3_densestWith_42 : decode cX3_densestWith 42 = .ok (.iload 4, 2) := by decide +kernel
theorem dX3_densestWith_44 : decode cX3_densestWith 44 = .ok (.iload 8, 2) := by decide +kernel
theorem dX3_densestWith_46 : decode cX3_densestWith 46 = .ok (.imul, 1) := by decide +kernel
theorem dX3_densestWith_47 : decode cX3_densestWith 47 = .ok (.isub, 1) := by decide +kernel
theorem dX3_densestWith_48 : decode cX3_densestWith 48 = .ok (.istore 9, 2) := by decide +kernel
theorem dX3_densestWith_50 : decode cX3_densestWith 50 = .ok (.iload_n 3, 1) := by decide +kernel
theorem dX3_densestWith_51 : decode cX3_densestWith 51 = .ok (.ifCond .eq 20, 3) := by decide +kernel
theorem dX3_densestWith_54 : decode cX3_densestWith 54 = .ok (.iload 9, 2) := by decide +kernel
theorem dX3_densestWith_56 : decode cX3_densestWith 56 = .ok (.ifCond .gt 15, 3) := by decide +kernel
theorem dX3_densestWith_59 : decode cX3_densestWith 59 = .ok (.iload 9, 2) := by decide +kernel
theorem dX3_densestWith_61 : decode cX3_densestWith 61 = .ok (.ifCond .ne 21, 3) := by decide +kernel
theorem dX3_densestWith_64 : decode cX3_densestWith 64 = .ok (.iload 8, 2) := by decide +kernel
theorem dX3_densestWith_66 : decode cX3_densestWith 66 = .ok (.iload 5, 2) := by decide +kernel
theorem dX3_densestWith_68 : decode cX3_densestWith 68 = .ok (.if_icmp .le 14, 3) := by decide +kernel
theorem dX3_densestWith_71 : decode cX3_densestWith 71 = .ok (.iload 6, 2) := by decide +kernel
theorem dX3_densestWith_73 : decode cX3_densestWith 73 = .ok (.istore_n 3, 1) := by decide +kernel
theorem dX3_densestWith_74 : decode cX3_densestWith 74 = .ok (.iload 7, 2) := by decide +kernel
theorem dX3_densestWith_76 : decode cX3_densestWith 76 = .ok (.istore 4, 2) := by decide +kernel
theorem dX3_densestWith_78 : decode cX3_densestWith 78 = .ok (.iload 8, 2) := by decide +kernel
theorem dX3_densestWith_80 : decode cX3_densestWith 80 = .ok (.istore 5, 2) := by decide +kernel
theorem dX3_densestWith_82 : decode cX3_densestWith 82 = .ok (.iinc 6 1, 3) := by decide +kernel
theorem dX3_densestWith_85 : decode cX3_densestWith 85 = .ok (.goto (-74), 3) := by decide +kernel
theorem dX3_densestWith_88 : decode cX3_densestWith 88 = .ok (.iload_n 3, 1) := by decide +kernel
theorem dX3_densestWith_89 : decode cX3_densestWith 89 = .ok (.ireturn, 1) := by decide +kernel
theorem dX3_leastLoadWith_0 : decode cX3_leastLoadWith 0 = .ok (.aload_n 0, 1) := by decide +kernel
theorem dX3_leastLoadWith_1 : decode cX3_leastLoadWith 1 = .ok (.aload_n 0, 1) := by decide +kernel
theorem dX3_leastLoadWith_2 : decode cX3_leastLoadWith 2 = .ok (.iload_n 1, 1) := by decide +kernel
theorem dX3_leastLoadWith_3 : decode cX3_leastLoadWith 3 = .ok (.iload_n 2, 1) := by decide +kernel
theorem dX3_leastLoadWith_4 : decode cX3_leastLoadWith 4 = .ok (.invokevirtual 47, 3) := by decide +kernel
theorem dX3_leastLoadWith_7 : decode cX3_leastLoadWith 7 = .ok (.iload_n 1, 1) := by decide +kernel
theorem dX3_leastLoadWith_8 : decode cX3_leastLoadWith 8 = .ok (.iload_n 2, 1) := by decide +kernel
theorem dX3_leastLoadWith_9 : decode cX3_leastLoadWith 9 = .ok (.invokevirtual 54, 3) := by decide +kernel
theorem dX3_leastLoadWith_12 : decode cX3_leastLoadWith 12 = .ok (.ireturn, 1) := by decide +kernel
theorem dX3_roundedUpDensity_0 : decode cX3_roundedUpDensity 0 = .ok (.iload_n 1, 1) := by decide +kernel
theorem dX3_roundedUpDensity_1 : decode cX3_roundedUpDensity 1 = .ok (.invokestatic 72, 3) := by decide +kernel
theorem dX3_roundedUpDensity_4 : decode cX3_roundedUpDensity 4 = .ok (.istore 4, 2) := by decide +kernel
theorem dX3_roundedUpDensity_6 : decode cX3_roundedUpDensity 6 = .ok (.iload 4, 2) := by decide +kernel
theorem dX3_roundedUpDensity_8 : decode cX3_roundedUpDensity 8 = .ok (.iconst 1, 1) := by decide +kernel
theorem dX3_roundedUpDensity_9 : decode cX3_roundedUpDensity 9 = .ok (.if_icmp .ge 7, 3) := by decide +kernel
theorem dX3_roundedUpDensity_12 : decode cX3_roundedUpDensity 12 = .ok (.iconst 0, 1) := by decide +kernel
theorem dX3_roundedUpDensity_13 : decode cX3_roundedUpDensity 13 = .ok (.goto 18, 3) := by decide +kernel
theorem dX3_roundedUpDensity_16 : decode cX3_roundedUpDensity 16 = .ok (.aload_n 0, 1) := by decide +kernel
theorem dX3_roundedUpDensity_17 : decode cX3_roundedUpDensity 17 = .ok (.iload_n 1, 1) := by decide +kernel
theorem dX3_roundedUpDensity_18 : decode cX3_roundedUpDensity 18 = .ok (.iload_n 2, 1) := by decide +kernel
theorem dX3_roundedUpDensity_19 : decode cX3_roundedUpDensity 19 = .ok (.iload_n 3, 1) := by decide +kernel
theorem dX3_roundedUpDensity_20 : decode cX3_roundedUpDensity 20 = .ok (.invokevirtual 69, 3) := by decide +kernel
theorem dX3_roundedUpDensity_23 : decode cX3_roundedUpDensity 23 = .ok (.iload 4, 2) := by decide +kernel
theorem dX3_roundedUpDensity_25 : decode cX3_roundedUpDensity 25 = .ok (.iadd, 1) := by decide +kernel
theorem dX3_roundedUpDensity_26 : decode cX3_roundedUpDensity 26 = .ok (.iconst 1, 1) := by decide +kernel
theorem dX3_roundedUpDensity_27 : decode cX3_roundedUpDensity 27 = .ok (.isub, 1) := by decide +kernel
theorem dX3_roundedUpDensity_28 : decode cX3_roundedUpDensity 28 = .ok (.iload 4, 2) := by decide +kernel
theorem dX3_roundedUpDensity_30 : decode cX3_roundedUpDensity 30 = .ok (.idiv, 1) := by decide +kernel
theorem dX3_roundedUpDensity_31 : decode cX3_roundedUpDensity 31 = .ok (.ireturn, 1) := by decide +kernel
theorem dX3_commonOfForcing_0 : decode cX3_commonOfForcing 0 = .ok (.aload_n 0, 1) := by decide +kernel
theorem dX3_commonOfForcing_1 : decode cX3_commonOfForcing 1 = .ok (.getfield 31, 3) := by decide +kernel
theorem dX3_commonOfForcing_4 : decode cX3_commonOfForcing 4 = .ok (.iconst 1, 1) := by decide +kernel
theorem dX3_commonOfForcing_5 : decode cX3_commonOfForcing 5 = .ok (.isub, 1) := by decide +kernel
theorem dX3_commonOfForcing_6 : decode cX3_commonOfForcing 6 = .ok (.istore_n 1, 1) := by decide +kernel
theorem dX3_commonOfForcing_7 : decode cX3_commonOfForcing 7 = .ok (.iconst 1, 1) := by decide +kernel
theorem dX3_commonOfForcing_8 : decode cX3_commonOfForcing 8 = .ok (.istore_n 2, 1) := by decide +kernel
theorem dX3_commonOfForcing_9 : decode cX3_commonOfForcing 9 = .ok (.iload_n 2, 1) := by decide +kernel
theorem dX3_commonOfForcing_10 : decode cX3_commonOfForcing 10 = .ok (.aload_n 0, 1) := by decide +kernel
theorem dX3_commonOfForcing_11 : decode cX3_commonOfForcing 11 = .ok (.getfield 31, 3) := by decide +kernel
theorem dX3_commonOfForcing_14 : decode cX3_commonOfForcing 14 = .ok (.if_icmp .ge 53, 3) := by decide +kernel
theorem dX3_commonOfForcing_17 : decode cX3_commonOfForcing 17 = .ok (.iload_n 2, 1) := by decide +kernel
theorem dX3_commonOfForcing_18 : decode cX3_commonOfForcing 18 = .ok (.aload_n 0, 1) := by decide +kernel
theorem dX3_commonOfForcing_19 : decode cX3_commonOfForcing 19 = .ok (.getfield 9, 3) := by decide +kernel
theorem dX3_commonOfForcing_22 : decode cX3_commonOfForcing 22 = .ok (.arraylength, 1) := by decide +kernel
theorem dX3_commonOfForcing_23 : decode cX3_commonOfForcing 23 = .ok (.if_icmp .ge 44, 3) := by decide +kernel
theorem dX3_commonOfForcing_26 : decode cX3_commonOfForcing 26 = .ok (.aload_n 0, 1) := by decide +kernel
theorem dX3_commonOfForcing_27 : decode cX3_commonOfForcing 27 = .ok (.getfield 9, 3) := by decide +kernel
theorem dX3_commonOfForcing_30 : decode cX3_commonOfForcing 30 = .ok (.iload_n 2, 1) := by decide +kernel
theorem dX3_commonOfForcing_31 : decode cX3_commonOfForcing 31 = .ok (.iaload, 1) := by decide +kernel
theorem dX3_commonOfForcing_32 : decode cX3_commonOfForcing 32 = .ok (.aload_n 0, 1) := by decide +kernel
theorem dX3_commonOfForcing_33 : decode cX3_commonOfForcing 33 = .ok (.getfield 58, 3) := by decide +kernel
theorem dX3_commonOfForcing_36 : decode cX3_commonOfForcing 36 = .ok (.iconst 1, 1) := by decide +kernel
theorem dX3_commonOfForcing_37 : decode cX3_commonOfForcing 37 = .ok (.isub, 1) := by decide +kernel
theorem dX3_commonOfForcing_38 : decode cX3_commonOfForcing 38 = .ok (.iload_n 2, 1) := by decide +kernel
theorem dX3_commonOfForcing_39 : decode cX3_commonOfForcing 39 = .ok (.invokestatic 72, 3) := by decide +kernel
theorem dX3_commonOfForcing_42 : decode cX3_commonOfForcing 42 = .ok (.imul, 1) := by decide +kernel
theorem dX3_commonOfForcing_43 : decode cX3_commonOfForcing 43 = .ok (.isub, 1) := by decide +kernel
theorem dX3_commonOfForcing_44 : decode cX3_commonOfForcing 44 = .ok (.istore_n 3, 1) := by decide +kernel
theorem dX3_commonOfForcing_45 : decode cX3_commonOfForcing 45 = .ok (.iload_n 3, 1) := by decide +kernel
theorem dX3_commonOfForcing_46 : decode cX3_commonOfForcing 46 = .ok (.iconst 1, 1) := by decide +kernel
theorem dX3_commonOfForcing_47 : decode cX3_commonOfForcing 47 = .ok (.if_icmp .le 5, 3) := by decide +kernel
theorem dX3_commonOfForcing_50 : decode cX3_commonOfForcing 50 = .ok (.iconst 0, 1) := by decide +kernel
theorem dX3_commonOfForcing_51 : decode cX3_commonOfForcing 51 = .ok (.ireturn, 1) := by decide +kernel
theorem dX3_commonOfForcing_52 : decode cX3_commonOfForcing 52 = .ok (.iload_n 3, 1) := by decide +kernel
theorem dX3_commonOfForcing_53 : decode cX3_commonOfForcing 53 = .ok (.iconst 1, 1) := by decide +kernel
theorem dX3_commonOfForcing_54 : decode cX3_commonOfForcing 54 = .ok (.if_icmp .ne 7, 3) := by decide +kernel
theorem dX3_commonOfForcing_57 : decode cX3_commonOfForcing 57 = .ok (.iload_n 1, 1) := by decide +kernel
theorem dX3_commonOfForcing_58 : decode cX3_commonOfForcing 58 = .ok (.iload_n 2, 1) := by decide +kernel
theorem dX3_commonOfForcing_59 : decode cX3_commonOfForcing 59 = .ok (.iand, 1) := by decide +kernel
theorem dX3_commonOfForcing_60 : decode cX3_commonOfForcing 60 = .ok (.istore_n 1, 1) := by decide +kernel
theorem dX3_commonOfForcing_61 : decode cX3_commonOfForcing 61 = .ok (.iinc 2 1, 3) := by decide +kernel
theorem dX3_commonOfForcing_64 : decode cX3_commonOfForcing 64 = .ok (.goto (-55), 3) := by decide +kernel
theorem dX3_commonOfForcing_67 : decode cX3_commonOfForcing 67 = .ok (.iload_n 1, 1) := by decide +kernel
theorem dX3_commonOfForcing_68 : decode cX3_commonOfForcing 68 = .ok (.ireturn, 1) := by decide +kernel
theorem dX3_mostOverfull_0 : decode cX3_mostOverfull 0 = .ok (.aload_n 0, 1) := by decide +kernel
theorem dX3_mostOverfull_1 : decode cX3_mostOverfull 1 = .ok (.getfield 15, 3) := by decide +kernel
theorem dX3_mostOverfull_4 : decode cX3_mostOverfull 4 = .ok (.iconst 0, 1) := by decide +kernel
theorem dX3_mostOverfull_5 : decode cX3_mostOverfull 5 = .ok (.aload_n 1, 1) := by decide +kernel
theorem dX3_mostOverfull_6 : decode cX3_mostOverfull 6 = .ok (.iload_n 2, 1) := by decide +kernel
theorem dX3_mostOverfull_7 : decode cX3_mostOverfull 7 = .ok (.invokestatic 61, 3) := by decide +kernel
theorem dX3_mostOverfull_10 : decode cX3_mostOverfull 10 = .ok (.iconst (-1), 1) := by decide +kernel
theorem dX3_mostOverfull_11 : decode cX3_mostOverfull 11 = .ok (.istore_n 3, 1) := by decide +kernel
theorem dX3_mostOverfull_12 : decode cX3_mostOverfull 12 = .ok (.iconst 0, 1) := by decide +kernel
theorem dX3_mostOverfull_13 : decode cX3_mostOverfull 13 = .ok (.istore 4, 2) := by decide +kernel
theorem dX3_mostOverfull_15 : decode cX3_mostOverfull 15 = .ok (.iconst 1, 1) := by decide +kernel
theorem dX3_mostOverfull_16 : decode cX3_mostOverfull 16 = .ok (.istore 5, 2) := by decide +kernel
theorem dX3_mostOverfull_18 : decode cX3_mostOverfull 18 = .ok (.iload 5, 2) := by decide +kernel
theorem dX3_mostOverfull_20 : decode cX3_mostOverfull 20 = .ok (.aload_n 0, 1) := by decide +kernel
theorem dX3_mostOverfull_21 : decode cX3_mostOverfull 21 = .ok (.getfield 31, 3) := by decide +kernel
theorem dX3_mostOverfull_24 : decode cX3_mostOverfull 24 = .ok (.if_icmp .ge 60, 3) := by decide +kernel
theorem dX3_mostOverfull_27 : decode cX3_mostOverfull 27 = .ok (.iload 5, 2) := by decide +kernel
theorem dX3_mostOverfull_29 : decode cX3_mostOverfull 29 = .ok (.aload_n 0, 1) := by decide +kernel
theorem dX3_mostOverfull_30 : decode cX3_mostOverfull 30 = .ok (.getfield 9, 3) := by decide +kernel
theorem dX3_mostOverfull_33 : decode cX3_mostOverfull 33 = .ok (.arraylength, 1) := by decide +kernel
theorem dX3_mostOverfull_34 : decode cX3_mostOverfull 34 = .ok (.if_icmp .ge 50, 3) := by decide +kernel
theorem dX3_mostOverfull_37 : decode cX3_mostOverfull 37 = .ok (.iload 5, 2) := by decide +kernel
theorem dX3_mostOverfull_39 : decode cX3_mostOverfull 39 = .ok (.aload_n 0, 1) := by decide +kernel
theorem dX3_mostOverfull_40 : decode cX3_mostOverfull 40 = .ok (.getfield 15, 3) := by decide +kernel
theorem dX3_mostOverfull_43 : decode cX3_mostOverfull 43 = .ok (.arraylength, 1) := by decide +kernel
theorem dX3_mostOverfull_44 : decode cX3_mostOverfull 44 = .ok (.if_icmp .ge 40, 3) := by decide +kernel
theorem dX3_mostOverfull_47 : decode cX3_mostOverfull 47 = .ok (.aload_n 0, 1) := by decide +kernel
theorem dX3_mostOverfull_48 : decode cX3_mostOverfull 48 = .ok (.getfield 9, 3) := by decide +kernel
theorem dX3_mostOverfull_51 : decode cX3_mostOverfull 51 = .ok (.iload 5, 2) := by decide +kernel
theorem dX3_mostOverfull_53 : decode cX3_mostOverfull 53 = .ok (.iaload, 1) := by decide +kernel
theorem dX3_mostOverfull_54 : decode cX3_mostOverfull 54 = .ok (.aload_n 0, 1) := by decide +kernel
theorem dX3_mostOverfull_55 : decode cX3_mostOverfull 55 = .ok (.getfield 15, 3) := by decide +kernel
theorem dX3_mostOverfull_58 : decode cX3_mostOverfull 58 = .ok (.iload 5, 2) := by decide +kernel
theorem dX3_mostOverfull_60 : decode cX3_mostOverfull 60 = .ok (.iaload, 1) := by decide +kernel
theorem dX3_mostOverfull_61 : decode cX3_mostOverfull 61 = .ok (.isub, 1) := by decide +kernel
theorem dX3_mostOverfull_62 : decode cX3_mostOverfull 62 = .ok (.istore 6, 2) := by decide +kernel
theorem dX3_mostOverfull_64 : decode cX3_mostOverfull 64 = .ok (.iload 6, 2) := by decide +kernel
theorem dX3_mostOverfull_66 : decode cX3_mostOverfull 66 = .ok (.iload 4, 2) := by decide +kernel
theorem dX3_mostOverfull_68 : decode cX3_mostOverfull 68 = .ok (.if_icmp .le 10, 3) := by decide +kernel
theorem dX3_mostOverfull_71 : decode cX3_mostOverfull 71 = .ok (.iload 6, 2) := by decide +kernel
theorem dX3_mostOverfull_73 : decode cX3_mostOverfull 73 = .ok (.istore 4, 2) := by decide +kernel
theorem dX3_mostOverfull_75 : decode cX3_mostOverfull 75 = .ok (.iload 5, 2) := by decide +kernel
theorem dX3_mostOverfull_77 : decode cX3_mostOverfull 77 = .ok (.istore_n 3, 1) := by decide +kernel
theorem dX3_mostOverfull_78 : decode cX3_mostOverfull 78 = .ok (.iinc 5 1, 3) := by decide +kernel
theorem dX3_mostOverfull_81 : decode cX3_mostOverfull 81 = .ok (.goto (-63), 3) := by decide +kernel
theorem dX3_mostOverfull_84 : decode cX3_mostOverfull 84 = .ok (.iload_n 3, 1) := by decide +kernel
theorem dX3_mostOverfull_85 : decode cX3_mostOverfull 85 = .ok (.ireturn, 1) := by decide +kernel
theorem dX4_init_0 : decode cX4_init 0 = .ok (.aload_n 0, 1) := by decide +kernel
theorem dX4_init_1 : decode cX4_init 1 = .ok (.invokespecial 1, 3) := by decide +kernel
theorem dX4_init_4 : decode cX4_init 4 = .ok (.aload_n 0, 1) := by decide +kernel
theorem dX4_init_5 : decode cX4_init 5 = .ok (.iload_n 1, 1) := by decide +kernel
theorem dX4_init_6 : decode cX4_init 6 = .ok (.ifCond .ge 7, 3) := by decide +kernel
theorem dX4_init_9 : decode cX4_init 9 = .ok (.iconst 0, 1) := by decide +kernel
theorem dX4_init_10 : decode cX4_init 10 = .ok (.goto 4, 3) := by decide +kernel
theorem dX4_init_13 : decode cX4_init 13 = .ok (.iload_n 1, 1) := by decide +kernel
theorem dX4_init_14 : decode cX4_init 14 = .ok (.newarray .int, 2) := by decide +kernel
theorem dX4_init_16 : decode cX4_init 16 = .ok (.putfield 7, 3) := by decide +kernel
theorem dX4_init_19 : decode cX4_init 19 = .ok (.return_, 1) := by decide +kernel
theorem dX4_get_0 : decode cX4_get 0 = .ok (.iload_n 1, 1) := by decide +kernel
theorem dX4_get_1 : decode cX4_get 1 = .ok (.ifCond .lt 21, 3) := by decide +kernel
theorem dX4_get_4 : decode cX4_get 4 = .ok (.iload_n 1, 1) := by decide +kernel
theorem dX4_get_5 : decode cX4_get 5 = .ok (.aload_n 0, 1) := by decide +kernel
theorem dX4_get_6 : decode cX4_get 6 = .ok (.getfield 7, 3) := by decide +kernel
theorem dX4_get_9 : decode cX4_get 9 = .ok (.arraylength, 1) := by decide +kernel
theorem dX4_get_10 : decode cX4_get 10 = .ok (.if_icmp .ge 12, 3) := by decide +kernel
theorem dX4_get_13 : decode cX4_get 13 = .ok (.aload_n 0, 1) := by decide +kernel
theorem dX4_get_14 : decode cX4_get 14 = .ok (.getfield 7, 3) := by decide +kernel
theorem dX4_get_17 : decode cX4_get 17 = .ok (.iload_n 1, 1) := by decide +kernel
theorem dX4_get_18 : decode cX4_get 18 = .ok (.iaload, 1) := by decide +kernel
theorem dX4_get_19 : decode cX4_get 19 = .ok (.goto 4, 3) := by decide +kernel
theorem dX4_get_22 : decode cX4_get 22 = .ok (.iconst 0, 1) := by decide +kernel
theorem dX4_get_23 : decode cX4_get 23 = .ok (.ireturn, 1) := by decide +kernel
theorem dX4_set_0 : decode cX4_set 0 = .ok (.iload_n 1, 1) := by decide +kernel
theorem dX4_set_1 : decode cX4_set 1 = .ok (.ifCond .lt 19, 3) := by decide +kernel
theorem dX4_set_4 : decode cX4_set 4 = .ok (.iload_n 1, 1) := by decide +kernel
theorem dX4_set_5 : decode cX4_set 5 = .ok (.aload_n 0, 1) := by decide +kernel
theorem dX4_set_6 : decode cX4_set 6 = .ok (.getfield 7, 3) := by decide +kernel
theorem dX4_set_9 : decode cX4_set 9 = .ok (.arraylength, 1) := by decide +kernel
theorem dX4_set_10 : decode cX4_set 10 = .ok (.if_icmp .ge 10, 3) := by decide +kernel
theorem dX4_set_13 : decode cX4_set 13 = .ok (.aload_n 0, 1) := by decide +kernel
theorem dX4_set_14 : decode cX4_set 14 = .ok (.getfield 7, 3) := by decide +kernel
theorem dX4_set_17 : decode cX4_set 17 = .ok (.iload_n 1, 1) := by decide +kernel
theorem dX4_set_18 : decode cX4_set 18 = .ok (.iload_n 2, 1) := by decide +kernel
theorem dX4_set_19 : decode cX4_set 19 = .ok (.iastore, 1) := by decide +kernel
theorem dX4_set_20 : decode cX4_set 20 = .ok (.return_, 1) := by decide +kernel
theorem dX4_increase_0 : decode cX4_increase 0 = .ok (.iload_n 1, 1) := by decide +kernel
theorem dX4_increase_1 : decode cX4_increase 1 = .ok (.ifCond .lt 22, 3) := by decide +kernel
theorem dX4_increase_4 : decode cX4_increase 4 = .ok (.iload_n 1, 1) := by decide +kernel
theorem dX4_increase_5 : decode cX4_increase 5 = .ok (.aload_n 0, 1) := by decide +kernel
theorem dX4_increase_6 : decode cX4_increase 6 = .ok (.getfield 7, 3) := by decide +kernel
theorem dX4_increase_9 : decode cX4_increase 9 = .ok (.arraylength, 1) := by decide +kernel
theorem dX4_increase_10 : decode cX4_increase 10 = .ok (.if_icmp .ge 13, 3) := by decide +kernel
theorem dX4_increase_13 : decode cX4_increase 13 = .ok (.aload_n 0, 1) := by decide +kernel
theorem dX4_increase_14 : decode cX4_increase 14 = .ok (.getfield 7, 3) := by decide +kernel
theorem dX4_increase_17 : decode cX4_increase 17 = .ok (.iload_n 1, 1) := by decide +kernel
theorem dX4_increase_18 : decode cX4_increase 18 = .ok (.dup2, 1) := by decide +kernel
theorem dX4_increase_19 : decode cX4_increase 19 = .ok (.iaload, 1) := by decide +kernel
theorem dX4_increase_20 : decode cX4_increase 20 = .ok (.iload_n 2, 1) := by decide +kernel
theorem dX4_increase_21 : decode cX4_increase 21 = .ok (.iadd, 1) := by decide +kernel
theorem dX4_increase_22 : decode cX4_increase 22 = .ok (.iastore, 1) := by decide +kernel
theorem dX4_increase_23 : decode cX4_increase 23 = .ok (.return_, 1) := by decide +kernel
theorem dX4_fill_0 : decode cX4_fill 0 = .ok (.iconst 0, 1) := by decide +kernel
theorem dX4_fill_1 : decode cX4_fill 1 = .ok (.istore_n 2, 1) := by decide +kernel
theorem dX4_fill_2 : decode cX4_fill 2 = .ok (.iload_n 2, 1) := by decide +kernel
theorem dX4_fill_3 : decode cX4_fill 3 = .ok (.aload_n 0, 1) := by decide +kernel
theorem dX4_fill_4 : decode cX4_fill 4 = .ok (.getfield 7, 3) := by decide +kernel
theorem dX4_fill_7 : decode cX4_fill 7 = .ok (.arraylength, 1) := by decide +kernel
theorem dX4_fill_8 : decode cX4_fill 8 = .ok (.if_icmp .ge 16, 3) := by decide +kernel
theorem dX4_fill_11 : decode cX4_fill 11 = .ok (.aload_n 0, 1) := by decide +kernel
theorem dX4_fill_12 : decode cX4_fill 12 = .ok (.getfield 7, 3) := by decide +kernel
theorem dX4_fill_15 : decode cX4_fill 15 = .ok (.iload_n 2, 1) := by decide +kernel
theorem dX4_fill_16 : decode cX4_fill 16 = .ok (.iload_n 1, 1) := by decide +kernel
theorem dX4_fill_17 : decode cX4_fill 17 = .ok (.iastore, 1) := by decide +kernel
theorem dX4_fill_18 : decode cX4_fill 18 = .ok (.iinc 2 1, 3) := by decide +kernel
theorem dX4_fill_21 : decode cX4_fill 21 = .ok (.goto (-19), 3) := by decide +kernel
theorem dX4_fill_24 : decode cX4_fill 24 = .ok (.return_, 1) := by decide +kernel
theorem dX4_copyFrom_0 : decode cX4_copyFrom 0 = .ok (.iconst 0, 1) := by decide +kernel
theorem dX4_copyFrom_1 : decode cX4_copyFrom 1 = .ok (.istore_n 2, 1) := by decide +kernel
theorem dX4_copyFrom_2 : decode cX4_copyFrom 2 = .ok (.iload_n 2, 1) := by decide +kernel
theorem dX4_copyFrom_3 : decode cX4_copyFrom 3 = .ok (.aload_n 0, 1) := by decide +kernel
theorem dX4_copyFrom_4 : decode cX4_copyFrom 4 = .ok (.getfield 7, 3) := by decide +kernel
theorem dX4_copyFrom_7 : decode cX4_copyFrom 7 = .ok (.arraylength, 1) := by decide +kernel
theorem dX4_copyFrom_8 : decode cX4_copyFrom 8 = .ok (.if_icmp .ge 30, 3) := by decide +kernel
theorem dX4_copyFrom_11 : decode cX4_copyFrom 11 = .ok (.iload_n 2, 1) := by decide +kernel
theorem dX4_copyFrom_12 : decode cX4_copyFrom 12 = .ok (.aload_n 1, 1) := by decide +kernel
theorem dX4_copyFrom_13 : decode cX4_copyFrom 13 = .ok (.getfield 7, 3) := by decide +kernel
theorem dX4_copyFrom_16 : decode cX4_copyFrom 16 = .ok (.arraylength, 1) := by decide +kernel
theorem dX4_copyFrom_17 : decode cX4_copyFrom 17 = .ok (.if_icmp .ge 21, 3) := by decide +kernel
theorem dX4_copyFrom_20 : decode cX4_copyFrom 20 = .ok (.aload_n 0, 1) := by decide +kernel
theorem dX4_copyFrom_21 : decode cX4_copyFrom 21 = .ok (.getfield 7, 3) := by decide +kernel
theorem dX4_copyFrom_24 : decode cX4_copyFrom 24 = .ok (.iload_n 2, 1) := by decide +kernel
theorem dX4_copyFrom_25 : decode cX4_copyFrom 25 = .ok (.aload_n 1, 1) := by decide +kernel
theorem dX4_copyFrom_26 : decode cX4_copyFrom 26 = .ok (.getfield 7, 3) := by decide +kernel
theorem dX4_copyFrom_29 : decode cX4_copyFrom 29 = .ok (.iload_n 2, 1) := by decide +kernel
theorem dX4_copyFrom_30 : decode cX4_copyFrom 30 = .ok (.iaload, 1) := by decide +kernel
theorem dX4_copyFrom_31 : decode cX4_copyFrom 31 = .ok (.iastore, 1) := by decide +kernel
theorem dX4_copyFrom_32 : decode cX4_copyFrom 32 = .ok (.iinc 2 1, 3) := by decide +kernel
theorem dX4_copyFrom_35 : decode cX4_copyFrom 35 = .ok (.goto (-33), 3) := by decide +kernel
theorem dX4_copyFrom_38 : decode cX4_copyFrom 38 = .ok (.return_, 1) := by decide +kernel
theorem dX4_closeGap_0 : decode cX4_closeGap 0 = .ok (.iload_n 1, 1) := by decide +kernel
theorem dX4_closeGap_1 : decode cX4_closeGap 1 = .ok (.ifCond .ge 7, 3) := by decide +kernel
theorem dX4_closeGap_4 : decode cX4_closeGap 4 = .ok (.iconst 0, 1) := by decide +kernel
theorem dX4_closeGap_5 : decode cX4_closeGap 5 = .ok (.goto 4, 3) := by decide +kernel
theorem dX4_closeGap_8 : decode cX4_closeGap 8 = .ok (.iload_n 1, 1) := by decide +kernel
theorem dX4_closeGap_9 : decode cX4_closeGap 9 = .ok (.istore_n 2, 1) := by decide +kernel
theorem dX4_closeGap_10 : decode cX4_closeGap 10 = .ok (.iload_n 2, 1) := by decide +kernel
theorem dX4_closeGap_11 : decode cX4_closeGap 11 = .ok (.aload_n 0, 1) := by decide +kernel
theorem dX4_closeGap_12 : decode cX4_closeGap 12 = .ok (.getfield 7, 3) := by decide +kernel
theorem dX4_closeGap_15 : decode cX4_closeGap 15 = .ok (.arraylength, 1) := by decide +kernel
theorem dX4_closeGap_16 : decode cX4_closeGap 16 = .ok (.iconst 1, 1) := by decide +kernel
theorem dX4_closeGap_17 : decode cX4_closeGap 17 = .ok (.isub, 1) := by decide +kernel
theorem dX4_closeGap_18 : decode cX4_closeGap 18 = .ok (.if_icmp .ge 23, 3) := by decide +kernel
theorem dX4_closeGap_21 : decode cX4_closeGap 21 = .ok (.aload_n 0, 1) := by decide +kernel
theorem dX4_closeGap_22 : decode cX4_closeGap 22 = .ok (.getfield 7, 3) := by decide +kernel
theorem dX4_closeGap_25 : decode cX4_closeGap 25 = .ok (.iload_n 2, 1) := by decide +kernel
theorem dX4_closeGap_26 : decode cX4_closeGap 26 = .ok (.aload_n 0, 1) := by decide +kernel
theorem dX4_closeGap_27 : decode cX4_closeGap 27 = .ok (.getfield 7, 3) := by decide +kernel
theorem dX4_closeGap_30 : decode cX4_closeGap 30 = .ok (.iload_n 2, 1) := by decide +kernel
theorem dX4_closeGap_31 : decode cX4_closeGap 31 = .ok (.iconst 1, 1) := by decide +kernel
theorem dX4_closeGap_32 : decode cX4_closeGap 32 = .ok (.iadd, 1) := by decide +kernel
theorem dX4_closeGap_33 : decode cX4_closeGap 33 = .ok (.iaload, 1) := by decide +kernel
theorem dX4_closeGap_34 : decode cX4_closeGap 34 = .ok (.iastore, 1) := by decide +kernel
theorem dX4_closeGap_35 : decode cX4_closeGap 35 = .ok (.iinc 2 1, 3) := by decide +kernel
theorem dX4_closeGap_38 : decode cX4_closeGap 38 = .ok (.goto (-28), 3) := by decide +kernel
theorem dX4_closeGap_41 : decode cX4_closeGap 41 = .ok (.return_, 1) := by decide +kernel
theorem dX5_init_0 : decode cX5_init 0 = .ok (.aload_n 0, 1) := by decide +kernel
theorem dX5_init_1 : decode cX5_init 1 = .ok (.invokespecial 3, 3) := by decide +kernel
