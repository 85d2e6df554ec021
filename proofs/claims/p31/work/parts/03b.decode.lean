theorem dX5_init_4 : decode cX5_init 4 = .ok (.aload_n 0, 1) := by decide +kernel
theorem dX5_init_5 : decode cX5_init 5 = .ok (.new 9, 3) := by decide +kernel
theorem dX5_init_8 : decode cX5_init 8 = .ok (.dup, 1) := by decide +kernel
theorem dX5_init_9 : decode cX5_init 9 = .ok (.bipush 12, 2) := by decide +kernel
theorem dX5_init_11 : decode cX5_init 11 = .ok (.invokespecial 11, 3) := by decide +kernel
theorem dX5_init_14 : decode cX5_init 14 = .ok (.putfield 14, 3) := by decide +kernel
theorem dX5_init_17 : decode cX5_init 17 = .ok (.aload_n 0, 1) := by decide +kernel
theorem dX5_init_18 : decode cX5_init 18 = .ok (.new 9, 3) := by decide +kernel
theorem dX5_init_21 : decode cX5_init 21 = .ok (.dup, 1) := by decide +kernel
theorem dX5_init_22 : decode cX5_init 22 = .ok (.bipush 12, 2) := by decide +kernel
theorem dX5_init_24 : decode cX5_init 24 = .ok (.invokespecial 11, 3) := by decide +kernel
theorem dX5_init_27 : decode cX5_init 27 = .ok (.putfield 20, 3) := by decide +kernel
theorem dX5_init_30 : decode cX5_init 30 = .ok (.aload_n 0, 1) := by decide +kernel
theorem dX5_init_31 : decode cX5_init 31 = .ok (.new 9, 3) := by decide +kernel
theorem dX5_init_34 : decode cX5_init 34 = .ok (.dup, 1) := by decide +kernel
theorem dX5_init_35 : decode cX5_init 35 = .ok (.bipush 12, 2) := by decide +kernel
theorem dX5_init_37 : decode cX5_init 37 = .ok (.invokespecial 11, 3) := by decide +kernel
theorem dX5_init_40 : decode cX5_init 40 = .ok (.putfield 23, 3) := by decide +kernel
theorem dX5_init_43 : decode cX5_init 43 = .ok (.return_, 1) := by decide +kernel
theorem dX5_visitFrom_0 : decode cX5_visitFrom 0 = .ok (.aload_n 0, 1) := by decide +kernel
theorem dX5_visitFrom_1 : decode cX5_visitFrom 1 = .ok (.iload_n 2, 1) := by decide +kernel
theorem dX5_visitFrom_2 : decode cX5_visitFrom 2 = .ok (.putfield 26, 3) := by decide +kernel
theorem dX5_visitFrom_5 : decode cX5_visitFrom 5 = .ok (.aload_n 0, 1) := by decide +kernel
theorem dX5_visitFrom_6 : decode cX5_visitFrom 6 = .ok (.iconst 0, 1) := by decide +kernel
theorem dX5_visitFrom_7 : decode cX5_visitFrom 7 = .ok (.putfield 30, 3) := by decide +kernel
theorem dX5_visitFrom_10 : decode cX5_visitFrom 10 = .ok (.aload_n 0, 1) := by decide +kernel
theorem dX5_visitFrom_11 : decode cX5_visitFrom 11 = .ok (.iconst 0, 1) := by decide +kernel
theorem dX5_visitFrom_12 : decode cX5_visitFrom 12 = .ok (.putfield 33, 3) := by decide +kernel
theorem dX5_visitFrom_15 : decode cX5_visitFrom 15 = .ok (.aload_n 0, 1) := by decide +kernel
theorem dX5_visitFrom_16 : decode cX5_visitFrom 16 = .ok (.iload_n 2, 1) := by decide +kernel
theorem dX5_visitFrom_17 : decode cX5_visitFrom 17 = .ok (.iconst (-1), 1) := by decide +kernel
theorem dX5_visitFrom_18 : decode cX5_visitFrom 18 = .ok (.iconst (-1), 1) := by decide +kernel
theorem dX5_visitFrom_19 : decode cX5_visitFrom 19 = .ok (.invokevirtual 36, 3) := by decide +kernel
theorem dX5_visitFrom_22 : decode cX5_visitFrom 22 = .ok (.iconst 0, 1) := by decide +kernel
theorem dX5_visitFrom_23 : decode cX5_visitFrom 23 = .ok (.istore_n 3, 1) := by decide +kernel
theorem dX5_visitFrom_24 : decode cX5_visitFrom 24 = .ok (.iload_n 3, 1) := by decide +kernel
theorem dX5_visitFrom_25 : decode cX5_visitFrom 25 = .ok (.aload_n 0, 1) := by decide +kernel
theorem dX5_visitFrom_26 : decode cX5_visitFrom 26 = .ok (.getfield 30, 3) := by decide +kernel
theorem dX5_visitFrom_29 : decode cX5_visitFrom 29 = .ok (.if_icmp .ge 71, 3) := by decide +kernel
theorem dX5_visitFrom_32 : decode cX5_visitFrom 32 = .ok (.iload_n 3, 1) := by decide +kernel
theorem dX5_visitFrom_33 : decode cX5_visitFrom 33 = .ok (.bipush 12, 2) := by decide +kernel
theorem dX5_visitFrom_35 : decode cX5_visitFrom 35 = .ok (.if_icmp .ge 65, 3) := by decide +kernel
theorem dX5_visitFrom_38 : decode cX5_visitFrom 38 = .ok (.aload_n 0, 1) := by decide +kernel
theorem dX5_visitFrom_39 : decode cX5_visitFrom 39 = .ok (.getfield 14, 3) := by decide +kernel
theorem dX5_visitFrom_42 : decode cX5_visitFrom 42 = .ok (.iload_n 3, 1) := by decide +kernel
theorem dX5_visitFrom_43 : decode cX5_visitFrom 43 = .ok (.invokevirtual 40, 3) := by decide +kernel
theorem dX5_visitFrom_46 : decode cX5_visitFrom 46 = .ok (.istore 4, 2) := by decide +kernel
theorem dX5_visitFrom_48 : decode cX5_visitFrom 48 = .ok (.iconst 0, 1) := by decide +kernel
theorem dX5_visitFrom_49 : decode cX5_visitFrom 49 = .ok (.istore 5, 2) := by decide +kernel
theorem dX5_visitFrom_51 : decode cX5_visitFrom 51 = .ok (.iload 5, 2) := by decide +kernel
theorem dX5_visitFrom_53 : decode cX5_visitFrom 53 = .ok (.aload_n 1, 1) := by decide +kernel
theorem dX5_visitFrom_54 : decode cX5_visitFrom 54 = .ok (.getfield 44, 3) := by decide +kernel
theorem dX5_visitFrom_57 : decode cX5_visitFrom 57 = .ok (.if_icmp .ge 37, 3) := by decide +kernel
theorem dX5_visitFrom_60 : decode cX5_visitFrom 60 = .ok (.aload_n 1, 1) := by decide +kernel
theorem dX5_visitFrom_61 : decode cX5_visitFrom 61 = .ok (.getfield 49, 3) := by decide +kernel
theorem dX5_visitFrom_64 : decode cX5_visitFrom 64 = .ok (.iload 5, 2) := by decide +kernel
theorem dX5_visitFrom_66 : decode cX5_visitFrom 66 = .ok (.invokevirtual 40, 3) := by decide +kernel
theorem dX5_visitFrom_69 : decode cX5_visitFrom 69 = .ok (.iload 4, 2) := by decide +kernel
theorem dX5_visitFrom_71 : decode cX5_visitFrom 71 = .ok (.if_icmp .ne 17, 3) := by decide +kernel
theorem dX5_visitFrom_74 : decode cX5_visitFrom 74 = .ok (.aload_n 0, 1) := by decide +kernel
theorem dX5_visitFrom_75 : decode cX5_visitFrom 75 = .ok (.aload_n 1, 1) := by decide +kernel
theorem dX5_visitFrom_76 : decode cX5_visitFrom 76 = .ok (.iload 5, 2) := by decide +kernel
theorem dX5_visitFrom_78 : decode cX5_visitFrom 78 = .ok (.invokevirtual 52, 3) := by decide +kernel
theorem dX5_visitFrom_81 : decode cX5_visitFrom 81 = .ok (.iload 5, 2) := by decide +kernel
theorem dX5_visitFrom_83 : decode cX5_visitFrom 83 = .ok (.iload 4, 2) := by decide +kernel
theorem dX5_visitFrom_85 : decode cX5_visitFrom 85 = .ok (.invokevirtual 36, 3) := by decide +kernel
theorem dX5_visitFrom_88 : decode cX5_visitFrom 88 = .ok (.iinc 5 1, 3) := by decide +kernel
theorem dX5_visitFrom_91 : decode cX5_visitFrom 91 = .ok (.goto (-40), 3) := by decide +kernel
theorem dX5_visitFrom_94 : decode cX5_visitFrom 94 = .ok (.iinc 3 1, 3) := by decide +kernel
theorem dX5_visitFrom_97 : decode cX5_visitFrom 97 = .ok (.goto (-73), 3) := by decide +kernel
theorem dX5_visitFrom_100 : decode cX5_visitFrom 100 = .ok (.return_, 1) := by decide +kernel
theorem dX5_visit_0 : decode cX5_visit 0 = .ok (.aload_n 0, 1) := by decide +kernel
theorem dX5_visit_1 : decode cX5_visit 1 = .ok (.iload_n 1, 1) := by decide +kernel
theorem dX5_visit_2 : decode cX5_visit 2 = .ok (.invokevirtual 55, 3) := by decide +kernel
theorem dX5_visit_5 : decode cX5_visit 5 = .ok (.ifCond .ne 55, 3) := by decide +kernel
theorem dX5_visit_8 : decode cX5_visit 8 = .ok (.aload_n 0, 1) := by decide +kernel
theorem dX5_visit_9 : decode cX5_visit 9 = .ok (.dup, 1) := by decide +kernel
theorem dX5_visit_10 : decode cX5_visit 10 = .ok (.getfield 33, 3) := by decide +kernel
theorem dX5_visit_13 : decode cX5_visit 13 = .ok (.iconst 1, 1) := by decide +kernel
theorem dX5_visit_14 : decode cX5_visit 14 = .ok (.iload_n 1, 1) := by decide +kernel
theorem dX5_visit_15 : decode cX5_visit 15 = .ok (.ishl, 1) := by decide +kernel
theorem dX5_visit_16 : decode cX5_visit 16 = .ok (.ior, 1) := by decide +kernel
theorem dX5_visit_17 : decode cX5_visit 17 = .ok (.putfield 33, 3) := by decide +kernel
theorem dX5_visit_20 : decode cX5_visit 20 = .ok (.aload_n 0, 1) := by decide +kernel
theorem dX5_visit_21 : decode cX5_visit 21 = .ok (.getfield 14, 3) := by decide +kernel
theorem dX5_visit_24 : decode cX5_visit 24 = .ok (.aload_n 0, 1) := by decide +kernel
theorem dX5_visit_25 : decode cX5_visit 25 = .ok (.getfield 30, 3) := by decide +kernel
theorem dX5_visit_28 : decode cX5_visit 28 = .ok (.iload_n 1, 1) := by decide +kernel
theorem dX5_visit_29 : decode cX5_visit 29 = .ok (.invokevirtual 59, 3) := by decide +kernel
theorem dX5_visit_32 : decode cX5_visit 32 = .ok (.aload_n 0, 1) := by decide +kernel
theorem dX5_visit_33 : decode cX5_visit 33 = .ok (.getfield 20, 3) := by decide +kernel
theorem dX5_visit_36 : decode cX5_visit 36 = .ok (.iload_n 1, 1) := by decide +kernel
theorem dX5_visit_37 : decode cX5_visit 37 = .ok (.iload_n 2, 1) := by decide +kernel
theorem dX5_visit_38 : decode cX5_visit 38 = .ok (.invokevirtual 59, 3) := by decide +kernel
theorem dX5_visit_41 : decode cX5_visit 41 = .ok (.aload_n 0, 1) := by decide +kernel
theorem dX5_visit_42 : decode cX5_visit 42 = .ok (.getfield 23, 3) := by decide +kernel
theorem dX5_visit_45 : decode cX5_visit 45 = .ok (.iload_n 1, 1) := by decide +kernel
theorem dX5_visit_46 : decode cX5_visit 46 = .ok (.iload_n 3, 1) := by decide +kernel
theorem dX5_visit_47 : decode cX5_visit 47 = .ok (.invokevirtual 59, 3) := by decide +kernel
theorem dX5_visit_50 : decode cX5_visit 50 = .ok (.aload_n 0, 1) := by decide +kernel
theorem dX5_visit_51 : decode cX5_visit 51 = .ok (.dup, 1) := by decide +kernel
theorem dX5_visit_52 : decode cX5_visit 52 = .ok (.getfield 30, 3) := by decide +kernel
theorem dX5_visit_55 : decode cX5_visit 55 = .ok (.iconst 1, 1) := by decide +kernel
theorem dX5_visit_56 : decode cX5_visit 56 = .ok (.iadd, 1) := by decide +kernel
theorem dX5_visit_57 : decode cX5_visit 57 = .ok (.putfield 30, 3) := by decide +kernel
theorem dX5_visit_60 : decode cX5_visit 60 = .ok (.return_, 1) := by decide +kernel
theorem dX5_isVisited_0 : decode cX5_isVisited 0 = .ok (.aload_n 0, 1) := by decide +kernel
theorem dX5_isVisited_1 : decode cX5_isVisited 1 = .ok (.getfield 33, 3) := by decide +kernel
theorem dX5_isVisited_4 : decode cX5_isVisited 4 = .ok (.iconst 1, 1) := by decide +kernel
theorem dX5_isVisited_5 : decode cX5_isVisited 5 = .ok (.iload_n 1, 1) := by decide +kernel
theorem dX5_isVisited_6 : decode cX5_isVisited 6 = .ok (.ishl, 1) := by decide +kernel
theorem dX5_isVisited_7 : decode cX5_isVisited 7 = .ok (.iand, 1) := by decide +kernel
theorem dX5_isVisited_8 : decode cX5_isVisited 8 = .ok (.ifCond .eq 7, 3) := by decide +kernel
theorem dX5_isVisited_11 : decode cX5_isVisited 11 = .ok (.iconst 1, 1) := by decide +kernel
theorem dX5_isVisited_12 : decode cX5_isVisited 12 = .ok (.goto 4, 3) := by decide +kernel
theorem dX5_isVisited_15 : decode cX5_isVisited 15 = .ok (.iconst 0, 1) := by decide +kernel
theorem dX5_isVisited_16 : decode cX5_isVisited 16 = .ok (.ireturn, 1) := by decide +kernel
theorem dX5_lengthTo_0 : decode cX5_lengthTo 0 = .ok (.aload_n 0, 1) := by decide +kernel
theorem dX5_lengthTo_1 : decode cX5_lengthTo 1 = .ok (.iload_n 1, 1) := by decide +kernel
theorem dX5_lengthTo_2 : decode cX5_lengthTo 2 = .ok (.invokevirtual 55, 3) := by decide +kernel
theorem dX5_lengthTo_5 : decode cX5_lengthTo 5 = .ok (.ifCond .ne 5, 3) := by decide +kernel
theorem dX5_lengthTo_8 : decode cX5_lengthTo 8 = .ok (.iconst (-1), 1) := by decide +kernel
theorem dX5_lengthTo_9 : decode cX5_lengthTo 9 = .ok (.ireturn, 1) := by decide +kernel
theorem dX5_lengthTo_10 : decode cX5_lengthTo 10 = .ok (.iconst 0, 1) := by decide +kernel
theorem dX5_lengthTo_11 : decode cX5_lengthTo 11 = .ok (.istore_n 2, 1) := by decide +kernel
theorem dX5_lengthTo_12 : decode cX5_lengthTo 12 = .ok (.iload_n 1, 1) := by decide +kernel
theorem dX5_lengthTo_13 : decode cX5_lengthTo 13 = .ok (.istore_n 3, 1) := by decide +kernel
theorem dX5_lengthTo_14 : decode cX5_lengthTo 14 = .ok (.iload_n 3, 1) := by decide +kernel
theorem dX5_lengthTo_15 : decode cX5_lengthTo 15 = .ok (.aload_n 0, 1) := by decide +kernel
theorem dX5_lengthTo_16 : decode cX5_lengthTo 16 = .ok (.getfield 26, 3) := by decide +kernel
theorem dX5_lengthTo_19 : decode cX5_lengthTo 19 = .ok (.if_icmp .eq 24, 3) := by decide +kernel
theorem dX5_lengthTo_22 : decode cX5_lengthTo 22 = .ok (.iload_n 2, 1) := by decide +kernel
theorem dX5_lengthTo_23 : decode cX5_lengthTo 23 = .ok (.bipush 12, 2) := by decide +kernel
theorem dX5_lengthTo_25 : decode cX5_lengthTo 25 = .ok (.if_icmp .ge 18, 3) := by decide +kernel
theorem dX5_lengthTo_28 : decode cX5_lengthTo 28 = .ok (.iinc 2 1, 3) := by decide +kernel
theorem dX5_lengthTo_31 : decode cX5_lengthTo 31 = .ok (.aload_n 0, 1) := by decide +kernel
theorem dX5_lengthTo_32 : decode cX5_lengthTo 32 = .ok (.getfield 23, 3) := by decide +kernel
theorem dX5_lengthTo_35 : decode cX5_lengthTo 35 = .ok (.iload_n 3, 1) := by decide +kernel
theorem dX5_lengthTo_36 : decode cX5_lengthTo 36 = .ok (.invokevirtual 40, 3) := by decide +kernel
theorem dX5_lengthTo_39 : decode cX5_lengthTo 39 = .ok (.istore_n 3, 1) := by decide +kernel
theorem dX5_lengthTo_40 : decode cX5_lengthTo 40 = .ok (.goto (-26), 3) := by decide +kernel
theorem dX5_lengthTo_43 : decode cX5_lengthTo 43 = .ok (.iload_n 2, 1) := by decide +kernel
theorem dX5_lengthTo_44 : decode cX5_lengthTo 44 = .ok (.ireturn, 1) := by decide +kernel
theorem dX5_slotOnPathTo_0 : decode cX5_slotOnPathTo 0 = .ok (.aload_n 0, 1) := by decide +kernel
theorem dX5_slotOnPathTo_1 : decode cX5_slotOnPathTo 1 = .ok (.iload_n 1, 1) := by decide +kernel
theorem dX5_slotOnPathTo_2 : decode cX5_slotOnPathTo 2 = .ok (.invokevirtual 63, 3) := by decide +kernel
theorem dX5_slotOnPathTo_5 : decode cX5_slotOnPathTo 5 = .ok (.istore_n 3, 1) := by decide +kernel
theorem dX5_slotOnPathTo_6 : decode cX5_slotOnPathTo 6 = .ok (.iload_n 2, 1) := by decide +kernel
theorem dX5_slotOnPathTo_7 : decode cX5_slotOnPathTo 7 = .ok (.ifCond .lt 8, 3) := by decide +kernel
theorem dX5_slotOnPathTo_10 : decode cX5_slotOnPathTo 10 = .ok (.iload_n 2, 1) := by decide +kernel
theorem dX5_slotOnPathTo_11 : decode cX5_slotOnPathTo 11 = .ok (.iload_n 3, 1) := by decide +kernel
theorem dX5_slotOnPathTo_12 : decode cX5_slotOnPathTo 12 = .ok (.if_icmp .lt 5, 3) := by decide +kernel
theorem dX5_slotOnPathTo_15 : decode cX5_slotOnPathTo 15 = .ok (.iconst (-1), 1) := by decide +kernel
theorem dX5_slotOnPathTo_16 : decode cX5_slotOnPathTo 16 = .ok (.ireturn, 1) := by decide +kernel
theorem dX5_slotOnPathTo_17 : decode cX5_slotOnPathTo 17 = .ok (.iload_n 1, 1) := by decide +kernel
theorem dX5_slotOnPathTo_18 : decode cX5_slotOnPathTo 18 = .ok (.istore 4, 2) := by decide +kernel
theorem dX5_slotOnPathTo_20 : decode cX5_slotOnPathTo 20 = .ok (.iload_n 3, 1) := by decide +kernel
theorem dX5_slotOnPathTo_21 : decode cX5_slotOnPathTo 21 = .ok (.iconst 1, 1) := by decide +kernel
theorem dX5_slotOnPathTo_22 : decode cX5_slotOnPathTo 22 = .ok (.isub, 1) := by decide +kernel
theorem dX5_slotOnPathTo_23 : decode cX5_slotOnPathTo 23 = .ok (.istore 5, 2) := by decide +kernel
theorem dX5_slotOnPathTo_25 : decode cX5_slotOnPathTo 25 = .ok (.iload 5, 2) := by decide +kernel
theorem dX5_slotOnPathTo_27 : decode cX5_slotOnPathTo 27 = .ok (.iload_n 2, 1) := by decide +kernel
theorem dX5_slotOnPathTo_28 : decode cX5_slotOnPathTo 28 = .ok (.if_icmp .le 20, 3) := by decide +kernel
theorem dX5_slotOnPathTo_31 : decode cX5_slotOnPathTo 31 = .ok (.aload_n 0, 1) := by decide +kernel
theorem dX5_slotOnPathTo_32 : decode cX5_slotOnPathTo 32 = .ok (.getfield 23, 3) := by decide +kernel
theorem dX5_slotOnPathTo_35 : decode cX5_slotOnPathTo 35 = .ok (.iload 4, 2) := by decide +kernel
theorem dX5_slotOnPathTo_37 : decode cX5_slotOnPathTo 37 = .ok (.invokevirtual 40, 3) := by decide +kernel
theorem dX5_slotOnPathTo_40 : decode cX5_slotOnPathTo 40 = .ok (.istore 4, 2) := by decide +kernel
theorem dX5_slotOnPathTo_42 : decode cX5_slotOnPathTo 42 = .ok (.iinc 5 (-1), 3) := by decide +kernel
theorem dX5_slotOnPathTo_45 : decode cX5_slotOnPathTo 45 = .ok (.goto (-20), 3) := by decide +kernel
theorem dX5_slotOnPathTo_48 : decode cX5_slotOnPathTo 48 = .ok (.aload_n 0, 1) := by decide +kernel
theorem dX5_slotOnPathTo_49 : decode cX5_slotOnPathTo 49 = .ok (.getfield 20, 3) := by decide +kernel
theorem dX5_slotOnPathTo_52 : decode cX5_slotOnPathTo 52 = .ok (.iload 4, 2) := by decide +kernel
theorem dX5_slotOnPathTo_54 : decode cX5_slotOnPathTo 54 = .ok (.invokevirtual 40, 3) := by decide +kernel
theorem dX5_slotOnPathTo_57 : decode cX5_slotOnPathTo 57 = .ok (.ireturn, 1) := by decide +kernel
theorem dX5_firstLighter_0 : decode cX5_firstLighter 0 = .ok (.aload_n 1, 1) := by decide +kernel
theorem dX5_firstLighter_1 : decode cX5_firstLighter 1 = .ok (.getfield 66, 3) := by decide +kernel
theorem dX5_firstLighter_4 : decode cX5_firstLighter 4 = .ok (.aload_n 0, 1) := by decide +kernel
theorem dX5_firstLighter_5 : decode cX5_firstLighter 5 = .ok (.getfield 26, 3) := by decide +kernel
theorem dX5_firstLighter_8 : decode cX5_firstLighter 8 = .ok (.invokevirtual 40, 3) := by decide +kernel
theorem dX5_firstLighter_11 : decode cX5_firstLighter 11 = .ok (.iconst 2, 1) := by decide +kernel
theorem dX5_firstLighter_12 : decode cX5_firstLighter 12 = .ok (.isub, 1) := by decide +kernel
theorem dX5_firstLighter_13 : decode cX5_firstLighter 13 = .ok (.istore_n 2, 1) := by decide +kernel
theorem dX5_firstLighter_14 : decode cX5_firstLighter 14 = .ok (.iconst 0, 1) := by decide +kernel
theorem dX5_firstLighter_15 : decode cX5_firstLighter 15 = .ok (.istore_n 3, 1) := by decide +kernel
theorem dX5_firstLighter_16 : decode cX5_firstLighter 16 = .ok (.iload_n 3, 1) := by decide +kernel
theorem dX5_firstLighter_17 : decode cX5_firstLighter 17 = .ok (.aload_n 0, 1) := by decide +kernel
theorem dX5_firstLighter_18 : decode cX5_firstLighter 18 = .ok (.getfield 30, 3) := by decide +kernel
theorem dX5_firstLighter_21 : decode cX5_firstLighter 21 = .ok (.if_icmp .ge 37, 3) := by decide +kernel
theorem dX5_firstLighter_24 : decode cX5_firstLighter 24 = .ok (.aload_n 1, 1) := by decide +kernel
theorem dX5_firstLighter_25 : decode cX5_firstLighter 25 = .ok (.getfield 66, 3) := by decide +kernel
theorem dX5_firstLighter_28 : decode cX5_firstLighter 28 = .ok (.aload_n 0, 1) := by decide +kernel
theorem dX5_firstLighter_29 : decode cX5_firstLighter 29 = .ok (.getfield 14, 3) := by decide +kernel
theorem dX5_firstLighter_32 : decode cX5_firstLighter 32 = .ok (.iload_n 3, 1) := by decide +kernel
theorem dX5_firstLighter_33 : decode cX5_firstLighter 33 = .ok (.invokevirtual 40, 3) := by decide +kernel
theorem dX5_firstLighter_36 : decode cX5_firstLighter 36 = .ok (.invokevirtual 40, 3) := by decide +kernel
theorem dX5_firstLighter_39 : decode cX5_firstLighter 39 = .ok (.iload_n 2, 1) := by decide +kernel
theorem dX5_firstLighter_40 : decode cX5_firstLighter 40 = .ok (.if_icmp .gt 12, 3) := by decide +kernel
theorem dX5_firstLighter_43 : decode cX5_firstLighter 43 = .ok (.aload_n 0, 1) := by decide +kernel
theorem dX5_firstLighter_44 : decode cX5_firstLighter 44 = .ok (.getfield 14, 3) := by decide +kernel
theorem dX5_firstLighter_47 : decode cX5_firstLighter 47 = .ok (.iload_n 3, 1) := by decide +kernel
theorem dX5_firstLighter_48 : decode cX5_firstLighter 48 = .ok (.invokevirtual 40, 3) := by decide +kernel
theorem dX5_firstLighter_51 : decode cX5_firstLighter 51 = .ok (.ireturn, 1) := by decide +kernel
theorem dX5_firstLighter_52 : decode cX5_firstLighter 52 = .ok (.iinc 3 1, 3) := by decide +kernel
theorem dX5_firstLighter_55 : decode cX5_firstLighter 55 = .ok (.goto (-39), 3) := by decide +kernel
theorem dX5_firstLighter_58 : decode cX5_firstLighter 58 = .ok (.iconst (-1), 1) := by decide +kernel
theorem dX5_firstLighter_59 : decode cX5_firstLighter 59 = .ok (.ireturn, 1) := by decide +kernel
theorem dX5_flipPathTo_0 : decode cX5_flipPathTo 0 = .ok (.aload_n 0, 1) := by decide +kernel
theorem dX5_flipPathTo_1 : decode cX5_flipPathTo 1 = .ok (.iload_n 2, 1) := by decide +kernel
theorem dX5_flipPathTo_2 : decode cX5_flipPathTo 2 = .ok (.invokevirtual 63, 3) := by decide +kernel
theorem dX5_flipPathTo_5 : decode cX5_flipPathTo 5 = .ok (.istore_n 3, 1) := by decide +kernel
theorem dX5_flipPathTo_6 : decode cX5_flipPathTo 6 = .ok (.iload_n 2, 1) := by decide +kernel
theorem dX5_flipPathTo_7 : decode cX5_flipPathTo 7 = .ok (.istore 4, 2) := by decide +kernel
theorem dX5_flipPathTo_9 : decode cX5_flipPathTo 9 = .ok (.iconst 0, 1) := by decide +kernel
theorem dX5_flipPathTo_10 : decode cX5_flipPathTo 10 = .ok (.istore 5, 2) := by decide +kernel
theorem dX5_flipPathTo_12 : decode cX5_flipPathTo 12 = .ok (.iload 5, 2) := by decide +kernel
theorem dX5_flipPathTo_14 : decode cX5_flipPathTo 14 = .ok (.iload_n 3, 1) := by decide +kernel
theorem dX5_flipPathTo_15 : decode cX5_flipPathTo 15 = .ok (.if_icmp .ge 34, 3) := by decide +kernel
theorem dX5_flipPathTo_18 : decode cX5_flipPathTo 18 = .ok (.aload_n 1, 1) := by decide +kernel
theorem dX5_flipPathTo_19 : decode cX5_flipPathTo 19 = .ok (.aload_n 0, 1) := by decide +kernel
theorem dX5_flipPathTo_20 : decode cX5_flipPathTo 20 = .ok (.getfield 20, 3) := by decide +kernel
theorem dX5_flipPathTo_23 : decode cX5_flipPathTo 23 = .ok (.iload 4, 2) := by decide +kernel
theorem dX5_flipPathTo_25 : decode cX5_flipPathTo 25 = .ok (.invokevirtual 40, 3) := by decide +kernel
theorem dX5_flipPathTo_28 : decode cX5_flipPathTo 28 = .ok (.invokevirtual 69, 3) := by decide +kernel
theorem dX5_flipPathTo_31 : decode cX5_flipPathTo 31 = .ok (.pop, 1) := by decide +kernel
theorem dX5_flipPathTo_32 : decode cX5_flipPathTo 32 = .ok (.aload_n 0, 1) := by decide +kernel
theorem dX5_flipPathTo_33 : decode cX5_flipPathTo 33 = .ok (.getfield 23, 3) := by decide +kernel
theorem dX5_flipPathTo_36 : decode cX5_flipPathTo 36 = .ok (.iload 4, 2) := by decide +kernel
theorem dX5_flipPathTo_38 : decode cX5_flipPathTo 38 = .ok (.invokevirtual 40, 3) := by decide +kernel
theorem dX5_flipPathTo_41 : decode cX5_flipPathTo 41 = .ok (.istore 4, 2) := by decide +kernel
theorem dX5_flipPathTo_43 : decode cX5_flipPathTo 43 = .ok (.iinc 5 1, 3) := by decide +kernel
theorem dX5_flipPathTo_46 : decode cX5_flipPathTo 46 = .ok (.goto (-34), 3) := by decide +kernel
theorem dX5_flipPathTo_49 : decode cX5_flipPathTo 49 = .ok (.iload_n 3, 1) := by decide +kernel
theorem dX5_flipPathTo_50 : decode cX5_flipPathTo 50 = .ok (.ireturn, 1) := by decide +kernel
theorem dX5_relieveNode_0 : decode cX5_relieveNode 0 = .ok (.aload_n 0, 1) := by decide +kernel
theorem dX5_relieveNode_1 : decode cX5_relieveNode 1 = .ok (.aload_n 1, 1) := by decide +kernel
theorem dX5_relieveNode_2 : decode cX5_relieveNode 2 = .ok (.iload_n 2, 1) := by decide +kernel
theorem dX5_relieveNode_3 : decode cX5_relieveNode 3 = .ok (.invokevirtual 72, 3) := by decide +kernel
theorem dX5_relieveNode_6 : decode cX5_relieveNode 6 = .ok (.aload_n 0, 1) := by decide +kernel
theorem dX5_relieveNode_7 : decode cX5_relieveNode 7 = .ok (.aload_n 1, 1) := by decide +kernel
theorem dX5_relieveNode_8 : decode cX5_relieveNode 8 = .ok (.invokevirtual 76, 3) := by decide +kernel
theorem dX5_relieveNode_11 : decode cX5_relieveNode 11 = .ok (.istore_n 3, 1) := by decide +kernel
theorem dX5_relieveNode_12 : decode cX5_relieveNode 12 = .ok (.iload_n 3, 1) := by decide +kernel
theorem dX5_relieveNode_13 : decode cX5_relieveNode 13 = .ok (.iconst (-1), 1) := by decide +kernel
theorem dX5_relieveNode_14 : decode cX5_relieveNode 14 = .ok (.if_icmp .ne 7, 3) := by decide +kernel
theorem dX5_relieveNode_17 : decode cX5_relieveNode 17 = .ok (.iconst 0, 1) := by decide +kernel
theorem dX5_relieveNode_18 : decode cX5_relieveNode 18 = .ok (.goto 9, 3) := by decide +kernel
theorem dX5_relieveNode_21 : decode cX5_relieveNode 21 = .ok (.aload_n 0, 1) := by decide +kernel
theorem dX5_relieveNode_22 : decode cX5_relieveNode 22 = .ok (.aload_n 1, 1) := by decide +kernel
theorem dX5_relieveNode_23 : decode cX5_relieveNode 23 = .ok (.iload_n 3, 1) := by decide +kernel
theorem dX5_relieveNode_24 : decode cX5_relieveNode 24 = .ok (.invokevirtual 80, 3) := by decide +kernel
theorem dX5_relieveNode_27 : decode cX5_relieveNode 27 = .ok (.ireturn, 1) := by decide +kernel
theorem dX5_evenOut_0 : decode cX5_evenOut 0 = .ok (.iconst 0, 1) := by decide +kernel
theorem dX5_evenOut_1 : decode cX5_evenOut 1 = .ok (.istore_n 2, 1) := by decide +kernel
theorem dX5_evenOut_2 : decode cX5_evenOut 2 = .ok (.aload_n 1, 1) := by decide +kernel
theorem dX5_evenOut_3 : decode cX5_evenOut 3 = .ok (.invokevirtual 84, 3) := by decide +kernel
theorem dX5_evenOut_6 : decode cX5_evenOut 6 = .ok (.istore_n 3, 1) := by decide +kernel
theorem dX5_evenOut_7 : decode cX5_evenOut 7 = .ok (.iconst 0, 1) := by decide +kernel
theorem dX5_evenOut_8 : decode cX5_evenOut 8 = .ok (.istore 4, 2) := by decide +kernel
theorem dX5_evenOut_10 : decode cX5_evenOut 10 = .ok (.iload 4, 2) := by decide +kernel
theorem dX5_evenOut_12 : decode cX5_evenOut 12 = .ok (.aload_n 1, 1) := by decide +kernel
theorem dX5_evenOut_13 : decode cX5_evenOut 13 = .ok (.getfield 88, 3) := by decide +kernel
theorem dX5_evenOut_16 : decode cX5_evenOut 16 = .ok (.if_icmp .ge 52, 3) := by decide +kernel
theorem dX5_evenOut_19 : decode cX5_evenOut 19 = .ok (.iload_n 2, 1) := by decide +kernel
theorem dX5_evenOut_20 : decode cX5_evenOut 20 = .ok (.ldc 91, 2) := by decide +kernel
theorem dX5_evenOut_22 : decode cX5_evenOut 22 = .ok (.if_icmp .ge 46, 3) := by decide +kernel
theorem dX5_evenOut_25 : decode cX5_evenOut 25 = .ok (.aload_n 1, 1) := by decide +kernel
theorem dX5_evenOut_26 : decode cX5_evenOut 26 = .ok (.getfield 66, 3) := by decide +kernel
theorem dX5_evenOut_29 : decode cX5_evenOut 29 = .ok (.iload 4, 2) := by decide +kernel
theorem dX5_evenOut_31 : decode cX5_evenOut 31 = .ok (.invokevirtual 40, 3) := by decide +kernel
theorem dX5_evenOut_34 : decode cX5_evenOut 34 = .ok (.iload_n 3, 1) := by decide +kernel
theorem dX5_evenOut_35 : decode cX5_evenOut 35 = .ok (.if_icmp .ne 27, 3) := by decide +kernel
theorem dX5_evenOut_38 : decode cX5_evenOut 38 = .ok (.aload_n 0, 1) := by decide +kernel
theorem dX5_evenOut_39 : decode cX5_evenOut 39 = .ok (.aload_n 1, 1) := by decide +kernel
theorem dX5_evenOut_40 : decode cX5_evenOut 40 = .ok (.iload 4, 2) := by decide +kernel
theorem dX5_evenOut_42 : decode cX5_evenOut 42 = .ok (.invokevirtual 92, 3) := by decide +kernel
theorem dX5_evenOut_45 : decode cX5_evenOut 45 = .ok (.ifCond .le 17, 3) := by decide +kernel
theorem dX5_evenOut_48 : decode cX5_evenOut 48 = .ok (.iinc 2 1, 3) := by decide +kernel
theorem dX5_evenOut_51 : decode cX5_evenOut 51 = .ok (.aload_n 1, 1) := by decide +kernel
theorem dX5_evenOut_52 : decode cX5_evenOut 52 = .ok (.invokevirtual 84, 3) := by decide +kernel
theorem dX5_evenOut_55 : decode cX5_evenOut 55 = .ok (.istore_n 3, 1) := by decide +kernel
theorem dX5_evenOut_56 : decode cX5_evenOut 56 = .ok (.iconst 0, 1) := by decide +kernel
theorem dX5_evenOut_57 : decode cX5_evenOut 57 = .ok (.istore 4, 2) := by decide +kernel
theorem dX5_evenOut_59 : decode cX5_evenOut 59 = .ok (.goto (-49), 3) := by decide +kernel
theorem dX5_evenOut_62 : decode cX5_evenOut 62 = .ok (.iinc 4 1, 3) := by decide +kernel
theorem dX5_evenOut_65 : decode cX5_evenOut 65 = .ok (.goto (-55), 3) := by decide +kernel
theorem dX5_evenOut_68 : decode cX5_evenOut 68 = .ok (.iload_n 2, 1) := by decide +kernel
theorem dX5_evenOut_69 : decode cX5_evenOut 69 = .ok (.ireturn, 1) := by decide +kernel
theorem dX6_init_0 : decode cX6_init 0 = .ok (.aload_n 0, 1) := by decide +kernel
theorem dX6_init_1 : decode cX6_init 1 = .ok (.invokespecial 1, 3) := by decide +kernel
theorem dX6_init_4 : decode cX6_init 4 = .ok (.aload_n 0, 1) := by decide +kernel
theorem dX6_init_5 : decode cX6_init 5 = .ok (.new 7, 3) := by decide +kernel
theorem dX6_init_8 : decode cX6_init 8 = .ok (.dup, 1) := by decide +kernel
theorem dX6_init_9 : decode cX6_init 9 = .ok (.invokespecial 9, 3) := by decide +kernel
theorem dX6_init_12 : decode cX6_init 12 = .ok (.putfield 10, 3) := by decide +kernel
theorem dX6_init_15 : decode cX6_init 15 = .ok (.aload_n 0, 1) := by decide +kernel
theorem dX6_init_16 : decode cX6_init 16 = .ok (.new 7, 3) := by decide +kernel
theorem dX6_init_19 : decode cX6_init 19 = .ok (.dup, 1) := by decide +kernel
theorem dX6_init_20 : decode cX6_init 20 = .ok (.invokespecial 9, 3) := by decide +kernel
theorem dX6_init_23 : decode cX6_init 23 = .ok (.putfield 16, 3) := by decide +kernel
theorem dX6_init_26 : decode cX6_init 26 = .ok (.aload_n 0, 1) := by decide +kernel
theorem dX6_init_27 : decode cX6_init 27 = .ok (.new 19, 3) := by decide +kernel
theorem dX6_init_30 : decode cX6_init 30 = .ok (.dup, 1) := by decide +kernel
theorem dX6_init_31 : decode cX6_init 31 = .ok (.invokespecial 21, 3) := by decide +kernel
theorem dX6_init_34 : decode cX6_init 34 = .ok (.putfield 22, 3) := by decide +kernel
theorem dX6_init_37 : decode cX6_init 37 = .ok (.aload_n 0, 1) := by decide +kernel
theorem dX6_init_38 : decode cX6_init 38 = .ok (.new 26, 3) := by decide +kernel
theorem dX6_init_41 : decode cX6_init 41 = .ok (.dup, 1) := by decide +kernel
theorem dX6_init_42 : decode cX6_init 42 = .ok (.invokespecial 28, 3) := by decide +kernel
theorem dX6_init_45 : decode cX6_init 45 = .ok (.putfield 29, 3) := by decide +kernel
theorem dX6_init_48 : decode cX6_init 48 = .ok (.aload_n 0, 1) := by decide +kernel
theorem dX6_init_49 : decode cX6_init 49 = .ok (.new 33, 3) := by decide +kernel
theorem dX6_init_52 : decode cX6_init 52 = .ok (.dup, 1) := by decide +kernel
theorem dX6_init_53 : decode cX6_init 53 = .ok (.invokespecial 35, 3) := by decide +kernel
theorem dX6_init_56 : decode cX6_init 56 = .ok (.putfield 36, 3) := by decide +kernel
theorem dX6_init_59 : decode cX6_init 59 = .ok (.aload_n 0, 1) := by decide +kernel
theorem dX6_init_60 : decode cX6_init 60 = .ok (.new 40, 3) := by decide +kernel
theorem dX6_init_63 : decode cX6_init 63 = .ok (.dup, 1) := by decide +kernel
theorem dX6_init_64 : decode cX6_init 64 = .ok (.invokespecial 42, 3) := by decide +kernel
theorem dX6_init_67 : decode cX6_init 67 = .ok (.putfield 43, 3) := by decide +kernel
theorem dX6_init_70 : decode cX6_init 70 = .ok (.return_, 1) := by decide +kernel
theorem dX6_begin_0 : decode cX6_begin 0 = .ok (.iload_n 1, 1) := by decide +kernel
theorem dX6_begin_1 : decode cX6_begin 1 = .ok (.iconst 2, 1) := by decide +kernel
theorem dX6_begin_2 : decode cX6_begin 2 = .ok (.if_icmp .lt 9, 3) := by decide +kernel
theorem dX6_begin_5 : decode cX6_begin 5 = .ok (.iload_n 1, 1) := by decide +kernel
theorem dX6_begin_6 : decode cX6_begin 6 = .ok (.bipush 12, 2) := by decide +kernel
theorem dX6_begin_8 : decode cX6_begin 8 = .ok (.if_icmp .le 13, 3) := by decide +kernel
theorem dX6_begin_11 : decode cX6_begin 11 = .ok (.new 47, 3) := by decide +kernel
theorem dX6_begin_14 : decode cX6_begin 14 = .ok (.dup, 1) := by decide +kernel
theorem dX6_begin_15 : decode cX6_begin 15 = .ok (.ldc 49, 2) := by decide +kernel
theorem dX6_begin_17 : decode cX6_begin 17 = .ok (.invokespecial 51, 3) := by decide +kernel
theorem dX6_begin_20 : decode cX6_begin 20 = .ok (.athrow, 1) := by decide +kernel
theorem dX6_begin_21 : decode cX6_begin 21 = .ok (.aload_n 0, 1) := by decide +kernel
theorem dX6_begin_22 : decode cX6_begin 22 = .ok (.getfield 10, 3) := by decide +kernel
theorem dX6_begin_25 : decode cX6_begin 25 = .ok (.getfield 54, 3) := by decide +kernel
theorem dX6_begin_28 : decode cX6_begin 28 = .ok (.istore_n 2, 1) := by decide +kernel
theorem dX6_begin_29 : decode cX6_begin 29 = .ok (.aload_n 0, 1) := by decide +kernel
theorem dX6_begin_30 : decode cX6_begin 30 = .ok (.getfield 43, 3) := by decide +kernel
theorem dX6_begin_33 : decode cX6_begin 33 = .ok (.aload_n 0, 1) := by decide +kernel
theorem dX6_begin_34 : decode cX6_begin 34 = .ok (.getfield 10, 3) := by decide +kernel
theorem dX6_begin_37 : decode cX6_begin 37 = .ok (.invokevirtual 58, 3) := by decide +kernel
theorem dX6_begin_40 : decode cX6_begin 40 = .ok (.aload_n 0, 1) := by decide +kernel
theorem dX6_begin_41 : decode cX6_begin 41 = .ok (.getfield 10, 3) := by decide +kernel
theorem dX6_begin_44 : decode cX6_begin 44 = .ok (.iload_n 1, 1) := by decide +kernel
theorem dX6_begin_45 : decode cX6_begin 45 = .ok (.invokevirtual 62, 3) := by decide +kernel
theorem dX6_begin_48 : decode cX6_begin 48 = .ok (.aload_n 0, 1) := by decide +kernel
theorem dX6_begin_49 : decode cX6_begin 49 = .ok (.getfield 29, 3) := by decide +kernel
theorem dX6_begin_52 : decode cX6_begin 52 = .ok (.invokevirtual 66, 3) := by decide +kernel
theorem dX6_begin_55 : decode cX6_begin 55 = .ok (.iload_n 2, 1) := by decide +kernel
theorem dX6_begin_56 : decode cX6_begin 56 = .ok (.ireturn, 1) := by decide +kernel
theorem dX6_add_0 : decode cX6_add 0 = .ok (.aload_n 0, 1) := by decide +kernel
theorem dX6_add_1 : decode cX6_add 1 = .ok (.iload_n 1, 1) := by decide +kernel
theorem dX6_add_2 : decode cX6_add 2 = .ok (.invokevirtual 69, 3) := by decide +kernel
theorem dX6_add_5 : decode cX6_add 5 = .ok (.aload_n 0, 1) := by decide +kernel
theorem dX6_add_6 : decode cX6_add 6 = .ok (.iload_n 2, 1) := by decide +kernel
theorem dX6_add_7 : decode cX6_add 7 = .ok (.invokevirtual 69, 3) := by decide +kernel
theorem dX6_add_10 : decode cX6_add 10 = .ok (.iload_n 1, 1) := by decide +kernel
theorem dX6_add_11 : decode cX6_add 11 = .ok (.iload_n 2, 1) := by decide +kernel
theorem dX6_add_12 : decode cX6_add 12 = .ok (.invokestatic 72, 3) := by decide +kernel
theorem dX6_add_15 : decode cX6_add 15 = .ok (.aload_n 0, 1) := by decide +kernel
theorem dX6_add_16 : decode cX6_add 16 = .ok (.getfield 10, 3) := by decide +kernel
theorem dX6_add_19 : decode cX6_add 19 = .ok (.invokevirtual 76, 3) := by decide +kernel
theorem dX6_add_22 : decode cX6_add 22 = .ok (.ifCond .eq 13, 3) := by decide +kernel
theorem dX6_add_25 : decode cX6_add 25 = .ok (.new 80, 3) := by decide +kernel
theorem dX6_add_28 : decode cX6_add 28 = .ok (.dup, 1) := by decide +kernel
theorem dX6_add_29 : decode cX6_add 29 = .ok (.ldc 82, 2) := by decide +kernel
theorem dX6_add_31 : decode cX6_add 31 = .ok (.invokespecial 84, 3) := by decide +kernel
theorem dX6_add_34 : decode cX6_add 34 = .ok (.athrow, 1) := by decide +kernel
theorem dX6_add_35 : decode cX6_add 35 = .ok (.aload_n 0, 1) := by decide +kernel
theorem dX6_add_36 : decode cX6_add 36 = .ok (.getfield 43, 3) := by decide +kernel
theorem dX6_add_39 : decode cX6_add 39 = .ok (.aload_n 0, 1) := by decide +kernel
theorem dX6_add_40 : decode cX6_add 40 = .ok (.getfield 10, 3) := by decide +kernel
theorem dX6_add_43 : decode cX6_add 43 = .ok (.invokevirtual 58, 3) := by decide +kernel
theorem dX6_add_46 : decode cX6_add 46 = .ok (.aload_n 0, 1) := by decide +kernel
theorem dX6_add_47 : decode cX6_add 47 = .ok (.getfield 29, 3) := by decide +kernel
theorem dX6_add_50 : decode cX6_add 50 = .ok (.invokevirtual 66, 3) := by decide +kernel
theorem dX6_add_53 : decode cX6_add 53 = .ok (.aload_n 0, 1) := by decide +kernel
theorem dX6_add_54 : decode cX6_add 54 = .ok (.getfield 10, 3) := by decide +kernel
theorem dX6_add_57 : decode cX6_add 57 = .ok (.iload_n 1, 1) := by decide +kernel
theorem dX6_add_58 : decode cX6_add 58 = .ok (.iload_n 2, 1) := by decide +kernel
theorem dX6_add_59 : decode cX6_add 59 = .ok (.invokevirtual 85, 3) := by decide +kernel
theorem dX6_add_62 : decode cX6_add 62 = .ok (.ireturn, 1) := by decide +kernel
theorem dX6_remove_0 : decode cX6_remove 0 = .ok (.aload_n 0, 1) := by decide +kernel
theorem dX6_remove_1 : decode cX6_remove 1 = .ok (.iload_n 1, 1) := by decide +kernel
theorem dX6_remove_2 : decode cX6_remove 2 = .ok (.invokevirtual 89, 3) := by decide +kernel
theorem dX6_remove_5 : decode cX6_remove 5 = .ok (.istore_n 2, 1) := by decide +kernel
theorem dX6_remove_6 : decode cX6_remove 6 = .ok (.aload_n 0, 1) := by decide +kernel
theorem dX6_remove_7 : decode cX6_remove 7 = .ok (.getfield 43, 3) := by decide +kernel
theorem dX6_remove_10 : decode cX6_remove 10 = .ok (.aload_n 0, 1) := by decide +kernel
theorem dX6_remove_11 : decode cX6_remove 11 = .ok (.getfield 10, 3) := by decide +kernel
theorem dX6_remove_14 : decode cX6_remove 14 = .ok (.invokevirtual 58, 3) := by decide +kernel
theorem dX6_remove_17 : decode cX6_remove 17 = .ok (.aload_n 0, 1) := by decide +kernel
theorem dX6_remove_18 : decode cX6_remove 18 = .ok (.getfield 29, 3) := by decide +kernel
theorem dX6_remove_21 : decode cX6_remove 21 = .ok (.invokevirtual 66, 3) := by decide +kernel
theorem dX6_remove_24 : decode cX6_remove 24 = .ok (.aload_n 0, 1) := by decide +kernel
theorem dX6_remove_25 : decode cX6_remove 25 = .ok (.getfield 10, 3) := by decide +kernel
theorem dX6_remove_28 : decode cX6_remove 28 = .ok (.iload_n 2, 1) := by decide +kernel
theorem dX6_remove_29 : decode cX6_remove 29 = .ok (.invokevirtual 93, 3) := by decide +kernel
theorem dX6_remove_32 : decode cX6_remove 32 = .ok (.ireturn, 1) := by decide +kernel
theorem dX6_turn_0 : decode cX6_turn 0 = .ok (.aload_n 0, 1) := by decide +kernel
theorem dX6_turn_1 : decode cX6_turn 1 = .ok (.iload_n 1, 1) := by decide +kernel
theorem dX6_turn_2 : decode cX6_turn 2 = .ok (.invokevirtual 89, 3) := by decide +kernel
theorem dX6_turn_5 : decode cX6_turn 5 = .ok (.istore_n 2, 1) := by decide +kernel
theorem dX6_turn_6 : decode cX6_turn 6 = .ok (.aload_n 0, 1) := by decide +kernel
theorem dX6_turn_7 : decode cX6_turn 7 = .ok (.getfield 43, 3) := by decide +kernel
theorem dX6_turn_10 : decode cX6_turn 10 = .ok (.aload_n 0, 1) := by decide +kernel
theorem dX6_turn_11 : decode cX6_turn 11 = .ok (.getfield 10, 3) := by decide +kernel
theorem dX6_turn_14 : decode cX6_turn 14 = .ok (.invokevirtual 58, 3) := by decide +kernel
theorem dX6_turn_17 : decode cX6_turn 17 = .ok (.aload_n 0, 1) := by decide +kernel
theorem dX6_turn_18 : decode cX6_turn 18 = .ok (.getfield 10, 3) := by decide +kernel
theorem dX6_turn_21 : decode cX6_turn 21 = .ok (.iload_n 2, 1) := by decide +kernel
theorem dX6_turn_22 : decode cX6_turn 22 = .ok (.invokevirtual 96, 3) := by decide +kernel
theorem dX6_turn_25 : decode cX6_turn 25 = .ok (.ireturn, 1) := by decide +kernel
theorem dX6_relieve_0 : decode cX6_relieve 0 = .ok (.aload_n 0, 1) := by decide +kernel
theorem dX6_relieve_1 : decode cX6_relieve 1 = .ok (.iload_n 1, 1) := by decide +kernel
theorem dX6_relieve_2 : decode cX6_relieve 2 = .ok (.invokevirtual 69, 3) := by decide +kernel
theorem dX6_relieve_5 : decode cX6_relieve 5 = .ok (.aload_n 0, 1) := by decide +kernel
theorem dX6_relieve_6 : decode cX6_relieve 6 = .ok (.getfield 22, 3) := by decide +kernel
theorem dX6_relieve_9 : decode cX6_relieve 9 = .ok (.aload_n 0, 1) := by decide +kernel
theorem dX6_relieve_10 : decode cX6_relieve 10 = .ok (.getfield 10, 3) := by decide +kernel
theorem dX6_relieve_13 : decode cX6_relieve 13 = .ok (.iload_n 1, 1) := by decide +kernel
theorem dX6_relieve_14 : decode cX6_relieve 14 = .ok (.invokevirtual 99, 3) := by decide +kernel
theorem dX6_relieve_17 : decode cX6_relieve 17 = .ok (.aload_n 0, 1) := by decide +kernel
theorem dX6_relieve_18 : decode cX6_relieve 18 = .ok (.getfield 22, 3) := by decide +kernel
theorem dX6_relieve_21 : decode cX6_relieve 21 = .ok (.aload_n 0, 1) := by decide +kernel
theorem dX6_relieve_22 : decode cX6_relieve 22 = .ok (.getfield 10, 3) := by decide +kernel
theorem dX6_relieve_25 : decode cX6_relieve 25 = .ok (.invokevirtual 103, 3) := by decide +kernel
theorem dX6_relieve_28 : decode cX6_relieve 28 = .ok (.istore_n 2, 1) := by decide +kernel
theorem dX6_relieve_29 : decode cX6_relieve 29 = .ok (.iload_n 2, 1) := by decide +kernel
theorem dX6_relieve_30 : decode cX6_relieve 30 = .ok (.iconst (-1), 1) := by decide +kernel
theorem dX6_relieve_31 : decode cX6_relieve 31 = .ok (.if_icmp .ne 13, 3) := by decide +kernel
theorem dX6_relieve_34 : decode cX6_relieve 34 = .ok (.new 80, 3) := by decide +kernel
theorem dX6_relieve_37 : decode cX6_relieve 37 = .ok (.dup, 1) := by decide +kernel
theorem dX6_relieve_38 : decode cX6_relieve 38 = .ok (.ldc 107, 2) := by decide +kernel
theorem dX6_relieve_40 : decode cX6_relieve 40 = .ok (.invokespecial 84, 3) := by decide +kernel
theorem dX6_relieve_43 : decode cX6_relieve 43 = .ok (.athrow, 1) := by decide +kernel
theorem dX6_relieve_44 : decode cX6_relieve 44 = .ok (.aload_n 0, 1) := by decide +kernel
theorem dX6_relieve_45 : decode cX6_relieve 45 = .ok (.getfield 43, 3) := by decide +kernel
theorem dX6_relieve_48 : decode cX6_relieve 48 = .ok (.aload_n 0, 1) := by decide +kernel
theorem dX6_relieve_49 : decode cX6_relieve 49 = .ok (.getfield 10, 3) := by decide +kernel
theorem dX6_relieve_52 : decode cX6_relieve 52 = .ok (.invokevirtual 58, 3) := by decide +kernel
theorem dX6_relieve_55 : decode cX6_relieve 55 = .ok (.aload_n 0, 1) := by decide +kernel
theorem dX6_relieve_56 : decode cX6_relieve 56 = .ok (.getfield 22, 3) := by decide +kernel
theorem dX6_relieve_59 : decode cX6_relieve 59 = .ok (.aload_n 0, 1) := by decide +kernel
theorem dX6_relieve_60 : decode cX6_relieve 60 = .ok (.getfield 10, 3) := by decide +kernel
theorem dX6_relieve_63 : decode cX6_relieve 63 = .ok (.iload_n 2, 1) := by decide +kernel
theorem dX6_relieve_64 : decode cX6_relieve 64 = .ok (.invokevirtual 109, 3) := by decide +kernel
theorem dX6_relieve_67 : decode cX6_relieve 67 = .ok (.ireturn, 1) := by decide +kernel
theorem dX6_balance_0 : decode cX6_balance 0 = .ok (.aload_n 0, 1) := by decide +kernel
theorem dX6_balance_1 : decode cX6_balance 1 = .ok (.getfield 43, 3) := by decide +kernel
theorem dX6_balance_4 : decode cX6_balance 4 = .ok (.aload_n 0, 1) := by decide +kernel
theorem dX6_balance_5 : decode cX6_balance 5 = .ok (.getfield 10, 3) := by decide +kernel
theorem dX6_balance_8 : decode cX6_balance 8 = .ok (.invokevirtual 58, 3) := by decide +kernel
theorem dX6_balance_11 : decode cX6_balance 11 = .ok (.aload_n 0, 1) := by decide +kernel
theorem dX6_balance_12 : decode cX6_balance 12 = .ok (.getfield 22, 3) := by decide +kernel
theorem dX6_balance_15 : decode cX6_balance 15 = .ok (.aload_n 0, 1) := by decide +kernel
theorem dX6_balance_16 : decode cX6_balance 16 = .ok (.getfield 10, 3) := by decide +kernel
theorem dX6_balance_19 : decode cX6_balance 19 = .ok (.invokevirtual 113, 3) := by decide +kernel
theorem dX6_balance_22 : decode cX6_balance 22 = .ok (.ireturn, 1) := by decide +kernel
theorem dX6_setCapacity_0 : decode cX6_setCapacity 0 = .ok (.aload_n 0, 1) := by decide +kernel
theorem dX6_setCapacity_1 : decode cX6_setCapacity 1 = .ok (.iload_n 1, 1) := by decide +kernel
theorem dX6_setCapacity_2 : decode cX6_setCapacity 2 = .ok (.invokevirtual 69, 3) := by decide +kernel
theorem dX6_setCapacity_5 : decode cX6_setCapacity 5 = .ok (.iload_n 2, 1) := by decide +kernel
theorem dX6_setCapacity_6 : decode cX6_setCapacity 6 = .ok (.ifCond .lt 9, 3) := by decide +kernel
theorem dX6_setCapacity_9 : decode cX6_setCapacity 9 = .ok (.iload_n 2, 1) := by decide +kernel
theorem dX6_setCapacity_10 : decode cX6_setCapacity 10 = .ok (.bipush 40, 2) := by decide +kernel
theorem dX6_setCapacity_12 : decode cX6_setCapacity 12 = .ok (.if_icmp .le 13, 3) := by decide +kernel
theorem dX6_setCapacity_15 : decode cX6_setCapacity 15 = .ok (.new 47, 3) := by decide +kernel
theorem dX6_setCapacity_18 : decode cX6_setCapacity 18 = .ok (.dup, 1) := by decide +kernel
theorem dX6_setCapacity_19 : decode cX6_setCapacity 19 = .ok (.ldc 116, 2) := by decide +kernel
theorem dX6_setCapacity_21 : decode cX6_setCapacity 21 = .ok (.invokespecial 51, 3) := by decide +kernel
theorem dX6_setCapacity_24 : decode cX6_setCapacity 24 = .ok (.athrow, 1) := by decide +kernel
theorem dX6_setCapacity_25 : decode cX6_setCapacity 25 = .ok (.aload_n 0, 1) := by decide +kernel
theorem dX6_setCapacity_26 : decode cX6_setCapacity 26 = .ok (.getfield 10, 3) := by decide +kernel
theorem dX6_setCapacity_29 : decode cX6_setCapacity 29 = .ok (.getfield 118, 3) := by decide +kernel
theorem dX6_setCapacity_32 : decode cX6_setCapacity 32 = .ok (.iload_n 1, 1) := by decide +kernel
theorem dX6_setCapacity_33 : decode cX6_setCapacity 33 = .ok (.invokevirtual 122, 3) := by decide +kernel
theorem dX6_setCapacity_36 : decode cX6_setCapacity 36 = .ok (.istore_n 3, 1) := by decide +kernel
theorem dX6_setCapacity_37 : decode cX6_setCapacity 37 = .ok (.aload_n 0, 1) := by decide +kernel
theorem dX6_setCapacity_38 : decode cX6_setCapacity 38 = .ok (.getfield 43, 3) := by decide +kernel
theorem dX6_setCapacity_41 : decode cX6_setCapacity 41 = .ok (.aload_n 0, 1) := by decide +kernel
theorem dX6_setCapacity_42 : decode cX6_setCapacity 42 = .ok (.getfield 10, 3) := by decide +kernel
theorem dX6_setCapacity_45 : decode cX6_setCapacity 45 = .ok (.invokevirtual 58, 3) := by decide +kernel
theorem dX6_setCapacity_48 : decode cX6_setCapacity 48 = .ok (.aload_n 0, 1) := by decide +kernel
theorem dX6_setCapacity_49 : decode cX6_setCapacity 49 = .ok (.getfield 10, 3) := by decide +kernel
theorem dX6_setCapacity_52 : decode cX6_setCapacity 52 = .ok (.getfield 118, 3) := by decide +kernel
theorem dX6_setCapacity_55 : decode cX6_setCapacity 55 = .ok (.iload_n 1, 1) := by decide +kernel
theorem dX6_setCapacity_56 : decode cX6_setCapacity 56 = .ok (.iload_n 2, 1) := by decide +kernel
theorem dX6_setCapacity_57 : decode cX6_setCapacity 57 = .ok (.invokevirtual 127, 3) := by decide +kernel
theorem dX6_setCapacity_60 : decode cX6_setCapacity 60 = .ok (.iload_n 3, 1) := by decide +kernel
theorem dX6_setCapacity_61 : decode cX6_setCapacity 61 = .ok (.ireturn, 1) := by decide +kernel
theorem dX6_node_0 : decode cX6_node 0 = .ok (.aload_n 0, 1) := by decide +kernel
theorem dX6_node_1 : decode cX6_node 1 = .ok (.iload_n 1, 1) := by decide +kernel
theorem dX6_node_2 : decode cX6_node 2 = .ok (.invokevirtual 69, 3) := by decide +kernel
theorem dX6_node_5 : decode cX6_node 5 = .ok (.iload_n 2, 1) := by decide +kernel
theorem dX6_node_6 : decode cX6_node 6 = .ok (.tableswitch 99 0 4 #[34, 46, 55, 67, 79], 34) := by decide +kernel
theorem dX6_node_40 : decode cX6_node 40 = .ok (.aload_n 0, 1) := by decide +kernel
theorem dX6_node_41 : decode cX6_node 41 = .ok (.getfield 10, 3) := by decide +kernel
theorem dX6_node_44 : decode cX6_node 44 = .ok (.getfield 130, 3) := by decide +kernel
theorem dX6_node_47 : decode cX6_node 47 = .ok (.iload_n 1, 1) := by decide +kernel
theorem dX6_node_48 : decode cX6_node 48 = .ok (.invokevirtual 122, 3) := by decide +kernel
theorem dX6_node_51 : decode cX6_node 51 = .ok (.ireturn, 1) := by decide +kernel
theorem dX6_node_52 : decode cX6_node 52 = .ok (.aload_n 0, 1) := by decide +kernel
theorem dX6_node_53 : decode cX6_node 53 = .ok (.getfield 10, 3) := by decide +kernel
theorem dX6_node_56 : decode cX6_node 56 = .ok (.iload_n 1, 1) := by decide +kernel
theorem dX6_node_57 : decode cX6_node 57 = .ok (.invokevirtual 133, 3) := by decide +kernel
theorem dX6_node_60 : decode cX6_node 60 = .ok (.ireturn, 1) := by decide +kernel
theorem dX6_node_61 : decode cX6_node 61 = .ok (.aload_n 0, 1) := by decide +kernel
theorem dX6_node_62 : decode cX6_node 62 = .ok (.getfield 10, 3) := by decide +kernel
theorem dX6_node_65 : decode cX6_node 65 = .ok (.getfield 118, 3) := by decide +kernel
theorem dX6_node_68 : decode cX6_node 68 = .ok (.iload_n 1, 1) := by decide +kernel
theorem dX6_node_69 : decode cX6_node 69 = .ok (.invokevirtual 122, 3) := by decide +kernel
theorem dX6_node_72 : decode cX6_node 72 = .ok (.ireturn, 1) := by decide +kernel
theorem dX6_node_73 : decode cX6_node 73 = .ok (.aload_n 0, 1) := by decide +kernel
theorem dX6_node_74 : decode cX6_node 74 = .ok (.getfield 10, 3) := by decide +kernel
theorem dX6_node_77 : decode cX6_node 77 = .ok (.iload_n 1, 1) := by decide +kernel
theorem dX6_node_78 : decode cX6_node 78 = .ok (.invokevirtual 136, 3) := by decide +kernel
theorem dX6_node_81 : decode cX6_node 81 = .ok (.invokestatic 139, 3) := by decide +kernel
theorem dX6_node_84 : decode cX6_node 84 = .ok (.ireturn, 1) := by decide +kernel
theorem dX6_node_85 : decode cX6_node 85 = .ok (.aload_n 0, 1) := by decide +kernel
theorem dX6_node_86 : decode cX6_node 86 = .ok (.getfield 22, 3) := by decide +kernel
theorem dX6_node_89 : decode cX6_node 89 = .ok (.aload_n 0, 1) := by decide +kernel
theorem dX6_node_90 : decode cX6_node 90 = .ok (.getfield 10, 3) := by decide +kernel
theorem dX6_node_93 : decode cX6_node 93 = .ok (.iload_n 1, 1) := by decide +kernel
theorem dX6_node_94 : decode cX6_node 94 = .ok (.invokevirtual 99, 3) := by decide +kernel
theorem dX6_node_97 : decode cX6_node 97 = .ok (.aload_n 0, 1) := by decide +kernel
theorem dX6_node_98 : decode cX6_node 98 = .ok (.getfield 22, 3) := by decide +kernel
theorem dX6_node_101 : decode cX6_node 101 = .ok (.getfield 144, 3) := by decide +kernel
theorem dX6_node_104 : decode cX6_node 104 = .ok (.ireturn, 1) := by decide +kernel
theorem dX6_node_105 : decode cX6_node 105 = .ok (.new 47, 3) := by decide +kernel
theorem dX6_node_108 : decode cX6_node 108 = .ok (.dup, 1) := by decide +kernel
theorem dX6_node_109 : decode cX6_node 109 = .ok (.ldc 147, 2) := by decide +kernel
theorem dX6_node_111 : decode cX6_node 111 = .ok (.invokespecial 51, 3) := by decide +kernel
theorem dX6_node_114 : decode cX6_node 114 = .ok (.athrow, 1) := by decide +kernel
theorem dX6_edge_0 : decode cX6_edge 0 = .ok (.aload_n 0, 1) := by decide +kernel
theorem dX6_edge_1 : decode cX6_edge 1 = .ok (.iload_n 1, 1) := by decide +kernel
theorem dX6_edge_2 : decode cX6_edge 2 = .ok (.invokevirtual 89, 3) := by decide +kernel
theorem dX6_edge_5 : decode cX6_edge 5 = .ok (.istore_n 3, 1) := by decide +kernel
theorem dX6_edge_6 : decode cX6_edge 6 = .ok (.iload_n 2, 1) := by decide +kernel
theorem dX6_edge_7 : decode cX6_edge 7 = .ok (.tableswitch 77 0 3 #[29, 41, 53, 65], 29) := by decide +kernel
theorem dX6_edge_36 : decode cX6_edge 36 = .ok (.aload_n 0, 1) := by decide +kernel
theorem dX6_edge_37 : decode cX6_edge 37 = .ok (.getfield 10, 3) := by decide +kernel
theorem dX6_edge_40 : decode cX6_edge 40 = .ok (.getfield 149, 3) := by decide +kernel
theorem dX6_edge_43 : decode cX6_edge 43 = .ok (.iload_n 3, 1) := by decide +kernel
theorem dX6_edge_44 : decode cX6_edge 44 = .ok (.invokevirtual 122, 3) := by decide +kernel
theorem dX6_edge_47 : decode cX6_edge 47 = .ok (.ireturn, 1) := by decide +kernel
theorem dX6_edge_48 : decode cX6_edge 48 = .ok (.aload_n 0, 1) := by decide +kernel
theorem dX6_edge_49 : decode cX6_edge 49 = .ok (.getfield 10, 3) := by decide +kernel
theorem dX6_edge_52 : decode cX6_edge 52 = .ok (.getfield 152, 3) := by decide +kernel
theorem dX6_edge_55 : decode cX6_edge 55 = .ok (.iload_n 3, 1) := by decide +kernel
theorem dX6_edge_56 : decode cX6_edge 56 = .ok (.invokevirtual 122, 3) := by decide +kernel
theorem dX6_edge_59 : decode cX6_edge 59 = .ok (.ireturn, 1) := by decide +kernel
theorem dX6_edge_60 : decode cX6_edge 60 = .ok (.aload_n 0, 1) := by decide +kernel
theorem dX6_edge_61 : decode cX6_edge 61 = .ok (.getfield 10, 3) := by decide +kernel
theorem dX6_edge_64 : decode cX6_edge 64 = .ok (.getfield 155, 3) := by decide +kernel
theorem dX6_edge_67 : decode cX6_edge 67 = .ok (.iload_n 3, 1) := by decide +kernel
theorem dX6_edge_68 : decode cX6_edge 68 = .ok (.invokevirtual 122, 3) := by decide +kernel
theorem dX6_edge_71 : decode cX6_edge 71 = .ok (.ireturn, 1) := by decide +kernel
theorem dX6_edge_72 : decode cX6_edge 72 = .ok (.aload_n 0, 1) := by decide +kernel
theorem dX6_edge_73 : decode cX6_edge 73 = .ok (.getfield 10, 3) := by decide +kernel
theorem dX6_edge_76 : decode cX6_edge 76 = .ok (.getfield 158, 3) := by decide +kernel
theorem dX6_edge_79 : decode cX6_edge 79 = .ok (.iload_n 3, 1) := by decide +kernel
theorem dX6_edge_80 : decode cX6_edge 80 = .ok (.invokevirtual 122, 3) := by decide +kernel
theorem dX6_edge_83 : decode cX6_edge 83 = .ok (.ireturn, 1) := by decide +kernel
theorem dX6_edge_84 : decode cX6_edge 84 = .ok (.new 47, 3) := by decide +kernel
theorem dX6_edge_87 : decode cX6_edge 87 = .ok (.dup, 1) := by decide +kernel
theorem dX6_edge_88 : decode cX6_edge 88 = .ok (.ldc 147, 2) := by decide +kernel
theorem dX6_edge_90 : decode cX6_edge 90 = .ok (.invokespecial 51, 3) := by decide +kernel
theorem dX6_edge_93 : decode cX6_edge 93 = .ok (.athrow, 1) := by decide +kernel
theorem dX6_edgeAt_0 : decode cX6_edgeAt 0 = .ok (.iload_n 1, 1) := by decide +kernel
theorem dX6_edgeAt_1 : decode cX6_edgeAt 1 = .ok (.ifCond .lt 14, 3) := by decide +kernel
theorem dX6_edgeAt_4 : decode cX6_edgeAt 4 = .ok (.iload_n 1, 1) := by decide +kernel
theorem dX6_edgeAt_5 : decode cX6_edgeAt 5 = .ok (.aload_n 0, 1) := by decide +kernel
theorem dX6_edgeAt_6 : decode cX6_edgeAt 6 = .ok (.getfield 10, 3) := by decide +kernel
theorem dX6_edgeAt_9 : decode cX6_edgeAt 9 = .ok (.getfield 54, 3) := by decide +kernel
theorem dX6_edgeAt_12 : decode cX6_edgeAt 12 = .ok (.if_icmp .lt 13, 3) := by decide +kernel
theorem dX6_edgeAt_15 : decode cX6_edgeAt 15 = .ok (.new 161, 3) := by decide +kernel
theorem dX6_edgeAt_18 : decode cX6_edgeAt 18 = .ok (.dup, 1) := by decide +kernel
theorem dX6_edgeAt_19 : decode cX6_edgeAt 19 = .ok (.ldc 163, 2) := by decide +kernel
theorem dX6_edgeAt_21 : decode cX6_edgeAt 21 = .ok (.invokespecial 165, 3) := by decide +kernel
theorem dX6_edgeAt_24 : decode cX6_edgeAt 24 = .ok (.athrow, 1) := by decide +kernel
theorem dX6_edgeAt_25 : decode cX6_edgeAt 25 = .ok (.aload_n 0, 1) := by decide +kernel
theorem dX6_edgeAt_26 : decode cX6_edgeAt 26 = .ok (.getfield 10, 3) := by decide +kernel
theorem dX6_edgeAt_29 : decode cX6_edgeAt 29 = .ok (.getfield 166, 3) := by decide +kernel
theorem dX6_edgeAt_32 : decode cX6_edgeAt 32 = .ok (.iload_n 1, 1) := by decide +kernel
theorem dX6_edgeAt_33 : decode cX6_edgeAt 33 = .ok (.invokevirtual 122, 3) := by decide +kernel
theorem dX6_edgeAt_36 : decode cX6_edgeAt 36 = .ok (.ireturn, 1) := by decide +kernel
theorem dX6_value_0 : decode cX6_value 0 = .ok (.iload_n 1, 1) := by decide +kernel
theorem dX6_value_1 : decode cX6_value 1 = .ok (.tableswitch 111 0 7 #[47, 55, 63, 71, 79, 87, 95, 103], 47) := by decide +kernel
theorem dX6_value_48 : decode cX6_value 48 = .ok (.aload_n 0, 1) := by decide +kernel
theorem dX6_value_49 : decode cX6_value 49 = .ok (.getfield 10, 3) := by decide +kernel
theorem dX6_value_52 : decode cX6_value 52 = .ok (.getfield 169, 3) := by decide +kernel
theorem dX6_value_55 : decode cX6_value 55 = .ok (.ireturn, 1) := by decide +kernel
theorem dX6_value_56 : decode cX6_value 56 = .ok (.aload_n 0, 1) := by decide +kernel
theorem dX6_value_57 : decode cX6_value 57 = .ok (.getfield 10, 3) := by decide +kernel
theorem dX6_value_60 : decode cX6_value 60 = .ok (.getfield 54, 3) := by decide +kernel
theorem dX6_value_63 : decode cX6_value 63 = .ok (.ireturn, 1) := by decide +kernel
theorem dX6_value_64 : decode cX6_value 64 = .ok (.aload_n 0, 1) := by decide +kernel
theorem dX6_value_65 : decode cX6_value 65 = .ok (.getfield 10, 3) := by decide +kernel
theorem dX6_value_68 : decode cX6_value 68 = .ok (.invokevirtual 172, 3) := by decide +kernel
theorem dX6_value_71 : decode cX6_value 71 = .ok (.ireturn, 1) := by decide +kernel
theorem dX6_value_72 : decode cX6_value 72 = .ok (.aload_n 0, 1) := by decide +kernel
theorem dX6_value_73 : decode cX6_value 73 = .ok (.getfield 10, 3) := by decide +kernel
theorem dX6_value_76 : decode cX6_value 76 = .ok (.invokevirtual 176, 3) := by decide +kernel
theorem dX6_value_79 : decode cX6_value 79 = .ok (.ireturn, 1) := by decide +kernel
theorem dX6_value_80 : decode cX6_value 80 = .ok (.aload_n 0, 1) := by decide +kernel
theorem dX6_value_81 : decode cX6_value 81 = .ok (.getfield 10, 3) := by decide +kernel
theorem dX6_value_84 : decode cX6_value 84 = .ok (.invokevirtual 179, 3) := by decide +kernel
theorem dX6_value_87 : decode cX6_value 87 = .ok (.ireturn, 1) := by decide +kernel
theorem dX6_value_88 : decode cX6_value 88 = .ok (.aload_n 0, 1) := by decide +kernel
theorem dX6_value_89 : decode cX6_value 89 = .ok (.getfield 10, 3) := by decide +kernel
theorem dX6_value_92 : decode cX6_value 92 = .ok (.getfield 182, 3) := by decide +kernel
theorem dX6_value_95 : decode cX6_value 95 = .ok (.ireturn, 1) := by decide +kernel
theorem dX6_value_96 : decode cX6_value 96 = .ok (.aload_n 0, 1) := by decide +kernel
theorem dX6_value_97 : decode cX6_value 97 = .ok (.getfield 10, 3) := by decide +kernel
theorem dX6_value_100 : decode cX6_value 100 = .ok (.getfield 185, 3) := by decide +kernel
theorem dX6_value_103 : decode cX6_value 103 = .ok (.ireturn, 1) := by decide +kernel
theorem dX6_value_104 : decode cX6_value 104 = .ok (.aload_n 0, 1) := by decide +kernel
theorem dX6_value_105 : decode cX6_value 105 = .ok (.getfield 10, 3) := by decide +kernel
theorem dX6_value_108 : decode cX6_value 108 = .ok (.invokevirtual 188, 3) := by decide +kernel
theorem dX6_value_111 : decode cX6_value 111 = .ok (.ireturn, 1) := by decide +kernel
theorem dX6_value_112 : decode cX6_value 112 = .ok (.new 47, 3) := by decide +kernel
theorem dX6_value_115 : decode cX6_value 115 = .ok (.dup, 1) := by decide +kernel
theorem dX6_value_116 : decode cX6_value 116 = .ok (.ldc 147, 2) := by decide +kernel
theorem dX6_value_118 : decode cX6_value 118 = .ok (.invokespecial 51, 3) := by decide +kernel
theorem dX6_value_121 : decode cX6_value 121 = .ok (.athrow, 1) := by decide +kernel
theorem dX6_path_0 : decode cX6_path 0 = .ok (.aload_n 0, 1) := by decide +kernel
theorem dX6_path_1 : decode cX6_path 1 = .ok (.iload_n 1, 1) := by decide +kernel
theorem dX6_path_2 : decode cX6_path 2 = .ok (.invokevirtual 69, 3) := by decide +kernel
theorem dX6_path_5 : decode cX6_path 5 = .ok (.aload_n 0, 1) := by decide +kernel
theorem dX6_path_6 : decode cX6_path 6 = .ok (.iload_n 2, 1) := by decide +kernel
theorem dX6_path_7 : decode cX6_path 7 = .ok (.invokevirtual 69, 3) := by decide +kernel
theorem dX6_path_10 : decode cX6_path 10 = .ok (.aload_n 0, 1) := by decide +kernel
theorem dX6_path_11 : decode cX6_path 11 = .ok (.getfield 22, 3) := by decide +kernel
theorem dX6_path_14 : decode cX6_path 14 = .ok (.aload_n 0, 1) := by decide +kernel
theorem dX6_path_15 : decode cX6_path 15 = .ok (.getfield 10, 3) := by decide +kernel
theorem dX6_path_18 : decode cX6_path 18 = .ok (.iload_n 1, 1) := by decide +kernel
theorem dX6_path_19 : decode cX6_path 19 = .ok (.invokevirtual 99, 3) := by decide +kernel
theorem dX6_path_22 : decode cX6_path 22 = .ok (.aload_n 0, 1) := by decide +kernel
theorem dX6_path_23 : decode cX6_path 23 = .ok (.getfield 22, 3) := by decide +kernel
theorem dX6_path_26 : decode cX6_path 26 = .ok (.iload_n 2, 1) := by decide +kernel
theorem dX6_path_27 : decode cX6_path 27 = .ok (.invokevirtual 191, 3) := by decide +kernel
theorem dX6_path_30 : decode cX6_path 30 = .ok (.ireturn, 1) := by decide +kernel
theorem dX6_step_0 : decode cX6_step 0 = .ok (.aload_n 0, 1) := by decide +kernel
theorem dX6_step_1 : decode cX6_step 1 = .ok (.iload_n 1, 1) := by decide +kernel
theorem dX6_step_2 : decode cX6_step 2 = .ok (.invokevirtual 69, 3) := by decide +kernel
theorem dX6_step_5 : decode cX6_step 5 = .ok (.aload_n 0, 1) := by decide +kernel
theorem dX6_step_6 : decode cX6_step 6 = .ok (.iload_n 2, 1) := by decide +kernel
theorem dX6_step_7 : decode cX6_step 7 = .ok (.invokevirtual 69, 3) := by decide +kernel
theorem dX6_step_10 : decode cX6_step 10 = .ok (.aload_n 0, 1) := by decide +kernel
theorem dX6_step_11 : decode cX6_step 11 = .ok (.getfield 22, 3) := by decide +kernel
theorem dX6_step_14 : decode cX6_step 14 = .ok (.aload_n 0, 1) := by decide +kernel
theorem dX6_step_15 : decode cX6_step 15 = .ok (.getfield 10, 3) := by decide +kernel
theorem dX6_step_18 : decode cX6_step 18 = .ok (.iload_n 1, 1) := by decide +kernel
theorem dX6_step_19 : decode cX6_step 19 = .ok (.invokevirtual 99, 3) := by decide +kernel
theorem dX6_step_22 : decode cX6_step 22 = .ok (.aload_n 0, 1) := by decide +kernel
theorem dX6_step_23 : decode cX6_step 23 = .ok (.getfield 22, 3) := by decide +kernel
theorem dX6_step_26 : decode cX6_step 26 = .ok (.iload_n 2, 1) := by decide +kernel
theorem dX6_step_27 : decode cX6_step 27 = .ok (.iload_n 3, 1) := by decide +kernel
theorem dX6_step_28 : decode cX6_step 28 = .ok (.invokevirtual 194, 3) := by decide +kernel
theorem dX6_step_31 : decode cX6_step 31 = .ok (.istore 4, 2) := by decide +kernel
theorem dX6_step_33 : decode cX6_step 33 = .ok (.iload 4, 2) := by decide +kernel
theorem dX6_step_35 : decode cX6_step 35 = .ok (.iconst (-1), 1) := by decide +kernel
theorem dX6_step_36 : decode cX6_step 36 = .ok (.if_icmp .ne 13, 3) := by decide +kernel
theorem dX6_step_39 : decode cX6_step 39 = .ok (.new 161, 3) := by decide +kernel
theorem dX6_step_42 : decode cX6_step 42 = .ok (.dup, 1) := by decide +kernel
theorem dX6_step_43 : decode cX6_step 43 = .ok (.ldc 197, 2) := by decide +kernel
theorem dX6_step_45 : decode cX6_step 45 = .ok (.invokespecial 165, 3) := by decide +kernel
theorem dX6_step_48 : decode cX6_step 48 = .ok (.athrow, 1) := by decide +kernel
theorem dX6_step_49 : decode cX6_step 49 = .ok (.aload_n 0, 1) := by decide +kernel
theorem dX6_step_50 : decode cX6_step 50 = .ok (.getfield 10, 3) := by decide +kernel
theorem dX6_step_53 : decode cX6_step 53 = .ok (.getfield 166, 3) := by decide +kernel
theorem dX6_step_56 : decode cX6_step 56 = .ok (.iload 4, 2) := by decide +kernel
theorem dX6_step_58 : decode cX6_step 58 = .ok (.invokevirtual 122, 3) := by decide +kernel
theorem dX6_step_61 : decode cX6_step 61 = .ok (.ireturn, 1) := by decide +kernel
theorem dX6_inner_0 : decode cX6_inner 0 = .ok (.iload_n 1, 1) := by decide +kernel
theorem dX6_inner_1 : decode cX6_inner 1 = .ok (.ifCond .le 16, 3) := by decide +kernel
theorem dX6_inner_4 : decode cX6_inner 4 = .ok (.iload_n 1, 1) := by decide +kernel
theorem dX6_inner_5 : decode cX6_inner 5 = .ok (.iconst 1, 1) := by decide +kernel
theorem dX6_inner_6 : decode cX6_inner 6 = .ok (.aload_n 0, 1) := by decide +kernel
theorem dX6_inner_7 : decode cX6_inner 7 = .ok (.getfield 10, 3) := by decide +kernel
theorem dX6_inner_10 : decode cX6_inner 10 = .ok (.getfield 169, 3) := by decide +kernel
theorem dX6_inner_13 : decode cX6_inner 13 = .ok (.ishl, 1) := by decide +kernel
theorem dX6_inner_14 : decode cX6_inner 14 = .ok (.if_icmp .lt 13, 3) := by decide +kernel
theorem dX6_inner_17 : decode cX6_inner 17 = .ok (.new 47, 3) := by decide +kernel
theorem dX6_inner_20 : decode cX6_inner 20 = .ok (.dup, 1) := by decide +kernel
theorem dX6_inner_21 : decode cX6_inner 21 = .ok (.ldc 199, 2) := by decide +kernel
theorem dX6_inner_23 : decode cX6_inner 23 = .ok (.invokespecial 51, 3) := by decide +kernel
theorem dX6_inner_26 : decode cX6_inner 26 = .ok (.athrow, 1) := by decide +kernel
theorem dX6_inner_27 : decode cX6_inner 27 = .ok (.aload_n 0, 1) := by decide +kernel
theorem dX6_inner_28 : decode cX6_inner 28 = .ok (.getfield 10, 3) := by decide +kernel
theorem dX6_inner_31 : decode cX6_inner 31 = .ok (.iload_n 1, 1) := by decide +kernel
theorem dX6_inner_32 : decode cX6_inner 32 = .ok (.invokevirtual 201, 3) := by decide +kernel
theorem dX6_inner_35 : decode cX6_inner 35 = .ok (.ireturn, 1) := by decide +kernel
theorem dX6_densest_0 : decode cX6_densest 0 = .ok (.aload_n 0, 1) := by decide +kernel
theorem dX6_densest_1 : decode cX6_densest 1 = .ok (.getfield 29, 3) := by decide +kernel
theorem dX6_densest_4 : decode cX6_densest 4 = .ok (.aload_n 0, 1) := by decide +kernel
theorem dX6_densest_5 : decode cX6_densest 5 = .ok (.getfield 10, 3) := by decide +kernel
theorem dX6_densest_8 : decode cX6_densest 8 = .ok (.invokevirtual 204, 3) := by decide +kernel
theorem dX6_densest_11 : decode cX6_densest 11 = .ok (.aload_n 0, 1) := by decide +kernel
theorem dX6_densest_12 : decode cX6_densest 12 = .ok (.getfield 29, 3) := by decide +kernel
theorem dX6_densest_15 : decode cX6_densest 15 = .ok (.getfield 207, 3) := by decide +kernel
theorem dX6_densest_18 : decode cX6_densest 18 = .ok (.ireturn, 1) := by decide +kernel
theorem dX6_least_0 : decode cX6_least 0 = .ok (.aload_n 0, 1) := by decide +kernel
theorem dX6_least_1 : decode cX6_least 1 = .ok (.getfield 29, 3) := by decide +kernel
theorem dX6_least_4 : decode cX6_least 4 = .ok (.aload_n 0, 1) := by decide +kernel
theorem dX6_least_5 : decode cX6_least 5 = .ok (.getfield 10, 3) := by decide +kernel
theorem dX6_least_8 : decode cX6_least 8 = .ok (.invokevirtual 204, 3) := by decide +kernel
theorem dX6_least_11 : decode cX6_least 11 = .ok (.aload_n 0, 1) := by decide +kernel
theorem dX6_least_12 : decode cX6_least 12 = .ok (.getfield 29, 3) := by decide +kernel
theorem dX6_least_15 : decode cX6_least 15 = .ok (.getfield 210, 3) := by decide +kernel
theorem dX6_least_18 : decode cX6_least 18 = .ok (.ireturn, 1) := by decide +kernel
theorem dX6_tooDense_0 : decode cX6_tooDense 0 = .ok (.aload_n 0, 1) := by decide +kernel
theorem dX6_tooDense_1 : decode cX6_tooDense 1 = .ok (.getfield 29, 3) := by decide +kernel
theorem dX6_tooDense_4 : decode cX6_tooDense 4 = .ok (.aload_n 0, 1) := by decide +kernel
theorem dX6_tooDense_5 : decode cX6_tooDense 5 = .ok (.getfield 10, 3) := by decide +kernel
theorem dX6_tooDense_8 : decode cX6_tooDense 8 = .ok (.invokevirtual 204, 3) := by decide +kernel
theorem dX6_tooDense_11 : decode cX6_tooDense 11 = .ok (.aload_n 0, 1) := by decide +kernel
theorem dX6_tooDense_12 : decode cX6_tooDense 12 = .ok (.getfield 29, 3) := by decide +kernel
theorem dX6_tooDense_15 : decode cX6_tooDense 15 = .ok (.aload_n 0, 1) := by decide +kernel
theorem dX6_tooDense_16 : decode cX6_tooDense 16 = .ok (.getfield 10, 3) := by decide +kernel
theorem dX6_tooDense_19 : decode cX6_tooDense 19 = .ok (.getfield 118, 3) := by decide +kernel
theorem dX6_tooDense_22 : decode cX6_tooDense 22 = .ok (.aload_n 0, 1) := by decide +kernel
theorem dX6_tooDense_23 : decode cX6_tooDense 23 = .ok (.getfield 10, 3) := by decide +kernel
theorem dX6_tooDense_26 : decode cX6_tooDense 26 = .ok (.getfield 169, 3) := by decide +kernel
theorem dX6_tooDense_29 : decode cX6_tooDense 29 = .ok (.invokevirtual 212, 3) := by decide +kernel
theorem dX6_tooDense_32 : decode cX6_tooDense 32 = .ok (.ireturn, 1) := by decide +kernel
theorem dX6_leastWith_0 : decode cX6_leastWith 0 = .ok (.aload_n 0, 1) := by decide +kernel
theorem dX6_leastWith_1 : decode cX6_leastWith 1 = .ok (.iload_n 1, 1) := by decide +kernel
theorem dX6_leastWith_2 : decode cX6_leastWith 2 = .ok (.invokevirtual 69, 3) := by decide +kernel
theorem dX6_leastWith_5 : decode cX6_leastWith 5 = .ok (.aload_n 0, 1) := by decide +kernel
theorem dX6_leastWith_6 : decode cX6_leastWith 6 = .ok (.iload_n 2, 1) := by decide +kernel
theorem dX6_leastWith_7 : decode cX6_leastWith 7 = .ok (.invokevirtual 69, 3) := by decide +kernel
theorem dX6_leastWith_10 : decode cX6_leastWith 10 = .ok (.iload_n 1, 1) := by decide +kernel
theorem dX6_leastWith_11 : decode cX6_leastWith 11 = .ok (.iload_n 2, 1) := by decide +kernel
theorem dX6_leastWith_12 : decode cX6_leastWith 12 = .ok (.invokestatic 72, 3) := by decide +kernel
theorem dX6_leastWith_15 : decode cX6_leastWith 15 = .ok (.aload_n 0, 1) := by decide +kernel
theorem dX6_leastWith_16 : decode cX6_leastWith 16 = .ok (.getfield 29, 3) := by decide +kernel
theorem dX6_leastWith_19 : decode cX6_leastWith 19 = .ok (.aload_n 0, 1) := by decide +kernel
theorem dX6_leastWith_20 : decode cX6_leastWith 20 = .ok (.getfield 10, 3) := by decide +kernel
theorem dX6_leastWith_23 : decode cX6_leastWith 23 = .ok (.invokevirtual 204, 3) := by decide +kernel
theorem dX6_leastWith_26 : decode cX6_leastWith 26 = .ok (.aload_n 0, 1) := by decide +kernel
theorem dX6_leastWith_27 : decode cX6_leastWith 27 = .ok (.getfield 29, 3) := by decide +kernel
theorem dX6_leastWith_30 : decode cX6_leastWith 30 = .ok (.iconst 1, 1) := by decide +kernel
theorem dX6_leastWith_31 : decode cX6_leastWith 31 = .ok (.iload_n 1, 1) := by decide +kernel
theorem dX6_leastWith_32 : decode cX6_leastWith 32 = .ok (.ishl, 1) := by decide +kernel
theorem dX6_leastWith_33 : decode cX6_leastWith 33 = .ok (.iconst 1, 1) := by decide +kernel
theorem dX6_leastWith_34 : decode cX6_leastWith 34 = .ok (.iload_n 2, 1) := by decide +kernel
theorem dX6_leastWith_35 : decode cX6_leastWith 35 = .ok (.ishl, 1) := by decide +kernel
theorem dX6_leastWith_36 : decode cX6_leastWith 36 = .ok (.ior, 1) := by decide +kernel
theorem dX6_leastWith_37 : decode cX6_leastWith 37 = .ok (.iconst 1, 1) := by decide +kernel
theorem dX6_leastWith_38 : decode cX6_leastWith 38 = .ok (.invokevirtual 216, 3) := by decide +kernel
theorem dX6_leastWith_41 : decode cX6_leastWith 41 = .ok (.ireturn, 1) := by decide +kernel
theorem dX6_leastWithout_0 : decode cX6_leastWithout 0 = .ok (.aload_n 0, 1) := by decide +kernel
theorem dX6_leastWithout_1 : decode cX6_leastWithout 1 = .ok (.iload_n 1, 1) := by decide +kernel
theorem dX6_leastWithout_2 : decode cX6_leastWithout 2 = .ok (.invokevirtual 89, 3) := by decide +kernel
theorem dX6_leastWithout_5 : decode cX6_leastWithout 5 = .ok (.istore_n 2, 1) := by decide +kernel
theorem dX6_leastWithout_6 : decode cX6_leastWithout 6 = .ok (.aload_n 0, 1) := by decide +kernel
theorem dX6_leastWithout_7 : decode cX6_leastWithout 7 = .ok (.getfield 29, 3) := by decide +kernel
theorem dX6_leastWithout_10 : decode cX6_leastWithout 10 = .ok (.aload_n 0, 1) := by decide +kernel
theorem dX6_leastWithout_11 : decode cX6_leastWithout 11 = .ok (.getfield 10, 3) := by decide +kernel
theorem dX6_leastWithout_14 : decode cX6_leastWithout 14 = .ok (.invokevirtual 204, 3) := by decide +kernel
theorem dX6_leastWithout_17 : decode cX6_leastWithout 17 = .ok (.aload_n 0, 1) := by decide +kernel
theorem dX6_leastWithout_18 : decode cX6_leastWithout 18 = .ok (.getfield 29, 3) := by decide +kernel
theorem dX6_leastWithout_21 : decode cX6_leastWithout 21 = .ok (.aload_n 0, 1) := by decide +kernel
theorem dX6_leastWithout_22 : decode cX6_leastWithout 22 = .ok (.getfield 10, 3) := by decide +kernel
theorem dX6_leastWithout_25 : decode cX6_leastWithout 25 = .ok (.iload_n 2, 1) := by decide +kernel
theorem dX6_leastWithout_26 : decode cX6_leastWithout 26 = .ok (.invokevirtual 219, 3) := by decide +kernel
theorem dX6_leastWithout_29 : decode cX6_leastWithout 29 = .ok (.iconst (-1), 1) := by decide +kernel
theorem dX6_leastWithout_30 : decode cX6_leastWithout 30 = .ok (.invokevirtual 216, 3) := by decide +kernel
theorem dX6_leastWithout_33 : decode cX6_leastWithout 33 = .ok (.ireturn, 1) := by decide +kernel
theorem dX6_critical_0 : decode cX6_critical 0 = .ok (.aload_n 0, 1) := by decide +kernel
theorem dX6_critical_1 : decode cX6_critical 1 = .ok (.getfield 29, 3) := by decide +kernel
theorem dX6_critical_4 : decode cX6_critical 4 = .ok (.aload_n 0, 1) := by decide +kernel
theorem dX6_critical_5 : decode cX6_critical 5 = .ok (.getfield 10, 3) := by decide +kernel
theorem dX6_critical_8 : decode cX6_critical 8 = .ok (.invokevirtual 204, 3) := by decide +kernel
theorem dX6_critical_11 : decode cX6_critical 11 = .ok (.aload_n 0, 1) := by decide +kernel
theorem dX6_critical_12 : decode cX6_critical 12 = .ok (.getfield 10, 3) := by decide +kernel
theorem dX6_critical_15 : decode cX6_critical 15 = .ok (.aload_n 0, 1) := by decide +kernel
theorem dX6_critical_16 : decode cX6_critical 16 = .ok (.getfield 29, 3) := by decide +kernel
theorem dX6_critical_19 : decode cX6_critical 19 = .ok (.invokevirtual 222, 3) := by decide +kernel
theorem dX6_critical_22 : decode cX6_critical 22 = .ok (.invokevirtual 225, 3) := by decide +kernel
theorem dX6_critical_25 : decode cX6_critical 25 = .ok (.istore_n 1, 1) := by decide +kernel
theorem dX6_critical_26 : decode cX6_critical 26 = .ok (.iload_n 1, 1) := by decide +kernel
theorem dX6_critical_27 : decode cX6_critical 27 = .ok (.iconst (-1), 1) := by decide +kernel
theorem dX6_critical_28 : decode cX6_critical 28 = .ok (.if_icmp .ne 7, 3) := by decide +kernel
theorem dX6_critical_31 : decode cX6_critical 31 = .ok (.iconst (-1), 1) := by decide +kernel
theorem dX6_critical_32 : decode cX6_critical 32 = .ok (.goto 14, 3) := by decide +kernel
theorem dX6_critical_35 : decode cX6_critical 35 = .ok (.aload_n 0, 1) := by decide +kernel
theorem dX6_critical_36 : decode cX6_critical 36 = .ok (.getfield 10, 3) := by decide +kernel
theorem dX6_critical_39 : decode cX6_critical 39 = .ok (.getfield 166, 3) := by decide +kernel
theorem dX6_critical_42 : decode cX6_critical 42 = .ok (.iload_n 1, 1) := by decide +kernel
theorem dX6_critical_43 : decode cX6_critical 43 = .ok (.invokevirtual 122, 3) := by decide +kernel
theorem dX6_critical_46 : decode cX6_critical 46 = .ok (.ireturn, 1) := by decide +kernel
theorem dX6_turnsToBalance_0 : decode cX6_turnsToBalance 0 = .ok (.aload_n 0, 1) := by decide +kernel
theorem dX6_turnsToBalance_1 : decode cX6_turnsToBalance 1 = .ok (.getfield 16, 3) := by decide +kernel
theorem dX6_turnsToBalance_4 : decode cX6_turnsToBalance 4 = .ok (.aload_n 0, 1) := by decide +kernel
theorem dX6_turnsToBalance_5 : decode cX6_turnsToBalance 5 = .ok (.getfield 10, 3) := by decide +kernel
theorem dX6_turnsToBalance_8 : decode cX6_turnsToBalance 8 = .ok (.invokevirtual 228, 3) := by decide +kernel
theorem dX6_turnsToBalance_11 : decode cX6_turnsToBalance 11 = .ok (.aload_n 0, 1) := by decide +kernel
theorem dX6_turnsToBalance_12 : decode cX6_turnsToBalance 12 = .ok (.getfield 22, 3) := by decide +kernel
theorem dX6_turnsToBalance_15 : decode cX6_turnsToBalance 15 = .ok (.aload_n 0, 1) := by decide +kernel
theorem dX6_turnsToBalance_16 : decode cX6_turnsToBalance 16 = .ok (.getfield 16, 3) := by decide +kernel
theorem dX6_turnsToBalance_19 : decode cX6_turnsToBalance 19 = .ok (.invokevirtual 113, 3) := by decide +kernel
theorem dX6_turnsToBalance_22 : decode cX6_turnsToBalance 22 = .ok (.pop, 1) := by decide +kernel
theorem dX6_turnsToBalance_23 : decode cX6_turnsToBalance 23 = .ok (.aload_n 0, 1) := by decide +kernel
theorem dX6_turnsToBalance_24 : decode cX6_turnsToBalance 24 = .ok (.getfield 16, 3) := by decide +kernel
theorem dX6_turnsToBalance_27 : decode cX6_turnsToBalance 27 = .ok (.getfield 182, 3) := by decide +kernel
theorem dX6_turnsToBalance_30 : decode cX6_turnsToBalance 30 = .ok (.aload_n 0, 1) := by decide +kernel
theorem dX6_turnsToBalance_31 : decode cX6_turnsToBalance 31 = .ok (.getfield 10, 3) := by decide +kernel
theorem dX6_turnsToBalance_34 : decode cX6_turnsToBalance 34 = .ok (.getfield 182, 3) := by decide +kernel
theorem dX6_turnsToBalance_37 : decode cX6_turnsToBalance 37 = .ok (.isub, 1) := by decide +kernel
theorem dX6_turnsToBalance_38 : decode cX6_turnsToBalance 38 = .ok (.ireturn, 1) := by decide +kernel
theorem dX6_leastCapacity_0 : decode cX6_leastCapacity 0 = .ok (.aload_n 0, 1) := by decide +kernel
theorem dX6_leastCapacity_1 : decode cX6_leastCapacity 1 = .ok (.getfield 29, 3) := by decide +kernel
theorem dX6_leastCapacity_4 : decode cX6_leastCapacity 4 = .ok (.aload_n 0, 1) := by decide +kernel
theorem dX6_leastCapacity_5 : decode cX6_leastCapacity 5 = .ok (.getfield 10, 3) := by decide +kernel
theorem dX6_leastCapacity_8 : decode cX6_leastCapacity 8 = .ok (.invokevirtual 204, 3) := by decide +kernel
theorem dX6_leastCapacity_11 : decode cX6_leastCapacity 11 = .ok (.aload_n 0, 1) := by decide +kernel
theorem dX6_leastCapacity_12 : decode cX6_leastCapacity 12 = .ok (.getfield 29, 3) := by decide +kernel
theorem dX6_leastCapacity_15 : decode cX6_leastCapacity 15 = .ok (.getfield 210, 3) := by decide +kernel
theorem dX6_leastCapacity_18 : decode cX6_leastCapacity 18 = .ok (.ireturn, 1) := by decide +kernel
theorem dX6_density_0 : decode cX6_density 0 = .ok (.aload_n 0, 1) := by decide +kernel
theorem dX6_density_1 : decode cX6_density 1 = .ok (.getfield 29, 3) := by decide +kernel
theorem dX6_density_4 : decode cX6_density 4 = .ok (.aload_n 0, 1) := by decide +kernel
theorem dX6_density_5 : decode cX6_density 5 = .ok (.getfield 10, 3) := by decide +kernel
theorem dX6_density_8 : decode cX6_density 8 = .ok (.invokevirtual 204, 3) := by decide +kernel
theorem dX6_density_11 : decode cX6_density 11 = .ok (.aload_n 0, 1) := by decide +kernel
theorem dX6_density_12 : decode cX6_density 12 = .ok (.getfield 29, 3) := by decide +kernel
theorem dX6_density_15 : decode cX6_density 15 = .ok (.getfield 207, 3) := by decide +kernel
theorem dX6_density_18 : decode cX6_density 18 = .ok (.invokestatic 139, 3) := by decide +kernel
theorem dX6_density_21 : decode cX6_density 21 = .ok (.istore_n 1, 1) := by decide +kernel
theorem dX6_density_22 : decode cX6_density 22 = .ok (.iload_n 1, 1) := by decide +kernel
theorem dX6_density_23 : decode cX6_density 23 = .ok (.iconst 1, 1) := by decide +kernel
theorem dX6_density_24 : decode cX6_density 24 = .ok (.if_icmp .ge 5, 3) := by decide +kernel
theorem dX6_density_27 : decode cX6_density 27 = .ok (.dconst 0, 1) := by decide +kernel
theorem dX6_density_28 : decode cX6_density 28 = .ok (.dreturn, 1) := by decide +kernel
theorem dX6_density_29 : decode cX6_density 29 = .ok (.aload_n 0, 1) := by decide +kernel
theorem dX6_density_30 : decode cX6_density 30 = .ok (.getfield 10, 3) := by decide +kernel
theorem dX6_density_33 : decode cX6_density 33 = .ok (.aload_n 0, 1) := by decide +kernel
theorem dX6_density_34 : decode cX6_density 34 = .ok (.getfield 29, 3) := by decide +kernel
theorem dX6_density_37 : decode cX6_density 37 = .ok (.getfield 207, 3) := by decide +kernel
theorem dX6_density_40 : decode cX6_density 40 = .ok (.invokevirtual 201, 3) := by decide +kernel
theorem dX6_density_43 : decode cX6_density 43 = .ok (.i2d, 1) := by decide +kernel
theorem dX6_density_44 : decode cX6_density 44 = .ok (.iload_n 1, 1) := by decide +kernel
theorem dX6_density_45 : decode cX6_density 45 = .ok (.i2d, 1) := by decide +kernel
theorem dX6_density_46 : decode cX6_density 46 = .ok (.ddiv, 1) := by decide +kernel
theorem dX6_density_47 : decode cX6_density 47 = .ok (.dreturn, 1) := by decide +kernel
theorem dX6_append_0 : decode cX6_append 0 = .ok (.iload_n 1, 1) := by decide +kernel
theorem dX6_append_1 : decode cX6_append 1 = .ok (.ifCond .lt 9, 3) := by decide +kernel
theorem dX6_append_4 : decode cX6_append 4 = .ok (.iload_n 1, 1) := by decide +kernel
theorem dX6_append_5 : decode cX6_append 5 = .ok (.bipush 127, 2) := by decide +kernel
theorem dX6_append_7 : decode cX6_append 7 = .ok (.if_icmp .le 13, 3) := by decide +kernel
theorem dX6_append_10 : decode cX6_append 10 = .ok (.new 47, 3) := by decide +kernel
theorem dX6_append_13 : decode cX6_append 13 = .ok (.dup, 1) := by decide +kernel
theorem dX6_append_14 : decode cX6_append 14 = .ok (.ldc 231, 2) := by decide +kernel
theorem dX6_append_16 : decode cX6_append 16 = .ok (.invokespecial 51, 3) := by decide +kernel
theorem dX6_append_19 : decode cX6_append 19 = .ok (.athrow, 1) := by decide +kernel
theorem dX6_append_20 : decode cX6_append 20 = .ok (.aload_n 0, 1) := by decide +kernel
theorem dX6_append_21 : decode cX6_append 21 = .ok (.getfield 36, 3) := by decide +kernel
theorem dX6_append_24 : decode cX6_append 24 = .ok (.getfield 233, 3) := by decide +kernel
theorem dX6_append_27 : decode cX6_append 27 = .ok (.bipush 100, 2) := by decide +kernel
theorem dX6_append_29 : decode cX6_append 29 = .ok (.if_icmp .lt 13, 3) := by decide +kernel
theorem dX6_append_32 : decode cX6_append 32 = .ok (.new 80, 3) := by decide +kernel
theorem dX6_append_35 : decode cX6_append 35 = .ok (.dup, 1) := by decide +kernel
theorem dX6_append_36 : decode cX6_append 36 = .ok (.ldc 236, 2) := by decide +kernel
theorem dX6_append_38 : decode cX6_append 38 = .ok (.invokespecial 84, 3) := by decide +kernel
theorem dX6_append_41 : decode cX6_append 41 = .ok (.athrow, 1) := by decide +kernel
theorem dX6_append_42 : decode cX6_append 42 = .ok (.aload_n 0, 1) := by decide +kernel
theorem dX6_append_43 : decode cX6_append 43 = .ok (.getfield 36, 3) := by decide +kernel
theorem dX6_append_46 : decode cX6_append 46 = .ok (.iload_n 1, 1) := by decide +kernel
theorem dX6_append_47 : decode cX6_append 47 = .ok (.invokevirtual 238, 3) := by decide +kernel
theorem dX6_append_50 : decode cX6_append 50 = .ok (.ireturn, 1) := by decide +kernel
theorem dX6_carryOut_0 : decode cX6_carryOut 0 = .ok (.aload_n 0, 1) := by decide +kernel
theorem dX6_carryOut_1 : decode cX6_carryOut 1 = .ok (.getfield 36, 3) := by decide +kernel
theorem dX6_carryOut_4 : decode cX6_carryOut 4 = .ok (.invokevirtual 244, 3) := by decide +kernel
theorem dX6_carryOut_7 : decode cX6_carryOut 7 = .ok (.istore_n 1, 1) := by decide +kernel
theorem dX6_carryOut_8 : decode cX6_carryOut 8 = .ok (.iload_n 1, 1) := by decide +kernel
theorem dX6_carryOut_9 : decode cX6_carryOut 9 = .ok (.iconst (-1), 1) := by decide +kernel
theorem dX6_carryOut_10 : decode cX6_carryOut 10 = .ok (.if_icmp .eq 8, 3) := by decide +kernel
theorem dX6_carryOut_13 : decode cX6_carryOut 13 = .ok (.bipush (-10), 2) := by decide +kernel
theorem dX6_carryOut_15 : decode cX6_carryOut 15 = .ok (.iload_n 1, 1) := by decide +kernel
theorem dX6_carryOut_16 : decode cX6_carryOut 16 = .ok (.isub, 1) := by decide +kernel
theorem dX6_carryOut_17 : decode cX6_carryOut 17 = .ok (.ireturn, 1) := by decide +kernel
theorem dX6_carryOut_18 : decode cX6_carryOut 18 = .ok (.aload_n 0, 1) := by decide +kernel
theorem dX6_carryOut_19 : decode cX6_carryOut 19 = .ok (.getfield 43, 3) := by decide +kernel
theorem dX6_carryOut_22 : decode cX6_carryOut 22 = .ok (.aload_n 0, 1) := by decide +kernel
theorem dX6_carryOut_23 : decode cX6_carryOut 23 = .ok (.getfield 10, 3) := by decide +kernel
theorem dX6_carryOut_26 : decode cX6_carryOut 26 = .ok (.invokevirtual 58, 3) := by decide +kernel
theorem dX6_carryOut_29 : decode cX6_carryOut 29 = .ok (.aload_n 0, 1) := by decide +kernel
theorem dX6_carryOut_30 : decode cX6_carryOut 30 = .ok (.getfield 29, 3) := by decide +kernel
theorem dX6_carryOut_33 : decode cX6_carryOut 33 = .ok (.invokevirtual 66, 3) := by decide +kernel
theorem dX6_carryOut_36 : decode cX6_carryOut 36 = .ok (.aload_n 0, 1) := by decide +kernel
theorem dX6_carryOut_37 : decode cX6_carryOut 37 = .ok (.getfield 36, 3) := by decide +kernel
theorem dX6_carryOut_40 : decode cX6_carryOut 40 = .ok (.invokevirtual 247, 3) := by decide +kernel
theorem dX6_carryOut_43 : decode cX6_carryOut 43 = .ok (.iconst 0, 1) := by decide +kernel
theorem dX6_carryOut_44 : decode cX6_carryOut 44 = .ok (.istore_n 2, 1) := by decide +kernel
theorem dX6_carryOut_45 : decode cX6_carryOut 45 = .ok (.iload_n 2, 1) := by decide +kernel
theorem dX6_carryOut_46 : decode cX6_carryOut 46 = .ok (.bipush 100, 2) := by decide +kernel
theorem dX6_carryOut_48 : decode cX6_carryOut 48 = .ok (.if_icmp .ge 26, 3) := by decide +kernel
theorem dX6_carryOut_51 : decode cX6_carryOut 51 = .ok (.aload_n 0, 1) := by decide +kernel
theorem dX6_carryOut_52 : decode cX6_carryOut 52 = .ok (.getfield 36, 3) := by decide +kernel
theorem dX6_carryOut_55 : decode cX6_carryOut 55 = .ok (.invokevirtual 250, 3) := by decide +kernel
theorem dX6_carryOut_58 : decode cX6_carryOut 58 = .ok (.ifCond .eq 16, 3) := by decide +kernel
theorem dX6_carryOut_61 : decode cX6_carryOut 61 = .ok (.aload_n 0, 1) := by decide +kernel
theorem dX6_carryOut_62 : decode cX6_carryOut 62 = .ok (.invokevirtual 253, 3) := by decide +kernel
theorem dX6_carryOut_65 : decode cX6_carryOut 65 = .ok (.ifCond .eq 9, 3) := by decide +kernel
theorem dX6_carryOut_68 : decode cX6_carryOut 68 = .ok (.iinc 2 1, 3) := by decide +kernel
theorem dX6_carryOut_71 : decode cX6_carryOut 71 = .ok (.goto (-26), 3) := by decide +kernel
theorem dX6_carryOut_74 : decode cX6_carryOut 74 = .ok (.iload_n 2, 1) := by decide +kernel
theorem dX6_carryOut_75 : decode cX6_carryOut 75 = .ok (.ireturn, 1) := by decide +kernel
theorem dX6_undo_0 : decode cX6_undo 0 = .ok (.aload_n 0, 1) := by decide +kernel
theorem dX6_undo_1 : decode cX6_undo 1 = .ok (.getfield 43, 3) := by decide +kernel
theorem dX6_undo_4 : decode cX6_undo 4 = .ok (.getfield 256, 3) := by decide +kernel
theorem dX6_undo_7 : decode cX6_undo 7 = .ok (.ifCond .ne 14, 3) := by decide +kernel
theorem dX6_undo_10 : decode cX6_undo 10 = .ok (.new 80, 3) := by decide +kernel
theorem dX6_undo_13 : decode cX6_undo 13 = .ok (.dup, 1) := by decide +kernel
theorem dX6_undo_14 : decode cX6_undo 14 = .ok (.ldc_w 259, 3) := by decide +kernel
theorem dX6_undo_17 : decode cX6_undo 17 = .ok (.invokespecial 84, 3) := by decide +kernel
theorem dX6_undo_20 : decode cX6_undo 20 = .ok (.athrow, 1) := by decide +kernel
theorem dX6_undo_21 : decode cX6_undo 21 = .ok (.aload_n 0, 1) := by decide +kernel
theorem dX6_undo_22 : decode cX6_undo 22 = .ok (.getfield 43, 3) := by decide +kernel
theorem dX6_undo_25 : decode cX6_undo 25 = .ok (.aload_n 0, 1) := by decide +kernel
theorem dX6_undo_26 : decode cX6_undo 26 = .ok (.getfield 10, 3) := by decide +kernel
theorem dX6_undo_29 : decode cX6_undo 29 = .ok (.invokevirtual 261, 3) := by decide +kernel
theorem dX6_undo_32 : decode cX6_undo 32 = .ok (.aload_n 0, 1) := by decide +kernel
theorem dX6_undo_33 : decode cX6_undo 33 = .ok (.getfield 29, 3) := by decide +kernel
theorem dX6_undo_36 : decode cX6_undo 36 = .ok (.invokevirtual 66, 3) := by decide +kernel
theorem dX6_undo_39 : decode cX6_undo 39 = .ok (.aload_n 0, 1) := by decide +kernel
theorem dX6_undo_40 : decode cX6_undo 40 = .ok (.getfield 43, 3) := by decide +kernel
theorem dX6_undo_43 : decode cX6_undo 43 = .ok (.getfield 256, 3) := by decide +kernel
theorem dX6_undo_46 : decode cX6_undo 46 = .ok (.ireturn, 1) := by decide +kernel
theorem dX6_checkNode_0 : decode cX6_checkNode 0 = .ok (.aload_n 0, 1) := by decide +kernel
theorem dX6_checkNode_1 : decode cX6_checkNode 1 = .ok (.getfield 10, 3) := by decide +kernel
theorem dX6_checkNode_4 : decode cX6_checkNode 4 = .ok (.iload_n 1, 1) := by decide +kernel
theorem dX6_checkNode_5 : decode cX6_checkNode 5 = .ok (.invokevirtual 290, 3) := by decide +kernel
theorem dX6_checkNode_8 : decode cX6_checkNode 8 = .ok (.ifCond .ne 14, 3) := by decide +kernel
theorem dX6_checkNode_11 : decode cX6_checkNode 11 = .ok (.new 161, 3) := by decide +kernel
theorem dX6_checkNode_14 : decode cX6_checkNode 14 = .ok (.dup, 1) := by decide +kernel
theorem dX6_checkNode_15 : decode cX6_checkNode 15 = .ok (.ldc_w 294, 3) := by decide +kernel
theorem dX6_checkNode_18 : decode cX6_checkNode 18 = .ok (.invokespecial 165, 3) := by decide +kernel
theorem dX6_checkNode_21 : decode cX6_checkNode 21 = .ok (.athrow, 1) := by decide +kernel
theorem dX6_checkNode_22 : decode cX6_checkNode 22 = .ok (.return_, 1) := by decide +kernel
theorem dX6_checkDifferent_0 : decode cX6_checkDifferent 0 = .ok (.iload_n 0, 1) := by decide +kernel
theorem dX6_checkDifferent_1 : decode cX6_checkDifferent 1 = .ok (.iload_n 1, 1) := by decide +kernel
theorem dX6_checkDifferent_2 : decode cX6_checkDifferent 2 = .ok (.if_icmp .ne 14, 3) := by decide +kernel
theorem dX6_checkDifferent_5 : decode cX6_checkDifferent 5 = .ok (.new 47, 3) := by decide +kernel
theorem dX6_checkDifferent_8 : decode cX6_checkDifferent 8 = .ok (.dup, 1) := by decide +kernel
theorem dX6_checkDifferent_9 : decode cX6_checkDifferent 9 = .ok (.ldc_w 296, 3) := by decide +kernel
theorem dX6_checkDifferent_12 : decode cX6_checkDifferent 12 = .ok (.invokespecial 51, 3) := by decide +kernel
theorem dX6_checkDifferent_15 : decode cX6_checkDifferent 15 = .ok (.athrow, 1) := by decide +kernel
theorem dX6_checkDifferent_16 : decode cX6_checkDifferent 16 = .ok (.return_, 1) := by decide +kernel
theorem dX6_checkedSlot_0 : decode cX6_checkedSlot 0 = .ok (.aload_n 0, 1) := by decide +kernel
theorem dX6_checkedSlot_1 : decode cX6_checkedSlot 1 = .ok (.getfield 10, 3) := by decide +kernel
theorem dX6_checkedSlot_4 : decode cX6_checkedSlot 4 = .ok (.iload_n 1, 1) := by decide +kernel
theorem dX6_checkedSlot_5 : decode cX6_checkedSlot 5 = .ok (.invokevirtual 298, 3) := by decide +kernel
theorem dX6_checkedSlot_8 : decode cX6_checkedSlot 8 = .ok (.istore_n 2, 1) := by decide +kernel
theorem dX6_checkedSlot_9 : decode cX6_checkedSlot 9 = .ok (.iload_n 2, 1) := by decide +kernel
theorem dX6_checkedSlot_10 : decode cX6_checkedSlot 10 = .ok (.iconst (-1), 1) := by decide +kernel
theorem dX6_checkedSlot_11 : decode cX6_checkedSlot 11 = .ok (.if_icmp .ne 14, 3) := by decide +kernel
theorem dX6_checkedSlot_14 : decode cX6_checkedSlot 14 = .ok (.new 301, 3) := by decide +kernel
theorem dX6_checkedSlot_17 : decode cX6_checkedSlot 17 = .ok (.dup, 1) := by decide +kernel
theorem dX6_checkedSlot_18 : decode cX6_checkedSlot 18 = .ok (.ldc_w 303, 3) := by decide +kernel
theorem dX6_checkedSlot_21 : decode cX6_checkedSlot 21 = .ok (.invokespecial 305, 3) := by decide +kernel
theorem dX6_checkedSlot_24 : decode cX6_checkedSlot 24 = .ok (.athrow, 1) := by decide +kernel
theorem dX6_checkedSlot_25 : decode cX6_checkedSlot 25 = .ok (.iload_n 2, 1) := by decide +kernel
theorem dX6_checkedSlot_26 : decode cX6_checkedSlot 26 = .ok (.ireturn, 1) := by decide +kernel
theorem dX6_obeyOrder_0 : decode cX6_obeyOrder 0 = .ok (.aload_n 0, 1) := by decide +kernel
theorem dX6_obeyOrder_1 : decode cX6_obeyOrder 1 = .ok (.getfield 36, 3) := by decide +kernel
theorem dX6_obeyOrder_4 : decode cX6_obeyOrder 4 = .ok (.getfield 306, 3) := by decide +kernel
theorem dX6_obeyOrder_7 : decode cX6_obeyOrder 7 = .ok (.lookupswitch 179 #[(43, 57), (45, 76), (98, 146), (99, 160), (114, 102), (116, 76)], 57) := by decide +kernel
theorem dX6_obeyOrder_64 : decode cX6_obeyOrder 64 = .ok (.aload_n 0, 1) := by decide +kernel
theorem dX6_obeyOrder_65 : decode cX6_obeyOrder 65 = .ok (.aload_n 0, 1) := by decide +kernel
theorem dX6_obeyOrder_66 : decode cX6_obeyOrder 66 = .ok (.getfield 36, 3) := by decide +kernel
theorem dX6_obeyOrder_69 : decode cX6_obeyOrder 69 = .ok (.getfield 309, 3) := by decide +kernel
theorem dX6_obeyOrder_72 : decode cX6_obeyOrder 72 = .ok (.aload_n 0, 1) := by decide +kernel
theorem dX6_obeyOrder_73 : decode cX6_obeyOrder 73 = .ok (.getfield 36, 3) := by decide +kernel
theorem dX6_obeyOrder_76 : decode cX6_obeyOrder 76 = .ok (.getfield 312, 3) := by decide +kernel
theorem dX6_obeyOrder_79 : decode cX6_obeyOrder 79 = .ok (.invokevirtual 315, 3) := by decide +kernel
theorem dX6_obeyOrder_82 : decode cX6_obeyOrder 82 = .ok (.ireturn, 1) := by decide +kernel
theorem dX6_obeyOrder_83 : decode cX6_obeyOrder 83 = .ok (.aload_n 0, 1) := by decide +kernel
theorem dX6_obeyOrder_84 : decode cX6_obeyOrder 84 = .ok (.aload_n 0, 1) := by decide +kernel
theorem dX6_obeyOrder_85 : decode cX6_obeyOrder 85 = .ok (.getfield 36, 3) := by decide +kernel
theorem dX6_obeyOrder_88 : decode cX6_obeyOrder 88 = .ok (.getfield 306, 3) := by decide +kernel
theorem dX6_obeyOrder_91 : decode cX6_obeyOrder 91 = .ok (.aload_n 0, 1) := by decide +kernel
theorem dX6_obeyOrder_92 : decode cX6_obeyOrder 92 = .ok (.getfield 10, 3) := by decide +kernel
theorem dX6_obeyOrder_95 : decode cX6_obeyOrder 95 = .ok (.aload_n 0, 1) := by decide +kernel
theorem dX6_obeyOrder_96 : decode cX6_obeyOrder 96 = .ok (.getfield 36, 3) := by decide +kernel
theorem dX6_obeyOrder_99 : decode cX6_obeyOrder 99 = .ok (.getfield 319, 3) := by decide +kernel
theorem dX6_obeyOrder_102 : decode cX6_obeyOrder 102 = .ok (.invokevirtual 298, 3) := by decide +kernel
theorem dX6_obeyOrder_105 : decode cX6_obeyOrder 105 = .ok (.invokevirtual 322, 3) := by decide +kernel
theorem dX6_obeyOrder_108 : decode cX6_obeyOrder 108 = .ok (.ireturn, 1) := by decide +kernel
theorem dX6_obeyOrder_109 : decode cX6_obeyOrder 109 = .ok (.aload_n 0, 1) := by decide +kernel
theorem dX6_obeyOrder_110 : decode cX6_obeyOrder 110 = .ok (.getfield 10, 3) := by decide +kernel
theorem dX6_obeyOrder_113 : decode cX6_obeyOrder 113 = .ok (.aload_n 0, 1) := by decide +kernel
theorem dX6_obeyOrder_114 : decode cX6_obeyOrder 114 = .ok (.getfield 36, 3) := by decide +kernel
theorem dX6_obeyOrder_117 : decode cX6_obeyOrder 117 = .ok (.getfield 309, 3) := by decide +kernel
theorem dX6_obeyOrder_120 : decode cX6_obeyOrder 120 = .ok (.invokevirtual 290, 3) := by decide +kernel
theorem dX6_obeyOrder_123 : decode cX6_obeyOrder 123 = .ok (.ifCond .eq 28, 3) := by decide +kernel
theorem dX6_obeyOrder_126 : decode cX6_obeyOrder 126 = .ok (.aload_n 0, 1) := by decide +kernel
theorem dX6_obeyOrder_127 : decode cX6_obeyOrder 127 = .ok (.getfield 22, 3) := by decide +kernel
theorem dX6_obeyOrder_130 : decode cX6_obeyOrder 130 = .ok (.aload_n 0, 1) := by decide +kernel
theorem dX6_obeyOrder_131 : decode cX6_obeyOrder 131 = .ok (.getfield 10, 3) := by decide +kernel
theorem dX6_obeyOrder_134 : decode cX6_obeyOrder 134 = .ok (.aload_n 0, 1) := by decide +kernel
theorem dX6_obeyOrder_135 : decode cX6_obeyOrder 135 = .ok (.getfield 36, 3) := by decide +kernel
theorem dX6_obeyOrder_138 : decode cX6_obeyOrder 138 = .ok (.getfield 309, 3) := by decide +kernel
theorem dX6_obeyOrder_141 : decode cX6_obeyOrder 141 = .ok (.invokevirtual 325, 3) := by decide +kernel
theorem dX6_obeyOrder_144 : decode cX6_obeyOrder 144 = .ok (.ifCond .le 7, 3) := by decide +kernel
theorem dX6_obeyOrder_147 : decode cX6_obeyOrder 147 = .ok (.iconst 1, 1) := by decide +kernel
theorem dX6_obeyOrder_148 : decode cX6_obeyOrder 148 = .ok (.goto 4, 3) := by decide +kernel
theorem dX6_obeyOrder_151 : decode cX6_obeyOrder 151 = .ok (.iconst 0, 1) := by decide +kernel
theorem dX6_obeyOrder_152 : decode cX6_obeyOrder 152 = .ok (.ireturn, 1) := by decide +kernel
theorem dX6_obeyOrder_153 : decode cX6_obeyOrder 153 = .ok (.aload_n 0, 1) := by decide +kernel
theorem dX6_obeyOrder_154 : decode cX6_obeyOrder 154 = .ok (.getfield 22, 3) := by decide +kernel
theorem dX6_obeyOrder_157 : decode cX6_obeyOrder 157 = .ok (.aload_n 0, 1) := by decide +kernel
theorem dX6_obeyOrder_158 : decode cX6_obeyOrder 158 = .ok (.getfield 10, 3) := by decide +kernel
theorem dX6_obeyOrder_161 : decode cX6_obeyOrder 161 = .ok (.invokevirtual 113, 3) := by decide +kernel
theorem dX6_obeyOrder_164 : decode cX6_obeyOrder 164 = .ok (.pop, 1) := by decide +kernel
theorem dX6_obeyOrder_165 : decode cX6_obeyOrder 165 = .ok (.iconst 1, 1) := by decide +kernel
theorem dX6_obeyOrder_166 : decode cX6_obeyOrder 166 = .ok (.ireturn, 1) := by decide +kernel
theorem dX6_obeyOrder_167 : decode cX6_obeyOrder 167 = .ok (.aload_n 0, 1) := by decide +kernel
theorem dX6_obeyOrder_168 : decode cX6_obeyOrder 168 = .ok (.aload_n 0, 1) := by decide +kernel
theorem dX6_obeyOrder_169 : decode cX6_obeyOrder 169 = .ok (.getfield 36, 3) := by decide +kernel
theorem dX6_obeyOrder_172 : decode cX6_obeyOrder 172 = .ok (.getfield 309, 3) := by decide +kernel
theorem dX6_obeyOrder_175 : decode cX6_obeyOrder 175 = .ok (.aload_n 0, 1) := by decide +kernel
theorem dX6_obeyOrder_176 : decode cX6_obeyOrder 176 = .ok (.getfield 36, 3) := by decide +kernel
theorem dX6_obeyOrder_179 : decode cX6_obeyOrder 179 = .ok (.getfield 319, 3) := by decide +kernel
theorem dX6_obeyOrder_182 : decode cX6_obeyOrder 182 = .ok (.invokevirtual 328, 3) := by decide +kernel
theorem dX6_obeyOrder_185 : decode cX6_obeyOrder 185 = .ok (.ireturn, 1) := by decide +kernel
theorem dX6_obeyOrder_186 : decode cX6_obeyOrder 186 = .ok (.iconst 0, 1) := by decide +kernel
theorem dX6_obeyOrder_187 : decode cX6_obeyOrder 187 = .ok (.ireturn, 1) := by decide +kernel
theorem dX6_obeyAdding_0 : decode cX6_obeyAdding 0 = .ok (.aload_n 0, 1) := by decide +kernel
theorem dX6_obeyAdding_1 : decode cX6_obeyAdding 1 = .ok (.getfield 10, 3) := by decide +kernel
theorem dX6_obeyAdding_4 : decode cX6_obeyAdding 4 = .ok (.iload_n 1, 1) := by decide +kernel
theorem dX6_obeyAdding_5 : decode cX6_obeyAdding 5 = .ok (.invokevirtual 290, 3) := by decide +kernel
theorem dX6_obeyAdding_8 : decode cX6_obeyAdding 8 = .ok (.ifCond .eq 29, 3) := by decide +kernel
theorem dX6_obeyAdding_11 : decode cX6_obeyAdding 11 = .ok (.aload_n 0, 1) := by decide +kernel
theorem dX6_obeyAdding_12 : decode cX6_obeyAdding 12 = .ok (.getfield 10, 3) := by decide +kernel
theorem dX6_obeyAdding_15 : decode cX6_obeyAdding 15 = .ok (.iload_n 2, 1) := by decide +kernel
theorem dX6_obeyAdding_16 : decode cX6_obeyAdding 16 = .ok (.invokevirtual 290, 3) := by decide +kernel
theorem dX6_obeyAdding_19 : decode cX6_obeyAdding 19 = .ok (.ifCond .eq 18, 3) := by decide +kernel
theorem dX6_obeyAdding_22 : decode cX6_obeyAdding 22 = .ok (.iload_n 1, 1) := by decide +kernel
theorem dX6_obeyAdding_23 : decode cX6_obeyAdding 23 = .ok (.iload_n 2, 1) := by decide +kernel
theorem dX6_obeyAdding_24 : decode cX6_obeyAdding 24 = .ok (.if_icmp .eq 13, 3) := by decide +kernel
theorem dX6_obeyAdding_27 : decode cX6_obeyAdding 27 = .ok (.aload_n 0, 1) := by decide +kernel
theorem dX6_obeyAdding_28 : decode cX6_obeyAdding 28 = .ok (.getfield 10, 3) := by decide +kernel
theorem dX6_obeyAdding_31 : decode cX6_obeyAdding 31 = .ok (.invokevirtual 76, 3) := by decide +kernel
theorem dX6_obeyAdding_34 : decode cX6_obeyAdding 34 = .ok (.ifCond .eq 5, 3) := by decide +kernel
theorem dX6_obeyAdding_37 : decode cX6_obeyAdding 37 = .ok (.iconst 0, 1) := by decide +kernel
theorem dX6_obeyAdding_38 : decode cX6_obeyAdding 38 = .ok (.ireturn, 1) := by decide +kernel
theorem dX6_obeyAdding_39 : decode cX6_obeyAdding 39 = .ok (.aload_n 0, 1) := by decide +kernel
theorem dX6_obeyAdding_40 : decode cX6_obeyAdding 40 = .ok (.getfield 10, 3) := by decide +kernel
theorem dX6_obeyAdding_43 : decode cX6_obeyAdding 43 = .ok (.iload_n 1, 1) := by decide +kernel
theorem dX6_obeyAdding_44 : decode cX6_obeyAdding 44 = .ok (.iload_n 2, 1) := by decide +kernel
theorem dX6_obeyAdding_45 : decode cX6_obeyAdding 45 = .ok (.invokevirtual 85, 3) := by decide +kernel
theorem dX6_obeyAdding_48 : decode cX6_obeyAdding 48 = .ok (.pop, 1) := by decide +kernel
theorem dX6_obeyAdding_49 : decode cX6_obeyAdding 49 = .ok (.iconst 1, 1) := by decide +kernel
theorem dX6_obeyAdding_50 : decode cX6_obeyAdding 50 = .ok (.ireturn, 1) := by decide +kernel
theorem dX6_obeyForEdge_0 : decode cX6_obeyForEdge 0 = .ok (.iload_n 2, 1) := by decide +kernel
theorem dX6_obeyForEdge_1 : decode cX6_obeyForEdge 1 = .ok (.iconst (-1), 1) := by decide +kernel
theorem dX6_obeyForEdge_2 : decode cX6_obeyForEdge 2 = .ok (.if_icmp .ne 5, 3) := by decide +kernel
theorem dX6_obeyForEdge_5 : decode cX6_obeyForEdge 5 = .ok (.iconst 0, 1) := by decide +kernel
theorem dX6_obeyForEdge_6 : decode cX6_obeyForEdge 6 = .ok (.ireturn, 1) := by decide +kernel
theorem dX6_obeyForEdge_7 : decode cX6_obeyForEdge 7 = .ok (.iload_n 1, 1) := by decide +kernel
theorem dX6_obeyForEdge_8 : decode cX6_obeyForEdge 8 = .ok (.bipush 45, 2) := by decide +kernel
theorem dX6_obeyForEdge_10 : decode cX6_obeyForEdge 10 = .ok (.if_icmp .ne 15, 3) := by decide +kernel
theorem dX6_obeyForEdge_13 : decode cX6_obeyForEdge 13 = .ok (.aload_n 0, 1) := by decide +kernel
theorem dX6_obeyForEdge_14 : decode cX6_obeyForEdge 14 = .ok (.getfield 10, 3) := by decide +kernel
theorem dX6_obeyForEdge_17 : decode cX6_obeyForEdge 17 = .ok (.iload_n 2, 1) := by decide +kernel
theorem dX6_obeyForEdge_18 : decode cX6_obeyForEdge 18 = .ok (.invokevirtual 93, 3) := by decide +kernel
theorem dX6_obeyForEdge_21 : decode cX6_obeyForEdge 21 = .ok (.pop, 1) := by decide +kernel
theorem dX6_obeyForEdge_22 : decode cX6_obeyForEdge 22 = .ok (.goto 12, 3) := by decide +kernel
theorem dX6_obeyForEdge_25 : decode cX6_obeyForEdge 25 = .ok (.aload_n 0, 1) := by decide +kernel
theorem dX6_obeyForEdge_26 : decode cX6_obeyForEdge 26 = .ok (.getfield 10, 3) := by decide +kernel
theorem dX6_obeyForEdge_29 : decode cX6_obeyForEdge 29 = .ok (.iload_n 2, 1) := by decide +kernel
theorem dX6_obeyForEdge_30 : decode cX6_obeyForEdge 30 = .ok (.invokevirtual 96, 3) := by decide +kernel
theorem dX6_obeyForEdge_33 : decode cX6_obeyForEdge 33 = .ok (.pop, 1) := by decide +kernel
theorem dX6_obeyForEdge_34 : decode cX6_obeyForEdge 34 = .ok (.iconst 1, 1) := by decide +kernel
theorem dX6_obeyForEdge_35 : decode cX6_obeyForEdge 35 = .ok (.ireturn, 1) := by decide +kernel
theorem dX6_obeyCapacity_0 : decode cX6_obeyCapacity 0 = .ok (.aload_n 0, 1) := by decide +kernel
theorem dX6_obeyCapacity_1 : decode cX6_obeyCapacity 1 = .ok (.getfield 10, 3) := by decide +kernel
theorem dX6_obeyCapacity_4 : decode cX6_obeyCapacity 4 = .ok (.iload_n 1, 1) := by decide +kernel
theorem dX6_obeyCapacity_5 : decode cX6_obeyCapacity 5 = .ok (.invokevirtual 290, 3) := by decide +kernel
theorem dX6_obeyCapacity_8 : decode cX6_obeyCapacity 8 = .ok (.ifCond .ne 5, 3) := by decide +kernel
theorem dX6_obeyCapacity_11 : decode cX6_obeyCapacity 11 = .ok (.iconst 0, 1) := by decide +kernel
theorem dX6_obeyCapacity_12 : decode cX6_obeyCapacity 12 = .ok (.ireturn, 1) := by decide +kernel
theorem dX6_obeyCapacity_13 : decode cX6_obeyCapacity 13 = .ok (.aload_n 0, 1) := by decide +kernel
theorem dX6_obeyCapacity_14 : decode cX6_obeyCapacity 14 = .ok (.getfield 10, 3) := by decide +kernel
theorem dX6_obeyCapacity_17 : decode cX6_obeyCapacity 17 = .ok (.getfield 118, 3) := by decide +kernel
theorem dX6_obeyCapacity_20 : decode cX6_obeyCapacity 20 = .ok (.iload_n 1, 1) := by decide +kernel
theorem dX6_obeyCapacity_21 : decode cX6_obeyCapacity 21 = .ok (.iload_n 2, 1) := by decide +kernel
theorem dX6_obeyCapacity_22 : decode cX6_obeyCapacity 22 = .ok (.invokevirtual 127, 3) := by decide +kernel
theorem dX6_obeyCapacity_25 : decode cX6_obeyCapacity 25 = .ok (.iconst 1, 1) := by decide +kernel
theorem dX6_obeyCapacity_26 : decode cX6_obeyCapacity 26 = .ok (.ireturn, 1) := by decide +kernel
theorem dJ6_bitCount_0f7a4_0 : decode cJ6_bitCount_0f7a4 0 = .ok (.iload_n 0, 1) := by decide +kernel
theorem dJ6_bitCount_0f7a4_1 : decode cJ6_bitCount_0f7a4 1 = .ok (.iload_n 0, 1) := by decide +kernel
theorem dJ6_bitCount_0f7a4_2 : decode cJ6_bitCount_0f7a4 2 = .ok (.iconst 1, 1) := by decide +kernel
theorem dJ6_bitCount_0f7a4_3 : decode cJ6_bitCount_0f7a4 3 = .ok (.iushr, 1) := by decide +kernel
theorem dJ6_bitCount_0f7a4_4 : decode cJ6_bitCount_0f7a4 4 = .ok (.ldc_w 265, 3) := by decide +kernel
theorem dJ6_bitCount_0f7a4_7 : decode cJ6_bitCount_0f7a4 7 = .ok (.iand, 1) := by decide +kernel
theorem dJ6_bitCount_0f7a4_8 : decode cJ6_bitCount_0f7a4 8 = .ok (.isub, 1) := by decide +kernel
theorem dJ6_bitCount_0f7a4_9 : decode cJ6_bitCount_0f7a4 9 = .ok (.istore_n 0, 1) := by decide +kernel
theorem dJ6_bitCount_0f7a4_10 : decode cJ6_bitCount_0f7a4 10 = .ok (.iload_n 0, 1) := by decide +kernel
theorem dJ6_bitCount_0f7a4_11 : decode cJ6_bitCount_0f7a4 11 = .ok (.ldc_w 266, 3) := by decide +kernel
theorem dJ6_bitCount_0f7a4_14 : decode cJ6_bitCount_0f7a4 14 = .ok (.iand, 1) := by decide +kernel
theorem dJ6_bitCount_0f7a4_15 : decode cJ6_bitCount_0f7a4 15 = .ok (.iload_n 0, 1) := by decide +kernel
theorem dJ6_bitCount_0f7a4_16 : decode cJ6_bitCount_0f7a4 16 = .ok (.iconst 2, 1) := by decide +kernel
theorem dJ6_bitCount_0f7a4_17 : decode cJ6_bitCount_0f7a4 17 = .ok (.iushr, 1) := by decide +kernel
theorem dJ6_bitCount_0f7a4_18 : decode cJ6_bitCount_0f7a4 18 = .ok (.ldc_w 266, 3) := by decide +kernel
theorem dJ6_bitCount_0f7a4_21 : decode cJ6_bitCount_0f7a4 21 = .ok (.iand, 1) := by decide +kernel
theorem dJ6_bitCount_0f7a4_22 : decode cJ6_bitCount_0f7a4 22 = .ok (.iadd, 1) := by decide +kernel
theorem dJ6_bitCount_0f7a4_23 : decode cJ6_bitCount_0f7a4 23 = .ok (.istore_n 0, 1) := by decide +kernel
theorem dJ6_bitCount_0f7a4_24 : decode cJ6_bitCount_0f7a4 24 = .ok (.iload_n 0, 1) := by decide +kernel
theorem dJ6_bitCount_0f7a4_25 : decode cJ6_bitCount_0f7a4 25 = .ok (.iload_n 0, 1) := by decide +kernel
theorem dJ6_bitCount_0f7a4_26 : decode cJ6_bitCount_0f7a4 26 = .ok (.iconst 4, 1) := by decide +kernel
theorem dJ6_bitCount_0f7a4_27 : decode cJ6_bitCount_0f7a4 27 = .ok (.iushr, 1) := by decide +kernel
theorem dJ6_bitCount_0f7a4_28 : decode cJ6_bitCount_0f7a4 28 = .ok (.iadd, 1) := by decide +kernel
theorem dJ6_bitCount_0f7a4_29 : decode cJ6_bitCount_0f7a4 29 = .ok (.ldc_w 267, 3) := by decide +kernel
theorem dJ6_bitCount_0f7a4_32 : decode cJ6_bitCount_0f7a4 32 = .ok (.iand, 1) := by decide +kernel
theorem dJ6_bitCount_0f7a4_33 : decode cJ6_bitCount_0f7a4 33 = .ok (.istore_n 0, 1) := by decide +kernel
theorem dJ6_bitCount_0f7a4_34 : decode cJ6_bitCount_0f7a4 34 = .ok (.iload_n 0, 1) := by decide +kernel
theorem dJ6_bitCount_0f7a4_35 : decode cJ6_bitCount_0f7a4 35 = .ok (.iload_n 0, 1) := by decide +kernel
theorem dJ6_bitCount_0f7a4_36 : decode cJ6_bitCount_0f7a4 36 = .ok (.bipush 8, 2) := by decide +kernel
theorem dJ6_bitCount_0f7a4_38 : decode cJ6_bitCount_0f7a4 38 = .ok (.iushr, 1) := by decide +kernel
theorem dJ6_bitCount_0f7a4_39 : decode cJ6_bitCount_0f7a4 39 = .ok (.iadd, 1) := by decide +kernel
theorem dJ6_bitCount_0f7a4_40 : decode cJ6_bitCount_0f7a4 40 = .ok (.istore_n 0, 1) := by decide +kernel
theorem dJ6_bitCount_0f7a4_41 : decode cJ6_bitCount_0f7a4 41 = .ok (.iload_n 0, 1) := by decide +kernel
theorem dJ6_bitCount_0f7a4_42 : decode cJ6_bitCount_0f7a4 42 = .ok (.iload_n 0, 1) := by decide +kernel
theorem dJ6_bitCount_0f7a4_43 : decode cJ6_bitCount_0f7a4 43 = .ok (.bipush 16, 2) := by decide +kernel
theorem dJ6_bitCount_0f7a4_45 : decode cJ6_bitCount_0f7a4 45 = .ok (.iushr, 1) := by decide +kernel
theorem dJ6_bitCount_0f7a4_46 : decode cJ6_bitCount_0f7a4 46 = .ok (.iadd, 1) := by decide +kernel
theorem dJ6_bitCount_0f7a4_47 : decode cJ6_bitCount_0f7a4 47 = .ok (.istore_n 0, 1) := by decide +kernel
theorem dJ6_bitCount_0f7a4_48 : decode cJ6_bitCount_0f7a4 48 = .ok (.iload_n 0, 1) := by decide +kernel
theorem dJ6_bitCount_0f7a4_49 : decode cJ6_bitCount_0f7a4 49 = .ok (.bipush 63, 2) := by decide +kernel
theorem dJ6_bitCount_0f7a4_51 : decode cJ6_bitCount_0f7a4 51 = .ok (.iand, 1) := by decide +kernel
theorem dJ6_bitCount_0f7a4_52 : decode cJ6_bitCount_0f7a4 52 = .ok (.ireturn, 1) := by decide +kernel
theorem dJ9_max_7cf53_0 : decode cJ9_max_7cf53 0 = .ok (.iload_n 0, 1) := by decide +kernel
theorem dJ9_max_7cf53_1 : decode cJ9_max_7cf53 1 = .ok (.iload_n 1, 1) := by decide +kernel
theorem dJ9_max_7cf53_2 : decode cJ9_max_7cf53 2 = .ok (.if_icmp .lt 7, 3) := by decide +kernel
theorem dJ9_max_7cf53_5 : decode cJ9_max_7cf53 5 = .ok (.iload_n 0, 1) := by decide +kernel
theorem dJ9_max_7cf53_6 : decode cJ9_max_7cf53 6 = .ok (.goto 4, 3) := by decide +kernel
theorem dJ9_max_7cf53_9 : decode cJ9_max_7cf53 9 = .ok (.iload_n 1, 1) := by decide +kernel
theorem dJ9_max_7cf53_10 : decode cJ9_max_7cf53 10 = .ok (.ireturn, 1) := by decide +kernel
theorem dJ9_min_7cf53_0 : decode cJ9_min_7cf53 0 = .ok (.iload_n 0, 1) := by decide +kernel
theorem dJ9_min_7cf53_1 : decode cJ9_min_7cf53 1 = .ok (.iload_n 1, 1) := by decide +kernel
theorem dJ9_min_7cf53_2 : decode cJ9_min_7cf53 2 = .ok (.if_icmp .gt 7, 3) := by decide +kernel
theorem dJ9_min_7cf53_5 : decode cJ9_min_7cf53 5 = .ok (.iload_n 0, 1) := by decide +kernel
theorem dJ9_min_7cf53_6 : decode cJ9_min_7cf53 6 = .ok (.goto 4, 3) := by decide +kernel
theorem dJ9_min_7cf53_9 : decode cJ9_min_7cf53 9 = .ok (.iload_n 1, 1) := by decide +kernel
theorem dJ9_min_7cf53_10 : decode cJ9_min_7cf53 10 = .ok (.ireturn, 1) := by decide +kernel
theorem dL_cell_0 : decode cL_cell 0 = .ok (.iload_n 1, 1) := by decide +kernel
theorem dL_cell_1 : decode cL_cell 1 = .ok (.aload_n 0, 1) := by decide +kernel
theorem dL_cell_2 : decode cL_cell 2 = .ok (.arraylength, 1) := by decide +kernel
theorem dL_cell_3 : decode cL_cell 3 = .ok (.if_icmp .ge 9, 3) := by decide +kernel
theorem dL_cell_6 : decode cL_cell 6 = .ok (.aload_n 0, 1) := by decide +kernel
theorem dL_cell_7 : decode cL_cell 7 = .ok (.iload_n 1, 1) := by decide +kernel
theorem dL_cell_8 : decode cL_cell 8 = .ok (.iaload, 1) := by decide +kernel
theorem dL_cell_9 : decode cL_cell 9 = .ok (.goto 9, 3) := by decide +kernel
theorem dL_cell_12 : decode cL_cell 12 = .ok (.ldc 7, 2) := by decide +kernel
theorem dL_cell_14 : decode cL_cell 14 = .ok (.iload_n 1, 1) := by decide +kernel
theorem dL_cell_15 : decode cL_cell 15 = .ok (.iconst 1, 1) := by decide +kernel
theorem dL_cell_16 : decode cL_cell 16 = .ok (.iadd, 1) := by decide +kernel
theorem dL_cell_17 : decode cL_cell 17 = .ok (.imul, 1) := by decide +kernel
theorem dL_cell_18 : decode cL_cell 18 = .ok (.ireturn, 1) := by decide +kernel
theorem dL_low_0 : decode cL_low 0 = .ok (.iload_n 0, 1) := by decide +kernel
theorem dL_low_1 : decode cL_low 1 = .ok (.ldc 8, 2) := by decide +kernel
theorem dL_low_3 : decode cL_low 3 = .ok (.iand, 1) := by decide +kernel
theorem dL_low_4 : decode cL_low 4 = .ok (.iload_n 1, 1) := by decide +kernel
theorem dL_low_5 : decode cL_low 5 = .ok (.irem, 1) := by decide +kernel
theorem dL_low_6 : decode cL_low 6 = .ok (.ireturn, 1) := by decide +kernel
theorem dL_begin_0 : decode cL_begin 0 = .ok (.aload_n 0, 1) := by decide +kernel
theorem dL_begin_1 : decode cL_begin 1 = .ok (.iload_n 1, 1) := by decide +kernel
theorem dL_begin_2 : decode cL_begin 2 = .ok (.invokevirtual 9, 3) := by decide +kernel
theorem dL_begin_5 : decode cL_begin 5 = .ok (.istore_n 2, 1) := by decide +kernel
theorem dL_begin_6 : decode cL_begin 6 = .ok (.goto 8, 3) := by decide +kernel
theorem dL_begin_9 : decode cL_begin 9 = .ok (.astore_n 3, 1) := by decide +kernel
theorem dL_begin_10 : decode cL_begin 10 = .ok (.sipush (-2051), 3) := by decide +kernel
theorem dL_begin_13 : decode cL_begin 13 = .ok (.ireturn, 1) := by decide +kernel
theorem dL_begin_14 : decode cL_begin 14 = .ok (.iload_n 2, 1) := by decide +kernel
theorem dL_begin_15 : decode cL_begin 15 = .ok (.ireturn, 1) := by decide +kernel
theorem dL_add_0 : decode cL_add 0 = .ok (.aload_n 0, 1) := by decide +kernel
theorem dL_add_1 : decode cL_add 1 = .ok (.iload_n 1, 1) := by decide +kernel
theorem dL_add_2 : decode cL_add 2 = .ok (.iload_n 2, 1) := by decide +kernel
theorem dL_add_3 : decode cL_add 3 = .ok (.invokevirtual 17, 3) := by decide +kernel
theorem dL_add_6 : decode cL_add 6 = .ok (.istore_n 3, 1) := by decide +kernel
theorem dL_add_7 : decode cL_add 7 = .ok (.goto 21, 3) := by decide +kernel
theorem dL_add_10 : decode cL_add 10 = .ok (.astore 4, 2) := by decide +kernel
theorem dL_add_12 : decode cL_add 12 = .ok (.sipush (-2053), 3) := by decide +kernel
theorem dL_add_15 : decode cL_add 15 = .ok (.ireturn, 1) := by decide +kernel
theorem dL_add_16 : decode cL_add 16 = .ok (.astore 4, 2) := by decide +kernel
theorem dL_add_18 : decode cL_add 18 = .ok (.sipush (-2051), 3) := by decide +kernel
theorem dL_add_21 : decode cL_add 21 = .ok (.ireturn, 1) := by decide +kernel
theorem dL_add_22 : decode cL_add 22 = .ok (.astore 4, 2) := by decide +kernel
theorem dL_add_24 : decode cL_add 24 = .ok (.sipush (-2052), 3) := by decide +kernel
theorem dL_add_27 : decode cL_add 27 = .ok (.ireturn, 1) := by decide +kernel
theorem dL_add_28 : decode cL_add 28 = .ok (.iload_n 3, 1) := by decide +kernel
theorem dL_add_29 : decode cL_add 29 = .ok (.ireturn, 1) := by decide +kernel
theorem dL_remove_0 : decode cL_remove 0 = .ok (.aload_n 0, 1) := by decide +kernel
theorem dL_remove_1 : decode cL_remove 1 = .ok (.iload_n 1, 1) := by decide +kernel
theorem dL_remove_2 : decode cL_remove 2 = .ok (.invokevirtual 25, 3) := by decide +kernel
theorem dL_remove_5 : decode cL_remove 5 = .ok (.istore_n 2, 1) := by decide +kernel
theorem dL_remove_6 : decode cL_remove 6 = .ok (.goto 8, 3) := by decide +kernel
theorem dL_remove_9 : decode cL_remove 9 = .ok (.astore_n 3, 1) := by decide +kernel
theorem dL_remove_10 : decode cL_remove 10 = .ok (.sipush (-2054), 3) := by decide +kernel
theorem dL_remove_13 : decode cL_remove 13 = .ok (.ireturn, 1) := by decide +kernel
theorem dL_remove_14 : decode cL_remove 14 = .ok (.iload_n 2, 1) := by decide +kernel
theorem dL_remove_15 : decode cL_remove 15 = .ok (.ireturn, 1) := by decide +kernel
theorem dL_turn_0 : decode cL_turn 0 = .ok (.aload_n 0, 1) := by decide +kernel
theorem dL_turn_1 : decode cL_turn 1 = .ok (.iload_n 1, 1) := by decide +kernel
theorem dL_turn_2 : decode cL_turn 2 = .ok (.invokevirtual 30, 3) := by decide +kernel
theorem dL_turn_5 : decode cL_turn 5 = .ok (.istore_n 2, 1) := by decide +kernel
theorem dL_turn_6 : decode cL_turn 6 = .ok (.goto 8, 3) := by decide +kernel
theorem dL_turn_9 : decode cL_turn 9 = .ok (.astore_n 3, 1) := by decide +kernel
theorem dL_turn_10 : decode cL_turn 10 = .ok (.sipush (-2054), 3) := by decide +kernel
theorem dL_turn_13 : decode cL_turn 13 = .ok (.ireturn, 1) := by decide +kernel
theorem dL_turn_14 : decode cL_turn 14 = .ok (.iload_n 2, 1) := by decide +kernel
theorem dL_turn_15 : decode cL_turn 15 = .ok (.ireturn, 1) := by decide +kernel
theorem dL_relieve_0 : decode cL_relieve 0 = .ok (.aload_n 0, 1) := by decide +kernel
theorem dL_relieve_1 : decode cL_relieve 1 = .ok (.iload_n 1, 1) := by decide +kernel
theorem dL_relieve_2 : decode cL_relieve 2 = .ok (.invokevirtual 33, 3) := by decide +kernel
theorem dL_relieve_5 : decode cL_relieve 5 = .ok (.istore_n 2, 1) := by decide +kernel
theorem dL_relieve_6 : decode cL_relieve 6 = .ok (.goto 13, 3) := by decide +kernel
theorem dL_relieve_9 : decode cL_relieve 9 = .ok (.astore_n 3, 1) := by decide +kernel
theorem dL_relieve_10 : decode cL_relieve 10 = .ok (.sipush (-2053), 3) := by decide +kernel
theorem dL_relieve_13 : decode cL_relieve 13 = .ok (.ireturn, 1) := by decide +kernel
theorem dL_relieve_14 : decode cL_relieve 14 = .ok (.astore_n 3, 1) := by decide +kernel
theorem dL_relieve_15 : decode cL_relieve 15 = .ok (.sipush (-2052), 3) := by decide +kernel
theorem dL_relieve_18 : decode cL_relieve 18 = .ok (.ireturn, 1) := by decide +kernel
theorem dL_relieve_19 : decode cL_relieve 19 = .ok (.iload_n 2, 1) := by decide +kernel
theorem dL_relieve_20 : decode cL_relieve 20 = .ok (.ireturn, 1) := by decide +kernel
theorem dL_setCapacity_0 : decode cL_setCapacity 0 = .ok (.aload_n 0, 1) := by decide +kernel
theorem dL_setCapacity_1 : decode cL_setCapacity 1 = .ok (.iload_n 1, 1) := by decide +kernel
theorem dL_setCapacity_2 : decode cL_setCapacity 2 = .ok (.iload_n 2, 1) := by decide +kernel
theorem dL_setCapacity_3 : decode cL_setCapacity 3 = .ok (.invokevirtual 36, 3) := by decide +kernel
theorem dL_setCapacity_6 : decode cL_setCapacity 6 = .ok (.istore_n 3, 1) := by decide +kernel
theorem dL_setCapacity_7 : decode cL_setCapacity 7 = .ok (.goto 15, 3) := by decide +kernel
theorem dL_setCapacity_10 : decode cL_setCapacity 10 = .ok (.astore 4, 2) := by decide +kernel
theorem dL_setCapacity_12 : decode cL_setCapacity 12 = .ok (.sipush (-2053), 3) := by decide +kernel
theorem dL_setCapacity_15 : decode cL_setCapacity 15 = .ok (.ireturn, 1) := by decide +kernel
theorem dL_setCapacity_16 : decode cL_setCapacity 16 = .ok (.astore 4, 2) := by decide +kernel
theorem dL_setCapacity_18 : decode cL_setCapacity 18 = .ok (.sipush (-2051), 3) := by decide +kernel
theorem dL_setCapacity_21 : decode cL_setCapacity 21 = .ok (.ireturn, 1) := by decide +kernel
theorem dL_setCapacity_22 : decode cL_setCapacity 22 = .ok (.iload_n 3, 1) := by decide +kernel
theorem dL_setCapacity_23 : decode cL_setCapacity 23 = .ok (.ireturn, 1) := by decide +kernel
theorem dL_node_0 : decode cL_node 0 = .ok (.aload_n 0, 1) := by decide +kernel
theorem dL_node_1 : decode cL_node 1 = .ok (.iload_n 1, 1) := by decide +kernel
theorem dL_node_2 : decode cL_node 2 = .ok (.iload_n 2, 1) := by decide +kernel
theorem dL_node_3 : decode cL_node 3 = .ok (.invokevirtual 39, 3) := by decide +kernel
theorem dL_node_6 : decode cL_node 6 = .ok (.istore_n 3, 1) := by decide +kernel
theorem dL_node_7 : decode cL_node 7 = .ok (.goto 15, 3) := by decide +kernel
theorem dL_node_10 : decode cL_node 10 = .ok (.astore 4, 2) := by decide +kernel
theorem dL_node_12 : decode cL_node 12 = .ok (.sipush (-2053), 3) := by decide +kernel
theorem dL_node_15 : decode cL_node 15 = .ok (.ireturn, 1) := by decide +kernel
theorem dL_node_16 : decode cL_node 16 = .ok (.astore 4, 2) := by decide +kernel
theorem dL_node_18 : decode cL_node 18 = .ok (.sipush (-2051), 3) := by decide +kernel
theorem dL_node_21 : decode cL_node 21 = .ok (.ireturn, 1) := by decide +kernel
theorem dL_node_22 : decode cL_node 22 = .ok (.iload_n 3, 1) := by decide +kernel
theorem dL_node_23 : decode cL_node 23 = .ok (.ireturn, 1) := by decide +kernel
theorem dL_edge_0 : decode cL_edge 0 = .ok (.aload_n 0, 1) := by decide +kernel
theorem dL_edge_1 : decode cL_edge 1 = .ok (.iload_n 1, 1) := by decide +kernel
theorem dL_edge_2 : decode cL_edge 2 = .ok (.iload_n 2, 1) := by decide +kernel
theorem dL_edge_3 : decode cL_edge 3 = .ok (.invokevirtual 42, 3) := by decide +kernel
theorem dL_edge_6 : decode cL_edge 6 = .ok (.istore_n 3, 1) := by decide +kernel
theorem dL_edge_7 : decode cL_edge 7 = .ok (.goto 15, 3) := by decide +kernel
theorem dL_edge_10 : decode cL_edge 10 = .ok (.astore 4, 2) := by decide +kernel
theorem dL_edge_12 : decode cL_edge 12 = .ok (.sipush (-2054), 3) := by decide +kernel
theorem dL_edge_15 : decode cL_edge 15 = .ok (.ireturn, 1) := by decide +kernel
theorem dL_edge_16 : decode cL_edge 16 = .ok (.astore 4, 2) := by decide +kernel
theorem dL_edge_18 : decode cL_edge 18 = .ok (.sipush (-2051), 3) := by decide +kernel
theorem dL_edge_21 : decode cL_edge 21 = .ok (.ireturn, 1) := by decide +kernel
theorem dL_edge_22 : decode cL_edge 22 = .ok (.iload_n 3, 1) := by decide +kernel
theorem dL_edge_23 : decode cL_edge 23 = .ok (.ireturn, 1) := by decide +kernel
theorem dL_edgeAt_0 : decode cL_edgeAt 0 = .ok (.aload_n 0, 1) := by decide +kernel
theorem dL_edgeAt_1 : decode cL_edgeAt 1 = .ok (.iload_n 1, 1) := by decide +kernel
theorem dL_edgeAt_2 : decode cL_edgeAt 2 = .ok (.invokevirtual 45, 3) := by decide +kernel
theorem dL_edgeAt_5 : decode cL_edgeAt 5 = .ok (.istore_n 2, 1) := by decide +kernel
theorem dL_edgeAt_6 : decode cL_edgeAt 6 = .ok (.goto 8, 3) := by decide +kernel
theorem dL_edgeAt_9 : decode cL_edgeAt 9 = .ok (.astore_n 3, 1) := by decide +kernel
theorem dL_edgeAt_10 : decode cL_edgeAt 10 = .ok (.sipush (-2053), 3) := by decide +kernel
theorem dL_edgeAt_13 : decode cL_edgeAt 13 = .ok (.ireturn, 1) := by decide +kernel
theorem dL_edgeAt_14 : decode cL_edgeAt 14 = .ok (.iload_n 2, 1) := by decide +kernel
theorem dL_edgeAt_15 : decode cL_edgeAt 15 = .ok (.ireturn, 1) := by decide +kernel
theorem dL_value_0 : decode cL_value 0 = .ok (.aload_n 0, 1) := by decide +kernel
theorem dL_value_1 : decode cL_value 1 = .ok (.iload_n 1, 1) := by decide +kernel
theorem dL_value_2 : decode cL_value 2 = .ok (.invokevirtual 48, 3) := by decide +kernel
theorem dL_value_5 : decode cL_value 5 = .ok (.istore_n 2, 1) := by decide +kernel
theorem dL_value_6 : decode cL_value 6 = .ok (.goto 8, 3) := by decide +kernel
theorem dL_value_9 : decode cL_value 9 = .ok (.astore_n 3, 1) := by decide +kernel
theorem dL_value_10 : decode cL_value 10 = .ok (.sipush (-2051), 3) := by decide +kernel
theorem dL_value_13 : decode cL_value 13 = .ok (.ireturn, 1) := by decide +kernel
theorem dL_value_14 : decode cL_value 14 = .ok (.iload_n 2, 1) := by decide +kernel
theorem dL_value_15 : decode cL_value 15 = .ok (.ireturn, 1) := by decide +kernel
theorem dL_path_0 : decode cL_path 0 = .ok (.aload_n 0, 1) := by decide +kernel
theorem dL_path_1 : decode cL_path 1 = .ok (.iload_n 1, 1) := by decide +kernel
theorem dL_path_2 : decode cL_path 2 = .ok (.iload_n 2, 1) := by decide +kernel
theorem dL_path_3 : decode cL_path 3 = .ok (.invokevirtual 51, 3) := by decide +kernel
theorem dL_path_6 : decode cL_path 6 = .ok (.istore_n 3, 1) := by decide +kernel
theorem dL_path_7 : decode cL_path 7 = .ok (.goto 9, 3) := by decide +kernel
theorem dL_path_10 : decode cL_path 10 = .ok (.astore 4, 2) := by decide +kernel
theorem dL_path_12 : decode cL_path 12 = .ok (.sipush (-2053), 3) := by decide +kernel
theorem dL_path_15 : decode cL_path 15 = .ok (.ireturn, 1) := by decide +kernel
theorem dL_path_16 : decode cL_path 16 = .ok (.iload_n 3, 1) := by decide +kernel
theorem dL_path_17 : decode cL_path 17 = .ok (.ireturn, 1) := by decide +kernel
theorem dL_step_0 : decode cL_step 0 = .ok (.aload_n 0, 1) := by decide +kernel
theorem dL_step_1 : decode cL_step 1 = .ok (.iload_n 1, 1) := by decide +kernel
theorem dL_step_2 : decode cL_step 2 = .ok (.iload_n 2, 1) := by decide +kernel
theorem dL_step_3 : decode cL_step 3 = .ok (.iload_n 3, 1) := by decide +kernel
theorem dL_step_4 : decode cL_step 4 = .ok (.invokevirtual 54, 3) := by decide +kernel
theorem dL_step_7 : decode cL_step 7 = .ok (.istore 4, 2) := by decide +kernel
theorem dL_step_9 : decode cL_step 9 = .ok (.goto 9, 3) := by decide +kernel
theorem dL_step_12 : decode cL_step 12 = .ok (.astore 5, 2) := by decide +kernel
theorem dL_step_14 : decode cL_step 14 = .ok (.sipush (-2053), 3) := by decide +kernel
theorem dL_step_17 : decode cL_step 17 = .ok (.ireturn, 1) := by decide +kernel
theorem dL_step_18 : decode cL_step 18 = .ok (.iload 4, 2) := by decide +kernel
theorem dL_step_20 : decode cL_step 20 = .ok (.ireturn, 1) := by decide +kernel
theorem dL_inner_0 : decode cL_inner 0 = .ok (.aload_n 0, 1) := by decide +kernel
theorem dL_inner_1 : decode cL_inner 1 = .ok (.iload_n 1, 1) := by decide +kernel
theorem dL_inner_2 : decode cL_inner 2 = .ok (.invokevirtual 58, 3) := by decide +kernel
theorem dL_inner_5 : decode cL_inner 5 = .ok (.istore_n 2, 1) := by decide +kernel
theorem dL_inner_6 : decode cL_inner 6 = .ok (.goto 8, 3) := by decide +kernel
theorem dL_inner_9 : decode cL_inner 9 = .ok (.astore_n 3, 1) := by decide +kernel
theorem dL_inner_10 : decode cL_inner 10 = .ok (.sipush (-2051), 3) := by decide +kernel
theorem dL_inner_13 : decode cL_inner 13 = .ok (.ireturn, 1) := by decide +kernel
theorem dL_inner_14 : decode cL_inner 14 = .ok (.iload_n 2, 1) := by decide +kernel
theorem dL_inner_15 : decode cL_inner 15 = .ok (.ireturn, 1) := by decide +kernel
theorem dL_leastWith_0 : decode cL_leastWith 0 = .ok (.aload_n 0, 1) := by decide +kernel
theorem dL_leastWith_1 : decode cL_leastWith 1 = .ok (.iload_n 1, 1) := by decide +kernel
theorem dL_leastWith_2 : decode cL_leastWith 2 = .ok (.iload_n 2, 1) := by decide +kernel
theorem dL_leastWith_3 : decode cL_leastWith 3 = .ok (.invokevirtual 61, 3) := by decide +kernel
theorem dL_leastWith_6 : decode cL_leastWith 6 = .ok (.istore_n 3, 1) := by decide +kernel
theorem dL_leastWith_7 : decode cL_leastWith 7 = .ok (.goto 15, 3) := by decide +kernel
theorem dL_leastWith_10 : decode cL_leastWith 10 = .ok (.astore 4, 2) := by decide +kernel
theorem dL_leastWith_12 : decode cL_leastWith 12 = .ok (.sipush (-2053), 3) := by decide +kernel
theorem dL_leastWith_15 : decode cL_leastWith 15 = .ok (.ireturn, 1) := by decide +kernel
theorem dL_leastWith_16 : decode cL_leastWith 16 = .ok (.astore 4, 2) := by decide +kernel
theorem dL_leastWith_18 : decode cL_leastWith 18 = .ok (.sipush (-2051), 3) := by decide +kernel
theorem dL_leastWith_21 : decode cL_leastWith 21 = .ok (.ireturn, 1) := by decide +kernel
theorem dL_leastWith_22 : decode cL_leastWith 22 = .ok (.iload_n 3, 1) := by decide +kernel
theorem dL_leastWith_23 : decode cL_leastWith 23 = .ok (.ireturn, 1) := by decide +kernel
theorem dL_leastWithout_0 : decode cL_leastWithout 0 = .ok (.aload_n 0, 1) := by decide +kernel
theorem dL_leastWithout_1 : decode cL_leastWithout 1 = .ok (.iload_n 1, 1) := by decide +kernel
theorem dL_leastWithout_2 : decode cL_leastWithout 2 = .ok (.invokevirtual 64, 3) := by decide +kernel
theorem dL_leastWithout_5 : decode cL_leastWithout 5 = .ok (.istore_n 2, 1) := by decide +kernel
theorem dL_leastWithout_6 : decode cL_leastWithout 6 = .ok (.goto 8, 3) := by decide +kernel
theorem dL_leastWithout_9 : decode cL_leastWithout 9 = .ok (.astore_n 3, 1) := by decide +kernel
theorem dL_leastWithout_10 : decode cL_leastWithout 10 = .ok (.sipush (-2054), 3) := by decide +kernel
theorem dL_leastWithout_13 : decode cL_leastWithout 13 = .ok (.ireturn, 1) := by decide +kernel
theorem dL_leastWithout_14 : decode cL_leastWithout 14 = .ok (.iload_n 2, 1) := by decide +kernel
theorem dL_leastWithout_15 : decode cL_leastWithout 15 = .ok (.ireturn, 1) := by decide +kernel
theorem dL_append_0 : decode cL_append 0 = .ok (.aload_n 0, 1) := by decide +kernel
theorem dL_append_1 : decode cL_append 1 = .ok (.iload_n 1, 1) := by decide +kernel
theorem dL_append_2 : decode cL_append 2 = .ok (.invokevirtual 67, 3) := by decide +kernel
theorem dL_append_5 : decode cL_append 5 = .ok (.istore_n 2, 1) := by decide +kernel
theorem dL_append_6 : decode cL_append 6 = .ok (.goto 13, 3) := by decide +kernel
theorem dL_append_9 : decode cL_append 9 = .ok (.astore_n 3, 1) := by decide +kernel
theorem dL_append_10 : decode cL_append 10 = .ok (.sipush (-2051), 3) := by decide +kernel
theorem dL_append_13 : decode cL_append 13 = .ok (.ireturn, 1) := by decide +kernel
theorem dL_append_14 : decode cL_append 14 = .ok (.astore_n 3, 1) := by decide +kernel
theorem dL_append_15 : decode cL_append 15 = .ok (.sipush (-2052), 3) := by decide +kernel
theorem dL_append_18 : decode cL_append 18 = .ok (.ireturn, 1) := by decide +kernel
theorem dL_append_19 : decode cL_append 19 = .ok (.iload_n 2, 1) := by decide +kernel
theorem dL_append_20 : decode cL_append 20 = .ok (.ireturn, 1) := by decide +kernel
theorem dL_undo_0 : decode cL_undo 0 = .ok (.aload_n 0, 1) := by decide +kernel
theorem dL_undo_1 : decode cL_undo 1 = .ok (.invokevirtual 70, 3) := by decide +kernel
theorem dL_undo_4 : decode cL_undo 4 = .ok (.istore_n 1, 1) := by decide +kernel
theorem dL_undo_5 : decode cL_undo 5 = .ok (.goto 8, 3) := by decide +kernel
theorem dL_undo_8 : decode cL_undo 8 = .ok (.astore_n 2, 1) := by decide +kernel
theorem dL_undo_9 : decode cL_undo 9 = .ok (.sipush (-2052), 3) := by decide +kernel
theorem dL_undo_12 : decode cL_undo 12 = .ok (.ireturn, 1) := by decide +kernel
theorem dL_undo_13 : decode cL_undo 13 = .ok (.iload_n 1, 1) := by decide +kernel
theorem dL_undo_14 : decode cL_undo 14 = .ok (.ireturn, 1) := by decide +kernel
theorem dL_print_0 : decode cL_print 0 = .ok (.ldc2_w 74, 3) := by decide +kernel
theorem dL_print_3 : decode cL_print 3 = .ok (.lstore_n 1, 1) := by decide +kernel
theorem dL_print_4 : decode cL_print 4 = .ok (.iconst 0, 1) := by decide +kernel
theorem dL_print_5 : decode cL_print 5 = .ok (.istore_n 3, 1) := by decide +kernel
theorem dL_print_6 : decode cL_print 6 = .ok (.iload_n 3, 1) := by decide +kernel
theorem dL_print_7 : decode cL_print 7 = .ok (.bipush 8, 2) := by decide +kernel
theorem dL_print_9 : decode cL_print 9 = .ok (.if_icmp .ge 22, 3) := by decide +kernel
theorem dL_print_12 : decode cL_print 12 = .ok (.ldc2_w 76, 3) := by decide +kernel
theorem dL_print_15 : decode cL_print 15 = .ok (.lload_n 1, 1) := by decide +kernel
theorem dL_print_16 : decode cL_print 16 = .ok (.lmul, 1) := by decide +kernel
theorem dL_print_17 : decode cL_print 17 = .ok (.aload_n 0, 1) := by decide +kernel
theorem dL_print_18 : decode cL_print 18 = .ok (.iload_n 3, 1) := by decide +kernel
theorem dL_print_19 : decode cL_print 19 = .ok (.invokevirtual 48, 3) := by decide +kernel
theorem dL_print_22 : decode cL_print 22 = .ok (.i2l, 1) := by decide +kernel
theorem dL_print_23 : decode cL_print 23 = .ok (.ladd, 1) := by decide +kernel
theorem dL_print_24 : decode cL_print 24 = .ok (.lstore_n 1, 1) := by decide +kernel
theorem dL_print_25 : decode cL_print 25 = .ok (.iinc 3 1, 3) := by decide +kernel
theorem dL_print_28 : decode cL_print 28 = .ok (.goto (-22), 3) := by decide +kernel
theorem dL_print_31 : decode cL_print 31 = .ok (.iconst 0, 1) := by decide +kernel
theorem dL_print_32 : decode cL_print 32 = .ok (.istore_n 3, 1) := by decide +kernel
theorem dL_print_33 : decode cL_print 33 = .ok (.iload_n 3, 1) := by decide +kernel
theorem dL_print_34 : decode cL_print 34 = .ok (.aload_n 0, 1) := by decide +kernel
theorem dL_print_35 : decode cL_print 35 = .ok (.iconst 0, 1) := by decide +kernel
theorem dL_print_36 : decode cL_print 36 = .ok (.invokevirtual 48, 3) := by decide +kernel
theorem dL_print_39 : decode cL_print 39 = .ok (.if_icmp .ge 39, 3) := by decide +kernel
theorem dL_print_42 : decode cL_print 42 = .ok (.iconst 0, 1) := by decide +kernel
theorem dL_print_43 : decode cL_print 43 = .ok (.istore 4, 2) := by decide +kernel
theorem dL_print_45 : decode cL_print 45 = .ok (.iload 4, 2) := by decide +kernel
theorem dL_print_47 : decode cL_print 47 = .ok (.iconst 5, 1) := by decide +kernel
theorem dL_print_48 : decode cL_print 48 = .ok (.if_icmp .ge 24, 3) := by decide +kernel
theorem dL_print_51 : decode cL_print 51 = .ok (.ldc2_w 76, 3) := by decide +kernel
theorem dL_print_54 : decode cL_print 54 = .ok (.lload_n 1, 1) := by decide +kernel
theorem dL_print_55 : decode cL_print 55 = .ok (.lmul, 1) := by decide +kernel
theorem dL_print_56 : decode cL_print 56 = .ok (.aload_n 0, 1) := by decide +kernel
theorem dL_print_57 : decode cL_print 57 = .ok (.iload_n 3, 1) := by decide +kernel
theorem dL_print_58 : decode cL_print 58 = .ok (.iload 4, 2) := by decide +kernel
theorem dL_print_60 : decode cL_print 60 = .ok (.invokevirtual 39, 3) := by decide +kernel
theorem dL_print_63 : decode cL_print 63 = .ok (.i2l, 1) := by decide +kernel
theorem dL_print_64 : decode cL_print 64 = .ok (.ladd, 1) := by decide +kernel
theorem dL_print_65 : decode cL_print 65 = .ok (.lstore_n 1, 1) := by decide +kernel
theorem dL_print_66 : decode cL_print 66 = .ok (.iinc 4 1, 3) := by decide +kernel
theorem dL_print_69 : decode cL_print 69 = .ok (.goto (-24), 3) := by decide +kernel
theorem dL_print_72 : decode cL_print 72 = .ok (.iinc 3 1, 3) := by decide +kernel
theorem dL_print_75 : decode cL_print 75 = .ok (.goto (-42), 3) := by decide +kernel
theorem dL_print_78 : decode cL_print 78 = .ok (.iconst 0, 1) := by decide +kernel
theorem dL_print_79 : decode cL_print 79 = .ok (.istore_n 3, 1) := by decide +kernel
theorem dL_print_80 : decode cL_print 80 = .ok (.iload_n 3, 1) := by decide +kernel
theorem dL_print_81 : decode cL_print 81 = .ok (.aload_n 0, 1) := by decide +kernel
theorem dL_print_82 : decode cL_print 82 = .ok (.iconst 1, 1) := by decide +kernel
theorem dL_print_83 : decode cL_print 83 = .ok (.invokevirtual 48, 3) := by decide +kernel
theorem dL_print_86 : decode cL_print 86 = .ok (.if_icmp .ge 57, 3) := by decide +kernel
theorem dL_print_89 : decode cL_print 89 = .ok (.aload_n 0, 1) := by decide +kernel
theorem dL_print_90 : decode cL_print 90 = .ok (.iload_n 3, 1) := by decide +kernel
theorem dL_print_91 : decode cL_print 91 = .ok (.invokevirtual 45, 3) := by decide +kernel
theorem dL_print_94 : decode cL_print 94 = .ok (.istore 4, 2) := by decide +kernel
theorem dL_print_96 : decode cL_print 96 = .ok (.ldc2_w 76, 3) := by decide +kernel
