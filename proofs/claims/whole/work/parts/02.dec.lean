theorem dX0_init_0 : decode cX0_init 0 = .ok (.aload_n 0, 1) := by decide +kernel
theorem dX0_init_1 : decode cX0_init 1 = .ok (.invokespecial 3, 3) := by decide +kernel
theorem dX0_init_4 : decode cX0_init 4 = .ok (.aload_n 0, 1) := by decide +kernel
theorem dX0_init_5 : decode cX0_init 5 = .ok (.bipush 31, 2) := by decide +kernel
theorem dX0_init_7 : decode cX0_init 7 = .ok (.newarray .int, 2) := by decide +kernel
theorem dX0_init_9 : decode cX0_init 9 = .ok (.putfield 9, 3) := by decide +kernel
theorem dX0_init_12 : decode cX0_init 12 = .ok (.aload_n 0, 1) := by decide +kernel
theorem dX0_init_13 : decode cX0_init 13 = .ok (.iconst 0, 1) := by decide +kernel
theorem dX0_init_14 : decode cX0_init 14 = .ok (.putfield 15, 3) := by decide +kernel
theorem dX0_init_17 : decode cX0_init 17 = .ok (.aload_n 0, 1) := by decide +kernel
theorem dX0_init_18 : decode cX0_init 18 = .ok (.iconst 0, 1) := by decide +kernel
theorem dX0_init_19 : decode cX0_init 19 = .ok (.putfield 19, 3) := by decide +kernel
theorem dX0_init_22 : decode cX0_init 22 = .ok (.aload_n 0, 1) := by decide +kernel
theorem dX0_init_23 : decode cX0_init 23 = .ok (.iconst 1, 1) := by decide +kernel
theorem dX0_init_24 : decode cX0_init 24 = .ok (.putfield 22, 3) := by decide +kernel
theorem dX0_init_27 : decode cX0_init 27 = .ok (.return_, 1) := by decide +kernel
theorem dX0_begin_0 : decode cX0_begin 0 = .ok (.aload_n 0, 1) := by decide +kernel
theorem dX0_begin_1 : decode cX0_begin 1 = .ok (.getfield 9, 3) := by decide +kernel
theorem dX0_begin_4 : decode cX0_begin 4 = .ok (.iconst 0, 1) := by decide +kernel
theorem dX0_begin_5 : decode cX0_begin 5 = .ok (.iconst 1, 1) := by decide +kernel
theorem dX0_begin_6 : decode cX0_begin 6 = .ok (.iastore, 1) := by decide +kernel
theorem dX0_begin_7 : decode cX0_begin 7 = .ok (.aload_n 0, 1) := by decide +kernel
theorem dX0_begin_8 : decode cX0_begin 8 = .ok (.iconst 0, 1) := by decide +kernel
theorem dX0_begin_9 : decode cX0_begin 9 = .ok (.putfield 15, 3) := by decide +kernel
theorem dX0_begin_12 : decode cX0_begin 12 = .ok (.return_, 1) := by decide +kernel
theorem dX0_join_0 : decode cX0_join 0 = .ok (.aload_n 0, 1) := by decide +kernel
theorem dX0_join_1 : decode cX0_join 1 = .ok (.getfield 15, 3) := by decide +kernel
theorem dX0_join_4 : decode cX0_join 4 = .ok (.iload_n 1, 1) := by decide +kernel
theorem dX0_join_5 : decode cX0_join 5 = .ok (.iadd, 1) := by decide +kernel
theorem dX0_join_6 : decode cX0_join 6 = .ok (.bipush 30, 2) := by decide +kernel
theorem dX0_join_8 : decode cX0_join 8 = .ok (.invokestatic 25, 3) := by decide +kernel
theorem dX0_join_11 : decode cX0_join 11 = .ok (.istore_n 3, 1) := by decide +kernel
theorem dX0_join_12 : decode cX0_join 12 = .ok (.iload_n 3, 1) := by decide +kernel
theorem dX0_join_13 : decode cX0_join 13 = .ok (.istore 4, 2) := by decide +kernel
theorem dX0_join_15 : decode cX0_join 15 = .ok (.iload 4, 2) := by decide +kernel
theorem dX0_join_17 : decode cX0_join 17 = .ok (.ifCond .lt 71, 3) := by decide +kernel
theorem dX0_join_20 : decode cX0_join 20 = .ok (.iload 4, 2) := by decide +kernel
theorem dX0_join_22 : decode cX0_join 22 = .ok (.aload_n 0, 1) := by decide +kernel
theorem dX0_join_23 : decode cX0_join 23 = .ok (.getfield 15, 3) := by decide +kernel
theorem dX0_join_26 : decode cX0_join 26 = .ok (.if_icmp .gt 18, 3) := by decide +kernel
theorem dX0_join_29 : decode cX0_join 29 = .ok (.aload_n 0, 1) := by decide +kernel
theorem dX0_join_30 : decode cX0_join 30 = .ok (.getfield 9, 3) := by decide +kernel
theorem dX0_join_33 : decode cX0_join 33 = .ok (.iload 4, 2) := by decide +kernel
theorem dX0_join_35 : decode cX0_join 35 = .ok (.iaload, 1) := by decide +kernel
theorem dX0_join_36 : decode cX0_join 36 = .ok (.bipush 10, 2) := by decide +kernel
theorem dX0_join_38 : decode cX0_join 38 = .ok (.iload_n 2, 1) := by decide +kernel
theorem dX0_join_39 : decode cX0_join 39 = .ok (.isub, 1) := by decide +kernel
theorem dX0_join_40 : decode cX0_join 40 = .ok (.imul, 1) := by decide +kernel
theorem dX0_join_41 : decode cX0_join 41 = .ok (.goto 4, 3) := by decide +kernel
theorem dX0_join_44 : decode cX0_join 44 = .ok (.iconst 0, 1) := by decide +kernel
theorem dX0_join_45 : decode cX0_join 45 = .ok (.istore 5, 2) := by decide +kernel
theorem dX0_join_47 : decode cX0_join 47 = .ok (.iload 4, 2) := by decide +kernel
theorem dX0_join_49 : decode cX0_join 49 = .ok (.iload_n 1, 1) := by decide +kernel
theorem dX0_join_50 : decode cX0_join 50 = .ok (.if_icmp .lt 17, 3) := by decide +kernel
theorem dX0_join_53 : decode cX0_join 53 = .ok (.aload_n 0, 1) := by decide +kernel
theorem dX0_join_54 : decode cX0_join 54 = .ok (.getfield 9, 3) := by decide +kernel
theorem dX0_join_57 : decode cX0_join 57 = .ok (.iload 4, 2) := by decide +kernel
theorem dX0_join_59 : decode cX0_join 59 = .ok (.iload_n 1, 1) := by decide +kernel
theorem dX0_join_60 : decode cX0_join 60 = .ok (.isub, 1) := by decide +kernel
theorem dX0_join_61 : decode cX0_join 61 = .ok (.iaload, 1) := by decide +kernel
theorem dX0_join_62 : decode cX0_join 62 = .ok (.iload_n 2, 1) := by decide +kernel
theorem dX0_join_63 : decode cX0_join 63 = .ok (.imul, 1) := by decide +kernel
theorem dX0_join_64 : decode cX0_join 64 = .ok (.goto 4, 3) := by decide +kernel
theorem dX0_join_67 : decode cX0_join 67 = .ok (.iconst 0, 1) := by decide +kernel
theorem dX0_join_68 : decode cX0_join 68 = .ok (.istore 6, 2) := by decide +kernel
theorem dX0_join_70 : decode cX0_join 70 = .ok (.aload_n 0, 1) := by decide +kernel
theorem dX0_join_71 : decode cX0_join 71 = .ok (.getfield 9, 3) := by decide +kernel
theorem dX0_join_74 : decode cX0_join 74 = .ok (.iload 4, 2) := by decide +kernel
theorem dX0_join_76 : decode cX0_join 76 = .ok (.iload 5, 2) := by decide +kernel
theorem dX0_join_78 : decode cX0_join 78 = .ok (.iload 6, 2) := by decide +kernel
theorem dX0_join_80 : decode cX0_join 80 = .ok (.iadd, 1) := by decide +kernel
theorem dX0_join_81 : decode cX0_join 81 = .ok (.iastore, 1) := by decide +kernel
theorem dX0_join_82 : decode cX0_join 82 = .ok (.iinc 4 (-1), 3) := by decide +kernel
theorem dX0_join_85 : decode cX0_join 85 = .ok (.goto (-70), 3) := by decide +kernel
theorem dX0_join_88 : decode cX0_join 88 = .ok (.aload_n 0, 1) := by decide +kernel
theorem dX0_join_89 : decode cX0_join 89 = .ok (.iload_n 3, 1) := by decide +kernel
theorem dX0_join_90 : decode cX0_join 90 = .ok (.putfield 15, 3) := by decide +kernel
theorem dX0_join_93 : decode cX0_join 93 = .ok (.return_, 1) := by decide +kernel
theorem dX0_atLeast_0 : decode cX0_atLeast 0 = .ok (.iconst 0, 1) := by decide +kernel
theorem dX0_atLeast_1 : decode cX0_atLeast 1 = .ok (.istore_n 2, 1) := by decide +kernel
theorem dX0_atLeast_2 : decode cX0_atLeast 2 = .ok (.iload_n 1, 1) := by decide +kernel
theorem dX0_atLeast_3 : decode cX0_atLeast 3 = .ok (.iconst 0, 1) := by decide +kernel
theorem dX0_atLeast_4 : decode cX0_atLeast 4 = .ok (.invokestatic 31, 3) := by decide +kernel
theorem dX0_atLeast_7 : decode cX0_atLeast 7 = .ok (.istore_n 3, 1) := by decide +kernel
theorem dX0_atLeast_8 : decode cX0_atLeast 8 = .ok (.iload_n 3, 1) := by decide +kernel
theorem dX0_atLeast_9 : decode cX0_atLeast 9 = .ok (.aload_n 0, 1) := by decide +kernel
theorem dX0_atLeast_10 : decode cX0_atLeast 10 = .ok (.getfield 15, 3) := by decide +kernel
theorem dX0_atLeast_13 : decode cX0_atLeast 13 = .ok (.if_icmp .gt 18, 3) := by decide +kernel
theorem dX0_atLeast_16 : decode cX0_atLeast 16 = .ok (.iload_n 2, 1) := by decide +kernel
theorem dX0_atLeast_17 : decode cX0_atLeast 17 = .ok (.aload_n 0, 1) := by decide +kernel
theorem dX0_atLeast_18 : decode cX0_atLeast 18 = .ok (.getfield 9, 3) := by decide +kernel
theorem dX0_atLeast_21 : decode cX0_atLeast 21 = .ok (.iload_n 3, 1) := by decide +kernel
theorem dX0_atLeast_22 : decode cX0_atLeast 22 = .ok (.iaload, 1) := by decide +kernel
theorem dX0_atLeast_23 : decode cX0_atLeast 23 = .ok (.iadd, 1) := by decide +kernel
theorem dX0_atLeast_24 : decode cX0_atLeast 24 = .ok (.istore_n 2, 1) := by decide +kernel
theorem dX0_atLeast_25 : decode cX0_atLeast 25 = .ok (.iinc 3 1, 3) := by decide +kernel
theorem dX0_atLeast_28 : decode cX0_atLeast 28 = .ok (.goto (-20), 3) := by decide +kernel
theorem dX0_atLeast_31 : decode cX0_atLeast 31 = .ok (.iload_n 2, 1) := by decide +kernel
theorem dX0_atLeast_32 : decode cX0_atLeast 32 = .ok (.ireturn, 1) := by decide +kernel
theorem dX0_reduce_0 : decode cX0_reduce 0 = .ok (.aload_n 0, 1) := by decide +kernel
theorem dX0_reduce_1 : decode cX0_reduce 1 = .ok (.aload_n 0, 1) := by decide +kernel
theorem dX0_reduce_2 : decode cX0_reduce 2 = .ok (.iload_n 1, 1) := by decide +kernel
theorem dX0_reduce_3 : decode cX0_reduce 3 = .ok (.invokevirtual 34, 3) := by decide +kernel
theorem dX0_reduce_6 : decode cX0_reduce 6 = .ok (.putfield 19, 3) := by decide +kernel
theorem dX0_reduce_9 : decode cX0_reduce 9 = .ok (.aload_n 0, 1) := by decide +kernel
theorem dX0_reduce_10 : decode cX0_reduce 10 = .ok (.iconst 1, 1) := by decide +kernel
theorem dX0_reduce_11 : decode cX0_reduce 11 = .ok (.putfield 22, 3) := by decide +kernel
theorem dX0_reduce_14 : decode cX0_reduce 14 = .ok (.iconst 0, 1) := by decide +kernel
theorem dX0_reduce_15 : decode cX0_reduce 15 = .ok (.istore_n 3, 1) := by decide +kernel
theorem dX0_reduce_16 : decode cX0_reduce 16 = .ok (.iload_n 3, 1) := by decide +kernel
theorem dX0_reduce_17 : decode cX0_reduce 17 = .ok (.iload_n 2, 1) := by decide +kernel
theorem dX0_reduce_18 : decode cX0_reduce 18 = .ok (.if_icmp .ge 20, 3) := by decide +kernel
theorem dX0_reduce_21 : decode cX0_reduce 21 = .ok (.aload_n 0, 1) := by decide +kernel
theorem dX0_reduce_22 : decode cX0_reduce 22 = .ok (.dup, 1) := by decide +kernel
theorem dX0_reduce_23 : decode cX0_reduce 23 = .ok (.getfield 22, 3) := by decide +kernel
theorem dX0_reduce_26 : decode cX0_reduce 26 = .ok (.bipush 10, 2) := by decide +kernel
theorem dX0_reduce_28 : decode cX0_reduce 28 = .ok (.imul, 1) := by decide +kernel
theorem dX0_reduce_29 : decode cX0_reduce 29 = .ok (.putfield 22, 3) := by decide +kernel
theorem dX0_reduce_32 : decode cX0_reduce 32 = .ok (.iinc 3 1, 3) := by decide +kernel
theorem dX0_reduce_35 : decode cX0_reduce 35 = .ok (.goto (-19), 3) := by decide +kernel
theorem dX0_reduce_38 : decode cX0_reduce 38 = .ok (.iconst 0, 1) := by decide +kernel
theorem dX0_reduce_39 : decode cX0_reduce 39 = .ok (.istore_n 3, 1) := by decide +kernel
theorem dX0_reduce_40 : decode cX0_reduce 40 = .ok (.iload_n 3, 1) := by decide +kernel
theorem dX0_reduce_41 : decode cX0_reduce 41 = .ok (.iload_n 2, 1) := by decide +kernel
theorem dX0_reduce_42 : decode cX0_reduce 42 = .ok (.if_icmp .ge 67, 3) := by decide +kernel
theorem dX0_reduce_45 : decode cX0_reduce 45 = .ok (.aload_n 0, 1) := by decide +kernel
theorem dX0_reduce_46 : decode cX0_reduce 46 = .ok (.getfield 19, 3) := by decide +kernel
theorem dX0_reduce_49 : decode cX0_reduce 49 = .ok (.iconst 2, 1) := by decide +kernel
theorem dX0_reduce_50 : decode cX0_reduce 50 = .ok (.irem, 1) := by decide +kernel
theorem dX0_reduce_51 : decode cX0_reduce 51 = .ok (.ifCond .ne 23, 3) := by decide +kernel
theorem dX0_reduce_54 : decode cX0_reduce 54 = .ok (.aload_n 0, 1) := by decide +kernel
theorem dX0_reduce_55 : decode cX0_reduce 55 = .ok (.dup, 1) := by decide +kernel
theorem dX0_reduce_56 : decode cX0_reduce 56 = .ok (.getfield 19, 3) := by decide +kernel
theorem dX0_reduce_59 : decode cX0_reduce 59 = .ok (.iconst 2, 1) := by decide +kernel
theorem dX0_reduce_60 : decode cX0_reduce 60 = .ok (.idiv, 1) := by decide +kernel
theorem dX0_reduce_61 : decode cX0_reduce 61 = .ok (.putfield 19, 3) := by decide +kernel
theorem dX0_reduce_64 : decode cX0_reduce 64 = .ok (.aload_n 0, 1) := by decide +kernel
theorem dX0_reduce_65 : decode cX0_reduce 65 = .ok (.dup, 1) := by decide +kernel
theorem dX0_reduce_66 : decode cX0_reduce 66 = .ok (.getfield 22, 3) := by decide +kernel
theorem dX0_reduce_69 : decode cX0_reduce 69 = .ok (.iconst 2, 1) := by decide +kernel
theorem dX0_reduce_70 : decode cX0_reduce 70 = .ok (.idiv, 1) := by decide +kernel
theorem dX0_reduce_71 : decode cX0_reduce 71 = .ok (.putfield 22, 3) := by decide +kernel
theorem dX0_reduce_74 : decode cX0_reduce 74 = .ok (.aload_n 0, 1) := by decide +kernel
theorem dX0_reduce_75 : decode cX0_reduce 75 = .ok (.getfield 19, 3) := by decide +kernel
theorem dX0_reduce_78 : decode cX0_reduce 78 = .ok (.iconst 5, 1) := by decide +kernel
theorem dX0_reduce_79 : decode cX0_reduce 79 = .ok (.irem, 1) := by decide +kernel
theorem dX0_reduce_80 : decode cX0_reduce 80 = .ok (.ifCond .ne 23, 3) := by decide +kernel
theorem dX0_reduce_83 : decode cX0_reduce 83 = .ok (.aload_n 0, 1) := by decide +kernel
theorem dX0_reduce_84 : decode cX0_reduce 84 = .ok (.dup, 1) := by decide +kernel
theorem dX0_reduce_85 : decode cX0_reduce 85 = .ok (.getfield 19, 3) := by decide +kernel
theorem dX0_reduce_88 : decode cX0_reduce 88 = .ok (.iconst 5, 1) := by decide +kernel
theorem dX0_reduce_89 : decode cX0_reduce 89 = .ok (.idiv, 1) := by decide +kernel
theorem dX0_reduce_90 : decode cX0_reduce 90 = .ok (.putfield 19, 3) := by decide +kernel
theorem dX0_reduce_93 : decode cX0_reduce 93 = .ok (.aload_n 0, 1) := by decide +kernel
theorem dX0_reduce_94 : decode cX0_reduce 94 = .ok (.dup, 1) := by decide +kernel
theorem dX0_reduce_95 : decode cX0_reduce 95 = .ok (.getfield 22, 3) := by decide +kernel
theorem dX0_reduce_98 : decode cX0_reduce 98 = .ok (.iconst 5, 1) := by decide +kernel
theorem dX0_reduce_99 : decode cX0_reduce 99 = .ok (.idiv, 1) := by decide +kernel
theorem dX0_reduce_100 : decode cX0_reduce 100 = .ok (.putfield 22, 3) := by decide +kernel
theorem dX0_reduce_103 : decode cX0_reduce 103 = .ok (.iinc 3 1, 3) := by decide +kernel
theorem dX0_reduce_106 : decode cX0_reduce 106 = .ok (.goto (-66), 3) := by decide +kernel
theorem dX0_reduce_109 : decode cX0_reduce 109 = .ok (.return_, 1) := by decide +kernel
theorem dX1_init_0 : decode cX1_init 0 = .ok (.aload_n 0, 1) := by decide +kernel
theorem dX1_init_1 : decode cX1_init 1 = .ok (.invokespecial 3, 3) := by decide +kernel
theorem dX1_init_4 : decode cX1_init 4 = .ok (.aload_n 0, 1) := by decide +kernel
theorem dX1_init_5 : decode cX1_init 5 = .ok (.sipush 208, 3) := by decide +kernel
theorem dX1_init_8 : decode cX1_init 8 = .ok (.newarray .int, 2) := by decide +kernel
theorem dX1_init_10 : decode cX1_init 10 = .ok (.putfield 11, 3) := by decide +kernel
theorem dX1_init_13 : decode cX1_init 13 = .ok (.aload_n 0, 1) := by decide +kernel
theorem dX1_init_14 : decode cX1_init 14 = .ok (.iconst 2, 1) := by decide +kernel
theorem dX1_init_15 : decode cX1_init 15 = .ok (.newarray .boolean, 2) := by decide +kernel
theorem dX1_init_17 : decode cX1_init 17 = .ok (.putfield 17, 3) := by decide +kernel
theorem dX1_init_20 : decode cX1_init 20 = .ok (.return_, 1) := by decide +kernel
theorem dX1_drop_0 : decode cX1_drop 0 = .ok (.iconst 0, 1) := by decide +kernel
theorem dX1_drop_1 : decode cX1_drop 1 = .ok (.istore_n 1, 1) := by decide +kernel
theorem dX1_drop_2 : decode cX1_drop 2 = .ok (.iload_n 1, 1) := by decide +kernel
theorem dX1_drop_3 : decode cX1_drop 3 = .ok (.iconst 2, 1) := by decide +kernel
theorem dX1_drop_4 : decode cX1_drop 4 = .ok (.if_icmp .ge 16, 3) := by decide +kernel
theorem dX1_drop_7 : decode cX1_drop 7 = .ok (.aload_n 0, 1) := by decide +kernel
theorem dX1_drop_8 : decode cX1_drop 8 = .ok (.getfield 17, 3) := by decide +kernel
theorem dX1_drop_11 : decode cX1_drop 11 = .ok (.iload_n 1, 1) := by decide +kernel
theorem dX1_drop_12 : decode cX1_drop 12 = .ok (.iconst 0, 1) := by decide +kernel
theorem dX1_drop_13 : decode cX1_drop 13 = .ok (.bastore, 1) := by decide +kernel
theorem dX1_drop_14 : decode cX1_drop 14 = .ok (.iinc 1 1, 3) := by decide +kernel
theorem dX1_drop_17 : decode cX1_drop 17 = .ok (.goto (-15), 3) := by decide +kernel
theorem dX1_drop_20 : decode cX1_drop 20 = .ok (.return_, 1) := by decide +kernel
theorem dX1_store_0 : decode cX1_store 0 = .ok (.aload_n 2, 1) := by decide +kernel
theorem dX1_store_1 : decode cX1_store 1 = .ok (.aload_n 0, 1) := by decide +kernel
theorem dX1_store_2 : decode cX1_store 2 = .ok (.getfield 11, 3) := by decide +kernel
theorem dX1_store_5 : decode cX1_store 5 = .ok (.iload_n 1, 1) := by decide +kernel
theorem dX1_store_6 : decode cX1_store 6 = .ok (.invokevirtual 21, 3) := by decide +kernel
theorem dX1_store_9 : decode cX1_store 9 = .ok (.aload_n 0, 1) := by decide +kernel
theorem dX1_store_10 : decode cX1_store 10 = .ok (.getfield 17, 3) := by decide +kernel
theorem dX1_store_13 : decode cX1_store 13 = .ok (.iload_n 1, 1) := by decide +kernel
theorem dX1_store_14 : decode cX1_store 14 = .ok (.iconst 1, 1) := by decide +kernel
theorem dX1_store_15 : decode cX1_store 15 = .ok (.bastore, 1) := by decide +kernel
theorem dX1_store_16 : decode cX1_store 16 = .ok (.return_, 1) := by decide +kernel
theorem dX1_restore_0 : decode cX1_restore 0 = .ok (.aload_n 0, 1) := by decide +kernel
theorem dX1_restore_1 : decode cX1_restore 1 = .ok (.getfield 17, 3) := by decide +kernel
theorem dX1_restore_4 : decode cX1_restore 4 = .ok (.iload_n 1, 1) := by decide +kernel
theorem dX1_restore_5 : decode cX1_restore 5 = .ok (.baload, 1) := by decide +kernel
theorem dX1_restore_6 : decode cX1_restore 6 = .ok (.ifCond .eq 12, 3) := by decide +kernel
theorem dX1_restore_9 : decode cX1_restore 9 = .ok (.aload_n 2, 1) := by decide +kernel
theorem dX1_restore_10 : decode cX1_restore 10 = .ok (.aload_n 0, 1) := by decide +kernel
theorem dX1_restore_11 : decode cX1_restore 11 = .ok (.getfield 11, 3) := by decide +kernel
theorem dX1_restore_14 : decode cX1_restore 14 = .ok (.iload_n 1, 1) := by decide +kernel
theorem dX1_restore_15 : decode cX1_restore 15 = .ok (.invokevirtual 25, 3) := by decide +kernel
theorem dX1_restore_18 : decode cX1_restore 18 = .ok (.aload_n 0, 1) := by decide +kernel
theorem dX1_restore_19 : decode cX1_restore 19 = .ok (.getfield 17, 3) := by decide +kernel
theorem dX1_restore_22 : decode cX1_restore 22 = .ok (.iload_n 1, 1) := by decide +kernel
theorem dX1_restore_23 : decode cX1_restore 23 = .ok (.baload, 1) := by decide +kernel
theorem dX1_restore_24 : decode cX1_restore 24 = .ok (.ireturn, 1) := by decide +kernel
theorem dX2_init_0 : decode cX2_init 0 = .ok (.aload_n 0, 1) := by decide +kernel
theorem dX2_init_1 : decode cX2_init 1 = .ok (.invokespecial 3, 3) := by decide +kernel
theorem dX2_init_4 : decode cX2_init 4 = .ok (.aload_n 0, 1) := by decide +kernel
theorem dX2_init_5 : decode cX2_init 5 = .ok (.bipush 120, 2) := by decide +kernel
theorem dX2_init_7 : decode cX2_init 7 = .ok (.newarray .int, 2) := by decide +kernel
theorem dX2_init_9 : decode cX2_init 9 = .ok (.putfield 9, 3) := by decide +kernel
theorem dX2_init_12 : decode cX2_init 12 = .ok (.aload_n 0, 1) := by decide +kernel
theorem dX2_init_13 : decode cX2_init 13 = .ok (.iconst 0, 1) := by decide +kernel
theorem dX2_init_14 : decode cX2_init 14 = .ok (.putfield 15, 3) := by decide +kernel
theorem dX2_init_17 : decode cX2_init 17 = .ok (.return_, 1) := by decide +kernel
theorem dX2_append_0 : decode cX2_append 0 = .ok (.aload_n 0, 1) := by decide +kernel
theorem dX2_append_1 : decode cX2_append 1 = .ok (.getfield 15, 3) := by decide +kernel
theorem dX2_append_4 : decode cX2_append 4 = .ok (.bipush 120, 2) := by decide +kernel
theorem dX2_append_6 : decode cX2_append 6 = .ok (.if_icmp .lt 5, 3) := by decide +kernel
theorem dX2_append_9 : decode cX2_append 9 = .ok (.iconst 0, 1) := by decide +kernel
theorem dX2_append_10 : decode cX2_append 10 = .ok (.ireturn, 1) := by decide +kernel
theorem dX2_append_11 : decode cX2_append 11 = .ok (.aload_n 0, 1) := by decide +kernel
theorem dX2_append_12 : decode cX2_append 12 = .ok (.getfield 9, 3) := by decide +kernel
theorem dX2_append_15 : decode cX2_append 15 = .ok (.aload_n 0, 1) := by decide +kernel
theorem dX2_append_16 : decode cX2_append 16 = .ok (.getfield 15, 3) := by decide +kernel
theorem dX2_append_19 : decode cX2_append 19 = .ok (.iload_n 1, 1) := by decide +kernel
theorem dX2_append_20 : decode cX2_append 20 = .ok (.iastore, 1) := by decide +kernel
theorem dX2_append_21 : decode cX2_append 21 = .ok (.aload_n 0, 1) := by decide +kernel
theorem dX2_append_22 : decode cX2_append 22 = .ok (.dup, 1) := by decide +kernel
theorem dX2_append_23 : decode cX2_append 23 = .ok (.getfield 15, 3) := by decide +kernel
theorem dX2_append_26 : decode cX2_append 26 = .ok (.iconst 1, 1) := by decide +kernel
theorem dX2_append_27 : decode cX2_append 27 = .ok (.iadd, 1) := by decide +kernel
theorem dX2_append_28 : decode cX2_append 28 = .ok (.putfield 15, 3) := by decide +kernel
theorem dX2_append_31 : decode cX2_append 31 = .ok (.iconst 1, 1) := by decide +kernel
theorem dX2_append_32 : decode cX2_append 32 = .ok (.ireturn, 1) := by decide +kernel
theorem dX2_at_0 : decode cX2_at 0 = .ok (.iload_n 1, 1) := by decide +kernel
theorem dX2_at_1 : decode cX2_at 1 = .ok (.ifCond .lt 20, 3) := by decide +kernel
theorem dX2_at_4 : decode cX2_at 4 = .ok (.iload_n 1, 1) := by decide +kernel
theorem dX2_at_5 : decode cX2_at 5 = .ok (.aload_n 0, 1) := by decide +kernel
theorem dX2_at_6 : decode cX2_at 6 = .ok (.getfield 15, 3) := by decide +kernel
theorem dX2_at_9 : decode cX2_at 9 = .ok (.if_icmp .ge 12, 3) := by decide +kernel
theorem dX2_at_12 : decode cX2_at 12 = .ok (.aload_n 0, 1) := by decide +kernel
theorem dX2_at_13 : decode cX2_at 13 = .ok (.getfield 9, 3) := by decide +kernel
theorem dX2_at_16 : decode cX2_at 16 = .ok (.iload_n 1, 1) := by decide +kernel
theorem dX2_at_17 : decode cX2_at 17 = .ok (.iaload, 1) := by decide +kernel
theorem dX2_at_18 : decode cX2_at 18 = .ok (.goto 5, 3) := by decide +kernel
theorem dX2_at_21 : decode cX2_at 21 = .ok (.bipush (-9), 2) := by decide +kernel
theorem dX2_at_23 : decode cX2_at 23 = .ok (.ireturn, 1) := by decide +kernel
theorem dX3_init_0 : decode cX3_init 0 = .ok (.aload_n 0, 1) := by decide +kernel
theorem dX3_init_1 : decode cX3_init 1 = .ok (.invokespecial 3, 3) := by decide +kernel
theorem dX3_init_4 : decode cX3_init 4 = .ok (.aload_n 0, 1) := by decide +kernel
theorem dX3_init_5 : decode cX3_init 5 = .ok (.iconst 0, 1) := by decide +kernel
theorem dX3_init_6 : decode cX3_init 6 = .ok (.putfield 9, 3) := by decide +kernel
theorem dX3_init_9 : decode cX3_init 9 = .ok (.aload_n 0, 1) := by decide +kernel
theorem dX3_init_10 : decode cX3_init 10 = .ok (.bipush (-9), 2) := by decide +kernel
theorem dX3_init_12 : decode cX3_init 12 = .ok (.putfield 15, 3) := by decide +kernel
theorem dX3_init_15 : decode cX3_init 15 = .ok (.aload_n 0, 1) := by decide +kernel
theorem dX3_init_16 : decode cX3_init 16 = .ok (.iconst 0, 1) := by decide +kernel
theorem dX3_init_17 : decode cX3_init 17 = .ok (.putfield 18, 3) := by decide +kernel
theorem dX3_init_20 : decode cX3_init 20 = .ok (.aload_n 0, 1) := by decide +kernel
theorem dX3_init_21 : decode cX3_init 21 = .ok (.bipush (-9), 2) := by decide +kernel
theorem dX3_init_23 : decode cX3_init 23 = .ok (.putfield 21, 3) := by decide +kernel
theorem dX3_init_26 : decode cX3_init 26 = .ok (.aload_n 0, 1) := by decide +kernel
theorem dX3_init_27 : decode cX3_init 27 = .ok (.bipush (-9), 2) := by decide +kernel
theorem dX3_init_29 : decode cX3_init 29 = .ok (.putfield 24, 3) := by decide +kernel
theorem dX3_init_32 : decode cX3_init 32 = .ok (.aload_n 0, 1) := by decide +kernel
theorem dX3_init_33 : decode cX3_init 33 = .ok (.iconst 0, 1) := by decide +kernel
theorem dX3_init_34 : decode cX3_init 34 = .ok (.putfield 27, 3) := by decide +kernel
theorem dX3_init_37 : decode cX3_init 37 = .ok (.aload_n 0, 1) := by decide +kernel
theorem dX3_init_38 : decode cX3_init 38 = .ok (.iconst 0, 1) := by decide +kernel
theorem dX3_init_39 : decode cX3_init 39 = .ok (.putfield 30, 3) := by decide +kernel
theorem dX3_init_42 : decode cX3_init 42 = .ok (.return_, 1) := by decide +kernel
theorem dX3_look_0 : decode cX3_look 0 = .ok (.aload_n 0, 1) := by decide +kernel
theorem dX3_look_1 : decode cX3_look 1 = .ok (.iconst 0, 1) := by decide +kernel
theorem dX3_look_2 : decode cX3_look 2 = .ok (.putfield 9, 3) := by decide +kernel
theorem dX3_look_5 : decode cX3_look 5 = .ok (.aload_n 0, 1) := by decide +kernel
theorem dX3_look_6 : decode cX3_look 6 = .ok (.bipush (-9), 2) := by decide +kernel
theorem dX3_look_8 : decode cX3_look 8 = .ok (.putfield 15, 3) := by decide +kernel
theorem dX3_look_11 : decode cX3_look 11 = .ok (.aload_n 0, 1) := by decide +kernel
theorem dX3_look_12 : decode cX3_look 12 = .ok (.iconst 0, 1) := by decide +kernel
theorem dX3_look_13 : decode cX3_look 13 = .ok (.putfield 18, 3) := by decide +kernel
theorem dX3_look_16 : decode cX3_look 16 = .ok (.aload_n 0, 1) := by decide +kernel
theorem dX3_look_17 : decode cX3_look 17 = .ok (.bipush (-9), 2) := by decide +kernel
theorem dX3_look_19 : decode cX3_look 19 = .ok (.putfield 21, 3) := by decide +kernel
theorem dX3_look_22 : decode cX3_look 22 = .ok (.aload_n 0, 1) := by decide +kernel
theorem dX3_look_23 : decode cX3_look 23 = .ok (.bipush (-9), 2) := by decide +kernel
theorem dX3_look_25 : decode cX3_look 25 = .ok (.putfield 24, 3) := by decide +kernel
theorem dX3_look_28 : decode cX3_look 28 = .ok (.iconst 0, 1) := by decide +kernel
theorem dX3_look_29 : decode cX3_look 29 = .ok (.istore_n 3, 1) := by decide +kernel
theorem dX3_look_30 : decode cX3_look 30 = .ok (.iload_n 3, 1) := by decide +kernel
theorem dX3_look_31 : decode cX3_look 31 = .ok (.aload_n 1, 1) := by decide +kernel
theorem dX3_look_32 : decode cX3_look 32 = .ok (.invokevirtual 33, 3) := by decide +kernel
theorem dX3_look_35 : decode cX3_look 35 = .ok (.if_icmp .ge 70, 3) := by decide +kernel
theorem dX3_look_38 : decode cX3_look 38 = .ok (.aload_n 1, 1) := by decide +kernel
theorem dX3_look_39 : decode cX3_look 39 = .ok (.iload_n 3, 1) := by decide +kernel
theorem dX3_look_40 : decode cX3_look 40 = .ok (.invokevirtual 39, 3) := by decide +kernel
theorem dX3_look_43 : decode cX3_look 43 = .ok (.ifCond .eq 56, 3) := by decide +kernel
theorem dX3_look_46 : decode cX3_look 46 = .ok (.aload_n 1, 1) := by decide +kernel
theorem dX3_look_47 : decode cX3_look 47 = .ok (.iload_n 3, 1) := by decide +kernel
theorem dX3_look_48 : decode cX3_look 48 = .ok (.invokevirtual 43, 3) := by decide +kernel
theorem dX3_look_51 : decode cX3_look 51 = .ok (.iload_n 2, 1) := by decide +kernel
theorem dX3_look_52 : decode cX3_look 52 = .ok (.if_icmp .ne 47, 3) := by decide +kernel
theorem dX3_look_55 : decode cX3_look 55 = .ok (.aload_n 0, 1) := by decide +kernel
theorem dX3_look_56 : decode cX3_look 56 = .ok (.dup, 1) := by decide +kernel
theorem dX3_look_57 : decode cX3_look 57 = .ok (.getfield 9, 3) := by decide +kernel
theorem dX3_look_60 : decode cX3_look 60 = .ok (.iconst 1, 1) := by decide +kernel
theorem dX3_look_61 : decode cX3_look 61 = .ok (.iload_n 3, 1) := by decide +kernel
theorem dX3_look_62 : decode cX3_look 62 = .ok (.ishl, 1) := by decide +kernel
theorem dX3_look_63 : decode cX3_look 63 = .ok (.ior, 1) := by decide +kernel
theorem dX3_look_64 : decode cX3_look 64 = .ok (.putfield 9, 3) := by decide +kernel
theorem dX3_look_67 : decode cX3_look 67 = .ok (.aload_n 0, 1) := by decide +kernel
theorem dX3_look_68 : decode cX3_look 68 = .ok (.aload_n 0, 1) := by decide +kernel
theorem dX3_look_69 : decode cX3_look 69 = .ok (.getfield 15, 3) := by decide +kernel
theorem dX3_look_72 : decode cX3_look 72 = .ok (.aload_n 1, 1) := by decide +kernel
theorem dX3_look_73 : decode cX3_look 73 = .ok (.iload_n 3, 1) := by decide +kernel
theorem dX3_look_74 : decode cX3_look 74 = .ok (.invokevirtual 47, 3) := by decide +kernel
theorem dX3_look_77 : decode cX3_look 77 = .ok (.invokestatic 50, 3) := by decide +kernel
theorem dX3_look_80 : decode cX3_look 80 = .ok (.putfield 15, 3) := by decide +kernel
theorem dX3_look_83 : decode cX3_look 83 = .ok (.aload_n 0, 1) := by decide +kernel
theorem dX3_look_84 : decode cX3_look 84 = .ok (.aload_n 0, 1) := by decide +kernel
theorem dX3_look_85 : decode cX3_look 85 = .ok (.getfield 21, 3) := by decide +kernel
theorem dX3_look_88 : decode cX3_look 88 = .ok (.aload_n 1, 1) := by decide +kernel
theorem dX3_look_89 : decode cX3_look 89 = .ok (.iload_n 3, 1) := by decide +kernel
theorem dX3_look_90 : decode cX3_look 90 = .ok (.invokevirtual 56, 3) := by decide +kernel
theorem dX3_look_93 : decode cX3_look 93 = .ok (.invokestatic 50, 3) := by decide +kernel
theorem dX3_look_96 : decode cX3_look 96 = .ok (.putfield 21, 3) := by decide +kernel
theorem dX3_look_99 : decode cX3_look 99 = .ok (.iinc 3 1, 3) := by decide +kernel
theorem dX3_look_102 : decode cX3_look 102 = .ok (.goto (-72), 3) := by decide +kernel
theorem dX3_look_105 : decode cX3_look 105 = .ok (.aload_n 0, 1) := by decide +kernel
theorem dX3_look_106 : decode cX3_look 106 = .ok (.getfield 9, 3) := by decide +kernel
theorem dX3_look_109 : decode cX3_look 109 = .ok (.ifCond .eq 48, 3) := by decide +kernel
theorem dX3_look_112 : decode cX3_look 112 = .ok (.aload_n 0, 1) := by decide +kernel
theorem dX3_look_113 : decode cX3_look 113 = .ok (.aload_n 1, 1) := by decide +kernel
theorem dX3_look_114 : decode cX3_look 114 = .ok (.aload_n 0, 1) := by decide +kernel
theorem dX3_look_115 : decode cX3_look 115 = .ok (.getfield 15, 3) := by decide +kernel
theorem dX3_look_118 : decode cX3_look 118 = .ok (.aload_n 0, 1) := by decide +kernel
theorem dX3_look_119 : decode cX3_look 119 = .ok (.getfield 9, 3) := by decide +kernel
theorem dX3_look_122 : decode cX3_look 122 = .ok (.invokevirtual 59, 3) := by decide +kernel
theorem dX3_look_125 : decode cX3_look 125 = .ok (.putfield 18, 3) := by decide +kernel
theorem dX3_look_128 : decode cX3_look 128 = .ok (.aload_n 0, 1) := by decide +kernel
theorem dX3_look_129 : decode cX3_look 129 = .ok (.aload_n 1, 1) := by decide +kernel
theorem dX3_look_130 : decode cX3_look 130 = .ok (.aload_n 0, 1) := by decide +kernel
theorem dX3_look_131 : decode cX3_look 131 = .ok (.getfield 15, 3) := by decide +kernel
theorem dX3_look_134 : decode cX3_look 134 = .ok (.invokevirtual 62, 3) := by decide +kernel
theorem dX3_look_137 : decode cX3_look 137 = .ok (.putfield 27, 3) := by decide +kernel
theorem dX3_look_140 : decode cX3_look 140 = .ok (.aload_n 0, 1) := by decide +kernel
theorem dX3_look_141 : decode cX3_look 141 = .ok (.aload_n 1, 1) := by decide +kernel
theorem dX3_look_142 : decode cX3_look 142 = .ok (.aload_n 0, 1) := by decide +kernel
theorem dX3_look_143 : decode cX3_look 143 = .ok (.getfield 15, 3) := by decide +kernel
theorem dX3_look_146 : decode cX3_look 146 = .ok (.invokevirtual 65, 3) := by decide +kernel
theorem dX3_look_149 : decode cX3_look 149 = .ok (.putfield 30, 3) := by decide +kernel
theorem dX3_look_152 : decode cX3_look 152 = .ok (.aload_n 0, 1) := by decide +kernel
theorem dX3_look_153 : decode cX3_look 153 = .ok (.aload_n 1, 1) := by decide +kernel
theorem dX3_look_154 : decode cX3_look 154 = .ok (.invokevirtual 68, 3) := by decide +kernel
theorem dX3_look_157 : decode cX3_look 157 = .ok (.return_, 1) := by decide +kernel
theorem dX3_findValue_0 : decode cX3_findValue 0 = .ok (.iconst 0, 1) := by decide +kernel
theorem dX3_findValue_1 : decode cX3_findValue 1 = .ok (.istore_n 2, 1) := by decide +kernel
theorem dX3_findValue_2 : decode cX3_findValue 2 = .ok (.iload_n 2, 1) := by decide +kernel
theorem dX3_findValue_3 : decode cX3_findValue 3 = .ok (.aload_n 1, 1) := by decide +kernel
theorem dX3_findValue_4 : decode cX3_findValue 4 = .ok (.invokevirtual 33, 3) := by decide +kernel
theorem dX3_findValue_7 : decode cX3_findValue 7 = .ok (.if_icmp .ge 51, 3) := by decide +kernel
theorem dX3_findValue_10 : decode cX3_findValue 10 = .ok (.aload_n 0, 1) := by decide +kernel
theorem dX3_findValue_11 : decode cX3_findValue 11 = .ok (.getfield 24, 3) := by decide +kernel
theorem dX3_findValue_14 : decode cX3_findValue 14 = .ok (.bipush (-9), 2) := by decide +kernel
theorem dX3_findValue_16 : decode cX3_findValue 16 = .ok (.if_icmp .ne 42, 3) := by decide +kernel
theorem dX3_findValue_19 : decode cX3_findValue 19 = .ok (.aload_n 0, 1) := by decide +kernel
theorem dX3_findValue_20 : decode cX3_findValue 20 = .ok (.getfield 9, 3) := by decide +kernel
theorem dX3_findValue_23 : decode cX3_findValue 23 = .ok (.iload_n 2, 1) := by decide +kernel
theorem dX3_findValue_24 : decode cX3_findValue 24 = .ok (.ishr, 1) := by decide +kernel
theorem dX3_findValue_25 : decode cX3_findValue 25 = .ok (.iconst 1, 1) := by decide +kernel
theorem dX3_findValue_26 : decode cX3_findValue 26 = .ok (.iand, 1) := by decide +kernel
theorem dX3_findValue_27 : decode cX3_findValue 27 = .ok (.iconst 1, 1) := by decide +kernel
theorem dX3_findValue_28 : decode cX3_findValue 28 = .ok (.if_icmp .ne 24, 3) := by decide +kernel
theorem dX3_findValue_31 : decode cX3_findValue 31 = .ok (.aload_n 1, 1) := by decide +kernel
theorem dX3_findValue_32 : decode cX3_findValue 32 = .ok (.iload_n 2, 1) := by decide +kernel
theorem dX3_findValue_33 : decode cX3_findValue 33 = .ok (.invokevirtual 56, 3) := by decide +kernel
theorem dX3_findValue_36 : decode cX3_findValue 36 = .ok (.aload_n 0, 1) := by decide +kernel
theorem dX3_findValue_37 : decode cX3_findValue 37 = .ok (.getfield 21, 3) := by decide +kernel
theorem dX3_findValue_40 : decode cX3_findValue 40 = .ok (.if_icmp .ne 12, 3) := by decide +kernel
theorem dX3_findValue_43 : decode cX3_findValue 43 = .ok (.aload_n 0, 1) := by decide +kernel
theorem dX3_findValue_44 : decode cX3_findValue 44 = .ok (.aload_n 1, 1) := by decide +kernel
theorem dX3_findValue_45 : decode cX3_findValue 45 = .ok (.iload_n 2, 1) := by decide +kernel
theorem dX3_findValue_46 : decode cX3_findValue 46 = .ok (.invokevirtual 72, 3) := by decide +kernel
theorem dX3_findValue_49 : decode cX3_findValue 49 = .ok (.putfield 24, 3) := by decide +kernel
theorem dX3_findValue_52 : decode cX3_findValue 52 = .ok (.iinc 2 1, 3) := by decide +kernel
theorem dX3_findValue_55 : decode cX3_findValue 55 = .ok (.goto (-53), 3) := by decide +kernel
theorem dX3_findValue_58 : decode cX3_findValue 58 = .ok (.return_, 1) := by decide +kernel
theorem dX3_refusal_0 : decode cX3_refusal 0 = .ok (.aload_n 0, 1) := by decide +kernel
theorem dX3_refusal_1 : decode cX3_refusal 1 = .ok (.getfield 9, 3) := by decide +kernel
theorem dX3_refusal_4 : decode cX3_refusal 4 = .ok (.ifCond .eq 11, 3) := by decide +kernel
theorem dX3_refusal_7 : decode cX3_refusal 7 = .ok (.aload_n 0, 1) := by decide +kernel
theorem dX3_refusal_8 : decode cX3_refusal 8 = .ok (.getfield 18, 3) := by decide +kernel
theorem dX3_refusal_11 : decode cX3_refusal 11 = .ok (.iload_n 1, 1) := by decide +kernel
theorem dX3_refusal_12 : decode cX3_refusal 12 = .ok (.if_icmp .ge 6, 3) := by decide +kernel
theorem dX3_refusal_15 : decode cX3_refusal 15 = .ok (.bipush (-4), 2) := by decide +kernel
theorem dX3_refusal_17 : decode cX3_refusal 17 = .ok (.ireturn, 1) := by decide +kernel
theorem dX3_refusal_18 : decode cX3_refusal 18 = .ok (.iload_n 2, 1) := by decide +kernel
theorem dX3_refusal_19 : decode cX3_refusal 19 = .ok (.ifCond .eq 17, 3) := by decide +kernel
theorem dX3_refusal_22 : decode cX3_refusal 22 = .ok (.aload_n 0, 1) := by decide +kernel
theorem dX3_refusal_23 : decode cX3_refusal 23 = .ok (.getfield 24, 3) := by decide +kernel
theorem dX3_refusal_26 : decode cX3_refusal 26 = .ok (.bipush (-9), 2) := by decide +kernel
theorem dX3_refusal_28 : decode cX3_refusal 28 = .ok (.if_icmp .ne 8, 3) := by decide +kernel
theorem dX3_refusal_31 : decode cX3_refusal 31 = .ok (.bipush (-5), 2) := by decide +kernel
theorem dX3_refusal_33 : decode cX3_refusal 33 = .ok (.goto 4, 3) := by decide +kernel
theorem dX3_refusal_36 : decode cX3_refusal 36 = .ok (.iconst 0, 1) := by decide +kernel
theorem dX3_refusal_37 : decode cX3_refusal 37 = .ok (.ireturn, 1) := by decide +kernel
theorem dX3_can_0 : decode cX3_can 0 = .ok (.aload_n 0, 1) := by decide +kernel
theorem dX3_can_1 : decode cX3_can 1 = .ok (.iload_n 1, 1) := by decide +kernel
theorem dX3_can_2 : decode cX3_can 2 = .ok (.iload_n 2, 1) := by decide +kernel
theorem dX3_can_3 : decode cX3_can 3 = .ok (.invokevirtual 75, 3) := by decide +kernel
theorem dX3_can_6 : decode cX3_can 6 = .ok (.ifCond .ne 7, 3) := by decide +kernel
theorem dX3_can_9 : decode cX3_can 9 = .ok (.iconst 1, 1) := by decide +kernel
theorem dX3_can_10 : decode cX3_can 10 = .ok (.goto 4, 3) := by decide +kernel
theorem dX3_can_13 : decode cX3_can 13 = .ok (.iconst 0, 1) := by decide +kernel
theorem dX3_can_14 : decode cX3_can 14 = .ok (.ireturn, 1) := by decide +kernel
theorem dX4_init_0 : decode cX4_init 0 = .ok (.aload_n 0, 1) := by decide +kernel
theorem dX4_init_1 : decode cX4_init 1 = .ok (.invokespecial 3, 3) := by decide +kernel
theorem dX4_init_4 : decode cX4_init 4 = .ok (.aload_n 0, 1) := by decide +kernel
theorem dX4_init_5 : decode cX4_init 5 = .ok (.sipush 1040, 3) := by decide +kernel
theorem dX4_init_8 : decode cX4_init 8 = .ok (.newarray .int, 2) := by decide +kernel
theorem dX4_init_10 : decode cX4_init 10 = .ok (.putfield 11, 3) := by decide +kernel
theorem dX4_init_13 : decode cX4_init 13 = .ok (.aload_n 0, 1) := by decide +kernel
theorem dX4_init_14 : decode cX4_init 14 = .ok (.iconst 0, 1) := by decide +kernel
theorem dX4_init_15 : decode cX4_init 15 = .ok (.putfield 17, 3) := by decide +kernel
theorem dX4_init_18 : decode cX4_init 18 = .ok (.aload_n 0, 1) := by decide +kernel
theorem dX4_init_19 : decode cX4_init 19 = .ok (.iconst 0, 1) := by decide +kernel
theorem dX4_init_20 : decode cX4_init 20 = .ok (.putfield 21, 3) := by decide +kernel
theorem dX4_init_23 : decode cX4_init 23 = .ok (.return_, 1) := by decide +kernel
theorem dX4_remember_0 : decode cX4_remember 0 = .ok (.aload_n 1, 1) := by decide +kernel
theorem dX4_remember_1 : decode cX4_remember 1 = .ok (.aload_n 0, 1) := by decide +kernel
theorem dX4_remember_2 : decode cX4_remember 2 = .ok (.getfield 11, 3) := by decide +kernel
theorem dX4_remember_5 : decode cX4_remember 5 = .ok (.aload_n 0, 1) := by decide +kernel
theorem dX4_remember_6 : decode cX4_remember 6 = .ok (.getfield 17, 3) := by decide +kernel
theorem dX4_remember_9 : decode cX4_remember 9 = .ok (.invokevirtual 24, 3) := by decide +kernel
theorem dX4_remember_12 : decode cX4_remember 12 = .ok (.aload_n 0, 1) := by decide +kernel
theorem dX4_remember_13 : decode cX4_remember 13 = .ok (.aload_n 0, 1) := by decide +kernel
theorem dX4_remember_14 : decode cX4_remember 14 = .ok (.getfield 17, 3) := by decide +kernel
theorem dX4_remember_17 : decode cX4_remember 17 = .ok (.iconst 1, 1) := by decide +kernel
theorem dX4_remember_18 : decode cX4_remember 18 = .ok (.iadd, 1) := by decide +kernel
theorem dX4_remember_19 : decode cX4_remember 19 = .ok (.bipush 10, 2) := by decide +kernel
theorem dX4_remember_21 : decode cX4_remember 21 = .ok (.if_icmp .ge 12, 3) := by decide +kernel
theorem dX4_remember_24 : decode cX4_remember 24 = .ok (.aload_n 0, 1) := by decide +kernel
theorem dX4_remember_25 : decode cX4_remember 25 = .ok (.getfield 17, 3) := by decide +kernel
theorem dX4_remember_28 : decode cX4_remember 28 = .ok (.iconst 1, 1) := by decide +kernel
theorem dX4_remember_29 : decode cX4_remember 29 = .ok (.iadd, 1) := by decide +kernel
theorem dX4_remember_30 : decode cX4_remember 30 = .ok (.goto 4, 3) := by decide +kernel
theorem dX4_remember_33 : decode cX4_remember 33 = .ok (.iconst 0, 1) := by decide +kernel
theorem dX4_remember_34 : decode cX4_remember 34 = .ok (.putfield 17, 3) := by decide +kernel
theorem dX4_remember_37 : decode cX4_remember 37 = .ok (.aload_n 0, 1) := by decide +kernel
theorem dX4_remember_38 : decode cX4_remember 38 = .ok (.aload_n 0, 1) := by decide +kernel
theorem dX4_remember_39 : decode cX4_remember 39 = .ok (.getfield 21, 3) := by decide +kernel
theorem dX4_remember_42 : decode cX4_remember 42 = .ok (.iconst 1, 1) := by decide +kernel
theorem dX4_remember_43 : decode cX4_remember 43 = .ok (.iadd, 1) := by decide +kernel
theorem dX4_remember_44 : decode cX4_remember 44 = .ok (.bipush 10, 2) := by decide +kernel
theorem dX4_remember_46 : decode cX4_remember 46 = .ok (.invokestatic 28, 3) := by decide +kernel
theorem dX4_remember_49 : decode cX4_remember 49 = .ok (.putfield 21, 3) := by decide +kernel
theorem dX4_remember_52 : decode cX4_remember 52 = .ok (.return_, 1) := by decide +kernel
theorem dX4_restore_0 : decode cX4_restore 0 = .ok (.aload_n 0, 1) := by decide +kernel
theorem dX4_restore_1 : decode cX4_restore 1 = .ok (.getfield 21, 3) := by decide +kernel
theorem dX4_restore_4 : decode cX4_restore 4 = .ok (.ifCond .ne 5, 3) := by decide +kernel
theorem dX4_restore_7 : decode cX4_restore 7 = .ok (.iconst 0, 1) := by decide +kernel
theorem dX4_restore_8 : decode cX4_restore 8 = .ok (.ireturn, 1) := by decide +kernel
theorem dX4_restore_9 : decode cX4_restore 9 = .ok (.aload_n 0, 1) := by decide +kernel
theorem dX4_restore_10 : decode cX4_restore 10 = .ok (.aload_n 0, 1) := by decide +kernel
theorem dX4_restore_11 : decode cX4_restore 11 = .ok (.getfield 17, 3) := by decide +kernel
theorem dX4_restore_14 : decode cX4_restore 14 = .ok (.ifCond .le 12, 3) := by decide +kernel
theorem dX4_restore_17 : decode cX4_restore 17 = .ok (.aload_n 0, 1) := by decide +kernel
theorem dX4_restore_18 : decode cX4_restore 18 = .ok (.getfield 17, 3) := by decide +kernel
theorem dX4_restore_21 : decode cX4_restore 21 = .ok (.iconst 1, 1) := by decide +kernel
theorem dX4_restore_22 : decode cX4_restore 22 = .ok (.isub, 1) := by decide +kernel
theorem dX4_restore_23 : decode cX4_restore 23 = .ok (.goto 5, 3) := by decide +kernel
theorem dX4_restore_26 : decode cX4_restore 26 = .ok (.bipush 9, 2) := by decide +kernel
theorem dX4_restore_28 : decode cX4_restore 28 = .ok (.putfield 17, 3) := by decide +kernel
theorem dX4_restore_31 : decode cX4_restore 31 = .ok (.aload_n 0, 1) := by decide +kernel
theorem dX4_restore_32 : decode cX4_restore 32 = .ok (.dup, 1) := by decide +kernel
theorem dX4_restore_33 : decode cX4_restore 33 = .ok (.getfield 21, 3) := by decide +kernel
theorem dX4_restore_36 : decode cX4_restore 36 = .ok (.iconst 1, 1) := by decide +kernel
theorem dX4_restore_37 : decode cX4_restore 37 = .ok (.isub, 1) := by decide +kernel
theorem dX4_restore_38 : decode cX4_restore 38 = .ok (.putfield 21, 3) := by decide +kernel
theorem dX4_restore_41 : decode cX4_restore 41 = .ok (.aload_n 1, 1) := by decide +kernel
theorem dX4_restore_42 : decode cX4_restore 42 = .ok (.aload_n 0, 1) := by decide +kernel
theorem dX4_restore_43 : decode cX4_restore 43 = .ok (.getfield 11, 3) := by decide +kernel
theorem dX4_restore_46 : decode cX4_restore 46 = .ok (.aload_n 0, 1) := by decide +kernel
theorem dX4_restore_47 : decode cX4_restore 47 = .ok (.getfield 17, 3) := by decide +kernel
theorem dX4_restore_50 : decode cX4_restore 50 = .ok (.invokevirtual 34, 3) := by decide +kernel
theorem dX4_restore_53 : decode cX4_restore 53 = .ok (.iconst 1, 1) := by decide +kernel
theorem dX4_restore_54 : decode cX4_restore 54 = .ok (.ireturn, 1) := by decide +kernel
theorem dX5_init_0 : decode cX5_init 0 = .ok (.aload_n 0, 1) := by decide +kernel
theorem dX5_init_1 : decode cX5_init 1 = .ok (.invokespecial 3, 3) := by decide +kernel
theorem dX5_init_4 : decode cX5_init 4 = .ok (.aload_n 0, 1) := by decide +kernel
theorem dX5_init_5 : decode cX5_init 5 = .ok (.bipush (-9), 2) := by decide +kernel
theorem dX5_init_7 : decode cX5_init 7 = .ok (.putfield 9, 3) := by decide +kernel
theorem dX5_init_10 : decode cX5_init 10 = .ok (.aload_n 0, 1) := by decide +kernel
theorem dX5_init_11 : decode cX5_init 11 = .ok (.bipush (-9), 2) := by decide +kernel
theorem dX5_init_13 : decode cX5_init 13 = .ok (.putfield 15, 3) := by decide +kernel
theorem dX5_init_16 : decode cX5_init 16 = .ok (.aload_n 0, 1) := by decide +kernel
theorem dX5_init_17 : decode cX5_init 17 = .ok (.bipush (-9), 2) := by decide +kernel
theorem dX5_init_19 : decode cX5_init 19 = .ok (.putfield 18, 3) := by decide +kernel
theorem dX5_init_22 : decode cX5_init 22 = .ok (.return_, 1) := by decide +kernel
theorem dX5_run_0 : decode cX5_run 0 = .ok (.aload_n 0, 1) := by decide +kernel
theorem dX5_run_1 : decode cX5_run 1 = .ok (.bipush (-9), 2) := by decide +kernel
theorem dX5_run_3 : decode cX5_run 3 = .ok (.putfield 9, 3) := by decide +kernel
theorem dX5_run_6 : decode cX5_run 6 = .ok (.iconst 1, 1) := by decide +kernel
theorem dX5_run_7 : decode cX5_run 7 = .ok (.istore 5, 2) := by decide +kernel
theorem dX5_run_9 : decode cX5_run 9 = .ok (.iload 5, 2) := by decide +kernel
theorem dX5_run_11 : decode cX5_run 11 = .ok (.iconst 1, 1) := by decide +kernel
theorem dX5_run_12 : decode cX5_run 12 = .ok (.iconst 2, 1) := by decide +kernel
theorem dX5_run_13 : decode cX5_run 13 = .ok (.iload_n 2, 1) := by decide +kernel
theorem dX5_run_14 : decode cX5_run 14 = .ok (.imul, 1) := by decide +kernel
theorem dX5_run_15 : decode cX5_run 15 = .ok (.ishl, 1) := by decide +kernel
theorem dX5_run_16 : decode cX5_run 16 = .ok (.if_icmp .ge 58, 3) := by decide +kernel
theorem dX5_run_19 : decode cX5_run 19 = .ok (.iload 5, 2) := by decide +kernel
theorem dX5_run_21 : decode cX5_run 21 = .ok (.iload_n 2, 1) := by decide +kernel
theorem dX5_run_22 : decode cX5_run 22 = .ok (.invokestatic 21, 3) := by decide +kernel
theorem dX5_run_25 : decode cX5_run 25 = .ok (.ifCond .eq 43, 3) := by decide +kernel
theorem dX5_run_28 : decode cX5_run 28 = .ok (.aload_n 1, 1) := by decide +kernel
theorem dX5_run_29 : decode cX5_run 29 = .ok (.invokevirtual 25, 3) := by decide +kernel
theorem dX5_run_32 : decode cX5_run 32 = .ok (.iconst 0, 1) := by decide +kernel
theorem dX5_run_33 : decode cX5_run 33 = .ok (.istore 6, 2) := by decide +kernel
theorem dX5_run_35 : decode cX5_run 35 = .ok (.iload 6, 2) := by decide +kernel
theorem dX5_run_37 : decode cX5_run 37 = .ok (.iload_n 2, 1) := by decide +kernel
theorem dX5_run_38 : decode cX5_run 38 = .ok (.if_icmp .ge 21, 3) := by decide +kernel
theorem dX5_run_41 : decode cX5_run 41 = .ok (.aload_n 1, 1) := by decide +kernel
theorem dX5_run_42 : decode cX5_run 42 = .ok (.iload 5, 2) := by decide +kernel
theorem dX5_run_44 : decode cX5_run 44 = .ok (.iload 6, 2) := by decide +kernel
theorem dX5_run_46 : decode cX5_run 46 = .ok (.invokestatic 30, 3) := by decide +kernel
theorem dX5_run_49 : decode cX5_run 49 = .ok (.iload_n 3, 1) := by decide +kernel
theorem dX5_run_50 : decode cX5_run 50 = .ok (.invokevirtual 34, 3) := by decide +kernel
theorem dX5_run_53 : decode cX5_run 53 = .ok (.iinc 6 1, 3) := by decide +kernel
theorem dX5_run_56 : decode cX5_run 56 = .ok (.goto (-21), 3) := by decide +kernel
theorem dX5_run_59 : decode cX5_run 59 = .ok (.aload_n 0, 1) := by decide +kernel
theorem dX5_run_60 : decode cX5_run 60 = .ok (.aload_n 1, 1) := by decide +kernel
theorem dX5_run_61 : decode cX5_run 61 = .ok (.iload 5, 2) := by decide +kernel
theorem dX5_run_63 : decode cX5_run 63 = .ok (.iload 4, 2) := by decide +kernel
theorem dX5_run_65 : decode cX5_run 65 = .ok (.invokevirtual 38, 3) := by decide +kernel
theorem dX5_run_68 : decode cX5_run 68 = .ok (.iinc 5 1, 3) := by decide +kernel
theorem dX5_run_71 : decode cX5_run 71 = .ok (.goto (-62), 3) := by decide +kernel
theorem dX5_run_74 : decode cX5_run 74 = .ok (.return_, 1) := by decide +kernel
theorem dX5_isFalling_0 : decode cX5_isFalling 0 = .ok (.iconst 1, 1) := by decide +kernel
theorem dX5_isFalling_1 : decode cX5_isFalling 1 = .ok (.istore_n 2, 1) := by decide +kernel
theorem dX5_isFalling_2 : decode cX5_isFalling 2 = .ok (.iload_n 2, 1) := by decide +kernel
theorem dX5_isFalling_3 : decode cX5_isFalling 3 = .ok (.iload_n 1, 1) := by decide +kernel
theorem dX5_isFalling_4 : decode cX5_isFalling 4 = .ok (.if_icmp .ge 26, 3) := by decide +kernel
theorem dX5_isFalling_7 : decode cX5_isFalling 7 = .ok (.iload_n 0, 1) := by decide +kernel
theorem dX5_isFalling_8 : decode cX5_isFalling 8 = .ok (.iload_n 2, 1) := by decide +kernel
theorem dX5_isFalling_9 : decode cX5_isFalling 9 = .ok (.invokestatic 30, 3) := by decide +kernel
theorem dX5_isFalling_12 : decode cX5_isFalling 12 = .ok (.iload_n 0, 1) := by decide +kernel
theorem dX5_isFalling_13 : decode cX5_isFalling 13 = .ok (.iload_n 2, 1) := by decide +kernel
theorem dX5_isFalling_14 : decode cX5_isFalling 14 = .ok (.iconst 1, 1) := by decide +kernel
theorem dX5_isFalling_15 : decode cX5_isFalling 15 = .ok (.isub, 1) := by decide +kernel
theorem dX5_isFalling_16 : decode cX5_isFalling 16 = .ok (.invokestatic 30, 3) := by decide +kernel
theorem dX5_isFalling_19 : decode cX5_isFalling 19 = .ok (.if_icmp .le 5, 3) := by decide +kernel
theorem dX5_isFalling_22 : decode cX5_isFalling 22 = .ok (.iconst 0, 1) := by decide +kernel
theorem dX5_isFalling_23 : decode cX5_isFalling 23 = .ok (.ireturn, 1) := by decide +kernel
theorem dX5_isFalling_24 : decode cX5_isFalling 24 = .ok (.iinc 2 1, 3) := by decide +kernel
theorem dX5_isFalling_27 : decode cX5_isFalling 27 = .ok (.goto (-25), 3) := by decide +kernel
theorem dX5_isFalling_30 : decode cX5_isFalling 30 = .ok (.iconst 1, 1) := by decide +kernel
theorem dX5_isFalling_31 : decode cX5_isFalling 31 = .ok (.ireturn, 1) := by decide +kernel
theorem dX5_votesIn_0 : decode cX5_votesIn 0 = .ok (.iload_n 0, 1) := by decide +kernel
theorem dX5_votesIn_1 : decode cX5_votesIn 1 = .ok (.iconst 2, 1) := by decide +kernel
theorem dX5_votesIn_2 : decode cX5_votesIn 2 = .ok (.iload_n 1, 1) := by decide +kernel
theorem dX5_votesIn_3 : decode cX5_votesIn 3 = .ok (.imul, 1) := by decide +kernel
theorem dX5_votesIn_4 : decode cX5_votesIn 4 = .ok (.ishr, 1) := by decide +kernel
theorem dX5_votesIn_5 : decode cX5_votesIn 5 = .ok (.iconst 3, 1) := by decide +kernel
theorem dX5_votesIn_6 : decode cX5_votesIn 6 = .ok (.iand, 1) := by decide +kernel
theorem dX5_votesIn_7 : decode cX5_votesIn 7 = .ok (.ireturn, 1) := by decide +kernel
theorem dX5_tryWrites_0 : decode cX5_tryWrites 0 = .ok (.aload_n 1, 1) := by decide +kernel
theorem dX5_tryWrites_1 : decode cX5_tryWrites 1 = .ok (.getfield 42, 3) := by decide +kernel
theorem dX5_tryWrites_4 : decode cX5_tryWrites 4 = .ok (.iconst 2, 1) := by decide +kernel
theorem dX5_tryWrites_5 : decode cX5_tryWrites 5 = .ok (.idiv, 1) := by decide +kernel
theorem dX5_tryWrites_6 : decode cX5_tryWrites 6 = .ok (.iconst 1, 1) := by decide +kernel
theorem dX5_tryWrites_7 : decode cX5_tryWrites 7 = .ok (.iadd, 1) := by decide +kernel
theorem dX5_tryWrites_8 : decode cX5_tryWrites 8 = .ok (.istore 4, 2) := by decide +kernel
theorem dX5_tryWrites_10 : decode cX5_tryWrites 10 = .ok (.iload 4, 2) := by decide +kernel
theorem dX5_tryWrites_12 : decode cX5_tryWrites 12 = .ok (.aload_n 1, 1) := by decide +kernel
theorem dX5_tryWrites_13 : decode cX5_tryWrites 13 = .ok (.getfield 42, 3) := by decide +kernel
theorem dX5_tryWrites_16 : decode cX5_tryWrites 16 = .ok (.if_icmp .gt 68, 3) := by decide +kernel
theorem dX5_tryWrites_19 : decode cX5_tryWrites 19 = .ok (.aload_n 1, 1) := by decide +kernel
theorem dX5_tryWrites_20 : decode cX5_tryWrites 20 = .ok (.aload_n 1, 1) := by decide +kernel
theorem dX5_tryWrites_21 : decode cX5_tryWrites 21 = .ok (.getfield 42, 3) := by decide +kernel
theorem dX5_tryWrites_24 : decode cX5_tryWrites 24 = .ok (.iconst 1, 1) := by decide +kernel
theorem dX5_tryWrites_25 : decode cX5_tryWrites 25 = .ok (.iadd, 1) := by decide +kernel
theorem dX5_tryWrites_26 : decode cX5_tryWrites 26 = .ok (.iload 4, 2) := by decide +kernel
theorem dX5_tryWrites_28 : decode cX5_tryWrites 28 = .ok (.isub, 1) := by decide +kernel
theorem dX5_tryWrites_29 : decode cX5_tryWrites 29 = .ok (.invokevirtual 45, 3) := by decide +kernel
theorem dX5_tryWrites_32 : decode cX5_tryWrites 32 = .ok (.istore 5, 2) := by decide +kernel
theorem dX5_tryWrites_34 : decode cX5_tryWrites 34 = .ok (.iload_n 3, 1) := by decide +kernel
theorem dX5_tryWrites_35 : decode cX5_tryWrites 35 = .ok (.iload 5, 2) := by decide +kernel
theorem dX5_tryWrites_37 : decode cX5_tryWrites 37 = .ok (.imul, 1) := by decide +kernel
theorem dX5_tryWrites_38 : decode cX5_tryWrites 38 = .ok (.bipush 10, 2) := by decide +kernel
theorem dX5_tryWrites_40 : decode cX5_tryWrites 40 = .ok (.iload_n 3, 1) := by decide +kernel
theorem dX5_tryWrites_41 : decode cX5_tryWrites 41 = .ok (.isub, 1) := by decide +kernel
theorem dX5_tryWrites_42 : decode cX5_tryWrites 42 = .ok (.aload_n 1, 1) := by decide +kernel
theorem dX5_tryWrites_43 : decode cX5_tryWrites 43 = .ok (.iload 4, 2) := by decide +kernel
theorem dX5_tryWrites_45 : decode cX5_tryWrites 45 = .ok (.invokevirtual 45, 3) := by decide +kernel
theorem dX5_tryWrites_48 : decode cX5_tryWrites 48 = .ok (.imul, 1) := by decide +kernel
theorem dX5_tryWrites_49 : decode cX5_tryWrites 49 = .ok (.iadd, 1) := by decide +kernel
theorem dX5_tryWrites_50 : decode cX5_tryWrites 50 = .ok (.istore 6, 2) := by decide +kernel
theorem dX5_tryWrites_52 : decode cX5_tryWrites 52 = .ok (.iload 6, 2) := by decide +kernel
theorem dX5_tryWrites_54 : decode cX5_tryWrites 54 = .ok (.aload_n 0, 1) := by decide +kernel
theorem dX5_tryWrites_55 : decode cX5_tryWrites 55 = .ok (.getfield 9, 3) := by decide +kernel
theorem dX5_tryWrites_58 : decode cX5_tryWrites 58 = .ok (.if_icmp .le 20, 3) := by decide +kernel
theorem dX5_tryWrites_61 : decode cX5_tryWrites 61 = .ok (.aload_n 0, 1) := by decide +kernel
theorem dX5_tryWrites_62 : decode cX5_tryWrites 62 = .ok (.iload 6, 2) := by decide +kernel
theorem dX5_tryWrites_64 : decode cX5_tryWrites 64 = .ok (.putfield 9, 3) := by decide +kernel
theorem dX5_tryWrites_67 : decode cX5_tryWrites 67 = .ok (.aload_n 0, 1) := by decide +kernel
theorem dX5_tryWrites_68 : decode cX5_tryWrites 68 = .ok (.iload_n 2, 1) := by decide +kernel
theorem dX5_tryWrites_69 : decode cX5_tryWrites 69 = .ok (.putfield 15, 3) := by decide +kernel
theorem dX5_tryWrites_72 : decode cX5_tryWrites 72 = .ok (.aload_n 0, 1) := by decide +kernel
theorem dX5_tryWrites_73 : decode cX5_tryWrites 73 = .ok (.iload 4, 2) := by decide +kernel
theorem dX5_tryWrites_75 : decode cX5_tryWrites 75 = .ok (.putfield 18, 3) := by decide +kernel
theorem dX5_tryWrites_78 : decode cX5_tryWrites 78 = .ok (.iinc 4 1, 3) := by decide +kernel
theorem dX5_tryWrites_81 : decode cX5_tryWrites 81 = .ok (.goto (-71), 3) := by decide +kernel
theorem dX5_tryWrites_84 : decode cX5_tryWrites 84 = .ok (.return_, 1) := by decide +kernel
theorem dX6_init_0 : decode cX6_init 0 = .ok (.aload_n 0, 1) := by decide +kernel
theorem dX6_init_1 : decode cX6_init 1 = .ok (.invokespecial 3, 3) := by decide +kernel
theorem dX6_init_4 : decode cX6_init 4 = .ok (.aload_n 0, 1) := by decide +kernel
theorem dX6_init_5 : decode cX6_init 5 = .ok (.bipush 6, 2) := by decide +kernel
theorem dX6_init_7 : decode cX6_init 7 = .ok (.newarray .int, 2) := by decide +kernel
theorem dX6_init_9 : decode cX6_init 9 = .ok (.putfield 9, 3) := by decide +kernel
theorem dX6_init_12 : decode cX6_init 12 = .ok (.aload_n 0, 1) := by decide +kernel
theorem dX6_init_13 : decode cX6_init 13 = .ok (.bipush 6, 2) := by decide +kernel
theorem dX6_init_15 : decode cX6_init 15 = .ok (.newarray .boolean, 2) := by decide +kernel
theorem dX6_init_17 : decode cX6_init 17 = .ok (.putfield 15, 3) := by decide +kernel
theorem dX6_init_20 : decode cX6_init 20 = .ok (.aload_n 0, 1) := by decide +kernel
theorem dX6_init_21 : decode cX6_init 21 = .ok (.iconst 0, 1) := by decide +kernel
theorem dX6_init_22 : decode cX6_init 22 = .ok (.putfield 19, 3) := by decide +kernel
theorem dX6_init_25 : decode cX6_init 25 = .ok (.return_, 1) := by decide +kernel
theorem dX6_append_0 : decode cX6_append 0 = .ok (.aload_n 0, 1) := by decide +kernel
theorem dX6_append_1 : decode cX6_append 1 = .ok (.getfield 19, 3) := by decide +kernel
theorem dX6_append_4 : decode cX6_append 4 = .ok (.bipush 6, 2) := by decide +kernel
theorem dX6_append_6 : decode cX6_append 6 = .ok (.if_icmp .lt 5, 3) := by decide +kernel
theorem dX6_append_9 : decode cX6_append 9 = .ok (.iconst 0, 1) := by decide +kernel
theorem dX6_append_10 : decode cX6_append 10 = .ok (.ireturn, 1) := by decide +kernel
theorem dX6_append_11 : decode cX6_append 11 = .ok (.aload_n 0, 1) := by decide +kernel
theorem dX6_append_12 : decode cX6_append 12 = .ok (.getfield 9, 3) := by decide +kernel
theorem dX6_append_15 : decode cX6_append 15 = .ok (.aload_n 0, 1) := by decide +kernel
theorem dX6_append_16 : decode cX6_append 16 = .ok (.getfield 19, 3) := by decide +kernel
theorem dX6_append_19 : decode cX6_append 19 = .ok (.iload_n 1, 1) := by decide +kernel
theorem dX6_append_20 : decode cX6_append 20 = .ok (.iastore, 1) := by decide +kernel
theorem dX6_append_21 : decode cX6_append 21 = .ok (.aload_n 0, 1) := by decide +kernel
theorem dX6_append_22 : decode cX6_append 22 = .ok (.getfield 15, 3) := by decide +kernel
theorem dX6_append_25 : decode cX6_append 25 = .ok (.aload_n 0, 1) := by decide +kernel
theorem dX6_append_26 : decode cX6_append 26 = .ok (.getfield 19, 3) := by decide +kernel
theorem dX6_append_29 : decode cX6_append 29 = .ok (.iload_n 2, 1) := by decide +kernel
theorem dX6_append_30 : decode cX6_append 30 = .ok (.bastore, 1) := by decide +kernel
theorem dX6_append_31 : decode cX6_append 31 = .ok (.aload_n 0, 1) := by decide +kernel
theorem dX6_append_32 : decode cX6_append 32 = .ok (.dup, 1) := by decide +kernel
theorem dX6_append_33 : decode cX6_append 33 = .ok (.getfield 19, 3) := by decide +kernel
theorem dX6_append_36 : decode cX6_append 36 = .ok (.iconst 1, 1) := by decide +kernel
theorem dX6_append_37 : decode cX6_append 37 = .ok (.iadd, 1) := by decide +kernel
theorem dX6_append_38 : decode cX6_append 38 = .ok (.putfield 19, 3) := by decide +kernel
theorem dX6_append_41 : decode cX6_append 41 = .ok (.iconst 1, 1) := by decide +kernel
theorem dX6_append_42 : decode cX6_append 42 = .ok (.ireturn, 1) := by decide +kernel
theorem dX6_allows_0 : decode cX6_allows 0 = .ok (.aload_n 1, 1) := by decide +kernel
theorem dX6_allows_1 : decode cX6_allows 1 = .ok (.invokevirtual 23, 3) := by decide +kernel
theorem dX6_allows_4 : decode cX6_allows 4 = .ok (.istore_n 3, 1) := by decide +kernel
theorem dX6_allows_5 : decode cX6_allows 5 = .ok (.aload_n 1, 1) := by decide +kernel
theorem dX6_allows_6 : decode cX6_allows 6 = .ok (.iload_n 3, 1) := by decide +kernel
theorem dX6_allows_7 : decode cX6_allows 7 = .ok (.aload_n 1, 1) := by decide +kernel
theorem dX6_allows_8 : decode cX6_allows 8 = .ok (.invokevirtual 29, 3) := by decide +kernel
theorem dX6_allows_11 : decode cX6_allows 11 = .ok (.iconst 1, 1) := by decide +kernel
theorem dX6_allows_12 : decode cX6_allows 12 = .ok (.isub, 1) := by decide +kernel
theorem dX6_allows_13 : decode cX6_allows 13 = .ok (.iload_n 2, 1) := by decide +kernel
theorem dX6_allows_14 : decode cX6_allows 14 = .ok (.iconst (-1), 1) := by decide +kernel
theorem dX6_allows_15 : decode cX6_allows 15 = .ok (.ixor, 1) := by decide +kernel
theorem dX6_allows_16 : decode cX6_allows 16 = .ok (.iand, 1) := by decide +kernel
theorem dX6_allows_17 : decode cX6_allows 17 = .ok (.invokevirtual 32, 3) := by decide +kernel
theorem dX6_allows_20 : decode cX6_allows 20 = .ok (.istore 4, 2) := by decide +kernel
theorem dX6_allows_22 : decode cX6_allows 22 = .ok (.iconst 0, 1) := by decide +kernel
theorem dX6_allows_23 : decode cX6_allows 23 = .ok (.istore 5, 2) := by decide +kernel
theorem dX6_allows_25 : decode cX6_allows 25 = .ok (.iload 5, 2) := by decide +kernel
theorem dX6_allows_27 : decode cX6_allows 27 = .ok (.aload_n 0, 1) := by decide +kernel
theorem dX6_allows_28 : decode cX6_allows 28 = .ok (.getfield 19, 3) := by decide +kernel
theorem dX6_allows_31 : decode cX6_allows 31 = .ok (.if_icmp .ge 43, 3) := by decide +kernel
theorem dX6_allows_34 : decode cX6_allows 34 = .ok (.iload 4, 2) := by decide +kernel
theorem dX6_allows_36 : decode cX6_allows 36 = .ok (.aload_n 1, 1) := by decide +kernel
theorem dX6_allows_37 : decode cX6_allows 37 = .ok (.iload_n 3, 1) := by decide +kernel
theorem dX6_allows_38 : decode cX6_allows 38 = .ok (.aload_n 0, 1) := by decide +kernel
theorem dX6_allows_39 : decode cX6_allows 39 = .ok (.getfield 9, 3) := by decide +kernel
theorem dX6_allows_42 : decode cX6_allows 42 = .ok (.iload 5, 2) := by decide +kernel
theorem dX6_allows_44 : decode cX6_allows 44 = .ok (.iaload, 1) := by decide +kernel
theorem dX6_allows_45 : decode cX6_allows 45 = .ok (.invokevirtual 36, 3) := by decide +kernel
theorem dX6_allows_48 : decode cX6_allows 48 = .ok (.if_icmp .lt 7, 3) := by decide +kernel
theorem dX6_allows_51 : decode cX6_allows 51 = .ok (.iconst 1, 1) := by decide +kernel
theorem dX6_allows_52 : decode cX6_allows 52 = .ok (.goto 4, 3) := by decide +kernel
theorem dX6_allows_55 : decode cX6_allows 55 = .ok (.iconst 0, 1) := by decide +kernel
theorem dX6_allows_56 : decode cX6_allows 56 = .ok (.aload_n 0, 1) := by decide +kernel
theorem dX6_allows_57 : decode cX6_allows 57 = .ok (.getfield 15, 3) := by decide +kernel
theorem dX6_allows_60 : decode cX6_allows 60 = .ok (.iload 5, 2) := by decide +kernel
theorem dX6_allows_62 : decode cX6_allows 62 = .ok (.baload, 1) := by decide +kernel
theorem dX6_allows_63 : decode cX6_allows 63 = .ok (.if_icmp .eq 5, 3) := by decide +kernel
theorem dX6_allows_66 : decode cX6_allows 66 = .ok (.iconst 0, 1) := by decide +kernel
theorem dX6_allows_67 : decode cX6_allows 67 = .ok (.ireturn, 1) := by decide +kernel
theorem dX6_allows_68 : decode cX6_allows 68 = .ok (.iinc 5 1, 3) := by decide +kernel
theorem dX6_allows_71 : decode cX6_allows 71 = .ok (.goto (-46), 3) := by decide +kernel
theorem dX6_allows_74 : decode cX6_allows 74 = .ok (.iconst 1, 1) := by decide +kernel
theorem dX6_allows_75 : decode cX6_allows 75 = .ok (.ireturn, 1) := by decide +kernel
theorem dX7_init_0 : decode cX7_init 0 = .ok (.aload_n 0, 1) := by decide +kernel
theorem dX7_init_1 : decode cX7_init 1 = .ok (.invokespecial 5, 3) := by decide +kernel
theorem dX7_init_4 : decode cX7_init 4 = .ok (.aload_n 0, 1) := by decide +kernel
theorem dX7_init_5 : decode cX7_init 5 = .ok (.bipush 104, 2) := by decide +kernel
theorem dX7_init_7 : decode cX7_init 7 = .ok (.newarray .int, 2) := by decide +kernel
theorem dX7_init_9 : decode cX7_init 9 = .ok (.putfield 11, 3) := by decide +kernel
theorem dX7_init_12 : decode cX7_init 12 = .ok (.return_, 1) := by decide +kernel
theorem dX7_begin_0 : decode cX7_begin 0 = .ok (.iconst 0, 1) := by decide +kernel
theorem dX7_begin_1 : decode cX7_begin 1 = .ok (.istore_n 2, 1) := by decide +kernel
theorem dX7_begin_2 : decode cX7_begin 2 = .ok (.iload_n 2, 1) := by decide +kernel
theorem dX7_begin_3 : decode cX7_begin 3 = .ok (.bipush 104, 2) := by decide +kernel
theorem dX7_begin_5 : decode cX7_begin 5 = .ok (.if_icmp .ge 16, 3) := by decide +kernel
theorem dX7_begin_8 : decode cX7_begin 8 = .ok (.aload_n 0, 1) := by decide +kernel
theorem dX7_begin_9 : decode cX7_begin 9 = .ok (.getfield 11, 3) := by decide +kernel
theorem dX7_begin_12 : decode cX7_begin 12 = .ok (.iload_n 2, 1) := by decide +kernel
theorem dX7_begin_13 : decode cX7_begin 13 = .ok (.iconst 0, 1) := by decide +kernel
theorem dX7_begin_14 : decode cX7_begin 14 = .ok (.iastore, 1) := by decide +kernel
theorem dX7_begin_15 : decode cX7_begin 15 = .ok (.iinc 2 1, 3) := by decide +kernel
theorem dX7_begin_18 : decode cX7_begin 18 = .ok (.goto (-16), 3) := by decide +kernel
theorem dX7_begin_21 : decode cX7_begin 21 = .ok (.aload_n 0, 1) := by decide +kernel
theorem dX7_begin_22 : decode cX7_begin 22 = .ok (.getfield 11, 3) := by decide +kernel
theorem dX7_begin_25 : decode cX7_begin 25 = .ok (.bipush 30, 2) := by decide +kernel
theorem dX7_begin_27 : decode cX7_begin 27 = .ok (.aload_n 1, 1) := by decide +kernel
theorem dX7_begin_28 : decode cX7_begin 28 = .ok (.getfield 15, 3) := by decide +kernel
theorem dX7_begin_31 : decode cX7_begin 31 = .ok (.iastore, 1) := by decide +kernel
theorem dX7_begin_32 : decode cX7_begin 32 = .ok (.aload_n 0, 1) := by decide +kernel
theorem dX7_begin_33 : decode cX7_begin 33 = .ok (.getfield 11, 3) := by decide +kernel
theorem dX7_begin_36 : decode cX7_begin 36 = .ok (.bipush 31, 2) := by decide +kernel
theorem dX7_begin_38 : decode cX7_begin 38 = .ok (.iconst 1, 1) := by decide +kernel
theorem dX7_begin_39 : decode cX7_begin 39 = .ok (.iastore, 1) := by decide +kernel
theorem dX7_begin_40 : decode cX7_begin 40 = .ok (.aload_n 0, 1) := by decide +kernel
theorem dX7_begin_41 : decode cX7_begin 41 = .ok (.iconst 0, 1) := by decide +kernel
theorem dX7_begin_42 : decode cX7_begin 42 = .ok (.aload_n 1, 1) := by decide +kernel
theorem dX7_begin_43 : decode cX7_begin 43 = .ok (.getfield 21, 3) := by decide +kernel
theorem dX7_begin_46 : decode cX7_begin 46 = .ok (.aload_n 1, 1) := by decide +kernel
theorem dX7_begin_47 : decode cX7_begin 47 = .ok (.getfield 24, 3) := by decide +kernel
theorem dX7_begin_50 : decode cX7_begin 50 = .ok (.invokevirtual 27, 3) := by decide +kernel
theorem dX7_begin_53 : decode cX7_begin 53 = .ok (.iconst 0, 1) := by decide +kernel
theorem dX7_begin_54 : decode cX7_begin 54 = .ok (.istore_n 2, 1) := by decide +kernel
theorem dX7_begin_55 : decode cX7_begin 55 = .ok (.iload_n 2, 1) := by decide +kernel
theorem dX7_begin_56 : decode cX7_begin 56 = .ok (.aload_n 1, 1) := by decide +kernel
theorem dX7_begin_57 : decode cX7_begin 57 = .ok (.getfield 15, 3) := by decide +kernel
theorem dX7_begin_60 : decode cX7_begin 60 = .ok (.if_icmp .ge 68, 3) := by decide +kernel
theorem dX7_begin_63 : decode cX7_begin 63 = .ok (.aload_n 1, 1) := by decide +kernel
theorem dX7_begin_64 : decode cX7_begin 64 = .ok (.getfield 31, 3) := by decide +kernel
theorem dX7_begin_67 : decode cX7_begin 67 = .ok (.iload_n 2, 1) := by decide +kernel
theorem dX7_begin_68 : decode cX7_begin 68 = .ok (.ishr, 1) := by decide +kernel
theorem dX7_begin_69 : decode cX7_begin 69 = .ok (.iconst 1, 1) := by decide +kernel
theorem dX7_begin_70 : decode cX7_begin 70 = .ok (.iand, 1) := by decide +kernel
theorem dX7_begin_71 : decode cX7_begin 71 = .ok (.iconst 1, 1) := by decide +kernel
theorem dX7_begin_72 : decode cX7_begin 72 = .ok (.if_icmp .ne 7, 3) := by decide +kernel
theorem dX7_begin_75 : decode cX7_begin 75 = .ok (.iconst 1, 1) := by decide +kernel
theorem dX7_begin_76 : decode cX7_begin 76 = .ok (.goto 4, 3) := by decide +kernel
theorem dX7_begin_79 : decode cX7_begin 79 = .ok (.iconst 0, 1) := by decide +kernel
theorem dX7_begin_80 : decode cX7_begin 80 = .ok (.istore_n 3, 1) := by decide +kernel
theorem dX7_begin_81 : decode cX7_begin 81 = .ok (.aload_n 0, 1) := by decide +kernel
theorem dX7_begin_82 : decode cX7_begin 82 = .ok (.iconst 0, 1) := by decide +kernel
theorem dX7_begin_83 : decode cX7_begin 83 = .ok (.iload_n 2, 1) := by decide +kernel
theorem dX7_begin_84 : decode cX7_begin 84 = .ok (.aload_n 1, 1) := by decide +kernel
theorem dX7_begin_85 : decode cX7_begin 85 = .ok (.getfield 34, 3) := by decide +kernel
theorem dX7_begin_88 : decode cX7_begin 88 = .ok (.iload_n 2, 1) := by decide +kernel
theorem dX7_begin_89 : decode cX7_begin 89 = .ok (.iaload, 1) := by decide +kernel
theorem dX7_begin_90 : decode cX7_begin 90 = .ok (.iload_n 3, 1) := by decide +kernel
theorem dX7_begin_91 : decode cX7_begin 91 = .ok (.invokevirtual 37, 3) := by decide +kernel
theorem dX7_begin_94 : decode cX7_begin 94 = .ok (.aload_n 0, 1) := by decide +kernel
theorem dX7_begin_95 : decode cX7_begin 95 = .ok (.getfield 11, 3) := by decide +kernel
theorem dX7_begin_98 : decode cX7_begin 98 = .ok (.iconst 0, 1) := by decide +kernel
theorem dX7_begin_99 : decode cX7_begin 99 = .ok (.iload_n 2, 1) := by decide +kernel
theorem dX7_begin_100 : decode cX7_begin 100 = .ok (.iadd, 1) := by decide +kernel
theorem dX7_begin_101 : decode cX7_begin 101 = .ok (.iconst 1, 1) := by decide +kernel
theorem dX7_begin_102 : decode cX7_begin 102 = .ok (.iastore, 1) := by decide +kernel
theorem dX7_begin_103 : decode cX7_begin 103 = .ok (.aload_n 0, 1) := by decide +kernel
theorem dX7_begin_104 : decode cX7_begin 104 = .ok (.getfield 11, 3) := by decide +kernel
theorem dX7_begin_107 : decode cX7_begin 107 = .ok (.bipush 18, 2) := by decide +kernel
theorem dX7_begin_109 : decode cX7_begin 109 = .ok (.iload_n 2, 1) := by decide +kernel
theorem dX7_begin_110 : decode cX7_begin 110 = .ok (.iadd, 1) := by decide +kernel
theorem dX7_begin_111 : decode cX7_begin 111 = .ok (.iload_n 3, 1) := by decide +kernel
theorem dX7_begin_112 : decode cX7_begin 112 = .ok (.ifCond .eq 8, 3) := by decide +kernel
theorem dX7_begin_115 : decode cX7_begin 115 = .ok (.bipush (-9), 2) := by decide +kernel
theorem dX7_begin_117 : decode cX7_begin 117 = .ok (.goto 4, 3) := by decide +kernel
theorem dX7_begin_120 : decode cX7_begin 120 = .ok (.iconst 0, 1) := by decide +kernel
theorem dX7_begin_121 : decode cX7_begin 121 = .ok (.iastore, 1) := by decide +kernel
theorem dX7_begin_122 : decode cX7_begin 122 = .ok (.iinc 2 1, 3) := by decide +kernel
theorem dX7_begin_125 : decode cX7_begin 125 = .ok (.goto (-70), 3) := by decide +kernel
theorem dX7_begin_128 : decode cX7_begin 128 = .ok (.return_, 1) := by decide +kernel
theorem dX7_saveTo_0 : decode cX7_saveTo 0 = .ok (.aload_n 0, 1) := by decide +kernel
theorem dX7_saveTo_1 : decode cX7_saveTo 1 = .ok (.getfield 11, 3) := by decide +kernel
theorem dX7_saveTo_4 : decode cX7_saveTo 4 = .ok (.iconst 0, 1) := by decide +kernel
theorem dX7_saveTo_5 : decode cX7_saveTo 5 = .ok (.aload_n 1, 1) := by decide +kernel
theorem dX7_saveTo_6 : decode cX7_saveTo 6 = .ok (.iload_n 2, 1) := by decide +kernel
theorem dX7_saveTo_7 : decode cX7_saveTo 7 = .ok (.bipush 104, 2) := by decide +kernel
theorem dX7_saveTo_9 : decode cX7_saveTo 9 = .ok (.imul, 1) := by decide +kernel
theorem dX7_saveTo_10 : decode cX7_saveTo 10 = .ok (.bipush 104, 2) := by decide +kernel
theorem dX7_saveTo_12 : decode cX7_saveTo 12 = .ok (.invokestatic 41, 3) := by decide +kernel
theorem dX7_saveTo_15 : decode cX7_saveTo 15 = .ok (.return_, 1) := by decide +kernel
theorem dX7_loadFrom_0 : decode cX7_loadFrom 0 = .ok (.aload_n 1, 1) := by decide +kernel
theorem dX7_loadFrom_1 : decode cX7_loadFrom 1 = .ok (.iload_n 2, 1) := by decide +kernel
theorem dX7_loadFrom_2 : decode cX7_loadFrom 2 = .ok (.bipush 104, 2) := by decide +kernel
theorem dX7_loadFrom_4 : decode cX7_loadFrom 4 = .ok (.imul, 1) := by decide +kernel
theorem dX7_loadFrom_5 : decode cX7_loadFrom 5 = .ok (.aload_n 0, 1) := by decide +kernel
theorem dX7_loadFrom_6 : decode cX7_loadFrom 6 = .ok (.getfield 11, 3) := by decide +kernel
theorem dX7_loadFrom_9 : decode cX7_loadFrom 9 = .ok (.iconst 0, 1) := by decide +kernel
theorem dX7_loadFrom_10 : decode cX7_loadFrom 10 = .ok (.bipush 104, 2) := by decide +kernel
theorem dX7_loadFrom_12 : decode cX7_loadFrom 12 = .ok (.invokestatic 41, 3) := by decide +kernel
theorem dX7_loadFrom_15 : decode cX7_loadFrom 15 = .ok (.return_, 1) := by decide +kernel
theorem dX7_copies_0 : decode cX7_copies 0 = .ok (.aload_n 0, 1) := by decide +kernel
theorem dX7_copies_1 : decode cX7_copies 1 = .ok (.getfield 11, 3) := by decide +kernel
theorem dX7_copies_4 : decode cX7_copies 4 = .ok (.bipush 30, 2) := by decide +kernel
theorem dX7_copies_6 : decode cX7_copies 6 = .ok (.iaload, 1) := by decide +kernel
theorem dX7_copies_7 : decode cX7_copies 7 = .ok (.ireturn, 1) := by decide +kernel
theorem dX7_sets_0 : decode cX7_sets 0 = .ok (.iconst 1, 1) := by decide +kernel
theorem dX7_sets_1 : decode cX7_sets 1 = .ok (.aload_n 0, 1) := by decide +kernel
theorem dX7_sets_2 : decode cX7_sets 2 = .ok (.getfield 11, 3) := by decide +kernel
theorem dX7_sets_5 : decode cX7_sets 5 = .ok (.bipush 30, 2) := by decide +kernel
theorem dX7_sets_7 : decode cX7_sets 7 = .ok (.iaload, 1) := by decide +kernel
theorem dX7_sets_8 : decode cX7_sets 8 = .ok (.ishl, 1) := by decide +kernel
theorem dX7_sets_9 : decode cX7_sets 9 = .ok (.ireturn, 1) := by decide +kernel
theorem dX7_isUp_0 : decode cX7_isUp 0 = .ok (.aload_n 0, 1) := by decide +kernel
theorem dX7_isUp_1 : decode cX7_isUp 1 = .ok (.getfield 11, 3) := by decide +kernel
theorem dX7_isUp_4 : decode cX7_isUp 4 = .ok (.iconst 0, 1) := by decide +kernel
theorem dX7_isUp_5 : decode cX7_isUp 5 = .ok (.iload_n 1, 1) := by decide +kernel
theorem dX7_isUp_6 : decode cX7_isUp 6 = .ok (.iadd, 1) := by decide +kernel
theorem dX7_isUp_7 : decode cX7_isUp 7 = .ok (.iaload, 1) := by decide +kernel
theorem dX7_isUp_8 : decode cX7_isUp 8 = .ok (.iconst 1, 1) := by decide +kernel
theorem dX7_isUp_9 : decode cX7_isUp 9 = .ok (.if_icmp .ne 7, 3) := by decide +kernel
theorem dX7_isUp_12 : decode cX7_isUp 12 = .ok (.iconst 1, 1) := by decide +kernel
theorem dX7_isUp_13 : decode cX7_isUp 13 = .ok (.goto 4, 3) := by decide +kernel
theorem dX7_isUp_16 : decode cX7_isUp 16 = .ok (.iconst 0, 1) := by decide +kernel
theorem dX7_isUp_17 : decode cX7_isUp 17 = .ok (.ireturn, 1) := by decide +kernel
theorem dX7_groupOf_0 : decode cX7_groupOf 0 = .ok (.aload_n 0, 1) := by decide +kernel
theorem dX7_groupOf_1 : decode cX7_groupOf 1 = .ok (.getfield 11, 3) := by decide +kernel
theorem dX7_groupOf_4 : decode cX7_groupOf 4 = .ok (.bipush 6, 2) := by decide +kernel
theorem dX7_groupOf_6 : decode cX7_groupOf 6 = .ok (.iload_n 1, 1) := by decide +kernel
theorem dX7_groupOf_7 : decode cX7_groupOf 7 = .ok (.iadd, 1) := by decide +kernel
theorem dX7_groupOf_8 : decode cX7_groupOf 8 = .ok (.iaload, 1) := by decide +kernel
theorem dX7_groupOf_9 : decode cX7_groupOf 9 = .ok (.ireturn, 1) := by decide +kernel
theorem dX7_versionOf_0 : decode cX7_versionOf 0 = .ok (.aload_n 0, 1) := by decide +kernel
theorem dX7_versionOf_1 : decode cX7_versionOf 1 = .ok (.getfield 11, 3) := by decide +kernel
theorem dX7_versionOf_4 : decode cX7_versionOf 4 = .ok (.bipush 12, 2) := by decide +kernel
theorem dX7_versionOf_6 : decode cX7_versionOf 6 = .ok (.iload_n 1, 1) := by decide +kernel
theorem dX7_versionOf_7 : decode cX7_versionOf 7 = .ok (.iadd, 1) := by decide +kernel
theorem dX7_versionOf_8 : decode cX7_versionOf 8 = .ok (.iaload, 1) := by decide +kernel
theorem dX7_versionOf_9 : decode cX7_versionOf 9 = .ok (.ireturn, 1) := by decide +kernel
theorem dX7_valueOf_0 : decode cX7_valueOf 0 = .ok (.aload_n 0, 1) := by decide +kernel
theorem dX7_valueOf_1 : decode cX7_valueOf 1 = .ok (.getfield 11, 3) := by decide +kernel
theorem dX7_valueOf_4 : decode cX7_valueOf 4 = .ok (.bipush 18, 2) := by decide +kernel
theorem dX7_valueOf_6 : decode cX7_valueOf 6 = .ok (.iload_n 1, 1) := by decide +kernel
theorem dX7_valueOf_7 : decode cX7_valueOf 7 = .ok (.iadd, 1) := by decide +kernel
theorem dX7_valueOf_8 : decode cX7_valueOf 8 = .ok (.iaload, 1) := by decide +kernel
theorem dX7_valueOf_9 : decode cX7_valueOf 9 = .ok (.ireturn, 1) := by decide +kernel
theorem dX7_configurationOf_0 : decode cX7_configurationOf 0 = .ok (.aload_n 0, 1) := by decide +kernel
theorem dX7_configurationOf_1 : decode cX7_configurationOf 1 = .ok (.getfield 11, 3) := by decide +kernel
theorem dX7_configurationOf_4 : decode cX7_configurationOf 4 = .ok (.bipush 24, 2) := by decide +kernel
theorem dX7_configurationOf_6 : decode cX7_configurationOf 6 = .ok (.iload_n 1, 1) := by decide +kernel
theorem dX7_configurationOf_7 : decode cX7_configurationOf 7 = .ok (.iadd, 1) := by decide +kernel
theorem dX7_configurationOf_8 : decode cX7_configurationOf 8 = .ok (.iaload, 1) := by decide +kernel
theorem dX7_configurationOf_9 : decode cX7_configurationOf 9 = .ok (.ireturn, 1) := by decide +kernel
theorem dX7_turn_0 : decode cX7_turn 0 = .ok (.aload_n 0, 1) := by decide +kernel
theorem dX7_turn_1 : decode cX7_turn 1 = .ok (.getfield 11, 3) := by decide +kernel
theorem dX7_turn_4 : decode cX7_turn 4 = .ok (.iconst 0, 1) := by decide +kernel
theorem dX7_turn_5 : decode cX7_turn 5 = .ok (.iload_n 1, 1) := by decide +kernel
theorem dX7_turn_6 : decode cX7_turn 6 = .ok (.iadd, 1) := by decide +kernel
theorem dX7_turn_7 : decode cX7_turn 7 = .ok (.iconst 1, 1) := by decide +kernel
theorem dX7_turn_8 : decode cX7_turn 8 = .ok (.aload_n 0, 1) := by decide +kernel
theorem dX7_turn_9 : decode cX7_turn 9 = .ok (.getfield 11, 3) := by decide +kernel
theorem dX7_turn_12 : decode cX7_turn 12 = .ok (.iconst 0, 1) := by decide +kernel
theorem dX7_turn_13 : decode cX7_turn 13 = .ok (.iload_n 1, 1) := by decide +kernel
theorem dX7_turn_14 : decode cX7_turn 14 = .ok (.iadd, 1) := by decide +kernel
theorem dX7_turn_15 : decode cX7_turn 15 = .ok (.iaload, 1) := by decide +kernel
theorem dX7_turn_16 : decode cX7_turn 16 = .ok (.isub, 1) := by decide +kernel
theorem dX7_turn_17 : decode cX7_turn 17 = .ok (.iastore, 1) := by decide +kernel
theorem dX7_turn_18 : decode cX7_turn 18 = .ok (.aload_n 0, 1) := by decide +kernel
theorem dX7_turn_19 : decode cX7_turn 19 = .ok (.getfield 11, 3) := by decide +kernel
theorem dX7_turn_22 : decode cX7_turn 22 = .ok (.iconst 0, 1) := by decide +kernel
theorem dX7_turn_23 : decode cX7_turn 23 = .ok (.iload_n 1, 1) := by decide +kernel
theorem dX7_turn_24 : decode cX7_turn 24 = .ok (.iadd, 1) := by decide +kernel
theorem dX7_turn_25 : decode cX7_turn 25 = .ok (.iaload, 1) := by decide +kernel
theorem dX7_turn_26 : decode cX7_turn 26 = .ok (.ireturn, 1) := by decide +kernel
theorem dX7_setGroup_0 : decode cX7_setGroup 0 = .ok (.aload_n 0, 1) := by decide +kernel
theorem dX7_setGroup_1 : decode cX7_setGroup 1 = .ok (.getfield 11, 3) := by decide +kernel
theorem dX7_setGroup_4 : decode cX7_setGroup 4 = .ok (.bipush 6, 2) := by decide +kernel
theorem dX7_setGroup_6 : decode cX7_setGroup 6 = .ok (.iload_n 1, 1) := by decide +kernel
theorem dX7_setGroup_7 : decode cX7_setGroup 7 = .ok (.iadd, 1) := by decide +kernel
theorem dX7_setGroup_8 : decode cX7_setGroup 8 = .ok (.iload_n 2, 1) := by decide +kernel
theorem dX7_setGroup_9 : decode cX7_setGroup 9 = .ok (.iastore, 1) := by decide +kernel
theorem dX7_setGroup_10 : decode cX7_setGroup 10 = .ok (.return_, 1) := by decide +kernel
theorem dX7_renew_0 : decode cX7_renew 0 = .ok (.iconst 0, 1) := by decide +kernel
theorem dX7_renew_1 : decode cX7_renew 1 = .ok (.istore 5, 2) := by decide +kernel
theorem dX7_renew_3 : decode cX7_renew 3 = .ok (.iconst 0, 1) := by decide +kernel
theorem dX7_renew_4 : decode cX7_renew 4 = .ok (.istore 6, 2) := by decide +kernel
theorem dX7_renew_6 : decode cX7_renew 6 = .ok (.iload 6, 2) := by decide +kernel
theorem dX7_renew_8 : decode cX7_renew 8 = .ok (.aload_n 0, 1) := by decide +kernel
theorem dX7_renew_9 : decode cX7_renew 9 = .ok (.invokevirtual 47, 3) := by decide +kernel
theorem dX7_renew_12 : decode cX7_renew 12 = .ok (.if_icmp .ge 85, 3) := by decide +kernel
theorem dX7_renew_15 : decode cX7_renew 15 = .ok (.iload_n 1, 1) := by decide +kernel
theorem dX7_renew_16 : decode cX7_renew 16 = .ok (.iload 6, 2) := by decide +kernel
theorem dX7_renew_18 : decode cX7_renew 18 = .ok (.ishr, 1) := by decide +kernel
theorem dX7_renew_19 : decode cX7_renew 19 = .ok (.iconst 1, 1) := by decide +kernel
theorem dX7_renew_20 : decode cX7_renew 20 = .ok (.iand, 1) := by decide +kernel
theorem dX7_renew_21 : decode cX7_renew 21 = .ok (.iconst 1, 1) := by decide +kernel
theorem dX7_renew_22 : decode cX7_renew 22 = .ok (.if_icmp .ne 69, 3) := by decide +kernel
theorem dX7_renew_25 : decode cX7_renew 25 = .ok (.aload_n 0, 1) := by decide +kernel
theorem dX7_renew_26 : decode cX7_renew 26 = .ok (.getfield 11, 3) := by decide +kernel
theorem dX7_renew_29 : decode cX7_renew 29 = .ok (.bipush 12, 2) := by decide +kernel
theorem dX7_renew_31 : decode cX7_renew 31 = .ok (.iload 6, 2) := by decide +kernel
theorem dX7_renew_33 : decode cX7_renew 33 = .ok (.iadd, 1) := by decide +kernel
theorem dX7_renew_34 : decode cX7_renew 34 = .ok (.iaload, 1) := by decide +kernel
theorem dX7_renew_35 : decode cX7_renew 35 = .ok (.iload_n 3, 1) := by decide +kernel
theorem dX7_renew_36 : decode cX7_renew 36 = .ok (.if_icmp .eq 6, 3) := by decide +kernel
theorem dX7_renew_39 : decode cX7_renew 39 = .ok (.iinc 5 1, 3) := by decide +kernel
theorem dX7_renew_42 : decode cX7_renew 42 = .ok (.aload_n 0, 1) := by decide +kernel
theorem dX7_renew_43 : decode cX7_renew 43 = .ok (.getfield 11, 3) := by decide +kernel
theorem dX7_renew_46 : decode cX7_renew 46 = .ok (.bipush 12, 2) := by decide +kernel
theorem dX7_renew_48 : decode cX7_renew 48 = .ok (.iload 6, 2) := by decide +kernel
theorem dX7_renew_50 : decode cX7_renew 50 = .ok (.iadd, 1) := by decide +kernel
theorem dX7_renew_51 : decode cX7_renew 51 = .ok (.iload_n 3, 1) := by decide +kernel
theorem dX7_renew_52 : decode cX7_renew 52 = .ok (.iastore, 1) := by decide +kernel
theorem dX7_renew_53 : decode cX7_renew 53 = .ok (.aload_n 0, 1) := by decide +kernel
theorem dX7_renew_54 : decode cX7_renew 54 = .ok (.getfield 11, 3) := by decide +kernel
theorem dX7_renew_57 : decode cX7_renew 57 = .ok (.bipush 24, 2) := by decide +kernel
theorem dX7_renew_59 : decode cX7_renew 59 = .ok (.iload 6, 2) := by decide +kernel
theorem dX7_renew_61 : decode cX7_renew 61 = .ok (.iadd, 1) := by decide +kernel
theorem dX7_renew_62 : decode cX7_renew 62 = .ok (.iload_n 2, 1) := by decide +kernel
theorem dX7_renew_63 : decode cX7_renew 63 = .ok (.iastore, 1) := by decide +kernel
theorem dX7_renew_64 : decode cX7_renew 64 = .ok (.aload_n 0, 1) := by decide +kernel
theorem dX7_renew_65 : decode cX7_renew 65 = .ok (.getfield 11, 3) := by decide +kernel
theorem dX7_renew_68 : decode cX7_renew 68 = .ok (.bipush 18, 2) := by decide +kernel
theorem dX7_renew_70 : decode cX7_renew 70 = .ok (.iload 6, 2) := by decide +kernel
theorem dX7_renew_72 : decode cX7_renew 72 = .ok (.iadd, 1) := by decide +kernel
theorem dX7_renew_73 : decode cX7_renew 73 = .ok (.aload_n 0, 1) := by decide +kernel
theorem dX7_renew_74 : decode cX7_renew 74 = .ok (.iload_n 2, 1) := by decide +kernel
theorem dX7_renew_75 : decode cX7_renew 75 = .ok (.iload 6, 2) := by decide +kernel
theorem dX7_renew_77 : decode cX7_renew 77 = .ok (.invokevirtual 50, 3) := by decide +kernel
theorem dX7_renew_80 : decode cX7_renew 80 = .ok (.ifCond .eq 8, 3) := by decide +kernel
theorem dX7_renew_83 : decode cX7_renew 83 = .ok (.bipush (-9), 2) := by decide +kernel
theorem dX7_renew_85 : decode cX7_renew 85 = .ok (.goto 5, 3) := by decide +kernel
theorem dX7_renew_88 : decode cX7_renew 88 = .ok (.iload 4, 2) := by decide +kernel
theorem dX7_renew_90 : decode cX7_renew 90 = .ok (.iastore, 1) := by decide +kernel
theorem dX7_renew_91 : decode cX7_renew 91 = .ok (.iinc 6 1, 3) := by decide +kernel
theorem dX7_renew_94 : decode cX7_renew 94 = .ok (.goto (-88), 3) := by decide +kernel
theorem dX7_renew_97 : decode cX7_renew 97 = .ok (.iload 5, 2) := by decide +kernel
theorem dX7_renew_99 : decode cX7_renew 99 = .ok (.ireturn, 1) := by decide +kernel
theorem dX7_configurations_0 : decode cX7_configurations 0 = .ok (.aload_n 0, 1) := by decide +kernel
theorem dX7_configurations_1 : decode cX7_configurations 1 = .ok (.getfield 11, 3) := by decide +kernel
theorem dX7_configurations_4 : decode cX7_configurations 4 = .ok (.bipush 31, 2) := by decide +kernel
theorem dX7_configurations_6 : decode cX7_configurations 6 = .ok (.iaload, 1) := by decide +kernel
theorem dX7_configurations_7 : decode cX7_configurations 7 = .ok (.ireturn, 1) := by decide +kernel
theorem dX7_newest_0 : decode cX7_newest 0 = .ok (.aload_n 0, 1) := by decide +kernel
theorem dX7_newest_1 : decode cX7_newest 1 = .ok (.getfield 11, 3) := by decide +kernel
theorem dX7_newest_4 : decode cX7_newest 4 = .ok (.bipush 31, 2) := by decide +kernel
theorem dX7_newest_6 : decode cX7_newest 6 = .ok (.iaload, 1) := by decide +kernel
theorem dX7_newest_7 : decode cX7_newest 7 = .ok (.iconst 1, 1) := by decide +kernel
theorem dX7_newest_8 : decode cX7_newest 8 = .ok (.isub, 1) := by decide +kernel
theorem dX7_newest_9 : decode cX7_newest 9 = .ok (.ireturn, 1) := by decide +kernel
theorem dX7_votesOf_0 : decode cX7_votesOf 0 = .ok (.aload_n 0, 1) := by decide +kernel
theorem dX7_votesOf_1 : decode cX7_votesOf 1 = .ok (.getfield 11, 3) := by decide +kernel
theorem dX7_votesOf_4 : decode cX7_votesOf 4 = .ok (.bipush 32, 2) := by decide +kernel
theorem dX7_votesOf_6 : decode cX7_votesOf 6 = .ok (.iload_n 1, 1) := by decide +kernel
theorem dX7_votesOf_7 : decode cX7_votesOf 7 = .ok (.bipush 9, 2) := by decide +kernel
theorem dX7_votesOf_9 : decode cX7_votesOf 9 = .ok (.imul, 1) := by decide +kernel
theorem dX7_votesOf_10 : decode cX7_votesOf 10 = .ok (.iadd, 1) := by decide +kernel
theorem dX7_votesOf_11 : decode cX7_votesOf 11 = .ok (.iload_n 2, 1) := by decide +kernel
theorem dX7_votesOf_12 : decode cX7_votesOf 12 = .ok (.iadd, 1) := by decide +kernel
theorem dX7_votesOf_13 : decode cX7_votesOf 13 = .ok (.iaload, 1) := by decide +kernel
theorem dX7_votesOf_14 : decode cX7_votesOf 14 = .ok (.ireturn, 1) := by decide +kernel
theorem dX7_isWitness_0 : decode cX7_isWitness 0 = .ok (.aload_n 0, 1) := by decide +kernel
theorem dX7_isWitness_1 : decode cX7_isWitness 1 = .ok (.getfield 11, 3) := by decide +kernel
theorem dX7_isWitness_4 : decode cX7_isWitness 4 = .ok (.bipush 32, 2) := by decide +kernel
theorem dX7_isWitness_6 : decode cX7_isWitness 6 = .ok (.iload_n 1, 1) := by decide +kernel
theorem dX7_isWitness_7 : decode cX7_isWitness 7 = .ok (.bipush 9, 2) := by decide +kernel
theorem dX7_isWitness_9 : decode cX7_isWitness 9 = .ok (.imul, 1) := by decide +kernel
theorem dX7_isWitness_10 : decode cX7_isWitness 10 = .ok (.iadd, 1) := by decide +kernel
theorem dX7_isWitness_11 : decode cX7_isWitness 11 = .ok (.bipush 6, 2) := by decide +kernel
theorem dX7_isWitness_13 : decode cX7_isWitness 13 = .ok (.iadd, 1) := by decide +kernel
theorem dX7_isWitness_14 : decode cX7_isWitness 14 = .ok (.iaload, 1) := by decide +kernel
theorem dX7_isWitness_15 : decode cX7_isWitness 15 = .ok (.iload_n 2, 1) := by decide +kernel
theorem dX7_isWitness_16 : decode cX7_isWitness 16 = .ok (.ishr, 1) := by decide +kernel
theorem dX7_isWitness_17 : decode cX7_isWitness 17 = .ok (.iconst 1, 1) := by decide +kernel
theorem dX7_isWitness_18 : decode cX7_isWitness 18 = .ok (.iand, 1) := by decide +kernel
theorem dX7_isWitness_19 : decode cX7_isWitness 19 = .ok (.iconst 1, 1) := by decide +kernel
theorem dX7_isWitness_20 : decode cX7_isWitness 20 = .ok (.if_icmp .ne 7, 3) := by decide +kernel
theorem dX7_isWitness_23 : decode cX7_isWitness 23 = .ok (.iconst 1, 1) := by decide +kernel
theorem dX7_isWitness_24 : decode cX7_isWitness 24 = .ok (.goto 4, 3) := by decide +kernel
theorem dX7_isWitness_27 : decode cX7_isWitness 27 = .ok (.iconst 0, 1) := by decide +kernel
theorem dX7_isWitness_28 : decode cX7_isWitness 28 = .ok (.ireturn, 1) := by decide +kernel
theorem dX7_readOf_0 : decode cX7_readOf 0 = .ok (.aload_n 0, 1) := by decide +kernel
theorem dX7_readOf_1 : decode cX7_readOf 1 = .ok (.getfield 11, 3) := by decide +kernel
theorem dX7_readOf_4 : decode cX7_readOf 4 = .ok (.bipush 32, 2) := by decide +kernel
theorem dX7_readOf_6 : decode cX7_readOf 6 = .ok (.iload_n 1, 1) := by decide +kernel
theorem dX7_readOf_7 : decode cX7_readOf 7 = .ok (.bipush 9, 2) := by decide +kernel
theorem dX7_readOf_9 : decode cX7_readOf 9 = .ok (.imul, 1) := by decide +kernel
theorem dX7_readOf_10 : decode cX7_readOf 10 = .ok (.iadd, 1) := by decide +kernel
theorem dX7_readOf_11 : decode cX7_readOf 11 = .ok (.bipush 7, 2) := by decide +kernel
theorem dX7_readOf_13 : decode cX7_readOf 13 = .ok (.iadd, 1) := by decide +kernel
theorem dX7_readOf_14 : decode cX7_readOf 14 = .ok (.iaload, 1) := by decide +kernel
theorem dX7_readOf_15 : decode cX7_readOf 15 = .ok (.ireturn, 1) := by decide +kernel
theorem dX7_writeOf_0 : decode cX7_writeOf 0 = .ok (.aload_n 0, 1) := by decide +kernel
theorem dX7_writeOf_1 : decode cX7_writeOf 1 = .ok (.getfield 11, 3) := by decide +kernel
theorem dX7_writeOf_4 : decode cX7_writeOf 4 = .ok (.bipush 32, 2) := by decide +kernel
theorem dX7_writeOf_6 : decode cX7_writeOf 6 = .ok (.iload_n 1, 1) := by decide +kernel
theorem dX7_writeOf_7 : decode cX7_writeOf 7 = .ok (.bipush 9, 2) := by decide +kernel
theorem dX7_writeOf_9 : decode cX7_writeOf 9 = .ok (.imul, 1) := by decide +kernel
theorem dX7_writeOf_10 : decode cX7_writeOf 10 = .ok (.iadd, 1) := by decide +kernel
theorem dX7_writeOf_11 : decode cX7_writeOf 11 = .ok (.bipush 8, 2) := by decide +kernel
theorem dX7_writeOf_13 : decode cX7_writeOf 13 = .ok (.iadd, 1) := by decide +kernel
theorem dX7_writeOf_14 : decode cX7_writeOf 14 = .ok (.iaload, 1) := by decide +kernel
theorem dX7_writeOf_15 : decode cX7_writeOf 15 = .ok (.ireturn, 1) := by decide +kernel
theorem dX7_need_0 : decode cX7_need 0 = .ok (.iload_n 2, 1) := by decide +kernel
theorem dX7_need_1 : decode cX7_need 1 = .ok (.ifCond .ne 11, 3) := by decide +kernel
theorem dX7_need_4 : decode cX7_need 4 = .ok (.aload_n 0, 1) := by decide +kernel
theorem dX7_need_5 : decode cX7_need 5 = .ok (.iload_n 1, 1) := by decide +kernel
theorem dX7_need_6 : decode cX7_need 6 = .ok (.invokevirtual 54, 3) := by decide +kernel
theorem dX7_need_9 : decode cX7_need 9 = .ok (.goto 8, 3) := by decide +kernel
theorem dX7_need_12 : decode cX7_need 12 = .ok (.aload_n 0, 1) := by decide +kernel
theorem dX7_need_13 : decode cX7_need 13 = .ok (.iload_n 1, 1) := by decide +kernel
theorem dX7_need_14 : decode cX7_need 14 = .ok (.invokevirtual 58, 3) := by decide +kernel
theorem dX7_need_17 : decode cX7_need 17 = .ok (.ireturn, 1) := by decide +kernel
theorem dX7_total_0 : decode cX7_total 0 = .ok (.aload_n 0, 1) := by decide +kernel
theorem dX7_total_1 : decode cX7_total 1 = .ok (.iload_n 1, 1) := by decide +kernel
theorem dX7_total_2 : decode cX7_total 2 = .ok (.aload_n 0, 1) := by decide +kernel
theorem dX7_total_3 : decode cX7_total 3 = .ok (.invokevirtual 61, 3) := by decide +kernel
theorem dX7_total_6 : decode cX7_total 6 = .ok (.iconst 1, 1) := by decide +kernel
theorem dX7_total_7 : decode cX7_total 7 = .ok (.isub, 1) := by decide +kernel
theorem dX7_total_8 : decode cX7_total 8 = .ok (.invokevirtual 64, 3) := by decide +kernel
theorem dX7_total_11 : decode cX7_total 11 = .ok (.ireturn, 1) := by decide +kernel
theorem dX7_votesOfSet_0 : decode cX7_votesOfSet 0 = .ok (.iconst 0, 1) := by decide +kernel
theorem dX7_votesOfSet_1 : decode cX7_votesOfSet 1 = .ok (.istore_n 3, 1) := by decide +kernel
theorem dX7_votesOfSet_2 : decode cX7_votesOfSet 2 = .ok (.iconst 0, 1) := by decide +kernel
theorem dX7_votesOfSet_3 : decode cX7_votesOfSet 3 = .ok (.istore 4, 2) := by decide +kernel
theorem dX7_votesOfSet_5 : decode cX7_votesOfSet 5 = .ok (.iload 4, 2) := by decide +kernel
theorem dX7_votesOfSet_7 : decode cX7_votesOfSet 7 = .ok (.aload_n 0, 1) := by decide +kernel
theorem dX7_votesOfSet_8 : decode cX7_votesOfSet 8 = .ok (.invokevirtual 47, 3) := by decide +kernel
theorem dX7_votesOfSet_11 : decode cX7_votesOfSet 11 = .ok (.if_icmp .ge 29, 3) := by decide +kernel
theorem dX7_votesOfSet_14 : decode cX7_votesOfSet 14 = .ok (.iload_n 2, 1) := by decide +kernel
theorem dX7_votesOfSet_15 : decode cX7_votesOfSet 15 = .ok (.iload 4, 2) := by decide +kernel
theorem dX7_votesOfSet_17 : decode cX7_votesOfSet 17 = .ok (.ishr, 1) := by decide +kernel
theorem dX7_votesOfSet_18 : decode cX7_votesOfSet 18 = .ok (.iconst 1, 1) := by decide +kernel
theorem dX7_votesOfSet_19 : decode cX7_votesOfSet 19 = .ok (.iand, 1) := by decide +kernel
theorem dX7_votesOfSet_20 : decode cX7_votesOfSet 20 = .ok (.iconst 1, 1) := by decide +kernel
theorem dX7_votesOfSet_21 : decode cX7_votesOfSet 21 = .ok (.if_icmp .ne 13, 3) := by decide +kernel
theorem dX7_votesOfSet_24 : decode cX7_votesOfSet 24 = .ok (.iload_n 3, 1) := by decide +kernel
theorem dX7_votesOfSet_25 : decode cX7_votesOfSet 25 = .ok (.aload_n 0, 1) := by decide +kernel
theorem dX7_votesOfSet_26 : decode cX7_votesOfSet 26 = .ok (.iload_n 1, 1) := by decide +kernel
theorem dX7_votesOfSet_27 : decode cX7_votesOfSet 27 = .ok (.iload 4, 2) := by decide +kernel
theorem dX7_votesOfSet_29 : decode cX7_votesOfSet 29 = .ok (.invokevirtual 68, 3) := by decide +kernel
theorem dX7_votesOfSet_32 : decode cX7_votesOfSet 32 = .ok (.iadd, 1) := by decide +kernel
theorem dX7_votesOfSet_33 : decode cX7_votesOfSet 33 = .ok (.istore_n 3, 1) := by decide +kernel
theorem dX7_votesOfSet_34 : decode cX7_votesOfSet 34 = .ok (.iinc 4 1, 3) := by decide +kernel
theorem dX7_votesOfSet_37 : decode cX7_votesOfSet 37 = .ok (.goto (-32), 3) := by decide +kernel
theorem dX7_votesOfSet_40 : decode cX7_votesOfSet 40 = .ok (.iload_n 3, 1) := by decide +kernel
theorem dX7_votesOfSet_41 : decode cX7_votesOfSet 41 = .ok (.ireturn, 1) := by decide +kernel
theorem dX7_addLike_0 : decode cX7_addLike 0 = .ok (.aload_n 0, 1) := by decide +kernel
theorem dX7_addLike_1 : decode cX7_addLike 1 = .ok (.getfield 11, 3) := by decide +kernel
theorem dX7_addLike_4 : decode cX7_addLike 4 = .ok (.bipush 31, 2) := by decide +kernel
theorem dX7_addLike_6 : decode cX7_addLike 6 = .ok (.iaload, 1) := by decide +kernel
theorem dX7_addLike_7 : decode cX7_addLike 7 = .ok (.istore_n 2, 1) := by decide +kernel
theorem dX7_addLike_8 : decode cX7_addLike 8 = .ok (.aload_n 0, 1) := by decide +kernel
theorem dX7_addLike_9 : decode cX7_addLike 9 = .ok (.getfield 11, 3) := by decide +kernel
theorem dX7_addLike_12 : decode cX7_addLike 12 = .ok (.bipush 32, 2) := by decide +kernel
theorem dX7_addLike_14 : decode cX7_addLike 14 = .ok (.iload_n 1, 1) := by decide +kernel
theorem dX7_addLike_15 : decode cX7_addLike 15 = .ok (.bipush 9, 2) := by decide +kernel
theorem dX7_addLike_17 : decode cX7_addLike 17 = .ok (.imul, 1) := by decide +kernel
theorem dX7_addLike_18 : decode cX7_addLike 18 = .ok (.iadd, 1) := by decide +kernel
theorem dX7_addLike_19 : decode cX7_addLike 19 = .ok (.aload_n 0, 1) := by decide +kernel
theorem dX7_addLike_20 : decode cX7_addLike 20 = .ok (.getfield 11, 3) := by decide +kernel
theorem dX7_addLike_23 : decode cX7_addLike 23 = .ok (.bipush 32, 2) := by decide +kernel
theorem dX7_addLike_25 : decode cX7_addLike 25 = .ok (.iload_n 2, 1) := by decide +kernel
theorem dX7_addLike_26 : decode cX7_addLike 26 = .ok (.bipush 9, 2) := by decide +kernel
theorem dX7_addLike_28 : decode cX7_addLike 28 = .ok (.imul, 1) := by decide +kernel
theorem dX7_addLike_29 : decode cX7_addLike 29 = .ok (.iadd, 1) := by decide +kernel
theorem dX7_addLike_30 : decode cX7_addLike 30 = .ok (.bipush 9, 2) := by decide +kernel
theorem dX7_addLike_32 : decode cX7_addLike 32 = .ok (.invokestatic 41, 3) := by decide +kernel
theorem dX7_addLike_35 : decode cX7_addLike 35 = .ok (.aload_n 0, 1) := by decide +kernel
theorem dX7_addLike_36 : decode cX7_addLike 36 = .ok (.getfield 11, 3) := by decide +kernel
theorem dX7_addLike_39 : decode cX7_addLike 39 = .ok (.bipush 31, 2) := by decide +kernel
theorem dX7_addLike_41 : decode cX7_addLike 41 = .ok (.iload_n 2, 1) := by decide +kernel
theorem dX7_addLike_42 : decode cX7_addLike 42 = .ok (.iconst 1, 1) := by decide +kernel
theorem dX7_addLike_43 : decode cX7_addLike 43 = .ok (.iadd, 1) := by decide +kernel
theorem dX7_addLike_44 : decode cX7_addLike 44 = .ok (.iastore, 1) := by decide +kernel
theorem dX7_addLike_45 : decode cX7_addLike 45 = .ok (.iload_n 2, 1) := by decide +kernel
theorem dX7_addLike_46 : decode cX7_addLike 46 = .ok (.ireturn, 1) := by decide +kernel
theorem dX7_setNeeds_0 : decode cX7_setNeeds 0 = .ok (.aload_n 0, 1) := by decide +kernel
theorem dX7_setNeeds_1 : decode cX7_setNeeds 1 = .ok (.getfield 11, 3) := by decide +kernel
theorem dX7_setNeeds_4 : decode cX7_setNeeds 4 = .ok (.bipush 32, 2) := by decide +kernel
theorem dX7_setNeeds_6 : decode cX7_setNeeds 6 = .ok (.iload_n 1, 1) := by decide +kernel
theorem dX7_setNeeds_7 : decode cX7_setNeeds 7 = .ok (.bipush 9, 2) := by decide +kernel
theorem dX7_setNeeds_9 : decode cX7_setNeeds 9 = .ok (.imul, 1) := by decide +kernel
theorem dX7_setNeeds_10 : decode cX7_setNeeds 10 = .ok (.iadd, 1) := by decide +kernel
theorem dX7_setNeeds_11 : decode cX7_setNeeds 11 = .ok (.bipush 7, 2) := by decide +kernel
theorem dX7_setNeeds_13 : decode cX7_setNeeds 13 = .ok (.iadd, 1) := by decide +kernel
theorem dX7_setNeeds_14 : decode cX7_setNeeds 14 = .ok (.iload_n 2, 1) := by decide +kernel
theorem dX7_setNeeds_15 : decode cX7_setNeeds 15 = .ok (.iastore, 1) := by decide +kernel
theorem dX7_setNeeds_16 : decode cX7_setNeeds 16 = .ok (.aload_n 0, 1) := by decide +kernel
theorem dX7_setNeeds_17 : decode cX7_setNeeds 17 = .ok (.getfield 11, 3) := by decide +kernel
theorem dX7_setNeeds_20 : decode cX7_setNeeds 20 = .ok (.bipush 32, 2) := by decide +kernel
theorem dX7_setNeeds_22 : decode cX7_setNeeds 22 = .ok (.iload_n 1, 1) := by decide +kernel
theorem dX7_setNeeds_23 : decode cX7_setNeeds 23 = .ok (.bipush 9, 2) := by decide +kernel
theorem dX7_setNeeds_25 : decode cX7_setNeeds 25 = .ok (.imul, 1) := by decide +kernel
theorem dX7_setNeeds_26 : decode cX7_setNeeds 26 = .ok (.iadd, 1) := by decide +kernel
theorem dX7_setNeeds_27 : decode cX7_setNeeds 27 = .ok (.bipush 8, 2) := by decide +kernel
theorem dX7_setNeeds_29 : decode cX7_setNeeds 29 = .ok (.iadd, 1) := by decide +kernel
theorem dX7_setNeeds_30 : decode cX7_setNeeds 30 = .ok (.iload_n 3, 1) := by decide +kernel
theorem dX7_setNeeds_31 : decode cX7_setNeeds 31 = .ok (.iastore, 1) := by decide +kernel
theorem dX7_setNeeds_32 : decode cX7_setNeeds 32 = .ok (.return_, 1) := by decide +kernel
theorem dX7_setVoter_0 : decode cX7_setVoter 0 = .ok (.bipush 32, 2) := by decide +kernel
theorem dX7_setVoter_2 : decode cX7_setVoter 2 = .ok (.iload_n 1, 1) := by decide +kernel
theorem dX7_setVoter_3 : decode cX7_setVoter 3 = .ok (.bipush 9, 2) := by decide +kernel
theorem dX7_setVoter_5 : decode cX7_setVoter 5 = .ok (.imul, 1) := by decide +kernel
theorem dX7_setVoter_6 : decode cX7_setVoter 6 = .ok (.iadd, 1) := by decide +kernel
theorem dX7_setVoter_7 : decode cX7_setVoter 7 = .ok (.istore 5, 2) := by decide +kernel
theorem dX7_setVoter_9 : decode cX7_setVoter 9 = .ok (.aload_n 0, 1) := by decide +kernel
theorem dX7_setVoter_10 : decode cX7_setVoter 10 = .ok (.getfield 11, 3) := by decide +kernel
theorem dX7_setVoter_13 : decode cX7_setVoter 13 = .ok (.iload 5, 2) := by decide +kernel
theorem dX7_setVoter_15 : decode cX7_setVoter 15 = .ok (.iload_n 2, 1) := by decide +kernel
theorem dX7_setVoter_16 : decode cX7_setVoter 16 = .ok (.iadd, 1) := by decide +kernel
theorem dX7_setVoter_17 : decode cX7_setVoter 17 = .ok (.iload_n 3, 1) := by decide +kernel
theorem dX7_setVoter_18 : decode cX7_setVoter 18 = .ok (.iastore, 1) := by decide +kernel
theorem dX7_setVoter_19 : decode cX7_setVoter 19 = .ok (.aload_n 0, 1) := by decide +kernel
theorem dX7_setVoter_20 : decode cX7_setVoter 20 = .ok (.getfield 11, 3) := by decide +kernel
theorem dX7_setVoter_23 : decode cX7_setVoter 23 = .ok (.iload 5, 2) := by decide +kernel
theorem dX7_setVoter_25 : decode cX7_setVoter 25 = .ok (.bipush 6, 2) := by decide +kernel
theorem dX7_setVoter_27 : decode cX7_setVoter 27 = .ok (.iadd, 1) := by decide +kernel
theorem dX7_setVoter_28 : decode cX7_setVoter 28 = .ok (.iaload, 1) := by decide +kernel
theorem dX7_setVoter_29 : decode cX7_setVoter 29 = .ok (.iconst 1, 1) := by decide +kernel
theorem dX7_setVoter_30 : decode cX7_setVoter 30 = .ok (.iload_n 2, 1) := by decide +kernel
theorem dX7_setVoter_31 : decode cX7_setVoter 31 = .ok (.ishl, 1) := by decide +kernel
theorem dX7_setVoter_32 : decode cX7_setVoter 32 = .ok (.iconst (-1), 1) := by decide +kernel
theorem dX7_setVoter_33 : decode cX7_setVoter 33 = .ok (.ixor, 1) := by decide +kernel
theorem dX7_setVoter_34 : decode cX7_setVoter 34 = .ok (.iand, 1) := by decide +kernel
theorem dX7_setVoter_35 : decode cX7_setVoter 35 = .ok (.istore 6, 2) := by decide +kernel
theorem dX7_setVoter_37 : decode cX7_setVoter 37 = .ok (.aload_n 0, 1) := by decide +kernel
theorem dX7_setVoter_38 : decode cX7_setVoter 38 = .ok (.getfield 11, 3) := by decide +kernel
theorem dX7_setVoter_41 : decode cX7_setVoter 41 = .ok (.iload 5, 2) := by decide +kernel
theorem dX7_setVoter_43 : decode cX7_setVoter 43 = .ok (.bipush 6, 2) := by decide +kernel
theorem dX7_setVoter_45 : decode cX7_setVoter 45 = .ok (.iadd, 1) := by decide +kernel
theorem dX7_setVoter_46 : decode cX7_setVoter 46 = .ok (.iload 4, 2) := by decide +kernel
theorem dX7_setVoter_48 : decode cX7_setVoter 48 = .ok (.ifCond .eq 12, 3) := by decide +kernel
theorem dX7_setVoter_51 : decode cX7_setVoter 51 = .ok (.iload 6, 2) := by decide +kernel
theorem dX7_setVoter_53 : decode cX7_setVoter 53 = .ok (.iconst 1, 1) := by decide +kernel
theorem dX7_setVoter_54 : decode cX7_setVoter 54 = .ok (.iload_n 2, 1) := by decide +kernel
theorem dX7_setVoter_55 : decode cX7_setVoter 55 = .ok (.ishl, 1) := by decide +kernel
theorem dX7_setVoter_56 : decode cX7_setVoter 56 = .ok (.ior, 1) := by decide +kernel
theorem dX7_setVoter_57 : decode cX7_setVoter 57 = .ok (.goto 5, 3) := by decide +kernel
theorem dX7_setVoter_60 : decode cX7_setVoter 60 = .ok (.iload 6, 2) := by decide +kernel
theorem dX7_setVoter_62 : decode cX7_setVoter 62 = .ok (.iastore, 1) := by decide +kernel
theorem dX7_setVoter_63 : decode cX7_setVoter 63 = .ok (.return_, 1) := by decide +kernel
theorem dX8_init_0 : decode cX8_init 0 = .ok (.aload_n 0, 1) := by decide +kernel
theorem dX8_init_1 : decode cX8_init 1 = .ok (.invokespecial 3, 3) := by decide +kernel
theorem dX8_init_4 : decode cX8_init 4 = .ok (.aload_n 0, 1) := by decide +kernel
theorem dX8_init_5 : decode cX8_init 5 = .ok (.bipush 6, 2) := by decide +kernel
theorem dX8_init_7 : decode cX8_init 7 = .ok (.newarray .int, 2) := by decide +kernel
theorem dX8_init_9 : decode cX8_init 9 = .ok (.putfield 9, 3) := by decide +kernel
theorem dX8_init_12 : decode cX8_init 12 = .ok (.aload_n 0, 1) := by decide +kernel
theorem dX8_init_13 : decode cX8_init 13 = .ok (.iconst 0, 1) := by decide +kernel
theorem dX8_init_14 : decode cX8_init 14 = .ok (.putfield 15, 3) := by decide +kernel
theorem dX8_init_17 : decode cX8_init 17 = .ok (.aload_n 0, 1) := by decide +kernel
theorem dX8_init_18 : decode cX8_init 18 = .ok (.iconst 0, 1) := by decide +kernel
theorem dX8_init_19 : decode cX8_init 19 = .ok (.putfield 19, 3) := by decide +kernel
theorem dX8_init_22 : decode cX8_init 22 = .ok (.aload_n 0, 1) := by decide +kernel
theorem dX8_init_23 : decode cX8_init 23 = .ok (.iconst 1, 1) := by decide +kernel
theorem dX8_init_24 : decode cX8_init 24 = .ok (.putfield 22, 3) := by decide +kernel
theorem dX8_init_27 : decode cX8_init 27 = .ok (.aload_n 0, 1) := by decide +kernel
theorem dX8_init_28 : decode cX8_init 28 = .ok (.iconst 1, 1) := by decide +kernel
theorem dX8_init_29 : decode cX8_init 29 = .ok (.putfield 25, 3) := by decide +kernel
theorem dX8_init_32 : decode cX8_init 32 = .ok (.aload_n 0, 1) := by decide +kernel
theorem dX8_init_33 : decode cX8_init 33 = .ok (.iconst 0, 1) := by decide +kernel
theorem dX8_init_34 : decode cX8_init 34 = .ok (.putfield 28, 3) := by decide +kernel
theorem dX8_init_37 : decode cX8_init 37 = .ok (.aload_n 0, 1) := by decide +kernel
theorem dX8_init_38 : decode cX8_init 38 = .ok (.new 31, 3) := by decide +kernel
theorem dX8_init_41 : decode cX8_init 41 = .ok (.dup, 1) := by decide +kernel
theorem dX8_init_42 : decode cX8_init 42 = .ok (.aload_n 1, 1) := by decide +kernel
theorem dX8_init_43 : decode cX8_init 43 = .ok (.invokespecial 33, 3) := by decide +kernel
theorem dX8_init_46 : decode cX8_init 46 = .ok (.putfield 36, 3) := by decide +kernel
theorem dX8_init_49 : decode cX8_init 49 = .ok (.return_, 1) := by decide +kernel
theorem dX8_faultOf_0 : decode cX8_faultOf 0 = .ok (.aload_n 0, 1) := by decide +kernel
theorem dX8_faultOf_1 : decode cX8_faultOf 1 = .ok (.getfield 36, 3) := by decide +kernel
theorem dX8_faultOf_4 : decode cX8_faultOf 4 = .ok (.invokevirtual 40, 3) := by decide +kernel
theorem dX8_faultOf_7 : decode cX8_faultOf 7 = .ok (.aload_n 0, 1) := by decide +kernel
theorem dX8_faultOf_8 : decode cX8_faultOf 8 = .ok (.iconst 0, 1) := by decide +kernel
theorem dX8_faultOf_9 : decode cX8_faultOf 9 = .ok (.putfield 15, 3) := by decide +kernel
theorem dX8_faultOf_12 : decode cX8_faultOf 12 = .ok (.aload_n 0, 1) := by decide +kernel
theorem dX8_faultOf_13 : decode cX8_faultOf 13 = .ok (.iconst 0, 1) := by decide +kernel
theorem dX8_faultOf_14 : decode cX8_faultOf 14 = .ok (.putfield 19, 3) := by decide +kernel
theorem dX8_faultOf_17 : decode cX8_faultOf 17 = .ok (.aload_n 0, 1) := by decide +kernel
theorem dX8_faultOf_18 : decode cX8_faultOf 18 = .ok (.iconst 0, 1) := by decide +kernel
theorem dX8_faultOf_19 : decode cX8_faultOf 19 = .ok (.putfield 22, 3) := by decide +kernel
theorem dX8_faultOf_22 : decode cX8_faultOf 22 = .ok (.aload_n 0, 1) := by decide +kernel
theorem dX8_faultOf_23 : decode cX8_faultOf 23 = .ok (.iconst 0, 1) := by decide +kernel
theorem dX8_faultOf_24 : decode cX8_faultOf 24 = .ok (.putfield 25, 3) := by decide +kernel
theorem dX8_faultOf_27 : decode cX8_faultOf 27 = .ok (.aload_n 0, 1) := by decide +kernel
theorem dX8_faultOf_28 : decode cX8_faultOf 28 = .ok (.iconst 0, 1) := by decide +kernel
theorem dX8_faultOf_29 : decode cX8_faultOf 29 = .ok (.putfield 28, 3) := by decide +kernel
theorem dX8_faultOf_32 : decode cX8_faultOf 32 = .ok (.aload_n 0, 1) := by decide +kernel
theorem dX8_faultOf_33 : decode cX8_faultOf 33 = .ok (.getfield 36, 3) := by decide +kernel
theorem dX8_faultOf_36 : decode cX8_faultOf 36 = .ok (.invokevirtual 43, 3) := by decide +kernel
theorem dX8_faultOf_39 : decode cX8_faultOf 39 = .ok (.iconst 0, 1) := by decide +kernel
theorem dX8_faultOf_40 : decode cX8_faultOf 40 = .ok (.istore_n 1, 1) := by decide +kernel
theorem dX8_faultOf_41 : decode cX8_faultOf 41 = .ok (.iload_n 1, 1) := by decide +kernel
theorem dX8_faultOf_42 : decode cX8_faultOf 42 = .ok (.bipush 120, 2) := by decide +kernel
theorem dX8_faultOf_44 : decode cX8_faultOf 44 = .ok (.if_icmp .ge 41, 3) := by decide +kernel
theorem dX8_faultOf_47 : decode cX8_faultOf 47 = .ok (.aload_n 0, 1) := by decide +kernel
theorem dX8_faultOf_48 : decode cX8_faultOf 48 = .ok (.getfield 36, 3) := by decide +kernel
theorem dX8_faultOf_51 : decode cX8_faultOf 51 = .ok (.getfield 46, 3) := by decide +kernel
theorem dX8_faultOf_54 : decode cX8_faultOf 54 = .ok (.ifCond .eq 31, 3) := by decide +kernel
theorem dX8_faultOf_57 : decode cX8_faultOf 57 = .ok (.aload_n 0, 1) := by decide +kernel
theorem dX8_faultOf_58 : decode cX8_faultOf 58 = .ok (.invokevirtual 49, 3) := by decide +kernel
theorem dX8_faultOf_61 : decode cX8_faultOf 61 = .ok (.ifCond .ne 11, 3) := by decide +kernel
theorem dX8_faultOf_64 : decode cX8_faultOf 64 = .ok (.aload_n 0, 1) := by decide +kernel
theorem dX8_faultOf_65 : decode cX8_faultOf 65 = .ok (.getfield 36, 3) := by decide +kernel
theorem dX8_faultOf_68 : decode cX8_faultOf 68 = .ok (.getfield 53, 3) := by decide +kernel
theorem dX8_faultOf_71 : decode cX8_faultOf 71 = .ok (.ireturn, 1) := by decide +kernel
theorem dX8_faultOf_72 : decode cX8_faultOf 72 = .ok (.aload_n 0, 1) := by decide +kernel
theorem dX8_faultOf_73 : decode cX8_faultOf 73 = .ok (.getfield 36, 3) := by decide +kernel
theorem dX8_faultOf_76 : decode cX8_faultOf 76 = .ok (.invokevirtual 43, 3) := by decide +kernel
theorem dX8_faultOf_79 : decode cX8_faultOf 79 = .ok (.iinc 1 1, 3) := by decide +kernel
theorem dX8_faultOf_82 : decode cX8_faultOf 82 = .ok (.goto (-41), 3) := by decide +kernel
theorem dX8_faultOf_85 : decode cX8_faultOf 85 = .ok (.aload_n 0, 1) := by decide +kernel
theorem dX8_faultOf_86 : decode cX8_faultOf 86 = .ok (.invokevirtual 56, 3) := by decide +kernel
theorem dX8_faultOf_89 : decode cX8_faultOf 89 = .ok (.ifCond .eq 8, 3) := by decide +kernel
theorem dX8_faultOf_92 : decode cX8_faultOf 92 = .ok (.bipush (-9), 2) := by decide +kernel
theorem dX8_faultOf_94 : decode cX8_faultOf 94 = .ok (.goto 10, 3) := by decide +kernel
theorem dX8_faultOf_97 : decode cX8_faultOf 97 = .ok (.aload_n 0, 1) := by decide +kernel
theorem dX8_faultOf_98 : decode cX8_faultOf 98 = .ok (.getfield 36, 3) := by decide +kernel
theorem dX8_faultOf_101 : decode cX8_faultOf 101 = .ok (.getfield 53, 3) := by decide +kernel
theorem dX8_faultOf_104 : decode cX8_faultOf 104 = .ok (.ireturn, 1) := by decide +kernel
theorem dX8_takeItem_0 : decode cX8_takeItem 0 = .ok (.aload_n 0, 1) := by decide +kernel
theorem dX8_takeItem_1 : decode cX8_takeItem 1 = .ok (.getfield 36, 3) := by decide +kernel
theorem dX8_takeItem_4 : decode cX8_takeItem 4 = .ok (.getfield 46, 3) := by decide +kernel
theorem dX8_takeItem_7 : decode cX8_takeItem 7 = .ok (.istore_n 1, 1) := by decide +kernel
theorem dX8_takeItem_8 : decode cX8_takeItem 8 = .ok (.aload_n 0, 1) := by decide +kernel
theorem dX8_takeItem_9 : decode cX8_takeItem 9 = .ok (.iload_n 1, 1) := by decide +kernel
theorem dX8_takeItem_10 : decode cX8_takeItem 10 = .ok (.invokevirtual 59, 3) := by decide +kernel
theorem dX8_takeItem_13 : decode cX8_takeItem 13 = .ok (.ifCond .ne 5, 3) := by decide +kernel
theorem dX8_takeItem_16 : decode cX8_takeItem 16 = .ok (.iconst 0, 1) := by decide +kernel
theorem dX8_takeItem_17 : decode cX8_takeItem 17 = .ok (.ireturn, 1) := by decide +kernel
theorem dX8_takeItem_18 : decode cX8_takeItem 18 = .ok (.aload_n 0, 1) := by decide +kernel
theorem dX8_takeItem_19 : decode cX8_takeItem 19 = .ok (.getfield 36, 3) := by decide +kernel
theorem dX8_takeItem_22 : decode cX8_takeItem 22 = .ok (.invokevirtual 43, 3) := by decide +kernel
theorem dX8_takeItem_25 : decode cX8_takeItem 25 = .ok (.aload_n 0, 1) := by decide +kernel
theorem dX8_takeItem_26 : decode cX8_takeItem 26 = .ok (.getfield 36, 3) := by decide +kernel
theorem dX8_takeItem_29 : decode cX8_takeItem 29 = .ok (.getfield 46, 3) := by decide +kernel
theorem dX8_takeItem_32 : decode cX8_takeItem 32 = .ok (.iconst 5, 1) := by decide +kernel
theorem dX8_takeItem_33 : decode cX8_takeItem 33 = .ok (.if_icmp .ne 17, 3) := by decide +kernel
theorem dX8_takeItem_36 : decode cX8_takeItem 36 = .ok (.iload_n 1, 1) := by decide +kernel
theorem dX8_takeItem_37 : decode cX8_takeItem 37 = .ok (.aload_n 0, 1) := by decide +kernel
theorem dX8_takeItem_38 : decode cX8_takeItem 38 = .ok (.getfield 36, 3) := by decide +kernel
theorem dX8_takeItem_41 : decode cX8_takeItem 41 = .ok (.getfield 63, 3) := by decide +kernel
theorem dX8_takeItem_44 : decode cX8_takeItem 44 = .ok (.invokestatic 66, 3) := by decide +kernel
theorem dX8_takeItem_47 : decode cX8_takeItem 47 = .ok (.ifCond .ne 5, 3) := by decide +kernel
theorem dX8_takeItem_50 : decode cX8_takeItem 50 = .ok (.iconst 0, 1) := by decide +kernel
theorem dX8_takeItem_51 : decode cX8_takeItem 51 = .ok (.ireturn, 1) := by decide +kernel
theorem dX8_takeItem_52 : decode cX8_takeItem 52 = .ok (.aload_n 0, 1) := by decide +kernel
theorem dX8_takeItem_53 : decode cX8_takeItem 53 = .ok (.getfield 36, 3) := by decide +kernel
theorem dX8_takeItem_56 : decode cX8_takeItem 56 = .ok (.getfield 63, 3) := by decide +kernel
theorem dX8_takeItem_59 : decode cX8_takeItem 59 = .ok (.istore_n 2, 1) := by decide +kernel
theorem dX8_takeItem_60 : decode cX8_takeItem 60 = .ok (.aload_n 0, 1) := by decide +kernel
theorem dX8_takeItem_61 : decode cX8_takeItem 61 = .ok (.getfield 36, 3) := by decide +kernel
theorem dX8_takeItem_64 : decode cX8_takeItem 64 = .ok (.invokevirtual 43, 3) := by decide +kernel
theorem dX8_takeItem_67 : decode cX8_takeItem 67 = .ok (.aload_n 0, 1) := by decide +kernel
theorem dX8_takeItem_68 : decode cX8_takeItem 68 = .ok (.getfield 36, 3) := by decide +kernel
theorem dX8_takeItem_71 : decode cX8_takeItem 71 = .ok (.getfield 46, 3) := by decide +kernel
theorem dX8_takeItem_74 : decode cX8_takeItem 74 = .ok (.bipush 6, 2) := by decide +kernel
theorem dX8_takeItem_76 : decode cX8_takeItem 76 = .ok (.if_icmp .eq 5, 3) := by decide +kernel
theorem dX8_takeItem_79 : decode cX8_takeItem 79 = .ok (.iconst 0, 1) := by decide +kernel
theorem dX8_takeItem_80 : decode cX8_takeItem 80 = .ok (.ireturn, 1) := by decide +kernel
theorem dX8_takeItem_81 : decode cX8_takeItem 81 = .ok (.aload_n 0, 1) := by decide +kernel
theorem dX8_takeItem_82 : decode cX8_takeItem 82 = .ok (.iload_n 1, 1) := by decide +kernel
theorem dX8_takeItem_83 : decode cX8_takeItem 83 = .ok (.iload_n 2, 1) := by decide +kernel
theorem dX8_takeItem_84 : decode cX8_takeItem 84 = .ok (.invokevirtual 70, 3) := by decide +kernel
theorem dX8_takeItem_87 : decode cX8_takeItem 87 = .ok (.iconst 1, 1) := by decide +kernel
theorem dX8_takeItem_88 : decode cX8_takeItem 88 = .ok (.ireturn, 1) := by decide +kernel
theorem dX8_mayBegin_0 : decode cX8_mayBegin 0 = .ok (.iload_n 1, 1) := by decide +kernel
theorem dX8_mayBegin_1 : decode cX8_mayBegin 1 = .ok (.tableswitch 72 1 4 #[31, 31, 46, 59], 31) := by decide +kernel
theorem dX8_mayBegin_32 : decode cX8_mayBegin 32 = .ok (.aload_n 0, 1) := by decide +kernel
theorem dX8_mayBegin_33 : decode cX8_mayBegin 33 = .ok (.getfield 19, 3) := by decide +kernel
theorem dX8_mayBegin_36 : decode cX8_mayBegin 36 = .ok (.bipush 6, 2) := by decide +kernel
theorem dX8_mayBegin_38 : decode cX8_mayBegin 38 = .ok (.if_icmp .ge 7, 3) := by decide +kernel
theorem dX8_mayBegin_41 : decode cX8_mayBegin 41 = .ok (.iconst 1, 1) := by decide +kernel
theorem dX8_mayBegin_42 : decode cX8_mayBegin 42 = .ok (.goto 4, 3) := by decide +kernel
theorem dX8_mayBegin_45 : decode cX8_mayBegin 45 = .ok (.iconst 0, 1) := by decide +kernel
theorem dX8_mayBegin_46 : decode cX8_mayBegin 46 = .ok (.ireturn, 1) := by decide +kernel
theorem dX8_mayBegin_47 : decode cX8_mayBegin 47 = .ok (.aload_n 0, 1) := by decide +kernel
theorem dX8_mayBegin_48 : decode cX8_mayBegin 48 = .ok (.getfield 22, 3) := by decide +kernel
theorem dX8_mayBegin_51 : decode cX8_mayBegin 51 = .ok (.ifCond .ne 7, 3) := by decide +kernel
theorem dX8_mayBegin_54 : decode cX8_mayBegin 54 = .ok (.iconst 1, 1) := by decide +kernel
theorem dX8_mayBegin_55 : decode cX8_mayBegin 55 = .ok (.goto 4, 3) := by decide +kernel
theorem dX8_mayBegin_58 : decode cX8_mayBegin 58 = .ok (.iconst 0, 1) := by decide +kernel
theorem dX8_mayBegin_59 : decode cX8_mayBegin 59 = .ok (.ireturn, 1) := by decide +kernel
theorem dX8_mayBegin_60 : decode cX8_mayBegin 60 = .ok (.aload_n 0, 1) := by decide +kernel
theorem dX8_mayBegin_61 : decode cX8_mayBegin 61 = .ok (.getfield 25, 3) := by decide +kernel
theorem dX8_mayBegin_64 : decode cX8_mayBegin 64 = .ok (.ifCond .ne 7, 3) := by decide +kernel
theorem dX8_mayBegin_67 : decode cX8_mayBegin 67 = .ok (.iconst 1, 1) := by decide +kernel
theorem dX8_mayBegin_68 : decode cX8_mayBegin 68 = .ok (.goto 4, 3) := by decide +kernel
theorem dX8_mayBegin_71 : decode cX8_mayBegin 71 = .ok (.iconst 0, 1) := by decide +kernel
theorem dX8_mayBegin_72 : decode cX8_mayBegin 72 = .ok (.ireturn, 1) := by decide +kernel
theorem dX8_mayBegin_73 : decode cX8_mayBegin 73 = .ok (.iconst 0, 1) := by decide +kernel
theorem dX8_mayBegin_74 : decode cX8_mayBegin 74 = .ok (.ireturn, 1) := by decide +kernel
theorem dX8_mayFollow_0 : decode cX8_mayFollow 0 = .ok (.iload_n 0, 1) := by decide +kernel
theorem dX8_mayFollow_1 : decode cX8_mayFollow 1 = .ok (.iconst 3, 1) := by decide +kernel
theorem dX8_mayFollow_2 : decode cX8_mayFollow 2 = .ok (.if_icmp .eq 8, 3) := by decide +kernel
theorem dX8_mayFollow_5 : decode cX8_mayFollow 5 = .ok (.iload_n 0, 1) := by decide +kernel
theorem dX8_mayFollow_6 : decode cX8_mayFollow 6 = .ok (.iconst 4, 1) := by decide +kernel
theorem dX8_mayFollow_7 : decode cX8_mayFollow 7 = .ok (.if_icmp .ne 11, 3) := by decide +kernel
theorem dX8_mayFollow_10 : decode cX8_mayFollow 10 = .ok (.iload_n 1, 1) := by decide +kernel
theorem dX8_mayFollow_11 : decode cX8_mayFollow 11 = .ok (.iconst 1, 1) := by decide +kernel
theorem dX8_mayFollow_12 : decode cX8_mayFollow 12 = .ok (.bipush 30, 2) := by decide +kernel
theorem dX8_mayFollow_14 : decode cX8_mayFollow 14 = .ok (.invokestatic 74, 3) := by decide +kernel
theorem dX8_mayFollow_17 : decode cX8_mayFollow 17 = .ok (.ireturn, 1) := by decide +kernel
theorem dX8_mayFollow_18 : decode cX8_mayFollow 18 = .ok (.iload_n 1, 1) := by decide +kernel
theorem dX8_mayFollow_19 : decode cX8_mayFollow 19 = .ok (.iconst 0, 1) := by decide +kernel
theorem dX8_mayFollow_20 : decode cX8_mayFollow 20 = .ok (.iconst 5, 1) := by decide +kernel
theorem dX8_mayFollow_21 : decode cX8_mayFollow 21 = .ok (.invokestatic 74, 3) := by decide +kernel
theorem dX8_mayFollow_24 : decode cX8_mayFollow 24 = .ok (.ireturn, 1) := by decide +kernel
theorem dX8_addItem_0 : decode cX8_addItem 0 = .ok (.aload_n 0, 1) := by decide +kernel
theorem dX8_addItem_1 : decode cX8_addItem 1 = .ok (.dup, 1) := by decide +kernel
theorem dX8_addItem_2 : decode cX8_addItem 2 = .ok (.getfield 28, 3) := by decide +kernel
theorem dX8_addItem_5 : decode cX8_addItem 5 = .ok (.iconst 1, 1) := by decide +kernel
theorem dX8_addItem_6 : decode cX8_addItem 6 = .ok (.iadd, 1) := by decide +kernel
theorem dX8_addItem_7 : decode cX8_addItem 7 = .ok (.putfield 28, 3) := by decide +kernel
theorem dX8_addItem_10 : decode cX8_addItem 10 = .ok (.iload_n 1, 1) := by decide +kernel
theorem dX8_addItem_11 : decode cX8_addItem 11 = .ok (.iconst 3, 1) := by decide +kernel
theorem dX8_addItem_12 : decode cX8_addItem 12 = .ok (.if_icmp .ne 11, 3) := by decide +kernel
theorem dX8_addItem_15 : decode cX8_addItem 15 = .ok (.aload_n 0, 1) := by decide +kernel
theorem dX8_addItem_16 : decode cX8_addItem 16 = .ok (.iload_n 2, 1) := by decide +kernel
theorem dX8_addItem_17 : decode cX8_addItem 17 = .ok (.putfield 22, 3) := by decide +kernel
theorem dX8_addItem_20 : decode cX8_addItem 20 = .ok (.goto 65, 3) := by decide +kernel
theorem dX8_addItem_23 : decode cX8_addItem 23 = .ok (.iload_n 1, 1) := by decide +kernel
theorem dX8_addItem_24 : decode cX8_addItem 24 = .ok (.iconst 4, 1) := by decide +kernel
theorem dX8_addItem_25 : decode cX8_addItem 25 = .ok (.if_icmp .ne 11, 3) := by decide +kernel
theorem dX8_addItem_28 : decode cX8_addItem 28 = .ok (.aload_n 0, 1) := by decide +kernel
theorem dX8_addItem_29 : decode cX8_addItem 29 = .ok (.iload_n 2, 1) := by decide +kernel
theorem dX8_addItem_30 : decode cX8_addItem 30 = .ok (.putfield 25, 3) := by decide +kernel
theorem dX8_addItem_33 : decode cX8_addItem 33 = .ok (.goto 52, 3) := by decide +kernel
theorem dX8_addItem_36 : decode cX8_addItem 36 = .ok (.aload_n 0, 1) := by decide +kernel
theorem dX8_addItem_37 : decode cX8_addItem 37 = .ok (.getfield 19, 3) := by decide +kernel
theorem dX8_addItem_40 : decode cX8_addItem 40 = .ok (.bipush 6, 2) := by decide +kernel
theorem dX8_addItem_42 : decode cX8_addItem 42 = .ok (.if_icmp .ge 43, 3) := by decide +kernel
theorem dX8_addItem_45 : decode cX8_addItem 45 = .ok (.aload_n 0, 1) := by decide +kernel
theorem dX8_addItem_46 : decode cX8_addItem 46 = .ok (.getfield 9, 3) := by decide +kernel
theorem dX8_addItem_49 : decode cX8_addItem 49 = .ok (.aload_n 0, 1) := by decide +kernel
theorem dX8_addItem_50 : decode cX8_addItem 50 = .ok (.getfield 19, 3) := by decide +kernel
theorem dX8_addItem_53 : decode cX8_addItem 53 = .ok (.iload_n 2, 1) := by decide +kernel
theorem dX8_addItem_54 : decode cX8_addItem 54 = .ok (.iastore, 1) := by decide +kernel
theorem dX8_addItem_55 : decode cX8_addItem 55 = .ok (.iload_n 1, 1) := by decide +kernel
theorem dX8_addItem_56 : decode cX8_addItem 56 = .ok (.iconst 2, 1) := by decide +kernel
theorem dX8_addItem_57 : decode cX8_addItem 57 = .ok (.if_icmp .ne 18, 3) := by decide +kernel
theorem dX8_addItem_60 : decode cX8_addItem 60 = .ok (.aload_n 0, 1) := by decide +kernel
theorem dX8_addItem_61 : decode cX8_addItem 61 = .ok (.dup, 1) := by decide +kernel
theorem dX8_addItem_62 : decode cX8_addItem 62 = .ok (.getfield 15, 3) := by decide +kernel
theorem dX8_addItem_65 : decode cX8_addItem 65 = .ok (.iconst 1, 1) := by decide +kernel
theorem dX8_addItem_66 : decode cX8_addItem 66 = .ok (.aload_n 0, 1) := by decide +kernel
theorem dX8_addItem_67 : decode cX8_addItem 67 = .ok (.getfield 19, 3) := by decide +kernel
theorem dX8_addItem_70 : decode cX8_addItem 70 = .ok (.ishl, 1) := by decide +kernel
theorem dX8_addItem_71 : decode cX8_addItem 71 = .ok (.ior, 1) := by decide +kernel
theorem dX8_addItem_72 : decode cX8_addItem 72 = .ok (.putfield 15, 3) := by decide +kernel
theorem dX8_addItem_75 : decode cX8_addItem 75 = .ok (.aload_n 0, 1) := by decide +kernel
theorem dX8_addItem_76 : decode cX8_addItem 76 = .ok (.dup, 1) := by decide +kernel
theorem dX8_addItem_77 : decode cX8_addItem 77 = .ok (.getfield 19, 3) := by decide +kernel
theorem dX8_addItem_80 : decode cX8_addItem 80 = .ok (.iconst 1, 1) := by decide +kernel
theorem dX8_addItem_81 : decode cX8_addItem 81 = .ok (.iadd, 1) := by decide +kernel
theorem dX8_addItem_82 : decode cX8_addItem 82 = .ok (.putfield 19, 3) := by decide +kernel
theorem dX8_addItem_85 : decode cX8_addItem 85 = .ok (.return_, 1) := by decide +kernel
theorem dX8_isRight_0 : decode cX8_isRight 0 = .ok (.aload_n 0, 1) := by decide +kernel
theorem dX8_isRight_1 : decode cX8_isRight 1 = .ok (.getfield 28, 3) := by decide +kernel
theorem dX8_isRight_4 : decode cX8_isRight 4 = .ok (.ifCond .ne 15, 3) := by decide +kernel
theorem dX8_isRight_7 : decode cX8_isRight 7 = .ok (.aload_n 0, 1) := by decide +kernel
theorem dX8_isRight_8 : decode cX8_isRight 8 = .ok (.iconst 1, 1) := by decide +kernel
theorem dX8_isRight_9 : decode cX8_isRight 9 = .ok (.putfield 22, 3) := by decide +kernel
theorem dX8_isRight_12 : decode cX8_isRight 12 = .ok (.aload_n 0, 1) := by decide +kernel
theorem dX8_isRight_13 : decode cX8_isRight 13 = .ok (.iconst 1, 1) := by decide +kernel
theorem dX8_isRight_14 : decode cX8_isRight 14 = .ok (.putfield 25, 3) := by decide +kernel
theorem dX8_isRight_17 : decode cX8_isRight 17 = .ok (.iconst 1, 1) := by decide +kernel
theorem dX8_isRight_18 : decode cX8_isRight 18 = .ok (.ireturn, 1) := by decide +kernel
theorem dX8_isRight_19 : decode cX8_isRight 19 = .ok (.iconst 0, 1) := by decide +kernel
theorem dX8_isRight_20 : decode cX8_isRight 20 = .ok (.istore_n 1, 1) := by decide +kernel
theorem dX8_isRight_21 : decode cX8_isRight 21 = .ok (.iconst 0, 1) := by decide +kernel
theorem dX8_isRight_22 : decode cX8_isRight 22 = .ok (.istore_n 2, 1) := by decide +kernel
theorem dX8_isRight_23 : decode cX8_isRight 23 = .ok (.iload_n 2, 1) := by decide +kernel
theorem dX8_isRight_24 : decode cX8_isRight 24 = .ok (.aload_n 0, 1) := by decide +kernel
theorem dX8_isRight_25 : decode cX8_isRight 25 = .ok (.getfield 19, 3) := by decide +kernel
theorem dX8_isRight_28 : decode cX8_isRight 28 = .ok (.if_icmp .ge 18, 3) := by decide +kernel
theorem dX8_isRight_31 : decode cX8_isRight 31 = .ok (.iload_n 1, 1) := by decide +kernel
theorem dX8_isRight_32 : decode cX8_isRight 32 = .ok (.aload_n 0, 1) := by decide +kernel
theorem dX8_isRight_33 : decode cX8_isRight 33 = .ok (.getfield 9, 3) := by decide +kernel
theorem dX8_isRight_36 : decode cX8_isRight 36 = .ok (.iload_n 2, 1) := by decide +kernel
theorem dX8_isRight_37 : decode cX8_isRight 37 = .ok (.iaload, 1) := by decide +kernel
theorem dX8_isRight_38 : decode cX8_isRight 38 = .ok (.iadd, 1) := by decide +kernel
theorem dX8_isRight_39 : decode cX8_isRight 39 = .ok (.istore_n 1, 1) := by decide +kernel
theorem dX8_isRight_40 : decode cX8_isRight 40 = .ok (.iinc 2 1, 3) := by decide +kernel
theorem dX8_isRight_43 : decode cX8_isRight 43 = .ok (.goto (-20), 3) := by decide +kernel
theorem dX8_isRight_46 : decode cX8_isRight 46 = .ok (.aload_n 0, 1) := by decide +kernel
theorem dX8_isRight_47 : decode cX8_isRight 47 = .ok (.getfield 22, 3) := by decide +kernel
theorem dX8_isRight_50 : decode cX8_isRight 50 = .ok (.ifCond .eq 29, 3) := by decide +kernel
theorem dX8_isRight_53 : decode cX8_isRight 53 = .ok (.aload_n 0, 1) := by decide +kernel
theorem dX8_isRight_54 : decode cX8_isRight 54 = .ok (.getfield 25, 3) := by decide +kernel
theorem dX8_isRight_57 : decode cX8_isRight 57 = .ok (.ifCond .eq 22, 3) := by decide +kernel
theorem dX8_isRight_60 : decode cX8_isRight 60 = .ok (.iload_n 1, 1) := by decide +kernel
theorem dX8_isRight_61 : decode cX8_isRight 61 = .ok (.aload_n 0, 1) := by decide +kernel
theorem dX8_isRight_62 : decode cX8_isRight 62 = .ok (.getfield 22, 3) := by decide +kernel
theorem dX8_isRight_65 : decode cX8_isRight 65 = .ok (.aload_n 0, 1) := by decide +kernel
theorem dX8_isRight_66 : decode cX8_isRight 66 = .ok (.getfield 25, 3) := by decide +kernel
theorem dX8_isRight_69 : decode cX8_isRight 69 = .ok (.invokestatic 78, 3) := by decide +kernel
theorem dX8_isRight_72 : decode cX8_isRight 72 = .ok (.ifCond .eq 7, 3) := by decide +kernel
theorem dX8_isRight_75 : decode cX8_isRight 75 = .ok (.iconst 1, 1) := by decide +kernel
theorem dX8_isRight_76 : decode cX8_isRight 76 = .ok (.goto 4, 3) := by decide +kernel
theorem dX8_isRight_79 : decode cX8_isRight 79 = .ok (.iconst 0, 1) := by decide +kernel
theorem dX8_isRight_80 : decode cX8_isRight 80 = .ok (.ireturn, 1) := by decide +kernel
theorem dX9_init_0 : decode cX9_init 0 = .ok (.aload_n 0, 1) := by decide +kernel
theorem dX9_init_1 : decode cX9_init 1 = .ok (.invokespecial 1, 3) := by decide +kernel
theorem dX9_init_4 : decode cX9_init 4 = .ok (.aload_n 0, 1) := by decide +kernel
theorem dX9_init_5 : decode cX9_init 5 = .ok (.iconst 0, 1) := by decide +kernel
theorem dX9_init_6 : decode cX9_init 6 = .ok (.putfield 9, 3) := by decide +kernel
theorem dX9_init_9 : decode cX9_init 9 = .ok (.aload_n 0, 1) := by decide +kernel
theorem dX9_init_10 : decode cX9_init 10 = .ok (.iconst 0, 1) := by decide +kernel
theorem dX9_init_11 : decode cX9_init 11 = .ok (.putfield 13, 3) := by decide +kernel
theorem dX9_init_14 : decode cX9_init 14 = .ok (.aload_n 0, 1) := by decide +kernel
theorem dX9_init_15 : decode cX9_init 15 = .ok (.iconst 0, 1) := by decide +kernel
theorem dX9_init_16 : decode cX9_init 16 = .ok (.putfield 16, 3) := by decide +kernel
theorem dX9_init_19 : decode cX9_init 19 = .ok (.aload_n 0, 1) := by decide +kernel
theorem dX9_init_20 : decode cX9_init 20 = .ok (.iconst 0, 1) := by decide +kernel
theorem dX9_init_21 : decode cX9_init 21 = .ok (.putfield 19, 3) := by decide +kernel
theorem dX9_init_24 : decode cX9_init 24 = .ok (.aload_n 0, 1) := by decide +kernel
theorem dX9_init_25 : decode cX9_init 25 = .ok (.aload_n 1, 1) := by decide +kernel
theorem dX9_init_26 : decode cX9_init 26 = .ok (.putfield 22, 3) := by decide +kernel
theorem dX9_init_29 : decode cX9_init 29 = .ok (.return_, 1) := by decide +kernel
theorem dX9_rewind_0 : decode cX9_rewind 0 = .ok (.aload_n 0, 1) := by decide +kernel
theorem dX9_rewind_1 : decode cX9_rewind 1 = .ok (.iconst 0, 1) := by decide +kernel
theorem dX9_rewind_2 : decode cX9_rewind 2 = .ok (.putfield 19, 3) := by decide +kernel
theorem dX9_rewind_5 : decode cX9_rewind 5 = .ok (.return_, 1) := by decide +kernel
theorem dX9_advance_0 : decode cX9_advance 0 = .ok (.aload_n 0, 1) := by decide +kernel
theorem dX9_advance_1 : decode cX9_advance 1 = .ok (.aload_n 0, 1) := by decide +kernel
theorem dX9_advance_2 : decode cX9_advance 2 = .ok (.getfield 19, 3) := by decide +kernel
theorem dX9_advance_5 : decode cX9_advance 5 = .ok (.putfield 13, 3) := by decide +kernel
theorem dX9_advance_8 : decode cX9_advance 8 = .ok (.aload_n 0, 1) := by decide +kernel
theorem dX9_advance_9 : decode cX9_advance 9 = .ok (.getfield 13, 3) := by decide +kernel
theorem dX9_advance_12 : decode cX9_advance 12 = .ok (.aload_n 0, 1) := by decide +kernel
theorem dX9_advance_13 : decode cX9_advance 13 = .ok (.getfield 22, 3) := by decide +kernel
theorem dX9_advance_16 : decode cX9_advance 16 = .ok (.getfield 26, 3) := by decide +kernel
theorem dX9_advance_19 : decode cX9_advance 19 = .ok (.if_icmp .ge 32, 3) := by decide +kernel
theorem dX9_advance_22 : decode cX9_advance 22 = .ok (.aload_n 0, 1) := by decide +kernel
theorem dX9_advance_23 : decode cX9_advance 23 = .ok (.getfield 22, 3) := by decide +kernel
theorem dX9_advance_26 : decode cX9_advance 26 = .ok (.aload_n 0, 1) := by decide +kernel
theorem dX9_advance_27 : decode cX9_advance 27 = .ok (.getfield 13, 3) := by decide +kernel
theorem dX9_advance_30 : decode cX9_advance 30 = .ok (.invokevirtual 31, 3) := by decide +kernel
theorem dX9_advance_33 : decode cX9_advance 33 = .ok (.bipush 32, 2) := by decide +kernel
theorem dX9_advance_35 : decode cX9_advance 35 = .ok (.if_icmp .ne 16, 3) := by decide +kernel
theorem dX9_advance_38 : decode cX9_advance 38 = .ok (.aload_n 0, 1) := by decide +kernel
theorem dX9_advance_39 : decode cX9_advance 39 = .ok (.dup, 1) := by decide +kernel
theorem dX9_advance_40 : decode cX9_advance 40 = .ok (.getfield 13, 3) := by decide +kernel
theorem dX9_advance_43 : decode cX9_advance 43 = .ok (.iconst 1, 1) := by decide +kernel
theorem dX9_advance_44 : decode cX9_advance 44 = .ok (.iadd, 1) := by decide +kernel
theorem dX9_advance_45 : decode cX9_advance 45 = .ok (.putfield 13, 3) := by decide +kernel
theorem dX9_advance_48 : decode cX9_advance 48 = .ok (.goto (-40), 3) := by decide +kernel
theorem dX9_advance_51 : decode cX9_advance 51 = .ok (.aload_n 0, 1) := by decide +kernel
theorem dX9_advance_52 : decode cX9_advance 52 = .ok (.aload_n 0, 1) := by decide +kernel
theorem dX9_advance_53 : decode cX9_advance 53 = .ok (.getfield 13, 3) := by decide +kernel
theorem dX9_advance_56 : decode cX9_advance 56 = .ok (.putfield 19, 3) := by decide +kernel
theorem dX9_advance_59 : decode cX9_advance 59 = .ok (.aload_n 0, 1) := by decide +kernel
theorem dX9_advance_60 : decode cX9_advance 60 = .ok (.getfield 13, 3) := by decide +kernel
theorem dX9_advance_63 : decode cX9_advance 63 = .ok (.aload_n 0, 1) := by decide +kernel
theorem dX9_advance_64 : decode cX9_advance 64 = .ok (.getfield 22, 3) := by decide +kernel
theorem dX9_advance_67 : decode cX9_advance 67 = .ok (.getfield 26, 3) := by decide +kernel
theorem dX9_advance_70 : decode cX9_advance 70 = .ok (.if_icmp .lt 11, 3) := by decide +kernel
theorem dX9_advance_73 : decode cX9_advance 73 = .ok (.aload_n 0, 1) := by decide +kernel
theorem dX9_advance_74 : decode cX9_advance 74 = .ok (.iconst 0, 1) := by decide +kernel
theorem dX9_advance_75 : decode cX9_advance 75 = .ok (.putfield 9, 3) := by decide +kernel
theorem dX9_advance_78 : decode cX9_advance 78 = .ok (.goto 88, 3) := by decide +kernel
theorem dX9_advance_81 : decode cX9_advance 81 = .ok (.aload_n 0, 1) := by decide +kernel
theorem dX9_advance_82 : decode cX9_advance 82 = .ok (.getfield 22, 3) := by decide +kernel
theorem dX9_advance_85 : decode cX9_advance 85 = .ok (.aload_n 0, 1) := by decide +kernel
theorem dX9_advance_86 : decode cX9_advance 86 = .ok (.getfield 13, 3) := by decide +kernel
theorem dX9_advance_89 : decode cX9_advance 89 = .ok (.invokevirtual 31, 3) := by decide +kernel
theorem dX9_advance_92 : decode cX9_advance 92 = .ok (.invokestatic 35, 3) := by decide +kernel
theorem dX9_advance_95 : decode cX9_advance 95 = .ok (.ifCond .eq 10, 3) := by decide +kernel
theorem dX9_advance_98 : decode cX9_advance 98 = .ok (.aload_n 0, 1) := by decide +kernel
theorem dX9_advance_99 : decode cX9_advance 99 = .ok (.invokevirtual 39, 3) := by decide +kernel
theorem dX9_advance_102 : decode cX9_advance 102 = .ok (.goto 64, 3) := by decide +kernel
theorem dX9_advance_105 : decode cX9_advance 105 = .ok (.aload_n 0, 1) := by decide +kernel
theorem dX9_advance_106 : decode cX9_advance 106 = .ok (.getfield 22, 3) := by decide +kernel
theorem dX9_advance_109 : decode cX9_advance 109 = .ok (.aload_n 0, 1) := by decide +kernel
theorem dX9_advance_110 : decode cX9_advance 110 = .ok (.getfield 13, 3) := by decide +kernel
theorem dX9_advance_113 : decode cX9_advance 113 = .ok (.invokevirtual 31, 3) := by decide +kernel
theorem dX9_advance_116 : decode cX9_advance 116 = .ok (.invokestatic 42, 3) := by decide +kernel
theorem dX9_advance_119 : decode cX9_advance 119 = .ok (.ifCond .eq 10, 3) := by decide +kernel
theorem dX9_advance_122 : decode cX9_advance 122 = .ok (.aload_n 0, 1) := by decide +kernel
theorem dX9_advance_123 : decode cX9_advance 123 = .ok (.invokevirtual 45, 3) := by decide +kernel
theorem dX9_advance_126 : decode cX9_advance 126 = .ok (.goto 40, 3) := by decide +kernel
theorem dX9_advance_129 : decode cX9_advance 129 = .ok (.aload_n 0, 1) := by decide +kernel
theorem dX9_advance_130 : decode cX9_advance 130 = .ok (.aload_n 0, 1) := by decide +kernel
theorem dX9_advance_131 : decode cX9_advance 131 = .ok (.getfield 13, 3) := by decide +kernel
theorem dX9_advance_134 : decode cX9_advance 134 = .ok (.iconst 1, 1) := by decide +kernel
theorem dX9_advance_135 : decode cX9_advance 135 = .ok (.iadd, 1) := by decide +kernel
theorem dX9_advance_136 : decode cX9_advance 136 = .ok (.putfield 19, 3) := by decide +kernel
theorem dX9_advance_139 : decode cX9_advance 139 = .ok (.aload_n 0, 1) := by decide +kernel
theorem dX9_advance_140 : decode cX9_advance 140 = .ok (.aload_n 0, 1) := by decide +kernel
theorem dX9_advance_141 : decode cX9_advance 141 = .ok (.getfield 22, 3) := by decide +kernel
theorem dX9_advance_144 : decode cX9_advance 144 = .ok (.aload_n 0, 1) := by decide +kernel
theorem dX9_advance_145 : decode cX9_advance 145 = .ok (.getfield 13, 3) := by decide +kernel
theorem dX9_advance_148 : decode cX9_advance 148 = .ok (.invokevirtual 31, 3) := by decide +kernel
theorem dX9_advance_151 : decode cX9_advance 151 = .ok (.bipush 59, 2) := by decide +kernel
theorem dX9_advance_153 : decode cX9_advance 153 = .ok (.if_icmp .ne 8, 3) := by decide +kernel
theorem dX9_advance_156 : decode cX9_advance 156 = .ok (.bipush 6, 2) := by decide +kernel
theorem dX9_advance_158 : decode cX9_advance 158 = .ok (.goto 5, 3) := by decide +kernel
theorem dX9_advance_161 : decode cX9_advance 161 = .ok (.bipush 7, 2) := by decide +kernel
theorem dX9_advance_163 : decode cX9_advance 163 = .ok (.putfield 9, 3) := by decide +kernel
theorem dX9_advance_166 : decode cX9_advance 166 = .ok (.return_, 1) := by decide +kernel
theorem dX9_takeWord_0 : decode cX9_takeWord 0 = .ok (.aload_n 0, 1) := by decide +kernel
theorem dX9_takeWord_1 : decode cX9_takeWord 1 = .ok (.getfield 19, 3) := by decide +kernel
theorem dX9_takeWord_4 : decode cX9_takeWord 4 = .ok (.aload_n 0, 1) := by decide +kernel
theorem dX9_takeWord_5 : decode cX9_takeWord 5 = .ok (.getfield 22, 3) := by decide +kernel
theorem dX9_takeWord_8 : decode cX9_takeWord 8 = .ok (.getfield 26, 3) := by decide +kernel
theorem dX9_takeWord_11 : decode cX9_takeWord 11 = .ok (.if_icmp .ge 33, 3) := by decide +kernel
theorem dX9_takeWord_14 : decode cX9_takeWord 14 = .ok (.aload_n 0, 1) := by decide +kernel
theorem dX9_takeWord_15 : decode cX9_takeWord 15 = .ok (.getfield 22, 3) := by decide +kernel
theorem dX9_takeWord_18 : decode cX9_takeWord 18 = .ok (.aload_n 0, 1) := by decide +kernel
theorem dX9_takeWord_19 : decode cX9_takeWord 19 = .ok (.getfield 19, 3) := by decide +kernel
theorem dX9_takeWord_22 : decode cX9_takeWord 22 = .ok (.invokevirtual 31, 3) := by decide +kernel
theorem dX9_takeWord_25 : decode cX9_takeWord 25 = .ok (.invokestatic 35, 3) := by decide +kernel
theorem dX9_takeWord_28 : decode cX9_takeWord 28 = .ok (.ifCond .eq 16, 3) := by decide +kernel
theorem dX9_takeWord_31 : decode cX9_takeWord 31 = .ok (.aload_n 0, 1) := by decide +kernel
theorem dX9_takeWord_32 : decode cX9_takeWord 32 = .ok (.dup, 1) := by decide +kernel
theorem dX9_takeWord_33 : decode cX9_takeWord 33 = .ok (.getfield 19, 3) := by decide +kernel
theorem dX9_takeWord_36 : decode cX9_takeWord 36 = .ok (.iconst 1, 1) := by decide +kernel
theorem dX9_takeWord_37 : decode cX9_takeWord 37 = .ok (.iadd, 1) := by decide +kernel
theorem dX9_takeWord_38 : decode cX9_takeWord 38 = .ok (.putfield 19, 3) := by decide +kernel
theorem dX9_takeWord_41 : decode cX9_takeWord 41 = .ok (.goto (-41), 3) := by decide +kernel
theorem dX9_takeWord_44 : decode cX9_takeWord 44 = .ok (.aload_n 0, 1) := by decide +kernel
theorem dX9_takeWord_45 : decode cX9_takeWord 45 = .ok (.ldc 48, 2) := by decide +kernel
theorem dX9_takeWord_47 : decode cX9_takeWord 47 = .ok (.invokevirtual 50, 3) := by decide +kernel
theorem dX9_takeWord_50 : decode cX9_takeWord 50 = .ok (.ifCond .eq 11, 3) := by decide +kernel
theorem dX9_takeWord_53 : decode cX9_takeWord 53 = .ok (.aload_n 0, 1) := by decide +kernel
theorem dX9_takeWord_54 : decode cX9_takeWord 54 = .ok (.iconst 1, 1) := by decide +kernel
theorem dX9_takeWord_55 : decode cX9_takeWord 55 = .ok (.putfield 9, 3) := by decide +kernel
theorem dX9_takeWord_58 : decode cX9_takeWord 58 = .ok (.goto 60, 3) := by decide +kernel
theorem dX9_takeWord_61 : decode cX9_takeWord 61 = .ok (.aload_n 0, 1) := by decide +kernel
theorem dX9_takeWord_62 : decode cX9_takeWord 62 = .ok (.ldc 54, 2) := by decide +kernel
theorem dX9_takeWord_64 : decode cX9_takeWord 64 = .ok (.invokevirtual 50, 3) := by decide +kernel
theorem dX9_takeWord_67 : decode cX9_takeWord 67 = .ok (.ifCond .eq 11, 3) := by decide +kernel
theorem dX9_takeWord_70 : decode cX9_takeWord 70 = .ok (.aload_n 0, 1) := by decide +kernel
theorem dX9_takeWord_71 : decode cX9_takeWord 71 = .ok (.iconst 2, 1) := by decide +kernel
theorem dX9_takeWord_72 : decode cX9_takeWord 72 = .ok (.putfield 9, 3) := by decide +kernel
theorem dX9_takeWord_75 : decode cX9_takeWord 75 = .ok (.goto 43, 3) := by decide +kernel
theorem dX9_takeWord_78 : decode cX9_takeWord 78 = .ok (.aload_n 0, 1) := by decide +kernel
theorem dX9_takeWord_79 : decode cX9_takeWord 79 = .ok (.ldc 56, 2) := by decide +kernel
theorem dX9_takeWord_81 : decode cX9_takeWord 81 = .ok (.invokevirtual 50, 3) := by decide +kernel
theorem dX9_takeWord_84 : decode cX9_takeWord 84 = .ok (.ifCond .eq 11, 3) := by decide +kernel
theorem dX9_takeWord_87 : decode cX9_takeWord 87 = .ok (.aload_n 0, 1) := by decide +kernel
theorem dX9_takeWord_88 : decode cX9_takeWord 88 = .ok (.iconst 3, 1) := by decide +kernel
theorem dX9_takeWord_89 : decode cX9_takeWord 89 = .ok (.putfield 9, 3) := by decide +kernel
theorem dX9_takeWord_92 : decode cX9_takeWord 92 = .ok (.goto 26, 3) := by decide +kernel
theorem dX9_takeWord_95 : decode cX9_takeWord 95 = .ok (.aload_n 0, 1) := by decide +kernel
theorem dX9_takeWord_96 : decode cX9_takeWord 96 = .ok (.ldc 58, 2) := by decide +kernel
theorem dX9_takeWord_98 : decode cX9_takeWord 98 = .ok (.invokevirtual 50, 3) := by decide +kernel
theorem dX9_takeWord_101 : decode cX9_takeWord 101 = .ok (.ifCond .eq 11, 3) := by decide +kernel
theorem dX9_takeWord_104 : decode cX9_takeWord 104 = .ok (.aload_n 0, 1) := by decide +kernel
theorem dX9_takeWord_105 : decode cX9_takeWord 105 = .ok (.iconst 4, 1) := by decide +kernel
theorem dX9_takeWord_106 : decode cX9_takeWord 106 = .ok (.putfield 9, 3) := by decide +kernel
theorem dX9_takeWord_109 : decode cX9_takeWord 109 = .ok (.goto 9, 3) := by decide +kernel
theorem dX9_takeWord_112 : decode cX9_takeWord 112 = .ok (.aload_n 0, 1) := by decide +kernel
theorem dX9_takeWord_113 : decode cX9_takeWord 113 = .ok (.bipush 7, 2) := by decide +kernel
theorem dX9_takeWord_115 : decode cX9_takeWord 115 = .ok (.putfield 9, 3) := by decide +kernel
theorem dX9_takeWord_118 : decode cX9_takeWord 118 = .ok (.return_, 1) := by decide +kernel
theorem dX9_spells_0 : decode cX9_spells 0 = .ok (.aload_n 1, 1) := by decide +kernel
theorem dX9_spells_1 : decode cX9_spells 1 = .ok (.invokevirtual 60, 3) := by decide +kernel
theorem dX9_spells_4 : decode cX9_spells 4 = .ok (.aload_n 0, 1) := by decide +kernel
theorem dX9_spells_5 : decode cX9_spells 5 = .ok (.getfield 19, 3) := by decide +kernel
theorem dX9_spells_8 : decode cX9_spells 8 = .ok (.aload_n 0, 1) := by decide +kernel
theorem dX9_spells_9 : decode cX9_spells 9 = .ok (.getfield 13, 3) := by decide +kernel
theorem dX9_spells_12 : decode cX9_spells 12 = .ok (.isub, 1) := by decide +kernel
theorem dX9_spells_13 : decode cX9_spells 13 = .ok (.if_icmp .eq 5, 3) := by decide +kernel
theorem dX9_spells_16 : decode cX9_spells 16 = .ok (.iconst 0, 1) := by decide +kernel
theorem dX9_spells_17 : decode cX9_spells 17 = .ok (.ireturn, 1) := by decide +kernel
theorem dX9_spells_18 : decode cX9_spells 18 = .ok (.iconst 0, 1) := by decide +kernel
theorem dX9_spells_19 : decode cX9_spells 19 = .ok (.istore_n 2, 1) := by decide +kernel
theorem dX9_spells_20 : decode cX9_spells 20 = .ok (.iload_n 2, 1) := by decide +kernel
theorem dX9_spells_21 : decode cX9_spells 21 = .ok (.aload_n 1, 1) := by decide +kernel
theorem dX9_spells_22 : decode cX9_spells 22 = .ok (.invokevirtual 60, 3) := by decide +kernel
theorem dX9_spells_25 : decode cX9_spells 25 = .ok (.if_icmp .ge 32, 3) := by decide +kernel
theorem dX9_spells_28 : decode cX9_spells 28 = .ok (.aload_n 1, 1) := by decide +kernel
theorem dX9_spells_29 : decode cX9_spells 29 = .ok (.iload_n 2, 1) := by decide +kernel
theorem dX9_spells_30 : decode cX9_spells 30 = .ok (.invokevirtual 65, 3) := by decide +kernel
theorem dX9_spells_33 : decode cX9_spells 33 = .ok (.aload_n 0, 1) := by decide +kernel
theorem dX9_spells_34 : decode cX9_spells 34 = .ok (.getfield 22, 3) := by decide +kernel
theorem dX9_spells_37 : decode cX9_spells 37 = .ok (.aload_n 0, 1) := by decide +kernel
theorem dX9_spells_38 : decode cX9_spells 38 = .ok (.getfield 13, 3) := by decide +kernel
theorem dX9_spells_41 : decode cX9_spells 41 = .ok (.iload_n 2, 1) := by decide +kernel
theorem dX9_spells_42 : decode cX9_spells 42 = .ok (.iadd, 1) := by decide +kernel
theorem dX9_spells_43 : decode cX9_spells 43 = .ok (.invokevirtual 31, 3) := by decide +kernel
theorem dX9_spells_46 : decode cX9_spells 46 = .ok (.if_icmp .eq 5, 3) := by decide +kernel
theorem dX9_spells_49 : decode cX9_spells 49 = .ok (.iconst 0, 1) := by decide +kernel
theorem dX9_spells_50 : decode cX9_spells 50 = .ok (.ireturn, 1) := by decide +kernel
theorem dX9_spells_51 : decode cX9_spells 51 = .ok (.iinc 2 1, 3) := by decide +kernel
theorem dX9_spells_54 : decode cX9_spells 54 = .ok (.goto (-34), 3) := by decide +kernel
theorem dX9_spells_57 : decode cX9_spells 57 = .ok (.iconst 1, 1) := by decide +kernel
theorem dX9_spells_58 : decode cX9_spells 58 = .ok (.ireturn, 1) := by decide +kernel
theorem dX9_takeNumber_0 : decode cX9_takeNumber 0 = .ok (.aload_n 0, 1) := by decide +kernel
theorem dX9_takeNumber_1 : decode cX9_takeNumber 1 = .ok (.iconst 0, 1) := by decide +kernel
theorem dX9_takeNumber_2 : decode cX9_takeNumber 2 = .ok (.putfield 16, 3) := by decide +kernel
theorem dX9_takeNumber_5 : decode cX9_takeNumber 5 = .ok (.aload_n 0, 1) := by decide +kernel
theorem dX9_takeNumber_6 : decode cX9_takeNumber 6 = .ok (.getfield 19, 3) := by decide +kernel
theorem dX9_takeNumber_9 : decode cX9_takeNumber 9 = .ok (.aload_n 0, 1) := by decide +kernel
theorem dX9_takeNumber_10 : decode cX9_takeNumber 10 = .ok (.getfield 22, 3) := by decide +kernel
theorem dX9_takeNumber_13 : decode cX9_takeNumber 13 = .ok (.getfield 26, 3) := by decide +kernel
theorem dX9_takeNumber_16 : decode cX9_takeNumber 16 = .ok (.if_icmp .ge 64, 3) := by decide +kernel
theorem dX9_takeNumber_19 : decode cX9_takeNumber 19 = .ok (.aload_n 0, 1) := by decide +kernel
theorem dX9_takeNumber_20 : decode cX9_takeNumber 20 = .ok (.getfield 22, 3) := by decide +kernel
theorem dX9_takeNumber_23 : decode cX9_takeNumber 23 = .ok (.aload_n 0, 1) := by decide +kernel
theorem dX9_takeNumber_24 : decode cX9_takeNumber 24 = .ok (.getfield 19, 3) := by decide +kernel
theorem dX9_takeNumber_27 : decode cX9_takeNumber 27 = .ok (.invokevirtual 31, 3) := by decide +kernel
theorem dX9_takeNumber_30 : decode cX9_takeNumber 30 = .ok (.invokestatic 42, 3) := by decide +kernel
theorem dX9_takeNumber_33 : decode cX9_takeNumber 33 = .ok (.ifCond .eq 47, 3) := by decide +kernel
theorem dX9_takeNumber_36 : decode cX9_takeNumber 36 = .ok (.aload_n 0, 1) := by decide +kernel
theorem dX9_takeNumber_37 : decode cX9_takeNumber 37 = .ok (.bipush 100, 2) := by decide +kernel
theorem dX9_takeNumber_39 : decode cX9_takeNumber 39 = .ok (.bipush 10, 2) := by decide +kernel
theorem dX9_takeNumber_41 : decode cX9_takeNumber 41 = .ok (.aload_n 0, 1) := by decide +kernel
theorem dX9_takeNumber_42 : decode cX9_takeNumber 42 = .ok (.getfield 16, 3) := by decide +kernel
theorem dX9_takeNumber_45 : decode cX9_takeNumber 45 = .ok (.imul, 1) := by decide +kernel
theorem dX9_takeNumber_46 : decode cX9_takeNumber 46 = .ok (.aload_n 0, 1) := by decide +kernel
theorem dX9_takeNumber_47 : decode cX9_takeNumber 47 = .ok (.getfield 22, 3) := by decide +kernel
theorem dX9_takeNumber_50 : decode cX9_takeNumber 50 = .ok (.aload_n 0, 1) := by decide +kernel
theorem dX9_takeNumber_51 : decode cX9_takeNumber 51 = .ok (.getfield 19, 3) := by decide +kernel
theorem dX9_takeNumber_54 : decode cX9_takeNumber 54 = .ok (.invokevirtual 31, 3) := by decide +kernel
theorem dX9_takeNumber_57 : decode cX9_takeNumber 57 = .ok (.iadd, 1) := by decide +kernel
theorem dX9_takeNumber_58 : decode cX9_takeNumber 58 = .ok (.bipush 48, 2) := by decide +kernel
theorem dX9_takeNumber_60 : decode cX9_takeNumber 60 = .ok (.isub, 1) := by decide +kernel
theorem dX9_takeNumber_61 : decode cX9_takeNumber 61 = .ok (.invokestatic 69, 3) := by decide +kernel
theorem dX9_takeNumber_64 : decode cX9_takeNumber 64 = .ok (.putfield 16, 3) := by decide +kernel
theorem dX9_takeNumber_67 : decode cX9_takeNumber 67 = .ok (.aload_n 0, 1) := by decide +kernel
theorem dX9_takeNumber_68 : decode cX9_takeNumber 68 = .ok (.dup, 1) := by decide +kernel
theorem dX9_takeNumber_69 : decode cX9_takeNumber 69 = .ok (.getfield 19, 3) := by decide +kernel
theorem dX9_takeNumber_72 : decode cX9_takeNumber 72 = .ok (.iconst 1, 1) := by decide +kernel
theorem dX9_takeNumber_73 : decode cX9_takeNumber 73 = .ok (.iadd, 1) := by decide +kernel
theorem dX9_takeNumber_74 : decode cX9_takeNumber 74 = .ok (.putfield 19, 3) := by decide +kernel
theorem dX9_takeNumber_77 : decode cX9_takeNumber 77 = .ok (.goto (-72), 3) := by decide +kernel
theorem dX9_takeNumber_80 : decode cX9_takeNumber 80 = .ok (.aload_n 0, 1) := by decide +kernel
theorem dX9_takeNumber_81 : decode cX9_takeNumber 81 = .ok (.getfield 19, 3) := by decide +kernel
theorem dX9_takeNumber_84 : decode cX9_takeNumber 84 = .ok (.aload_n 0, 1) := by decide +kernel
theorem dX9_takeNumber_85 : decode cX9_takeNumber 85 = .ok (.getfield 13, 3) := by decide +kernel
theorem dX9_takeNumber_88 : decode cX9_takeNumber 88 = .ok (.isub, 1) := by decide +kernel
theorem dX9_takeNumber_89 : decode cX9_takeNumber 89 = .ok (.iconst 1, 1) := by decide +kernel
theorem dX9_takeNumber_90 : decode cX9_takeNumber 90 = .ok (.if_icmp .le 23, 3) := by decide +kernel
theorem dX9_takeNumber_93 : decode cX9_takeNumber 93 = .ok (.aload_n 0, 1) := by decide +kernel
theorem dX9_takeNumber_94 : decode cX9_takeNumber 94 = .ok (.getfield 22, 3) := by decide +kernel
theorem dX9_takeNumber_97 : decode cX9_takeNumber 97 = .ok (.aload_n 0, 1) := by decide +kernel
theorem dX9_takeNumber_98 : decode cX9_takeNumber 98 = .ok (.getfield 13, 3) := by decide +kernel
theorem dX9_takeNumber_101 : decode cX9_takeNumber 101 = .ok (.invokevirtual 31, 3) := by decide +kernel
theorem dX9_takeNumber_104 : decode cX9_takeNumber 104 = .ok (.bipush 48, 2) := by decide +kernel
theorem dX9_takeNumber_106 : decode cX9_takeNumber 106 = .ok (.if_icmp .ne 7, 3) := by decide +kernel
theorem dX9_takeNumber_109 : decode cX9_takeNumber 109 = .ok (.iconst 1, 1) := by decide +kernel
theorem dX9_takeNumber_110 : decode cX9_takeNumber 110 = .ok (.goto 4, 3) := by decide +kernel
theorem dX9_takeNumber_113 : decode cX9_takeNumber 113 = .ok (.iconst 0, 1) := by decide +kernel
theorem dX9_takeNumber_114 : decode cX9_takeNumber 114 = .ok (.istore_n 1, 1) := by decide +kernel
theorem dX9_takeNumber_115 : decode cX9_takeNumber 115 = .ok (.aload_n 0, 1) := by decide +kernel
theorem dX9_takeNumber_116 : decode cX9_takeNumber 116 = .ok (.iload_n 1, 1) := by decide +kernel
theorem dX9_takeNumber_117 : decode cX9_takeNumber 117 = .ok (.ifCond .ne 12, 3) := by decide +kernel
theorem dX9_takeNumber_120 : decode cX9_takeNumber 120 = .ok (.aload_n 0, 1) := by decide +kernel
theorem dX9_takeNumber_121 : decode cX9_takeNumber 121 = .ok (.getfield 16, 3) := by decide +kernel
theorem dX9_takeNumber_124 : decode cX9_takeNumber 124 = .ok (.bipush 99, 2) := by decide +kernel
theorem dX9_takeNumber_126 : decode cX9_takeNumber 126 = .ok (.if_icmp .le 8, 3) := by decide +kernel
theorem dX9_takeNumber_129 : decode cX9_takeNumber 129 = .ok (.bipush 7, 2) := by decide +kernel
theorem dX9_takeNumber_131 : decode cX9_takeNumber 131 = .ok (.goto 4, 3) := by decide +kernel
theorem dX9_takeNumber_134 : decode cX9_takeNumber 134 = .ok (.iconst 5, 1) := by decide +kernel
theorem dX9_takeNumber_135 : decode cX9_takeNumber 135 = .ok (.putfield 9, 3) := by decide +kernel
theorem dX9_takeNumber_138 : decode cX9_takeNumber 138 = .ok (.return_, 1) := by decide +kernel
theorem dX9_isSmall_0 : decode cX9_isSmall 0 = .ok (.iload_n 0, 1) := by decide +kernel
theorem dX9_isSmall_1 : decode cX9_isSmall 1 = .ok (.bipush 97, 2) := by decide +kernel
theorem dX9_isSmall_3 : decode cX9_isSmall 3 = .ok (.bipush 122, 2) := by decide +kernel
theorem dX9_isSmall_5 : decode cX9_isSmall 5 = .ok (.invokestatic 75, 3) := by decide +kernel
theorem dX9_isSmall_8 : decode cX9_isSmall 8 = .ok (.ireturn, 1) := by decide +kernel
theorem dX9_isDigit_0 : decode cX9_isDigit 0 = .ok (.iload_n 0, 1) := by decide +kernel
theorem dX9_isDigit_1 : decode cX9_isDigit 1 = .ok (.bipush 48, 2) := by decide +kernel
theorem dX9_isDigit_3 : decode cX9_isDigit 3 = .ok (.bipush 57, 2) := by decide +kernel
theorem dX9_isDigit_5 : decode cX9_isDigit 5 = .ok (.invokestatic 75, 3) := by decide +kernel
theorem dX9_isDigit_8 : decode cX9_isDigit 8 = .ok (.ireturn, 1) := by decide +kernel
theorem dX10_init_0 : decode cX10_init 0 = .ok (.aload_n 0, 1) := by decide +kernel
theorem dX10_init_1 : decode cX10_init 1 = .ok (.invokespecial 3, 3) := by decide +kernel
theorem dX10_init_4 : decode cX10_init 4 = .ok (.aload_n 0, 1) := by decide +kernel
theorem dX10_init_5 : decode cX10_init 5 = .ok (.new 9, 3) := by decide +kernel
theorem dX10_init_8 : decode cX10_init 8 = .ok (.dup, 1) := by decide +kernel
theorem dX10_init_9 : decode cX10_init 9 = .ok (.invokespecial 11, 3) := by decide +kernel
theorem dX10_init_12 : decode cX10_init 12 = .ok (.putfield 12, 3) := by decide +kernel
theorem dX10_init_15 : decode cX10_init 15 = .ok (.aload_n 0, 1) := by decide +kernel
theorem dX10_init_16 : decode cX10_init 16 = .ok (.new 16, 3) := by decide +kernel
theorem dX10_init_19 : decode cX10_init 19 = .ok (.dup, 1) := by decide +kernel
theorem dX10_init_20 : decode cX10_init 20 = .ok (.aload_n 0, 1) := by decide +kernel
theorem dX10_init_21 : decode cX10_init 21 = .ok (.getfield 12, 3) := by decide +kernel
theorem dX10_init_24 : decode cX10_init 24 = .ok (.invokespecial 18, 3) := by decide +kernel
theorem dX10_init_27 : decode cX10_init 27 = .ok (.putfield 21, 3) := by decide +kernel
theorem dX10_init_30 : decode cX10_init 30 = .ok (.aload_n 0, 1) := by decide +kernel
theorem dX10_init_31 : decode cX10_init 31 = .ok (.new 25, 3) := by decide +kernel
theorem dX10_init_34 : decode cX10_init 34 = .ok (.dup, 1) := by decide +kernel
theorem dX10_init_35 : decode cX10_init 35 = .ok (.invokespecial 27, 3) := by decide +kernel
theorem dX10_init_38 : decode cX10_init 38 = .ok (.putfield 28, 3) := by decide +kernel
theorem dX10_init_41 : decode cX10_init 41 = .ok (.aload_n 0, 1) := by decide +kernel
theorem dX10_init_42 : decode cX10_init 42 = .ok (.new 32, 3) := by decide +kernel
theorem dX10_init_45 : decode cX10_init 45 = .ok (.dup, 1) := by decide +kernel
theorem dX10_init_46 : decode cX10_init 46 = .ok (.invokespecial 34, 3) := by decide +kernel
theorem dX10_init_49 : decode cX10_init 49 = .ok (.putfield 35, 3) := by decide +kernel
theorem dX10_init_52 : decode cX10_init 52 = .ok (.aload_n 0, 1) := by decide +kernel
theorem dX10_init_53 : decode cX10_init 53 = .ok (.new 39, 3) := by decide +kernel
theorem dX10_init_56 : decode cX10_init 56 = .ok (.dup, 1) := by decide +kernel
theorem dX10_init_57 : decode cX10_init 57 = .ok (.invokespecial 41, 3) := by decide +kernel
theorem dX10_init_60 : decode cX10_init 60 = .ok (.putfield 42, 3) := by decide +kernel
theorem dX10_init_63 : decode cX10_init 63 = .ok (.aload_n 0, 1) := by decide +kernel
theorem dX10_init_64 : decode cX10_init 64 = .ok (.new 46, 3) := by decide +kernel
theorem dX10_init_67 : decode cX10_init 67 = .ok (.dup, 1) := by decide +kernel
theorem dX10_init_68 : decode cX10_init 68 = .ok (.invokespecial 48, 3) := by decide +kernel
theorem dX10_init_71 : decode cX10_init 71 = .ok (.putfield 49, 3) := by decide +kernel
theorem dX10_init_74 : decode cX10_init 74 = .ok (.aload_n 0, 1) := by decide +kernel
theorem dX10_init_75 : decode cX10_init 75 = .ok (.new 53, 3) := by decide +kernel
theorem dX10_init_78 : decode cX10_init 78 = .ok (.dup, 1) := by decide +kernel
theorem dX10_init_79 : decode cX10_init 79 = .ok (.invokespecial 55, 3) := by decide +kernel
theorem dX10_init_82 : decode cX10_init 82 = .ok (.putfield 56, 3) := by decide +kernel
theorem dX10_init_85 : decode cX10_init 85 = .ok (.aload_n 0, 1) := by decide +kernel
theorem dX10_init_86 : decode cX10_init 86 = .ok (.new 60, 3) := by decide +kernel
theorem dX10_init_89 : decode cX10_init 89 = .ok (.dup, 1) := by decide +kernel
theorem dX10_init_90 : decode cX10_init 90 = .ok (.invokespecial 62, 3) := by decide +kernel
theorem dX10_init_93 : decode cX10_init 93 = .ok (.putfield 63, 3) := by decide +kernel
theorem dX10_init_96 : decode cX10_init 96 = .ok (.aload_n 0, 1) := by decide +kernel
theorem dX10_init_97 : decode cX10_init 97 = .ok (.new 67, 3) := by decide +kernel
theorem dX10_init_100 : decode cX10_init 100 = .ok (.dup, 1) := by decide +kernel
theorem dX10_init_101 : decode cX10_init 101 = .ok (.invokespecial 69, 3) := by decide +kernel
theorem dX10_init_104 : decode cX10_init 104 = .ok (.putfield 70, 3) := by decide +kernel
theorem dX10_init_107 : decode cX10_init 107 = .ok (.aload_n 0, 1) := by decide +kernel
theorem dX10_init_108 : decode cX10_init 108 = .ok (.iconst 0, 1) := by decide +kernel
theorem dX10_init_109 : decode cX10_init 109 = .ok (.putfield 74, 3) := by decide +kernel
theorem dX10_init_112 : decode cX10_init 112 = .ok (.aload_n 0, 1) := by decide +kernel
theorem dX10_init_113 : decode cX10_init 113 = .ok (.getfield 28, 3) := by decide +kernel
theorem dX10_init_116 : decode cX10_init 116 = .ok (.aload_n 0, 1) := by decide +kernel
theorem dX10_init_117 : decode cX10_init 117 = .ok (.getfield 21, 3) := by decide +kernel
theorem dX10_init_120 : decode cX10_init 120 = .ok (.invokevirtual 78, 3) := by decide +kernel
theorem dX10_init_123 : decode cX10_init 123 = .ok (.return_, 1) := by decide +kernel
theorem dX10_type_0 : decode cX10_type 0 = .ok (.iload_n 1, 1) := by decide +kernel
theorem dX10_type_1 : decode cX10_type 1 = .ok (.iconst 0, 1) := by decide +kernel
theorem dX10_type_2 : decode cX10_type 2 = .ok (.sipush 255, 3) := by decide +kernel
theorem dX10_type_5 : decode cX10_type 5 = .ok (.invokestatic 82, 3) := by decide +kernel
theorem dX10_type_8 : decode cX10_type 8 = .ok (.ifCond .ne 5, 3) := by decide +kernel
theorem dX10_type_11 : decode cX10_type 11 = .ok (.iconst (-1), 1) := by decide +kernel
theorem dX10_type_12 : decode cX10_type 12 = .ok (.ireturn, 1) := by decide +kernel
theorem dX10_type_13 : decode cX10_type 13 = .ok (.aload_n 0, 1) := by decide +kernel
theorem dX10_type_14 : decode cX10_type 14 = .ok (.getfield 12, 3) := by decide +kernel
theorem dX10_type_17 : decode cX10_type 17 = .ok (.iload_n 1, 1) := by decide +kernel
theorem dX10_type_18 : decode cX10_type 18 = .ok (.invokevirtual 86, 3) := by decide +kernel
theorem dX10_type_21 : decode cX10_type 21 = .ok (.ifCond .eq 13, 3) := by decide +kernel
theorem dX10_type_24 : decode cX10_type 24 = .ok (.aload_n 0, 1) := by decide +kernel
theorem dX10_type_25 : decode cX10_type 25 = .ok (.getfield 12, 3) := by decide +kernel
theorem dX10_type_28 : decode cX10_type 28 = .ok (.getfield 90, 3) := by decide +kernel
theorem dX10_type_31 : decode cX10_type 31 = .ok (.goto 5, 3) := by decide +kernel
theorem dX10_type_34 : decode cX10_type 34 = .ok (.bipush (-3), 2) := by decide +kernel
theorem dX10_type_36 : decode cX10_type 36 = .ok (.ireturn, 1) := by decide +kernel
theorem dX10_clear_0 : decode cX10_clear 0 = .ok (.aload_n 0, 1) := by decide +kernel
theorem dX10_clear_1 : decode cX10_clear 1 = .ok (.getfield 12, 3) := by decide +kernel
theorem dX10_clear_4 : decode cX10_clear 4 = .ok (.getfield 90, 3) := by decide +kernel
theorem dX10_clear_7 : decode cX10_clear 7 = .ok (.istore_n 1, 1) := by decide +kernel
theorem dX10_clear_8 : decode cX10_clear 8 = .ok (.aload_n 0, 1) := by decide +kernel
theorem dX10_clear_9 : decode cX10_clear 9 = .ok (.getfield 12, 3) := by decide +kernel
theorem dX10_clear_12 : decode cX10_clear 12 = .ok (.iconst 0, 1) := by decide +kernel
theorem dX10_clear_13 : decode cX10_clear 13 = .ok (.putfield 90, 3) := by decide +kernel
theorem dX10_clear_16 : decode cX10_clear 16 = .ok (.iload_n 1, 1) := by decide +kernel
theorem dX10_clear_17 : decode cX10_clear 17 = .ok (.ireturn, 1) := by decide +kernel
theorem dX10_file_0 : decode cX10_file 0 = .ok (.aload_n 0, 1) := by decide +kernel
theorem dX10_file_1 : decode cX10_file 1 = .ok (.getfield 21, 3) := by decide +kernel
theorem dX10_file_4 : decode cX10_file 4 = .ok (.invokevirtual 93, 3) := by decide +kernel
theorem dX10_file_7 : decode cX10_file 7 = .ok (.istore_n 1, 1) := by decide +kernel
theorem dX10_file_8 : decode cX10_file 8 = .ok (.iload_n 1, 1) := by decide +kernel
theorem dX10_file_9 : decode cX10_file 9 = .ok (.bipush (-9), 2) := by decide +kernel
theorem dX10_file_11 : decode cX10_file 11 = .ok (.if_icmp .eq 8, 3) := by decide +kernel
theorem dX10_file_14 : decode cX10_file 14 = .ok (.bipush (-10), 2) := by decide +kernel
theorem dX10_file_16 : decode cX10_file 16 = .ok (.iload_n 1, 1) := by decide +kernel
theorem dX10_file_17 : decode cX10_file 17 = .ok (.isub, 1) := by decide +kernel
theorem dX10_file_18 : decode cX10_file 18 = .ok (.ireturn, 1) := by decide +kernel
theorem dX10_file_19 : decode cX10_file 19 = .ok (.aload_n 0, 1) := by decide +kernel
theorem dX10_file_20 : decode cX10_file 20 = .ok (.getfield 28, 3) := by decide +kernel
theorem dX10_file_23 : decode cX10_file 23 = .ok (.aload_n 0, 1) := by decide +kernel
theorem dX10_file_24 : decode cX10_file 24 = .ok (.getfield 21, 3) := by decide +kernel
theorem dX10_file_27 : decode cX10_file 27 = .ok (.invokevirtual 78, 3) := by decide +kernel
theorem dX10_file_30 : decode cX10_file 30 = .ok (.aload_n 0, 1) := by decide +kernel
theorem dX10_file_31 : decode cX10_file 31 = .ok (.getfield 35, 3) := by decide +kernel
theorem dX10_file_34 : decode cX10_file 34 = .ok (.iconst 0, 1) := by decide +kernel
theorem dX10_file_35 : decode cX10_file 35 = .ok (.putfield 97, 3) := by decide +kernel
theorem dX10_file_38 : decode cX10_file 38 = .ok (.aload_n 0, 1) := by decide +kernel
theorem dX10_file_39 : decode cX10_file 39 = .ok (.getfield 56, 3) := by decide +kernel
theorem dX10_file_42 : decode cX10_file 42 = .ok (.iconst 0, 1) := by decide +kernel
theorem dX10_file_43 : decode cX10_file 43 = .ok (.putfield 100, 3) := by decide +kernel
theorem dX10_file_46 : decode cX10_file 46 = .ok (.aload_n 0, 1) := by decide +kernel
theorem dX10_file_47 : decode cX10_file 47 = .ok (.getfield 42, 3) := by decide +kernel
theorem dX10_file_50 : decode cX10_file 50 = .ok (.invokevirtual 101, 3) := by decide +kernel
theorem dX10_file_53 : decode cX10_file 53 = .ok (.aload_n 0, 1) := by decide +kernel
theorem dX10_file_54 : decode cX10_file 54 = .ok (.getfield 12, 3) := by decide +kernel
theorem dX10_file_57 : decode cX10_file 57 = .ok (.iconst 0, 1) := by decide +kernel
theorem dX10_file_58 : decode cX10_file 58 = .ok (.putfield 90, 3) := by decide +kernel
theorem dX10_file_61 : decode cX10_file 61 = .ok (.aload_n 0, 1) := by decide +kernel
theorem dX10_file_62 : decode cX10_file 62 = .ok (.getfield 21, 3) := by decide +kernel
theorem dX10_file_65 : decode cX10_file 65 = .ok (.getfield 104, 3) := by decide +kernel
theorem dX10_file_68 : decode cX10_file 68 = .ok (.ireturn, 1) := by decide +kernel
theorem dX10_reads_0 : decode cX10_reads 0 = .ok (.aload_n 0, 1) := by decide +kernel
theorem dX10_reads_1 : decode cX10_reads 1 = .ok (.iload_n 1, 1) := by decide +kernel
theorem dX10_reads_2 : decode cX10_reads 2 = .ok (.invokevirtual 107, 3) := by decide +kernel
theorem dX10_reads_5 : decode cX10_reads 5 = .ok (.istore_n 2, 1) := by decide +kernel
theorem dX10_reads_6 : decode cX10_reads 6 = .ok (.iload_n 2, 1) := by decide +kernel
theorem dX10_reads_7 : decode cX10_reads 7 = .ok (.ifCond .eq 5, 3) := by decide +kernel
theorem dX10_reads_10 : decode cX10_reads 10 = .ok (.iload_n 2, 1) := by decide +kernel
theorem dX10_reads_11 : decode cX10_reads 11 = .ok (.ireturn, 1) := by decide +kernel
theorem dX10_reads_12 : decode cX10_reads 12 = .ok (.aload_n 0, 1) := by decide +kernel
theorem dX10_reads_13 : decode cX10_reads 13 = .ok (.aload_n 0, 1) := by decide +kernel
theorem dX10_reads_14 : decode cX10_reads 14 = .ok (.getfield 49, 3) := by decide +kernel
theorem dX10_reads_17 : decode cX10_reads 17 = .ok (.getfield 111, 3) := by decide +kernel
theorem dX10_reads_20 : decode cX10_reads 20 = .ok (.putfield 74, 3) := by decide +kernel
theorem dX10_reads_23 : decode cX10_reads 23 = .ok (.aload_n 0, 1) := by decide +kernel
theorem dX10_reads_24 : decode cX10_reads 24 = .ok (.getfield 49, 3) := by decide +kernel
theorem dX10_reads_27 : decode cX10_reads 27 = .ok (.getfield 114, 3) := by decide +kernel
theorem dX10_reads_30 : decode cX10_reads 30 = .ok (.ireturn, 1) := by decide +kernel
theorem dX10_writes_0 : decode cX10_writes 0 = .ok (.iload_n 1, 1) := by decide +kernel
theorem dX10_writes_1 : decode cX10_writes 1 = .ok (.invokestatic 117, 3) := by decide +kernel
theorem dX10_writes_4 : decode cX10_writes 4 = .ok (.ifCond .eq 14, 3) := by decide +kernel
theorem dX10_writes_7 : decode cX10_writes 7 = .ok (.iload_n 2, 1) := by decide +kernel
theorem dX10_writes_8 : decode cX10_writes 8 = .ok (.iconst 0, 1) := by decide +kernel
theorem dX10_writes_9 : decode cX10_writes 9 = .ok (.sipush 999, 3) := by decide +kernel
theorem dX10_writes_12 : decode cX10_writes 12 = .ok (.invokestatic 82, 3) := by decide +kernel
theorem dX10_writes_15 : decode cX10_writes 15 = .ok (.ifCond .ne 5, 3) := by decide +kernel
theorem dX10_writes_18 : decode cX10_writes 18 = .ok (.iconst (-1), 1) := by decide +kernel
theorem dX10_writes_19 : decode cX10_writes 19 = .ok (.ireturn, 1) := by decide +kernel
theorem dX10_writes_20 : decode cX10_writes 20 = .ok (.aload_n 0, 1) := by decide +kernel
theorem dX10_writes_21 : decode cX10_writes 21 = .ok (.getfield 49, 3) := by decide +kernel
theorem dX10_writes_24 : decode cX10_writes 24 = .ok (.aload_n 0, 1) := by decide +kernel
theorem dX10_writes_25 : decode cX10_writes 25 = .ok (.getfield 28, 3) := by decide +kernel
theorem dX10_writes_28 : decode cX10_writes 28 = .ok (.iload_n 1, 1) := by decide +kernel
theorem dX10_writes_29 : decode cX10_writes 29 = .ok (.invokevirtual 120, 3) := by decide +kernel
theorem dX10_writes_32 : decode cX10_writes 32 = .ok (.aload_n 0, 1) := by decide +kernel
theorem dX10_writes_33 : decode cX10_writes 33 = .ok (.getfield 49, 3) := by decide +kernel
theorem dX10_writes_36 : decode cX10_writes 36 = .ok (.aload_n 0, 1) := by decide +kernel
theorem dX10_writes_37 : decode cX10_writes 37 = .ok (.getfield 49, 3) := by decide +kernel
theorem dX10_writes_40 : decode cX10_writes 40 = .ok (.getfield 124, 3) := by decide +kernel
theorem dX10_writes_43 : decode cX10_writes 43 = .ok (.iconst 0, 1) := by decide +kernel
theorem dX10_writes_44 : decode cX10_writes 44 = .ok (.invokevirtual 127, 3) := by decide +kernel
theorem dX10_writes_47 : decode cX10_writes 47 = .ok (.istore_n 3, 1) := by decide +kernel
theorem dX10_writes_48 : decode cX10_writes 48 = .ok (.iload_n 3, 1) := by decide +kernel
theorem dX10_writes_49 : decode cX10_writes 49 = .ok (.ifCond .eq 5, 3) := by decide +kernel
theorem dX10_writes_52 : decode cX10_writes 52 = .ok (.iload_n 3, 1) := by decide +kernel
theorem dX10_writes_53 : decode cX10_writes 53 = .ok (.ireturn, 1) := by decide +kernel
theorem dX10_writes_54 : decode cX10_writes 54 = .ok (.aload_n 0, 1) := by decide +kernel
theorem dX10_writes_55 : decode cX10_writes 55 = .ok (.getfield 35, 3) := by decide +kernel
theorem dX10_writes_58 : decode cX10_writes 58 = .ok (.aload_n 0, 1) := by decide +kernel
theorem dX10_writes_59 : decode cX10_writes 59 = .ok (.getfield 28, 3) := by decide +kernel
theorem dX10_writes_62 : decode cX10_writes 62 = .ok (.invokevirtual 131, 3) := by decide +kernel
theorem dX10_writes_65 : decode cX10_writes 65 = .ok (.aload_n 0, 1) := by decide +kernel
theorem dX10_writes_66 : decode cX10_writes 66 = .ok (.getfield 28, 3) := by decide +kernel
theorem dX10_writes_69 : decode cX10_writes 69 = .ok (.aload_n 0, 1) := by decide +kernel
theorem dX10_writes_70 : decode cX10_writes 70 = .ok (.getfield 49, 3) := by decide +kernel
theorem dX10_writes_73 : decode cX10_writes 73 = .ok (.getfield 135, 3) := by decide +kernel
theorem dX10_writes_76 : decode cX10_writes 76 = .ok (.aload_n 0, 1) := by decide +kernel
theorem dX10_writes_77 : decode cX10_writes 77 = .ok (.getfield 49, 3) := by decide +kernel
theorem dX10_writes_80 : decode cX10_writes 80 = .ok (.getfield 138, 3) := by decide +kernel
theorem dX10_writes_83 : decode cX10_writes 83 = .ok (.aload_n 0, 1) := by decide +kernel
theorem dX10_writes_84 : decode cX10_writes 84 = .ok (.getfield 49, 3) := by decide +kernel
theorem dX10_writes_87 : decode cX10_writes 87 = .ok (.getfield 114, 3) := by decide +kernel
theorem dX10_writes_90 : decode cX10_writes 90 = .ok (.iconst 1, 1) := by decide +kernel
theorem dX10_writes_91 : decode cX10_writes 91 = .ok (.iadd, 1) := by decide +kernel
theorem dX10_writes_92 : decode cX10_writes 92 = .ok (.iload_n 2, 1) := by decide +kernel
theorem dX10_writes_93 : decode cX10_writes 93 = .ok (.invokevirtual 141, 3) := by decide +kernel
theorem dX10_writes_96 : decode cX10_writes 96 = .ok (.pop, 1) := by decide +kernel
theorem dX10_writes_97 : decode cX10_writes 97 = .ok (.aload_n 0, 1) := by decide +kernel
theorem dX10_writes_98 : decode cX10_writes 98 = .ok (.getfield 49, 3) := by decide +kernel
theorem dX10_writes_101 : decode cX10_writes 101 = .ok (.getfield 114, 3) := by decide +kernel
theorem dX10_writes_104 : decode cX10_writes 104 = .ok (.iconst 1, 1) := by decide +kernel
theorem dX10_writes_105 : decode cX10_writes 105 = .ok (.iadd, 1) := by decide +kernel
theorem dX10_writes_106 : decode cX10_writes 106 = .ok (.ireturn, 1) := by decide +kernel
theorem dX10_mends_0 : decode cX10_mends 0 = .ok (.aload_n 0, 1) := by decide +kernel
theorem dX10_mends_1 : decode cX10_mends 1 = .ok (.iload_n 1, 1) := by decide +kernel
theorem dX10_mends_2 : decode cX10_mends 2 = .ok (.invokevirtual 107, 3) := by decide +kernel
theorem dX10_mends_5 : decode cX10_mends 5 = .ok (.istore_n 2, 1) := by decide +kernel
theorem dX10_mends_6 : decode cX10_mends 6 = .ok (.iload_n 2, 1) := by decide +kernel
theorem dX10_mends_7 : decode cX10_mends 7 = .ok (.ifCond .eq 5, 3) := by decide +kernel
theorem dX10_mends_10 : decode cX10_mends 10 = .ok (.iload_n 2, 1) := by decide +kernel
theorem dX10_mends_11 : decode cX10_mends 11 = .ok (.ireturn, 1) := by decide +kernel
theorem dX10_mends_12 : decode cX10_mends 12 = .ok (.aload_n 0, 1) := by decide +kernel
theorem dX10_mends_13 : decode cX10_mends 13 = .ok (.getfield 35, 3) := by decide +kernel
theorem dX10_mends_16 : decode cX10_mends 16 = .ok (.aload_n 0, 1) := by decide +kernel
theorem dX10_mends_17 : decode cX10_mends 17 = .ok (.getfield 28, 3) := by decide +kernel
theorem dX10_mends_20 : decode cX10_mends 20 = .ok (.invokevirtual 131, 3) := by decide +kernel
theorem dX10_mends_23 : decode cX10_mends 23 = .ok (.aload_n 0, 1) := by decide +kernel
theorem dX10_mends_24 : decode cX10_mends 24 = .ok (.getfield 28, 3) := by decide +kernel
theorem dX10_mends_27 : decode cX10_mends 27 = .ok (.aload_n 0, 1) := by decide +kernel
theorem dX10_mends_28 : decode cX10_mends 28 = .ok (.getfield 49, 3) := by decide +kernel
theorem dX10_mends_31 : decode cX10_mends 31 = .ok (.getfield 135, 3) := by decide +kernel
theorem dX10_mends_34 : decode cX10_mends 34 = .ok (.aload_n 0, 1) := by decide +kernel
theorem dX10_mends_35 : decode cX10_mends 35 = .ok (.getfield 49, 3) := by decide +kernel
theorem dX10_mends_38 : decode cX10_mends 38 = .ok (.getfield 138, 3) := by decide +kernel
theorem dX10_mends_41 : decode cX10_mends 41 = .ok (.aload_n 0, 1) := by decide +kernel
theorem dX10_mends_42 : decode cX10_mends 42 = .ok (.getfield 49, 3) := by decide +kernel
theorem dX10_mends_45 : decode cX10_mends 45 = .ok (.getfield 114, 3) := by decide +kernel
theorem dX10_mends_48 : decode cX10_mends 48 = .ok (.aload_n 0, 1) := by decide +kernel
theorem dX10_mends_49 : decode cX10_mends 49 = .ok (.getfield 49, 3) := by decide +kernel
theorem dX10_mends_52 : decode cX10_mends 52 = .ok (.getfield 111, 3) := by decide +kernel
theorem dX10_mends_55 : decode cX10_mends 55 = .ok (.invokevirtual 141, 3) := by decide +kernel
theorem dX10_mends_58 : decode cX10_mends 58 = .ok (.ireturn, 1) := by decide +kernel
theorem dX10_votes_0 : decode cX10_votes 0 = .ok (.iload_n 1, 1) := by decide +kernel
theorem dX10_votes_1 : decode cX10_votes 1 = .ok (.invokestatic 117, 3) := by decide +kernel
theorem dX10_votes_4 : decode cX10_votes 4 = .ok (.ifCond .eq 52, 3) := by decide +kernel
theorem dX10_votes_7 : decode cX10_votes 7 = .ok (.aload_n 0, 1) := by decide +kernel
theorem dX10_votes_8 : decode cX10_votes 8 = .ok (.iload_n 2, 1) := by decide +kernel
theorem dX10_votes_9 : decode cX10_votes 9 = .ok (.invokevirtual 145, 3) := by decide +kernel
theorem dX10_votes_12 : decode cX10_votes 12 = .ok (.ifCond .eq 44, 3) := by decide +kernel
theorem dX10_votes_15 : decode cX10_votes 15 = .ok (.iload_n 3, 1) := by decide +kernel
theorem dX10_votes_16 : decode cX10_votes 16 = .ok (.iconst 0, 1) := by decide +kernel
theorem dX10_votes_17 : decode cX10_votes 17 = .ok (.iconst 5, 1) := by decide +kernel
theorem dX10_votes_18 : decode cX10_votes 18 = .ok (.invokestatic 82, 3) := by decide +kernel
theorem dX10_votes_21 : decode cX10_votes 21 = .ok (.ifCond .eq 35, 3) := by decide +kernel
theorem dX10_votes_24 : decode cX10_votes 24 = .ok (.iload 4, 2) := by decide +kernel
theorem dX10_votes_26 : decode cX10_votes 26 = .ok (.iconst 0, 1) := by decide +kernel
theorem dX10_votes_27 : decode cX10_votes 27 = .ok (.iconst 1, 1) := by decide +kernel
theorem dX10_votes_28 : decode cX10_votes 28 = .ok (.invokestatic 82, 3) := by decide +kernel
theorem dX10_votes_31 : decode cX10_votes 31 = .ok (.ifCond .eq 25, 3) := by decide +kernel
theorem dX10_votes_34 : decode cX10_votes 34 = .ok (.iload 5, 2) := by decide +kernel
theorem dX10_votes_36 : decode cX10_votes 36 = .ok (.iconst 1, 1) := by decide +kernel
theorem dX10_votes_37 : decode cX10_votes 37 = .ok (.bipush 30, 2) := by decide +kernel
theorem dX10_votes_39 : decode cX10_votes 39 = .ok (.invokestatic 82, 3) := by decide +kernel
theorem dX10_votes_42 : decode cX10_votes 42 = .ok (.ifCond .eq 14, 3) := by decide +kernel
theorem dX10_votes_45 : decode cX10_votes 45 = .ok (.iload 6, 2) := by decide +kernel
theorem dX10_votes_47 : decode cX10_votes 47 = .ok (.iconst 1, 1) := by decide +kernel
theorem dX10_votes_48 : decode cX10_votes 48 = .ok (.bipush 30, 2) := by decide +kernel
theorem dX10_votes_50 : decode cX10_votes 50 = .ok (.invokestatic 82, 3) := by decide +kernel
theorem dX10_votes_53 : decode cX10_votes 53 = .ok (.ifCond .ne 5, 3) := by decide +kernel
theorem dX10_votes_56 : decode cX10_votes 56 = .ok (.iconst (-1), 1) := by decide +kernel
theorem dX10_votes_57 : decode cX10_votes 57 = .ok (.ireturn, 1) := by decide +kernel
theorem dX10_votes_58 : decode cX10_votes 58 = .ok (.aload_n 0, 1) := by decide +kernel
theorem dX10_votes_59 : decode cX10_votes 59 = .ok (.getfield 28, 3) := by decide +kernel
theorem dX10_votes_62 : decode cX10_votes 62 = .ok (.invokevirtual 148, 3) := by decide +kernel
theorem dX10_votes_65 : decode cX10_votes 65 = .ok (.bipush 8, 2) := by decide +kernel
theorem dX10_votes_67 : decode cX10_votes 67 = .ok (.if_icmp .lt 6, 3) := by decide +kernel
theorem dX10_votes_70 : decode cX10_votes 70 = .ok (.bipush (-3), 2) := by decide +kernel
theorem dX10_votes_72 : decode cX10_votes 72 = .ok (.ireturn, 1) := by decide +kernel
theorem dX10_votes_73 : decode cX10_votes 73 = .ok (.aload_n 0, 1) := by decide +kernel
theorem dX10_votes_74 : decode cX10_votes 74 = .ok (.getfield 49, 3) := by decide +kernel
theorem dX10_votes_77 : decode cX10_votes 77 = .ok (.aload_n 0, 1) := by decide +kernel
theorem dX10_votes_78 : decode cX10_votes 78 = .ok (.getfield 28, 3) := by decide +kernel
theorem dX10_votes_81 : decode cX10_votes 81 = .ok (.iload_n 1, 1) := by decide +kernel
theorem dX10_votes_82 : decode cX10_votes 82 = .ok (.invokevirtual 120, 3) := by decide +kernel
theorem dX10_votes_85 : decode cX10_votes 85 = .ok (.aload_n 0, 1) := by decide +kernel
theorem dX10_votes_86 : decode cX10_votes 86 = .ok (.getfield 49, 3) := by decide +kernel
theorem dX10_votes_89 : decode cX10_votes 89 = .ok (.getfield 135, 3) := by decide +kernel
theorem dX10_votes_92 : decode cX10_votes 92 = .ok (.ifCond .ne 6, 3) := by decide +kernel
theorem dX10_votes_95 : decode cX10_votes 95 = .ok (.bipush (-4), 2) := by decide +kernel
theorem dX10_votes_97 : decode cX10_votes 97 = .ok (.ireturn, 1) := by decide +kernel
theorem dX10_votes_98 : decode cX10_votes 98 = .ok (.aload_n 0, 1) := by decide +kernel
theorem dX10_votes_99 : decode cX10_votes 99 = .ok (.getfield 28, 3) := by decide +kernel
theorem dX10_votes_102 : decode cX10_votes 102 = .ok (.aload_n 0, 1) := by decide +kernel
theorem dX10_votes_103 : decode cX10_votes 103 = .ok (.getfield 49, 3) := by decide +kernel
theorem dX10_votes_106 : decode cX10_votes 106 = .ok (.getfield 138, 3) := by decide +kernel
theorem dX10_votes_109 : decode cX10_votes 109 = .ok (.invokevirtual 151, 3) := by decide +kernel
theorem dX10_votes_112 : decode cX10_votes 112 = .ok (.aload_n 0, 1) := by decide +kernel
theorem dX10_votes_113 : decode cX10_votes 113 = .ok (.getfield 28, 3) := by decide +kernel
theorem dX10_votes_116 : decode cX10_votes 116 = .ok (.aload_n 0, 1) := by decide +kernel
theorem dX10_votes_117 : decode cX10_votes 117 = .ok (.getfield 49, 3) := by decide +kernel
theorem dX10_votes_120 : decode cX10_votes 120 = .ok (.getfield 138, 3) := by decide +kernel
theorem dX10_votes_123 : decode cX10_votes 123 = .ok (.iload_n 2, 1) := by decide +kernel
theorem dX10_votes_124 : decode cX10_votes 124 = .ok (.invokevirtual 154, 3) := by decide +kernel
theorem dX10_votes_127 : decode cX10_votes 127 = .ok (.isub, 1) := by decide +kernel
theorem dX10_votes_128 : decode cX10_votes 128 = .ok (.iload_n 3, 1) := by decide +kernel
theorem dX10_votes_129 : decode cX10_votes 129 = .ok (.iadd, 1) := by decide +kernel
theorem dX10_votes_130 : decode cX10_votes 130 = .ok (.istore 7, 2) := by decide +kernel
theorem dX10_votes_132 : decode cX10_votes 132 = .ok (.iload 7, 2) := by decide +kernel
theorem dX10_votes_134 : decode cX10_votes 134 = .ok (.iload 5, 2) := by decide +kernel
theorem dX10_votes_136 : decode cX10_votes 136 = .ok (.iload 6, 2) := by decide +kernel
theorem dX10_votes_138 : decode cX10_votes 138 = .ok (.invokestatic 158, 3) := by decide +kernel
theorem dX10_votes_141 : decode cX10_votes 141 = .ok (.ifCond .ne 6, 3) := by decide +kernel
theorem dX10_votes_144 : decode cX10_votes 144 = .ok (.bipush (-2), 2) := by decide +kernel
theorem dX10_votes_146 : decode cX10_votes 146 = .ok (.ireturn, 1) := by decide +kernel
theorem dX10_votes_147 : decode cX10_votes 147 = .ok (.aload_n 0, 1) := by decide +kernel
theorem dX10_votes_148 : decode cX10_votes 148 = .ok (.getfield 49, 3) := by decide +kernel
theorem dX10_votes_151 : decode cX10_votes 151 = .ok (.aload_n 0, 1) := by decide +kernel
theorem dX10_votes_152 : decode cX10_votes 152 = .ok (.getfield 49, 3) := by decide +kernel
theorem dX10_votes_155 : decode cX10_votes 155 = .ok (.getfield 124, 3) := by decide +kernel
theorem dX10_votes_158 : decode cX10_votes 158 = .ok (.iconst 1, 1) := by decide +kernel
theorem dX10_votes_159 : decode cX10_votes 159 = .ok (.invokevirtual 127, 3) := by decide +kernel
theorem dX10_votes_162 : decode cX10_votes 162 = .ok (.istore 8, 2) := by decide +kernel
theorem dX10_votes_164 : decode cX10_votes 164 = .ok (.iload 8, 2) := by decide +kernel
theorem dX10_votes_166 : decode cX10_votes 166 = .ok (.ifCond .eq 6, 3) := by decide +kernel
theorem dX10_votes_169 : decode cX10_votes 169 = .ok (.iload 8, 2) := by decide +kernel
theorem dX10_votes_171 : decode cX10_votes 171 = .ok (.ireturn, 1) := by decide +kernel
theorem dX10_votes_172 : decode cX10_votes 172 = .ok (.aload_n 0, 1) := by decide +kernel
theorem dX10_votes_173 : decode cX10_votes 173 = .ok (.getfield 35, 3) := by decide +kernel
theorem dX10_votes_176 : decode cX10_votes 176 = .ok (.aload_n 0, 1) := by decide +kernel
theorem dX10_votes_177 : decode cX10_votes 177 = .ok (.getfield 28, 3) := by decide +kernel
theorem dX10_votes_180 : decode cX10_votes 180 = .ok (.invokevirtual 131, 3) := by decide +kernel
theorem dX10_votes_183 : decode cX10_votes 183 = .ok (.aload_n 0, 1) := by decide +kernel
theorem dX10_votes_184 : decode cX10_votes 184 = .ok (.getfield 28, 3) := by decide +kernel
theorem dX10_votes_187 : decode cX10_votes 187 = .ok (.aload_n 0, 1) := by decide +kernel
theorem dX10_votes_188 : decode cX10_votes 188 = .ok (.getfield 49, 3) := by decide +kernel
theorem dX10_votes_191 : decode cX10_votes 191 = .ok (.getfield 138, 3) := by decide +kernel
theorem dX10_votes_194 : decode cX10_votes 194 = .ok (.invokevirtual 161, 3) := by decide +kernel
theorem dX10_votes_197 : decode cX10_votes 197 = .ok (.istore 9, 2) := by decide +kernel
theorem dX10_votes_199 : decode cX10_votes 199 = .ok (.aload_n 0, 1) := by decide +kernel
theorem dX10_votes_200 : decode cX10_votes 200 = .ok (.getfield 28, 3) := by decide +kernel
theorem dX10_votes_203 : decode cX10_votes 203 = .ok (.iload 9, 2) := by decide +kernel
theorem dX10_votes_205 : decode cX10_votes 205 = .ok (.iload 5, 2) := by decide +kernel
theorem dX10_votes_207 : decode cX10_votes 207 = .ok (.iload 6, 2) := by decide +kernel
theorem dX10_votes_209 : decode cX10_votes 209 = .ok (.invokevirtual 164, 3) := by decide +kernel
theorem dX10_votes_212 : decode cX10_votes 212 = .ok (.aload_n 0, 1) := by decide +kernel
theorem dX10_votes_213 : decode cX10_votes 213 = .ok (.getfield 28, 3) := by decide +kernel
theorem dX10_votes_216 : decode cX10_votes 216 = .ok (.iload 9, 2) := by decide +kernel
theorem dX10_votes_218 : decode cX10_votes 218 = .ok (.iload_n 2, 1) := by decide +kernel
theorem dX10_votes_219 : decode cX10_votes 219 = .ok (.iload_n 3, 1) := by decide +kernel
theorem dX10_votes_220 : decode cX10_votes 220 = .ok (.iload 4, 2) := by decide +kernel
theorem dX10_votes_222 : decode cX10_votes 222 = .ok (.iconst 1, 1) := by decide +kernel
theorem dX10_votes_223 : decode cX10_votes 223 = .ok (.if_icmp .ne 7, 3) := by decide +kernel
theorem dX10_votes_226 : decode cX10_votes 226 = .ok (.iconst 1, 1) := by decide +kernel
theorem dX10_votes_227 : decode cX10_votes 227 = .ok (.goto 4, 3) := by decide +kernel
theorem dX10_votes_230 : decode cX10_votes 230 = .ok (.iconst 0, 1) := by decide +kernel
theorem dX10_votes_231 : decode cX10_votes 231 = .ok (.invokevirtual 168, 3) := by decide +kernel
theorem dX10_votes_234 : decode cX10_votes 234 = .ok (.aload_n 0, 1) := by decide +kernel
theorem dX10_votes_235 : decode cX10_votes 235 = .ok (.getfield 28, 3) := by decide +kernel
theorem dX10_votes_238 : decode cX10_votes 238 = .ok (.aload_n 0, 1) := by decide +kernel
theorem dX10_votes_239 : decode cX10_votes 239 = .ok (.getfield 49, 3) := by decide +kernel
theorem dX10_votes_242 : decode cX10_votes 242 = .ok (.getfield 135, 3) := by decide +kernel
theorem dX10_votes_245 : decode cX10_votes 245 = .ok (.iload 9, 2) := by decide +kernel
theorem dX10_votes_247 : decode cX10_votes 247 = .ok (.aload_n 0, 1) := by decide +kernel
theorem dX10_votes_248 : decode cX10_votes 248 = .ok (.getfield 49, 3) := by decide +kernel
theorem dX10_votes_251 : decode cX10_votes 251 = .ok (.getfield 114, 3) := by decide +kernel
theorem dX10_votes_254 : decode cX10_votes 254 = .ok (.aload_n 0, 1) := by decide +kernel
theorem dX10_votes_255 : decode cX10_votes 255 = .ok (.getfield 49, 3) := by decide +kernel
theorem dX10_votes_258 : decode cX10_votes 258 = .ok (.getfield 111, 3) := by decide +kernel
theorem dX10_votes_261 : decode cX10_votes 261 = .ok (.invokevirtual 141, 3) := by decide +kernel
theorem dX10_votes_264 : decode cX10_votes 264 = .ok (.pop, 1) := by decide +kernel
theorem dX10_votes_265 : decode cX10_votes 265 = .ok (.iload 9, 2) := by decide +kernel
theorem dX10_votes_267 : decode cX10_votes 267 = .ok (.ireturn, 1) := by decide +kernel
theorem dX10_flips_0 : decode cX10_flips 0 = .ok (.aload_n 0, 1) := by decide +kernel
theorem dX10_flips_1 : decode cX10_flips 1 = .ok (.iload_n 1, 1) := by decide +kernel
theorem dX10_flips_2 : decode cX10_flips 2 = .ok (.invokevirtual 145, 3) := by decide +kernel
theorem dX10_flips_5 : decode cX10_flips 5 = .ok (.ifCond .ne 5, 3) := by decide +kernel
theorem dX10_flips_8 : decode cX10_flips 8 = .ok (.iconst (-1), 1) := by decide +kernel
theorem dX10_flips_9 : decode cX10_flips 9 = .ok (.ireturn, 1) := by decide +kernel
theorem dX10_flips_10 : decode cX10_flips 10 = .ok (.aload_n 0, 1) := by decide +kernel
theorem dX10_flips_11 : decode cX10_flips 11 = .ok (.getfield 35, 3) := by decide +kernel
theorem dX10_flips_14 : decode cX10_flips 14 = .ok (.aload_n 0, 1) := by decide +kernel
theorem dX10_flips_15 : decode cX10_flips 15 = .ok (.getfield 28, 3) := by decide +kernel
theorem dX10_flips_18 : decode cX10_flips 18 = .ok (.invokevirtual 131, 3) := by decide +kernel
theorem dX10_flips_21 : decode cX10_flips 21 = .ok (.aload_n 0, 1) := by decide +kernel
theorem dX10_flips_22 : decode cX10_flips 22 = .ok (.getfield 28, 3) := by decide +kernel
theorem dX10_flips_25 : decode cX10_flips 25 = .ok (.iload_n 1, 1) := by decide +kernel
theorem dX10_flips_26 : decode cX10_flips 26 = .ok (.invokevirtual 172, 3) := by decide +kernel
theorem dX10_flips_29 : decode cX10_flips 29 = .ok (.ireturn, 1) := by decide +kernel
theorem dX10_moves_0 : decode cX10_moves 0 = .ok (.aload_n 0, 1) := by decide +kernel
theorem dX10_moves_1 : decode cX10_moves 1 = .ok (.iload_n 1, 1) := by decide +kernel
theorem dX10_moves_2 : decode cX10_moves 2 = .ok (.invokevirtual 145, 3) := by decide +kernel
theorem dX10_moves_5 : decode cX10_moves 5 = .ok (.ifCond .eq 10, 3) := by decide +kernel
theorem dX10_moves_8 : decode cX10_moves 8 = .ok (.iload_n 2, 1) := by decide +kernel
theorem dX10_moves_9 : decode cX10_moves 9 = .ok (.invokestatic 117, 3) := by decide +kernel
theorem dX10_moves_12 : decode cX10_moves 12 = .ok (.ifCond .ne 5, 3) := by decide +kernel
theorem dX10_moves_15 : decode cX10_moves 15 = .ok (.iconst (-1), 1) := by decide +kernel
theorem dX10_moves_16 : decode cX10_moves 16 = .ok (.ireturn, 1) := by decide +kernel
theorem dX10_moves_17 : decode cX10_moves 17 = .ok (.aload_n 0, 1) := by decide +kernel
theorem dX10_moves_18 : decode cX10_moves 18 = .ok (.getfield 28, 3) := by decide +kernel
theorem dX10_moves_21 : decode cX10_moves 21 = .ok (.iload_n 1, 1) := by decide +kernel
theorem dX10_moves_22 : decode cX10_moves 22 = .ok (.invokevirtual 175, 3) := by decide +kernel
theorem dX10_moves_25 : decode cX10_moves 25 = .ok (.istore_n 3, 1) := by decide +kernel
theorem dX10_moves_26 : decode cX10_moves 26 = .ok (.iload_n 3, 1) := by decide +kernel
theorem dX10_moves_27 : decode cX10_moves 27 = .ok (.iload_n 2, 1) := by decide +kernel
theorem dX10_moves_28 : decode cX10_moves 28 = .ok (.if_icmp .ne 6, 3) := by decide +kernel
theorem dX10_moves_31 : decode cX10_moves 31 = .ok (.bipush (-2), 2) := by decide +kernel
theorem dX10_moves_33 : decode cX10_moves 33 = .ok (.ireturn, 1) := by decide +kernel
theorem dX10_moves_34 : decode cX10_moves 34 = .ok (.aload_n 0, 1) := by decide +kernel
theorem dX10_moves_35 : decode cX10_moves 35 = .ok (.getfield 35, 3) := by decide +kernel
theorem dX10_moves_38 : decode cX10_moves 38 = .ok (.aload_n 0, 1) := by decide +kernel
theorem dX10_moves_39 : decode cX10_moves 39 = .ok (.getfield 28, 3) := by decide +kernel
theorem dX10_moves_42 : decode cX10_moves 42 = .ok (.invokevirtual 131, 3) := by decide +kernel
theorem dX10_moves_45 : decode cX10_moves 45 = .ok (.aload_n 0, 1) := by decide +kernel
theorem dX10_moves_46 : decode cX10_moves 46 = .ok (.getfield 28, 3) := by decide +kernel
theorem dX10_moves_49 : decode cX10_moves 49 = .ok (.iload_n 1, 1) := by decide +kernel
theorem dX10_moves_50 : decode cX10_moves 50 = .ok (.iload_n 2, 1) := by decide +kernel
theorem dX10_moves_51 : decode cX10_moves 51 = .ok (.invokevirtual 178, 3) := by decide +kernel
theorem dX10_moves_54 : decode cX10_moves 54 = .ok (.iload_n 3, 1) := by decide +kernel
theorem dX10_moves_55 : decode cX10_moves 55 = .ok (.ireturn, 1) := by decide +kernel
theorem dX10_undo_0 : decode cX10_undo 0 = .ok (.aload_n 0, 1) := by decide +kernel
theorem dX10_undo_1 : decode cX10_undo 1 = .ok (.getfield 35, 3) := by decide +kernel
theorem dX10_undo_4 : decode cX10_undo 4 = .ok (.aload_n 0, 1) := by decide +kernel
theorem dX10_undo_5 : decode cX10_undo 5 = .ok (.getfield 28, 3) := by decide +kernel
theorem dX10_undo_8 : decode cX10_undo 8 = .ok (.invokevirtual 182, 3) := by decide +kernel
theorem dX10_undo_11 : decode cX10_undo 11 = .ok (.ifCond .eq 13, 3) := by decide +kernel
theorem dX10_undo_14 : decode cX10_undo 14 = .ok (.aload_n 0, 1) := by decide +kernel
theorem dX10_undo_15 : decode cX10_undo 15 = .ok (.getfield 35, 3) := by decide +kernel
theorem dX10_undo_18 : decode cX10_undo 18 = .ok (.getfield 97, 3) := by decide +kernel
theorem dX10_undo_21 : decode cX10_undo 21 = .ok (.goto 5, 3) := by decide +kernel
theorem dX10_undo_24 : decode cX10_undo 24 = .ok (.bipush (-2), 2) := by decide +kernel
theorem dX10_undo_26 : decode cX10_undo 26 = .ok (.ireturn, 1) := by decide +kernel
theorem dX10_copy_0 : decode cX10_copy 0 = .ok (.aload_n 0, 1) := by decide +kernel
theorem dX10_copy_1 : decode cX10_copy 1 = .ok (.iload_n 1, 1) := by decide +kernel
theorem dX10_copy_2 : decode cX10_copy 2 = .ok (.invokevirtual 145, 3) := by decide +kernel
theorem dX10_copy_5 : decode cX10_copy 5 = .ok (.ifCond .ne 5, 3) := by decide +kernel
theorem dX10_copy_8 : decode cX10_copy 8 = .ok (.iconst (-1), 1) := by decide +kernel
theorem dX10_copy_9 : decode cX10_copy 9 = .ok (.ireturn, 1) := by decide +kernel
theorem dX10_copy_10 : decode cX10_copy 10 = .ok (.iload_n 2, 1) := by decide +kernel
theorem dX10_copy_11 : decode cX10_copy 11 = .ok (.tableswitch 134 0 6 #[41, 58, 67, 76, 85, 94, 110], 41) := by decide +kernel
theorem dX10_copy_52 : decode cX10_copy 52 = .ok (.aload_n 0, 1) := by decide +kernel
theorem dX10_copy_53 : decode cX10_copy 53 = .ok (.getfield 28, 3) := by decide +kernel
theorem dX10_copy_56 : decode cX10_copy 56 = .ok (.iload_n 1, 1) := by decide +kernel
theorem dX10_copy_57 : decode cX10_copy 57 = .ok (.invokevirtual 186, 3) := by decide +kernel
theorem dX10_copy_60 : decode cX10_copy 60 = .ok (.ifCond .eq 7, 3) := by decide +kernel
theorem dX10_copy_63 : decode cX10_copy 63 = .ok (.iconst 1, 1) := by decide +kernel
theorem dX10_copy_64 : decode cX10_copy 64 = .ok (.goto 4, 3) := by decide +kernel
theorem dX10_copy_67 : decode cX10_copy 67 = .ok (.iconst 0, 1) := by decide +kernel
theorem dX10_copy_68 : decode cX10_copy 68 = .ok (.ireturn, 1) := by decide +kernel
theorem dX10_copy_69 : decode cX10_copy 69 = .ok (.aload_n 0, 1) := by decide +kernel
theorem dX10_copy_70 : decode cX10_copy 70 = .ok (.getfield 28, 3) := by decide +kernel
theorem dX10_copy_73 : decode cX10_copy 73 = .ok (.iload_n 1, 1) := by decide +kernel
theorem dX10_copy_74 : decode cX10_copy 74 = .ok (.invokevirtual 175, 3) := by decide +kernel
theorem dX10_copy_77 : decode cX10_copy 77 = .ok (.ireturn, 1) := by decide +kernel
theorem dX10_copy_78 : decode cX10_copy 78 = .ok (.aload_n 0, 1) := by decide +kernel
theorem dX10_copy_79 : decode cX10_copy 79 = .ok (.getfield 28, 3) := by decide +kernel
theorem dX10_copy_82 : decode cX10_copy 82 = .ok (.iload_n 1, 1) := by decide +kernel
theorem dX10_copy_83 : decode cX10_copy 83 = .ok (.invokevirtual 189, 3) := by decide +kernel
theorem dX10_copy_86 : decode cX10_copy 86 = .ok (.ireturn, 1) := by decide +kernel
theorem dX10_copy_87 : decode cX10_copy 87 = .ok (.aload_n 0, 1) := by decide +kernel
theorem dX10_copy_88 : decode cX10_copy 88 = .ok (.getfield 28, 3) := by decide +kernel
theorem dX10_copy_91 : decode cX10_copy 91 = .ok (.iload_n 1, 1) := by decide +kernel
theorem dX10_copy_92 : decode cX10_copy 92 = .ok (.invokevirtual 192, 3) := by decide +kernel
theorem dX10_copy_95 : decode cX10_copy 95 = .ok (.ireturn, 1) := by decide +kernel
theorem dX10_copy_96 : decode cX10_copy 96 = .ok (.aload_n 0, 1) := by decide +kernel
theorem dX10_copy_97 : decode cX10_copy 97 = .ok (.getfield 28, 3) := by decide +kernel
theorem dX10_copy_100 : decode cX10_copy 100 = .ok (.iload_n 1, 1) := by decide +kernel
theorem dX10_copy_101 : decode cX10_copy 101 = .ok (.invokevirtual 195, 3) := by decide +kernel
theorem dX10_copy_104 : decode cX10_copy 104 = .ok (.ireturn, 1) := by decide +kernel
theorem dX10_copy_105 : decode cX10_copy 105 = .ok (.aload_n 0, 1) := by decide +kernel
theorem dX10_copy_106 : decode cX10_copy 106 = .ok (.getfield 28, 3) := by decide +kernel
theorem dX10_copy_109 : decode cX10_copy 109 = .ok (.aload_n 0, 1) := by decide +kernel
theorem dX10_copy_110 : decode cX10_copy 110 = .ok (.getfield 28, 3) := by decide +kernel
theorem dX10_copy_113 : decode cX10_copy 113 = .ok (.invokevirtual 198, 3) := by decide +kernel
theorem dX10_copy_116 : decode cX10_copy 116 = .ok (.iload_n 1, 1) := by decide +kernel
theorem dX10_copy_117 : decode cX10_copy 117 = .ok (.invokevirtual 154, 3) := by decide +kernel
theorem dX10_copy_120 : decode cX10_copy 120 = .ok (.ireturn, 1) := by decide +kernel
theorem dX10_copy_121 : decode cX10_copy 121 = .ok (.aload_n 0, 1) := by decide +kernel
theorem dX10_copy_122 : decode cX10_copy 122 = .ok (.getfield 28, 3) := by decide +kernel
theorem dX10_copy_125 : decode cX10_copy 125 = .ok (.aload_n 0, 1) := by decide +kernel
theorem dX10_copy_126 : decode cX10_copy 126 = .ok (.getfield 28, 3) := by decide +kernel
theorem dX10_copy_129 : decode cX10_copy 129 = .ok (.invokevirtual 198, 3) := by decide +kernel
theorem dX10_copy_132 : decode cX10_copy 132 = .ok (.iload_n 1, 1) := by decide +kernel
theorem dX10_copy_133 : decode cX10_copy 133 = .ok (.invokevirtual 201, 3) := by decide +kernel
theorem dX10_copy_136 : decode cX10_copy 136 = .ok (.ifCond .eq 7, 3) := by decide +kernel
theorem dX10_copy_139 : decode cX10_copy 139 = .ok (.iconst 1, 1) := by decide +kernel
theorem dX10_copy_140 : decode cX10_copy 140 = .ok (.goto 4, 3) := by decide +kernel
theorem dX10_copy_143 : decode cX10_copy 143 = .ok (.iconst 0, 1) := by decide +kernel
theorem dX10_copy_144 : decode cX10_copy 144 = .ok (.ireturn, 1) := by decide +kernel
theorem dX10_copy_145 : decode cX10_copy 145 = .ok (.iconst (-1), 1) := by decide +kernel
theorem dX10_copy_146 : decode cX10_copy 146 = .ok (.ireturn, 1) := by decide +kernel
theorem dX10_group_0 : decode cX10_group 0 = .ok (.iload_n 1, 1) := by decide +kernel
theorem dX10_group_1 : decode cX10_group 1 = .ok (.invokestatic 117, 3) := by decide +kernel
theorem dX10_group_4 : decode cX10_group 4 = .ok (.ifCond .ne 5, 3) := by decide +kernel
theorem dX10_group_7 : decode cX10_group 7 = .ok (.iconst (-1), 1) := by decide +kernel
theorem dX10_group_8 : decode cX10_group 8 = .ok (.ireturn, 1) := by decide +kernel
theorem dX10_group_9 : decode cX10_group 9 = .ok (.aload_n 0, 1) := by decide +kernel
theorem dX10_group_10 : decode cX10_group 10 = .ok (.getfield 49, 3) := by decide +kernel
theorem dX10_group_13 : decode cX10_group 13 = .ok (.aload_n 0, 1) := by decide +kernel
theorem dX10_group_14 : decode cX10_group 14 = .ok (.getfield 28, 3) := by decide +kernel
theorem dX10_group_17 : decode cX10_group 17 = .ok (.iload_n 1, 1) := by decide +kernel
theorem dX10_group_18 : decode cX10_group 18 = .ok (.invokevirtual 120, 3) := by decide +kernel
theorem dX10_group_21 : decode cX10_group 21 = .ok (.iload_n 2, 1) := by decide +kernel
theorem dX10_group_22 : decode cX10_group 22 = .ok (.tableswitch 160 0 7 #[46, 54, 62, 70, 78, 96, 112, 128], 46) := by decide +kernel
theorem dX10_group_68 : decode cX10_group 68 = .ok (.aload_n 0, 1) := by decide +kernel
theorem dX10_group_69 : decode cX10_group 69 = .ok (.getfield 49, 3) := by decide +kernel
theorem dX10_group_72 : decode cX10_group 72 = .ok (.getfield 135, 3) := by decide +kernel
theorem dX10_group_75 : decode cX10_group 75 = .ok (.ireturn, 1) := by decide +kernel
theorem dX10_group_76 : decode cX10_group 76 = .ok (.aload_n 0, 1) := by decide +kernel
theorem dX10_group_77 : decode cX10_group 77 = .ok (.getfield 49, 3) := by decide +kernel
theorem dX10_group_80 : decode cX10_group 80 = .ok (.getfield 138, 3) := by decide +kernel
theorem dX10_group_83 : decode cX10_group 83 = .ok (.ireturn, 1) := by decide +kernel
theorem dX10_group_84 : decode cX10_group 84 = .ok (.aload_n 0, 1) := by decide +kernel
theorem dX10_group_85 : decode cX10_group 85 = .ok (.getfield 49, 3) := by decide +kernel
theorem dX10_group_88 : decode cX10_group 88 = .ok (.getfield 205, 3) := by decide +kernel
theorem dX10_group_91 : decode cX10_group 91 = .ok (.ireturn, 1) := by decide +kernel
theorem dX10_group_92 : decode cX10_group 92 = .ok (.aload_n 0, 1) := by decide +kernel
theorem dX10_group_93 : decode cX10_group 93 = .ok (.getfield 49, 3) := by decide +kernel
theorem dX10_group_96 : decode cX10_group 96 = .ok (.getfield 114, 3) := by decide +kernel
theorem dX10_group_99 : decode cX10_group 99 = .ok (.ireturn, 1) := by decide +kernel
theorem dX10_group_100 : decode cX10_group 100 = .ok (.aload_n 0, 1) := by decide +kernel
theorem dX10_group_101 : decode cX10_group 101 = .ok (.getfield 49, 3) := by decide +kernel
theorem dX10_group_104 : decode cX10_group 104 = .ok (.getfield 111, 3) := by decide +kernel
theorem dX10_group_107 : decode cX10_group 107 = .ok (.bipush (-9), 2) := by decide +kernel
theorem dX10_group_109 : decode cX10_group 109 = .ok (.if_icmp .eq 7, 3) := by decide +kernel
theorem dX10_group_112 : decode cX10_group 112 = .ok (.iconst 1, 1) := by decide +kernel
theorem dX10_group_113 : decode cX10_group 113 = .ok (.goto 4, 3) := by decide +kernel
theorem dX10_group_116 : decode cX10_group 116 = .ok (.iconst 0, 1) := by decide +kernel
theorem dX10_group_117 : decode cX10_group 117 = .ok (.ireturn, 1) := by decide +kernel
theorem dX10_group_118 : decode cX10_group 118 = .ok (.aload_n 0, 1) := by decide +kernel
theorem dX10_group_119 : decode cX10_group 119 = .ok (.getfield 49, 3) := by decide +kernel
theorem dX10_group_122 : decode cX10_group 122 = .ok (.aload_n 0, 1) := by decide +kernel
theorem dX10_group_123 : decode cX10_group 123 = .ok (.getfield 49, 3) := by decide +kernel
theorem dX10_group_126 : decode cX10_group 126 = .ok (.getfield 208, 3) := by decide +kernel
theorem dX10_group_129 : decode cX10_group 129 = .ok (.iconst 1, 1) := by decide +kernel
theorem dX10_group_130 : decode cX10_group 130 = .ok (.invokevirtual 211, 3) := by decide +kernel
theorem dX10_group_133 : decode cX10_group 133 = .ok (.ireturn, 1) := by decide +kernel
theorem dX10_group_134 : decode cX10_group 134 = .ok (.aload_n 0, 1) := by decide +kernel
theorem dX10_group_135 : decode cX10_group 135 = .ok (.getfield 49, 3) := by decide +kernel
theorem dX10_group_138 : decode cX10_group 138 = .ok (.aload_n 0, 1) := by decide +kernel
theorem dX10_group_139 : decode cX10_group 139 = .ok (.getfield 49, 3) := by decide +kernel
theorem dX10_group_142 : decode cX10_group 142 = .ok (.getfield 124, 3) := by decide +kernel
theorem dX10_group_145 : decode cX10_group 145 = .ok (.iconst 0, 1) := by decide +kernel
theorem dX10_group_146 : decode cX10_group 146 = .ok (.invokevirtual 211, 3) := by decide +kernel
theorem dX10_group_149 : decode cX10_group 149 = .ok (.ireturn, 1) := by decide +kernel
theorem dX10_group_150 : decode cX10_group 150 = .ok (.aload_n 0, 1) := by decide +kernel
theorem dX10_group_151 : decode cX10_group 151 = .ok (.getfield 28, 3) := by decide +kernel
theorem dX10_group_154 : decode cX10_group 154 = .ok (.invokevirtual 148, 3) := by decide +kernel
theorem dX10_group_157 : decode cX10_group 157 = .ok (.bipush 8, 2) := by decide +kernel
theorem dX10_group_159 : decode cX10_group 159 = .ok (.if_icmp .ge 21, 3) := by decide +kernel
theorem dX10_group_162 : decode cX10_group 162 = .ok (.aload_n 0, 1) := by decide +kernel
theorem dX10_group_163 : decode cX10_group 163 = .ok (.getfield 49, 3) := by decide +kernel
theorem dX10_group_166 : decode cX10_group 166 = .ok (.aload_n 0, 1) := by decide +kernel
theorem dX10_group_167 : decode cX10_group 167 = .ok (.getfield 49, 3) := by decide +kernel
theorem dX10_group_170 : decode cX10_group 170 = .ok (.getfield 124, 3) := by decide +kernel
theorem dX10_group_173 : decode cX10_group 173 = .ok (.iconst 1, 1) := by decide +kernel
theorem dX10_group_174 : decode cX10_group 174 = .ok (.invokevirtual 211, 3) := by decide +kernel
theorem dX10_group_177 : decode cX10_group 177 = .ok (.goto 4, 3) := by decide +kernel
theorem dX10_group_180 : decode cX10_group 180 = .ok (.iconst 0, 1) := by decide +kernel
theorem dX10_group_181 : decode cX10_group 181 = .ok (.ireturn, 1) := by decide +kernel
theorem dX10_group_182 : decode cX10_group 182 = .ok (.iconst (-1), 1) := by decide +kernel
theorem dX10_group_183 : decode cX10_group 183 = .ok (.ireturn, 1) := by decide +kernel
theorem dX10_asked_0 : decode cX10_asked 0 = .ok (.aload_n 0, 1) := by decide +kernel
theorem dX10_asked_1 : decode cX10_asked 1 = .ok (.getfield 74, 3) := by decide +kernel
theorem dX10_asked_4 : decode cX10_asked 4 = .ok (.ireturn, 1) := by decide +kernel
theorem dX10_chance_0 : decode cX10_chance 0 = .ok (.iload_n 1, 1) := by decide +kernel
theorem dX10_chance_1 : decode cX10_chance 1 = .ok (.iconst 0, 1) := by decide +kernel
theorem dX10_chance_2 : decode cX10_chance 2 = .ok (.bipush 10, 2) := by decide +kernel
theorem dX10_chance_4 : decode cX10_chance 4 = .ok (.invokestatic 82, 3) := by decide +kernel
theorem dX10_chance_7 : decode cX10_chance 7 = .ok (.ifCond .eq 21, 3) := by decide +kernel
theorem dX10_chance_10 : decode cX10_chance 10 = .ok (.iload_n 2, 1) := by decide +kernel
theorem dX10_chance_11 : decode cX10_chance 11 = .ok (.iconst 0, 1) := by decide +kernel
theorem dX10_chance_12 : decode cX10_chance 12 = .ok (.iconst 1, 1) := by decide +kernel
theorem dX10_chance_13 : decode cX10_chance 13 = .ok (.invokestatic 82, 3) := by decide +kernel
theorem dX10_chance_16 : decode cX10_chance 16 = .ok (.ifCond .eq 12, 3) := by decide +kernel
theorem dX10_chance_19 : decode cX10_chance 19 = .ok (.iload_n 3, 1) := by decide +kernel
theorem dX10_chance_20 : decode cX10_chance 20 = .ok (.iconst 0, 1) := by decide +kernel
theorem dX10_chance_21 : decode cX10_chance 21 = .ok (.iconst 1, 1) := by decide +kernel
theorem dX10_chance_22 : decode cX10_chance 22 = .ok (.invokestatic 82, 3) := by decide +kernel
theorem dX10_chance_25 : decode cX10_chance 25 = .ok (.ifCond .ne 5, 3) := by decide +kernel
theorem dX10_chance_28 : decode cX10_chance 28 = .ok (.iconst (-1), 1) := by decide +kernel
theorem dX10_chance_29 : decode cX10_chance 29 = .ok (.ireturn, 1) := by decide +kernel
theorem dX10_chance_30 : decode cX10_chance 30 = .ok (.aload_n 0, 1) := by decide +kernel
theorem dX10_chance_31 : decode cX10_chance 31 = .ok (.getfield 63, 3) := by decide +kernel
theorem dX10_chance_34 : decode cX10_chance 34 = .ok (.invokevirtual 214, 3) := by decide +kernel
theorem dX10_chance_37 : decode cX10_chance 37 = .ok (.iconst 0, 1) := by decide +kernel
theorem dX10_chance_38 : decode cX10_chance 38 = .ok (.istore 4, 2) := by decide +kernel
theorem dX10_chance_40 : decode cX10_chance 40 = .ok (.iload 4, 2) := by decide +kernel
theorem dX10_chance_42 : decode cX10_chance 42 = .ok (.aload_n 0, 1) := by decide +kernel
theorem dX10_chance_43 : decode cX10_chance 43 = .ok (.getfield 28, 3) := by decide +kernel
theorem dX10_chance_46 : decode cX10_chance 46 = .ok (.invokevirtual 216, 3) := by decide +kernel
theorem dX10_chance_49 : decode cX10_chance 49 = .ok (.if_icmp .ge 33, 3) := by decide +kernel
theorem dX10_chance_52 : decode cX10_chance 52 = .ok (.aload_n 0, 1) := by decide +kernel
theorem dX10_chance_53 : decode cX10_chance 53 = .ok (.getfield 63, 3) := by decide +kernel
theorem dX10_chance_56 : decode cX10_chance 56 = .ok (.aload_n 0, 1) := by decide +kernel
theorem dX10_chance_57 : decode cX10_chance 57 = .ok (.getfield 28, 3) := by decide +kernel
theorem dX10_chance_60 : decode cX10_chance 60 = .ok (.aload_n 0, 1) := by decide +kernel
theorem dX10_chance_61 : decode cX10_chance 61 = .ok (.getfield 28, 3) := by decide +kernel
theorem dX10_chance_64 : decode cX10_chance 64 = .ok (.invokevirtual 198, 3) := by decide +kernel
theorem dX10_chance_67 : decode cX10_chance 67 = .ok (.iload 4, 2) := by decide +kernel
theorem dX10_chance_69 : decode cX10_chance 69 = .ok (.invokevirtual 154, 3) := by decide +kernel
theorem dX10_chance_72 : decode cX10_chance 72 = .ok (.iload_n 1, 1) := by decide +kernel
theorem dX10_chance_73 : decode cX10_chance 73 = .ok (.invokevirtual 219, 3) := by decide +kernel
theorem dX10_chance_76 : decode cX10_chance 76 = .ok (.iinc 4 1, 3) := by decide +kernel
theorem dX10_chance_79 : decode cX10_chance 79 = .ok (.goto (-39), 3) := by decide +kernel
theorem dX10_chance_82 : decode cX10_chance 82 = .ok (.aload_n 0, 1) := by decide +kernel
theorem dX10_chance_83 : decode cX10_chance 83 = .ok (.getfield 63, 3) := by decide +kernel
theorem dX10_chance_86 : decode cX10_chance 86 = .ok (.aload_n 0, 1) := by decide +kernel
theorem dX10_chance_87 : decode cX10_chance 87 = .ok (.getfield 28, 3) := by decide +kernel
theorem dX10_chance_90 : decode cX10_chance 90 = .ok (.aload_n 0, 1) := by decide +kernel
theorem dX10_chance_91 : decode cX10_chance 91 = .ok (.getfield 28, 3) := by decide +kernel
theorem dX10_chance_94 : decode cX10_chance 94 = .ok (.invokevirtual 198, 3) := by decide +kernel
theorem dX10_chance_97 : decode cX10_chance 97 = .ok (.iload_n 2, 1) := by decide +kernel
theorem dX10_chance_98 : decode cX10_chance 98 = .ok (.invokevirtual 222, 3) := by decide +kernel
theorem dX10_chance_101 : decode cX10_chance 101 = .ok (.aload_n 0, 1) := by decide +kernel
theorem dX10_chance_102 : decode cX10_chance 102 = .ok (.getfield 28, 3) := by decide +kernel
theorem dX10_chance_105 : decode cX10_chance 105 = .ok (.invokevirtual 216, 3) := by decide +kernel
theorem dX10_chance_108 : decode cX10_chance 108 = .ok (.invokevirtual 225, 3) := by decide +kernel
theorem dX10_chance_111 : decode cX10_chance 111 = .ok (.iload_n 3, 1) := by decide +kernel
theorem dX10_chance_112 : decode cX10_chance 112 = .ok (.ifCond .ne 13, 3) := by decide +kernel
theorem dX10_chance_115 : decode cX10_chance 115 = .ok (.aload_n 0, 1) := by decide +kernel
theorem dX10_chance_116 : decode cX10_chance 116 = .ok (.getfield 63, 3) := by decide +kernel
theorem dX10_chance_119 : decode cX10_chance 119 = .ok (.getfield 228, 3) := by decide +kernel
theorem dX10_chance_122 : decode cX10_chance 122 = .ok (.goto 10, 3) := by decide +kernel
theorem dX10_chance_125 : decode cX10_chance 125 = .ok (.aload_n 0, 1) := by decide +kernel
theorem dX10_chance_126 : decode cX10_chance 126 = .ok (.getfield 63, 3) := by decide +kernel
theorem dX10_chance_129 : decode cX10_chance 129 = .ok (.getfield 231, 3) := by decide +kernel
theorem dX10_chance_132 : decode cX10_chance 132 = .ok (.ireturn, 1) := by decide +kernel
theorem dX10_least_0 : decode cX10_least 0 = .ok (.iload_n 1, 1) := by decide +kernel
theorem dX10_least_1 : decode cX10_least 1 = .ok (.iconst 0, 1) := by decide +kernel
theorem dX10_least_2 : decode cX10_least 2 = .ok (.iconst 1, 1) := by decide +kernel
theorem dX10_least_3 : decode cX10_least 3 = .ok (.invokestatic 82, 3) := by decide +kernel
theorem dX10_least_6 : decode cX10_least 6 = .ok (.ifCond .ne 5, 3) := by decide +kernel
theorem dX10_least_9 : decode cX10_least 9 = .ok (.iconst (-1), 1) := by decide +kernel
theorem dX10_least_10 : decode cX10_least 10 = .ok (.ireturn, 1) := by decide +kernel
theorem dX10_least_11 : decode cX10_least 11 = .ok (.aload_n 0, 1) := by decide +kernel
theorem dX10_least_12 : decode cX10_least 12 = .ok (.getfield 28, 3) := by decide +kernel
theorem dX10_least_15 : decode cX10_least 15 = .ok (.aload_n 0, 1) := by decide +kernel
theorem dX10_least_16 : decode cX10_least 16 = .ok (.getfield 28, 3) := by decide +kernel
theorem dX10_least_19 : decode cX10_least 19 = .ok (.invokevirtual 198, 3) := by decide +kernel
theorem dX10_least_22 : decode cX10_least 22 = .ok (.iload_n 1, 1) := by decide +kernel
theorem dX10_least_23 : decode cX10_least 23 = .ok (.invokevirtual 222, 3) := by decide +kernel
theorem dX10_least_26 : decode cX10_least 26 = .ok (.istore_n 2, 1) := by decide +kernel
theorem dX10_least_27 : decode cX10_least 27 = .ok (.bipush 7, 2) := by decide +kernel
theorem dX10_least_29 : decode cX10_least 29 = .ok (.istore_n 3, 1) := by decide +kernel
theorem dX10_least_30 : decode cX10_least 30 = .ok (.iconst 0, 1) := by decide +kernel
theorem dX10_least_31 : decode cX10_least 31 = .ok (.istore 4, 2) := by decide +kernel
theorem dX10_least_33 : decode cX10_least 33 = .ok (.iconst 0, 1) := by decide +kernel
theorem dX10_least_34 : decode cX10_least 34 = .ok (.istore 5, 2) := by decide +kernel
theorem dX10_least_36 : decode cX10_least 36 = .ok (.iload 5, 2) := by decide +kernel
theorem dX10_least_38 : decode cX10_least 38 = .ok (.aload_n 0, 1) := by decide +kernel
theorem dX10_least_39 : decode cX10_least 39 = .ok (.getfield 28, 3) := by decide +kernel
theorem dX10_least_42 : decode cX10_least 42 = .ok (.invokevirtual 234, 3) := by decide +kernel
theorem dX10_least_45 : decode cX10_least 45 = .ok (.if_icmp .ge 49, 3) := by decide +kernel
theorem dX10_least_48 : decode cX10_least 48 = .ok (.iload 5, 2) := by decide +kernel
theorem dX10_least_50 : decode cX10_least 50 = .ok (.invokestatic 237, 3) := by decide +kernel
theorem dX10_least_53 : decode cX10_least 53 = .ok (.istore 6, 2) := by decide +kernel
theorem dX10_least_55 : decode cX10_least 55 = .ok (.iload 6, 2) := by decide +kernel
theorem dX10_least_57 : decode cX10_least 57 = .ok (.iload_n 3, 1) := by decide +kernel
theorem dX10_least_58 : decode cX10_least 58 = .ok (.if_icmp .ge 30, 3) := by decide +kernel
theorem dX10_least_61 : decode cX10_least 61 = .ok (.aload_n 0, 1) := by decide +kernel
theorem dX10_least_62 : decode cX10_least 62 = .ok (.getfield 28, 3) := by decide +kernel
theorem dX10_least_65 : decode cX10_least 65 = .ok (.aload_n 0, 1) := by decide +kernel
theorem dX10_least_66 : decode cX10_least 66 = .ok (.getfield 28, 3) := by decide +kernel
theorem dX10_least_69 : decode cX10_least 69 = .ok (.invokevirtual 198, 3) := by decide +kernel
theorem dX10_least_72 : decode cX10_least 72 = .ok (.iload 5, 2) := by decide +kernel
theorem dX10_least_74 : decode cX10_least 74 = .ok (.invokevirtual 242, 3) := by decide +kernel
theorem dX10_least_77 : decode cX10_least 77 = .ok (.iload_n 2, 1) := by decide +kernel
theorem dX10_least_78 : decode cX10_least 78 = .ok (.if_icmp .lt 10, 3) := by decide +kernel
theorem dX10_least_81 : decode cX10_least 81 = .ok (.iload 6, 2) := by decide +kernel
theorem dX10_least_83 : decode cX10_least 83 = .ok (.istore_n 3, 1) := by decide +kernel
theorem dX10_least_84 : decode cX10_least 84 = .ok (.iload 5, 2) := by decide +kernel
theorem dX10_least_86 : decode cX10_least 86 = .ok (.istore 4, 2) := by decide +kernel
theorem dX10_least_88 : decode cX10_least 88 = .ok (.iinc 5 1, 3) := by decide +kernel
theorem dX10_least_91 : decode cX10_least 91 = .ok (.goto (-55), 3) := by decide +kernel
theorem dX10_least_94 : decode cX10_least 94 = .ok (.iload 4, 2) := by decide +kernel
theorem dX10_least_96 : decode cX10_least 96 = .ok (.ireturn, 1) := by decide +kernel
theorem dX10_best_0 : decode cX10_best 0 = .ok (.iload_n 1, 1) := by decide +kernel
theorem dX10_best_1 : decode cX10_best 1 = .ok (.iconst 0, 1) := by decide +kernel
theorem dX10_best_2 : decode cX10_best 2 = .ok (.bipush 10, 2) := by decide +kernel
theorem dX10_best_4 : decode cX10_best 4 = .ok (.invokestatic 82, 3) := by decide +kernel
theorem dX10_best_7 : decode cX10_best 7 = .ok (.ifCond .eq 22, 3) := by decide +kernel
theorem dX10_best_10 : decode cX10_best 10 = .ok (.iload_n 2, 1) := by decide +kernel
theorem dX10_best_11 : decode cX10_best 11 = .ok (.iconst 0, 1) := by decide +kernel
theorem dX10_best_12 : decode cX10_best 12 = .ok (.bipush 10, 2) := by decide +kernel
theorem dX10_best_14 : decode cX10_best 14 = .ok (.invokestatic 82, 3) := by decide +kernel
theorem dX10_best_17 : decode cX10_best 17 = .ok (.ifCond .eq 12, 3) := by decide +kernel
theorem dX10_best_20 : decode cX10_best 20 = .ok (.iload_n 3, 1) := by decide +kernel
theorem dX10_best_21 : decode cX10_best 21 = .ok (.iconst 0, 1) := by decide +kernel
theorem dX10_best_22 : decode cX10_best 22 = .ok (.iconst 2, 1) := by decide +kernel
theorem dX10_best_23 : decode cX10_best 23 = .ok (.invokestatic 82, 3) := by decide +kernel
theorem dX10_best_26 : decode cX10_best 26 = .ok (.ifCond .ne 5, 3) := by decide +kernel
theorem dX10_best_29 : decode cX10_best 29 = .ok (.iconst (-1), 1) := by decide +kernel
theorem dX10_best_30 : decode cX10_best 30 = .ok (.ireturn, 1) := by decide +kernel
theorem dX10_best_31 : decode cX10_best 31 = .ok (.aload_n 0, 1) := by decide +kernel
theorem dX10_best_32 : decode cX10_best 32 = .ok (.getfield 28, 3) := by decide +kernel
theorem dX10_best_35 : decode cX10_best 35 = .ok (.invokevirtual 216, 3) := by decide +kernel
theorem dX10_best_38 : decode cX10_best 38 = .ok (.ifCond .ne 6, 3) := by decide +kernel
theorem dX10_best_41 : decode cX10_best 41 = .ok (.bipush (-9), 2) := by decide +kernel
theorem dX10_best_43 : decode cX10_best 43 = .ok (.ireturn, 1) := by decide +kernel
theorem dX10_best_44 : decode cX10_best 44 = .ok (.aload_n 0, 1) := by decide +kernel
theorem dX10_best_45 : decode cX10_best 45 = .ok (.getfield 70, 3) := by decide +kernel
theorem dX10_best_48 : decode cX10_best 48 = .ok (.aload_n 0, 1) := by decide +kernel
theorem dX10_best_49 : decode cX10_best 49 = .ok (.getfield 63, 3) := by decide +kernel
theorem dX10_best_52 : decode cX10_best 52 = .ok (.aload_n 0, 1) := by decide +kernel
theorem dX10_best_53 : decode cX10_best 53 = .ok (.getfield 28, 3) := by decide +kernel
theorem dX10_best_56 : decode cX10_best 56 = .ok (.invokevirtual 216, 3) := by decide +kernel
theorem dX10_best_59 : decode cX10_best 59 = .ok (.iload_n 1, 1) := by decide +kernel
theorem dX10_best_60 : decode cX10_best 60 = .ok (.iload_n 2, 1) := by decide +kernel
theorem dX10_best_61 : decode cX10_best 61 = .ok (.invokevirtual 245, 3) := by decide +kernel
theorem dX10_best_64 : decode cX10_best 64 = .ok (.iload_n 3, 1) := by decide +kernel
theorem dX10_best_65 : decode cX10_best 65 = .ok (.ifCond .ne 11, 3) := by decide +kernel
theorem dX10_best_68 : decode cX10_best 68 = .ok (.aload_n 0, 1) := by decide +kernel
theorem dX10_best_69 : decode cX10_best 69 = .ok (.getfield 70, 3) := by decide +kernel
theorem dX10_best_72 : decode cX10_best 72 = .ok (.getfield 249, 3) := by decide +kernel
theorem dX10_best_75 : decode cX10_best 75 = .ok (.ireturn, 1) := by decide +kernel
theorem dX10_best_76 : decode cX10_best 76 = .ok (.iload_n 3, 1) := by decide +kernel
theorem dX10_best_77 : decode cX10_best 77 = .ok (.iconst 1, 1) := by decide +kernel
theorem dX10_best_78 : decode cX10_best 78 = .ok (.if_icmp .ne 13, 3) := by decide +kernel
theorem dX10_best_81 : decode cX10_best 81 = .ok (.aload_n 0, 1) := by decide +kernel
theorem dX10_best_82 : decode cX10_best 82 = .ok (.getfield 70, 3) := by decide +kernel
theorem dX10_best_85 : decode cX10_best 85 = .ok (.getfield 252, 3) := by decide +kernel
theorem dX10_best_88 : decode cX10_best 88 = .ok (.goto 10, 3) := by decide +kernel
theorem dX10_best_91 : decode cX10_best 91 = .ok (.aload_n 0, 1) := by decide +kernel
theorem dX10_best_92 : decode cX10_best 92 = .ok (.getfield 70, 3) := by decide +kernel
theorem dX10_best_95 : decode cX10_best 95 = .ok (.getfield 253, 3) := by decide +kernel
theorem dX10_best_98 : decode cX10_best 98 = .ok (.ireturn, 1) := by decide +kernel
theorem dX10_sees_0 : decode cX10_sees 0 = .ok (.iload_n 1, 1) := by decide +kernel
theorem dX10_sees_1 : decode cX10_sees 1 = .ok (.iconst 0, 1) := by decide +kernel
theorem dX10_sees_2 : decode cX10_sees 2 = .ok (.iconst 1, 1) := by decide +kernel
theorem dX10_sees_3 : decode cX10_sees 3 = .ok (.invokestatic 82, 3) := by decide +kernel
theorem dX10_sees_6 : decode cX10_sees 6 = .ok (.ifCond .eq 12, 3) := by decide +kernel
theorem dX10_sees_9 : decode cX10_sees 9 = .ok (.iload_n 2, 1) := by decide +kernel
theorem dX10_sees_10 : decode cX10_sees 10 = .ok (.iconst 0, 1) := by decide +kernel
theorem dX10_sees_11 : decode cX10_sees 11 = .ok (.iconst 1, 1) := by decide +kernel
theorem dX10_sees_12 : decode cX10_sees 12 = .ok (.invokestatic 82, 3) := by decide +kernel
theorem dX10_sees_15 : decode cX10_sees 15 = .ok (.ifCond .ne 5, 3) := by decide +kernel
theorem dX10_sees_18 : decode cX10_sees 18 = .ok (.iconst (-1), 1) := by decide +kernel
theorem dX10_sees_19 : decode cX10_sees 19 = .ok (.ireturn, 1) := by decide +kernel
theorem dX10_sees_20 : decode cX10_sees 20 = .ok (.aload_n 0, 1) := by decide +kernel
theorem dX10_sees_21 : decode cX10_sees 21 = .ok (.getfield 56, 3) := by decide +kernel
theorem dX10_sees_24 : decode cX10_sees 24 = .ok (.iload_n 1, 1) := by decide +kernel
theorem dX10_sees_25 : decode cX10_sees 25 = .ok (.iload_n 2, 1) := by decide +kernel
theorem dX10_sees_26 : decode cX10_sees 26 = .ok (.iconst 1, 1) := by decide +kernel
theorem dX10_sees_27 : decode cX10_sees 27 = .ok (.if_icmp .ne 7, 3) := by decide +kernel
theorem dX10_sees_30 : decode cX10_sees 30 = .ok (.iconst 1, 1) := by decide +kernel
theorem dX10_sees_31 : decode cX10_sees 31 = .ok (.goto 4, 3) := by decide +kernel
theorem dX10_sees_34 : decode cX10_sees 34 = .ok (.iconst 0, 1) := by decide +kernel
theorem dX10_sees_35 : decode cX10_sees 35 = .ok (.invokevirtual 254, 3) := by decide +kernel
theorem dX10_sees_38 : decode cX10_sees 38 = .ok (.ifCond .eq 13, 3) := by decide +kernel
theorem dX10_sees_41 : decode cX10_sees 41 = .ok (.aload_n 0, 1) := by decide +kernel
theorem dX10_sees_42 : decode cX10_sees 42 = .ok (.getfield 56, 3) := by decide +kernel
theorem dX10_sees_45 : decode cX10_sees 45 = .ok (.getfield 100, 3) := by decide +kernel
theorem dX10_sees_48 : decode cX10_sees 48 = .ok (.goto 5, 3) := by decide +kernel
theorem dX10_sees_51 : decode cX10_sees 51 = .ok (.bipush (-3), 2) := by decide +kernel
theorem dX10_sees_53 : decode cX10_sees 53 = .ok (.ireturn, 1) := by decide +kernel
theorem dX10_forget_0 : decode cX10_forget 0 = .ok (.aload_n 0, 1) := by decide +kernel
theorem dX10_forget_1 : decode cX10_forget 1 = .ok (.getfield 56, 3) := by decide +kernel
theorem dX10_forget_4 : decode cX10_forget 4 = .ok (.getfield 100, 3) := by decide +kernel
theorem dX10_forget_7 : decode cX10_forget 7 = .ok (.istore_n 1, 1) := by decide +kernel
theorem dX10_forget_8 : decode cX10_forget 8 = .ok (.aload_n 0, 1) := by decide +kernel
theorem dX10_forget_9 : decode cX10_forget 9 = .ok (.getfield 56, 3) := by decide +kernel
theorem dX10_forget_12 : decode cX10_forget 12 = .ok (.iconst 0, 1) := by decide +kernel
theorem dX10_forget_13 : decode cX10_forget 13 = .ok (.putfield 100, 3) := by decide +kernel
theorem dX10_forget_16 : decode cX10_forget 16 = .ok (.iload_n 1, 1) := by decide +kernel
theorem dX10_forget_17 : decode cX10_forget 17 = .ok (.ireturn, 1) := by decide +kernel
theorem dX10_unseen_0 : decode cX10_unseen 0 = .ok (.iload_n 1, 1) := by decide +kernel
theorem dX10_unseen_1 : decode cX10_unseen 1 = .ok (.iconst 0, 1) := by decide +kernel
theorem dX10_unseen_2 : decode cX10_unseen 2 = .ok (.iconst 1, 1) := by decide +kernel
theorem dX10_unseen_3 : decode cX10_unseen 3 = .ok (.invokestatic 82, 3) := by decide +kernel
theorem dX10_unseen_6 : decode cX10_unseen 6 = .ok (.ifCond .ne 5, 3) := by decide +kernel
theorem dX10_unseen_9 : decode cX10_unseen 9 = .ok (.iconst (-1), 1) := by decide +kernel
theorem dX10_unseen_10 : decode cX10_unseen 10 = .ok (.ireturn, 1) := by decide +kernel
theorem dX10_unseen_11 : decode cX10_unseen 11 = .ok (.iconst 0, 1) := by decide +kernel
theorem dX10_unseen_12 : decode cX10_unseen 12 = .ok (.istore_n 2, 1) := by decide +kernel
theorem dX10_unseen_13 : decode cX10_unseen 13 = .ok (.bipush (-9), 2) := by decide +kernel
theorem dX10_unseen_15 : decode cX10_unseen 15 = .ok (.istore_n 3, 1) := by decide +kernel
theorem dX10_unseen_16 : decode cX10_unseen 16 = .ok (.iconst 0, 1) := by decide +kernel
theorem dX10_unseen_17 : decode cX10_unseen 17 = .ok (.istore 4, 2) := by decide +kernel
theorem dX10_unseen_19 : decode cX10_unseen 19 = .ok (.iload 4, 2) := by decide +kernel
theorem dX10_unseen_21 : decode cX10_unseen 21 = .ok (.aload_n 0, 1) := by decide +kernel
theorem dX10_unseen_22 : decode cX10_unseen 22 = .ok (.getfield 28, 3) := by decide +kernel
theorem dX10_unseen_25 : decode cX10_unseen 25 = .ok (.invokevirtual 234, 3) := by decide +kernel
theorem dX10_unseen_28 : decode cX10_unseen 28 = .ok (.if_icmp .ge 37, 3) := by decide +kernel
theorem dX10_unseen_31 : decode cX10_unseen 31 = .ok (.aload_n 0, 1) := by decide +kernel
theorem dX10_unseen_32 : decode cX10_unseen 32 = .ok (.getfield 56, 3) := by decide +kernel
theorem dX10_unseen_35 : decode cX10_unseen 35 = .ok (.aload_n 0, 1) := by decide +kernel
theorem dX10_unseen_36 : decode cX10_unseen 36 = .ok (.getfield 28, 3) := by decide +kernel
theorem dX10_unseen_39 : decode cX10_unseen 39 = .ok (.iload 4, 2) := by decide +kernel
theorem dX10_unseen_41 : decode cX10_unseen 41 = .ok (.invokevirtual 257, 3) := by decide +kernel
theorem dX10_unseen_44 : decode cX10_unseen 44 = .ok (.ifCond .eq 15, 3) := by decide +kernel
theorem dX10_unseen_47 : decode cX10_unseen 47 = .ok (.iinc 2 1, 3) := by decide +kernel
theorem dX10_unseen_50 : decode cX10_unseen 50 = .ok (.iload_n 3, 1) := by decide +kernel
theorem dX10_unseen_51 : decode cX10_unseen 51 = .ok (.bipush (-9), 2) := by decide +kernel
theorem dX10_unseen_53 : decode cX10_unseen 53 = .ok (.if_icmp .ne 6, 3) := by decide +kernel
theorem dX10_unseen_56 : decode cX10_unseen 56 = .ok (.iload 4, 2) := by decide +kernel
theorem dX10_unseen_58 : decode cX10_unseen 58 = .ok (.istore_n 3, 1) := by decide +kernel
theorem dX10_unseen_59 : decode cX10_unseen 59 = .ok (.iinc 4 1, 3) := by decide +kernel
theorem dX10_unseen_62 : decode cX10_unseen 62 = .ok (.goto (-43), 3) := by decide +kernel
theorem dX10_unseen_65 : decode cX10_unseen 65 = .ok (.iload_n 1, 1) := by decide +kernel
theorem dX10_unseen_66 : decode cX10_unseen 66 = .ok (.ifCond .ne 7, 3) := by decide +kernel
theorem dX10_unseen_69 : decode cX10_unseen 69 = .ok (.iload_n 2, 1) := by decide +kernel
theorem dX10_unseen_70 : decode cX10_unseen 70 = .ok (.goto 4, 3) := by decide +kernel
theorem dX10_unseen_73 : decode cX10_unseen 73 = .ok (.iload_n 3, 1) := by decide +kernel
theorem dX10_unseen_74 : decode cX10_unseen 74 = .ok (.ireturn, 1) := by decide +kernel
theorem dX10_keep_0 : decode cX10_keep 0 = .ok (.iload_n 1, 1) := by decide +kernel
theorem dX10_keep_1 : decode cX10_keep 1 = .ok (.iconst 0, 1) := by decide +kernel
theorem dX10_keep_2 : decode cX10_keep 2 = .ok (.iconst 1, 1) := by decide +kernel
theorem dX10_keep_3 : decode cX10_keep 3 = .ok (.invokestatic 82, 3) := by decide +kernel
theorem dX10_keep_6 : decode cX10_keep 6 = .ok (.ifCond .ne 5, 3) := by decide +kernel
theorem dX10_keep_9 : decode cX10_keep 9 = .ok (.iconst (-1), 1) := by decide +kernel
theorem dX10_keep_10 : decode cX10_keep 10 = .ok (.ireturn, 1) := by decide +kernel
theorem dX10_keep_11 : decode cX10_keep 11 = .ok (.aload_n 0, 1) := by decide +kernel
theorem dX10_keep_12 : decode cX10_keep 12 = .ok (.getfield 42, 3) := by decide +kernel
theorem dX10_keep_15 : decode cX10_keep 15 = .ok (.iload_n 1, 1) := by decide +kernel
theorem dX10_keep_16 : decode cX10_keep 16 = .ok (.aload_n 0, 1) := by decide +kernel
theorem dX10_keep_17 : decode cX10_keep 17 = .ok (.getfield 28, 3) := by decide +kernel
theorem dX10_keep_20 : decode cX10_keep 20 = .ok (.invokevirtual 261, 3) := by decide +kernel
theorem dX10_keep_23 : decode cX10_keep 23 = .ok (.aload_n 0, 1) := by decide +kernel
theorem dX10_keep_24 : decode cX10_keep 24 = .ok (.getfield 28, 3) := by decide +kernel
theorem dX10_keep_27 : decode cX10_keep 27 = .ok (.invokevirtual 216, 3) := by decide +kernel
theorem dX10_keep_30 : decode cX10_keep 30 = .ok (.ireturn, 1) := by decide +kernel
theorem dX10_back_0 : decode cX10_back 0 = .ok (.iload_n 1, 1) := by decide +kernel
theorem dX10_back_1 : decode cX10_back 1 = .ok (.iconst 0, 1) := by decide +kernel
theorem dX10_back_2 : decode cX10_back 2 = .ok (.iconst 1, 1) := by decide +kernel
theorem dX10_back_3 : decode cX10_back 3 = .ok (.invokestatic 82, 3) := by decide +kernel
theorem dX10_back_6 : decode cX10_back 6 = .ok (.ifCond .ne 5, 3) := by decide +kernel
theorem dX10_back_9 : decode cX10_back 9 = .ok (.iconst (-1), 1) := by decide +kernel
theorem dX10_back_10 : decode cX10_back 10 = .ok (.ireturn, 1) := by decide +kernel
theorem dX10_back_11 : decode cX10_back 11 = .ok (.aload_n 0, 1) := by decide +kernel
theorem dX10_back_12 : decode cX10_back 12 = .ok (.getfield 42, 3) := by decide +kernel
theorem dX10_back_15 : decode cX10_back 15 = .ok (.iload_n 1, 1) := by decide +kernel
theorem dX10_back_16 : decode cX10_back 16 = .ok (.aload_n 0, 1) := by decide +kernel
theorem dX10_back_17 : decode cX10_back 17 = .ok (.getfield 28, 3) := by decide +kernel
theorem dX10_back_20 : decode cX10_back 20 = .ok (.invokevirtual 265, 3) := by decide +kernel
theorem dX10_back_23 : decode cX10_back 23 = .ok (.ifCond .ne 6, 3) := by decide +kernel
theorem dX10_back_26 : decode cX10_back 26 = .ok (.bipush (-2), 2) := by decide +kernel
theorem dX10_back_28 : decode cX10_back 28 = .ok (.ireturn, 1) := by decide +kernel
theorem dX10_back_29 : decode cX10_back 29 = .ok (.aload_n 0, 1) := by decide +kernel
theorem dX10_back_30 : decode cX10_back 30 = .ok (.getfield 35, 3) := by decide +kernel
theorem dX10_back_33 : decode cX10_back 33 = .ok (.iconst 0, 1) := by decide +kernel
theorem dX10_back_34 : decode cX10_back 34 = .ok (.putfield 97, 3) := by decide +kernel
theorem dX10_back_37 : decode cX10_back 37 = .ok (.aload_n 0, 1) := by decide +kernel
theorem dX10_back_38 : decode cX10_back 38 = .ok (.getfield 28, 3) := by decide +kernel
theorem dX10_back_41 : decode cX10_back 41 = .ok (.invokevirtual 216, 3) := by decide +kernel
theorem dX10_back_44 : decode cX10_back 44 = .ok (.ireturn, 1) := by decide +kernel
theorem dX10_count_0 : decode cX10_count 0 = .ok (.iload_n 1, 1) := by decide +kernel
theorem dX10_count_1 : decode cX10_count 1 = .ok (.tableswitch 132 0 7 #[47, 55, 63, 78, 93, 108, 116, 124], 47) := by decide +kernel
theorem dX10_count_48 : decode cX10_count 48 = .ok (.aload_n 0, 1) := by decide +kernel
theorem dX10_count_49 : decode cX10_count 49 = .ok (.getfield 28, 3) := by decide +kernel
theorem dX10_count_52 : decode cX10_count 52 = .ok (.invokevirtual 216, 3) := by decide +kernel
theorem dX10_count_55 : decode cX10_count 55 = .ok (.ireturn, 1) := by decide +kernel
theorem dX10_count_56 : decode cX10_count 56 = .ok (.aload_n 0, 1) := by decide +kernel
theorem dX10_count_57 : decode cX10_count 57 = .ok (.getfield 28, 3) := by decide +kernel
theorem dX10_count_60 : decode cX10_count 60 = .ok (.invokevirtual 148, 3) := by decide +kernel
theorem dX10_count_63 : decode cX10_count 63 = .ok (.ireturn, 1) := by decide +kernel
theorem dX10_count_64 : decode cX10_count 64 = .ok (.aload_n 0, 1) := by decide +kernel
theorem dX10_count_65 : decode cX10_count 65 = .ok (.getfield 28, 3) := by decide +kernel
theorem dX10_count_68 : decode cX10_count 68 = .ok (.aload_n 0, 1) := by decide +kernel
theorem dX10_count_69 : decode cX10_count 69 = .ok (.getfield 28, 3) := by decide +kernel
theorem dX10_count_72 : decode cX10_count 72 = .ok (.invokevirtual 198, 3) := by decide +kernel
theorem dX10_count_75 : decode cX10_count 75 = .ok (.invokevirtual 268, 3) := by decide +kernel
theorem dX10_count_78 : decode cX10_count 78 = .ok (.ireturn, 1) := by decide +kernel
theorem dX10_count_79 : decode cX10_count 79 = .ok (.aload_n 0, 1) := by decide +kernel
theorem dX10_count_80 : decode cX10_count 80 = .ok (.getfield 28, 3) := by decide +kernel
theorem dX10_count_83 : decode cX10_count 83 = .ok (.aload_n 0, 1) := by decide +kernel
theorem dX10_count_84 : decode cX10_count 84 = .ok (.getfield 28, 3) := by decide +kernel
theorem dX10_count_87 : decode cX10_count 87 = .ok (.invokevirtual 198, 3) := by decide +kernel
theorem dX10_count_90 : decode cX10_count 90 = .ok (.invokevirtual 271, 3) := by decide +kernel
theorem dX10_count_93 : decode cX10_count 93 = .ok (.ireturn, 1) := by decide +kernel
theorem dX10_count_94 : decode cX10_count 94 = .ok (.aload_n 0, 1) := by decide +kernel
theorem dX10_count_95 : decode cX10_count 95 = .ok (.getfield 28, 3) := by decide +kernel
theorem dX10_count_98 : decode cX10_count 98 = .ok (.aload_n 0, 1) := by decide +kernel
theorem dX10_count_99 : decode cX10_count 99 = .ok (.getfield 28, 3) := by decide +kernel
theorem dX10_count_102 : decode cX10_count 102 = .ok (.invokevirtual 198, 3) := by decide +kernel
theorem dX10_count_105 : decode cX10_count 105 = .ok (.invokevirtual 151, 3) := by decide +kernel
theorem dX10_count_108 : decode cX10_count 108 = .ok (.ireturn, 1) := by decide +kernel
theorem dX10_count_109 : decode cX10_count 109 = .ok (.aload_n 0, 1) := by decide +kernel
theorem dX10_count_110 : decode cX10_count 110 = .ok (.getfield 56, 3) := by decide +kernel
theorem dX10_count_113 : decode cX10_count 113 = .ok (.getfield 100, 3) := by decide +kernel
theorem dX10_count_116 : decode cX10_count 116 = .ok (.ireturn, 1) := by decide +kernel
theorem dX10_count_117 : decode cX10_count 117 = .ok (.aload_n 0, 1) := by decide +kernel
theorem dX10_count_118 : decode cX10_count 118 = .ok (.getfield 12, 3) := by decide +kernel
theorem dX10_count_121 : decode cX10_count 121 = .ok (.getfield 90, 3) := by decide +kernel
theorem dX10_count_124 : decode cX10_count 124 = .ok (.ireturn, 1) := by decide +kernel
theorem dX10_count_125 : decode cX10_count 125 = .ok (.aload_n 0, 1) := by decide +kernel
theorem dX10_count_126 : decode cX10_count 126 = .ok (.getfield 35, 3) := by decide +kernel
theorem dX10_count_129 : decode cX10_count 129 = .ok (.getfield 97, 3) := by decide +kernel
theorem dX10_count_132 : decode cX10_count 132 = .ok (.ireturn, 1) := by decide +kernel
theorem dX10_count_133 : decode cX10_count 133 = .ok (.iconst (-1), 1) := by decide +kernel
theorem dX10_count_134 : decode cX10_count 134 = .ok (.ireturn, 1) := by decide +kernel
theorem dX10_lookToRead_0 : decode cX10_lookToRead 0 = .ok (.iload_n 1, 1) := by decide +kernel
theorem dX10_lookToRead_1 : decode cX10_lookToRead 1 = .ok (.invokestatic 117, 3) := by decide +kernel
theorem dX10_lookToRead_4 : decode cX10_lookToRead 4 = .ok (.ifCond .ne 5, 3) := by decide +kernel
theorem dX10_lookToRead_7 : decode cX10_lookToRead 7 = .ok (.iconst (-1), 1) := by decide +kernel
theorem dX10_lookToRead_8 : decode cX10_lookToRead 8 = .ok (.ireturn, 1) := by decide +kernel
theorem dX10_lookToRead_9 : decode cX10_lookToRead 9 = .ok (.aload_n 0, 1) := by decide +kernel
theorem dX10_lookToRead_10 : decode cX10_lookToRead 10 = .ok (.getfield 49, 3) := by decide +kernel
theorem dX10_lookToRead_13 : decode cX10_lookToRead 13 = .ok (.aload_n 0, 1) := by decide +kernel
theorem dX10_lookToRead_14 : decode cX10_lookToRead 14 = .ok (.getfield 28, 3) := by decide +kernel
theorem dX10_lookToRead_17 : decode cX10_lookToRead 17 = .ok (.iload_n 1, 1) := by decide +kernel
theorem dX10_lookToRead_18 : decode cX10_lookToRead 18 = .ok (.invokevirtual 120, 3) := by decide +kernel
theorem dX10_lookToRead_21 : decode cX10_lookToRead 21 = .ok (.aload_n 0, 1) := by decide +kernel
theorem dX10_lookToRead_22 : decode cX10_lookToRead 22 = .ok (.getfield 49, 3) := by decide +kernel
theorem dX10_lookToRead_25 : decode cX10_lookToRead 25 = .ok (.aload_n 0, 1) := by decide +kernel
theorem dX10_lookToRead_26 : decode cX10_lookToRead 26 = .ok (.getfield 49, 3) := by decide +kernel
theorem dX10_lookToRead_29 : decode cX10_lookToRead 29 = .ok (.getfield 208, 3) := by decide +kernel
theorem dX10_lookToRead_32 : decode cX10_lookToRead 32 = .ok (.iconst 1, 1) := by decide +kernel
theorem dX10_lookToRead_33 : decode cX10_lookToRead 33 = .ok (.invokevirtual 127, 3) := by decide +kernel
theorem dX10_lookToRead_36 : decode cX10_lookToRead 36 = .ok (.ireturn, 1) := by decide +kernel
theorem dX10_isCopy_0 : decode cX10_isCopy 0 = .ok (.iload_n 1, 1) := by decide +kernel
theorem dX10_isCopy_1 : decode cX10_isCopy 1 = .ok (.iconst 0, 1) := by decide +kernel
theorem dX10_isCopy_2 : decode cX10_isCopy 2 = .ok (.aload_n 0, 1) := by decide +kernel
theorem dX10_isCopy_3 : decode cX10_isCopy 3 = .ok (.getfield 28, 3) := by decide +kernel
theorem dX10_isCopy_6 : decode cX10_isCopy 6 = .ok (.invokevirtual 216, 3) := by decide +kernel
theorem dX10_isCopy_9 : decode cX10_isCopy 9 = .ok (.iconst 1, 1) := by decide +kernel
theorem dX10_isCopy_10 : decode cX10_isCopy 10 = .ok (.isub, 1) := by decide +kernel
theorem dX10_isCopy_11 : decode cX10_isCopy 11 = .ok (.invokestatic 82, 3) := by decide +kernel
theorem dX10_isCopy_14 : decode cX10_isCopy 14 = .ok (.ireturn, 1) := by decide +kernel
theorem dX10_isGroup_0 : decode cX10_isGroup 0 = .ok (.iload_n 0, 1) := by decide +kernel
theorem dX10_isGroup_1 : decode cX10_isGroup 1 = .ok (.iconst 0, 1) := by decide +kernel
theorem dX10_isGroup_2 : decode cX10_isGroup 2 = .ok (.iconst 2, 1) := by decide +kernel
theorem dX10_isGroup_3 : decode cX10_isGroup 3 = .ok (.invokestatic 82, 3) := by decide +kernel
theorem dX10_isGroup_6 : decode cX10_isGroup 6 = .ok (.ireturn, 1) := by decide +kernel
theorem dX10_isWithin_0 : decode cX10_isWithin 0 = .ok (.iload_n 0, 1) := by decide +kernel
theorem dX10_isWithin_1 : decode cX10_isWithin 1 = .ok (.iload_n 1, 1) := by decide +kernel
theorem dX10_isWithin_2 : decode cX10_isWithin 2 = .ok (.if_icmp .lt 12, 3) := by decide +kernel
theorem dX10_isWithin_5 : decode cX10_isWithin 5 = .ok (.iload_n 0, 1) := by decide +kernel
theorem dX10_isWithin_6 : decode cX10_isWithin 6 = .ok (.iload_n 2, 1) := by decide +kernel
theorem dX10_isWithin_7 : decode cX10_isWithin 7 = .ok (.if_icmp .gt 7, 3) := by decide +kernel
theorem dX10_isWithin_10 : decode cX10_isWithin 10 = .ok (.iconst 1, 1) := by decide +kernel
theorem dX10_isWithin_11 : decode cX10_isWithin 11 = .ok (.goto 4, 3) := by decide +kernel
theorem dX10_isWithin_14 : decode cX10_isWithin 14 = .ok (.iconst 0, 1) := by decide +kernel
theorem dX10_isWithin_15 : decode cX10_isWithin 15 = .ok (.ireturn, 1) := by decide +kernel
theorem dX10_isLawful_0 : decode cX10_isLawful 0 = .ok (.iload_n 1, 1) := by decide +kernel
theorem dX10_isLawful_1 : decode cX10_isLawful 1 = .ok (.iload_n 2, 1) := by decide +kernel
theorem dX10_isLawful_2 : decode cX10_isLawful 2 = .ok (.iadd, 1) := by decide +kernel
theorem dX10_isLawful_3 : decode cX10_isLawful 3 = .ok (.iload_n 0, 1) := by decide +kernel
theorem dX10_isLawful_4 : decode cX10_isLawful 4 = .ok (.if_icmp .le 24, 3) := by decide +kernel
theorem dX10_isLawful_7 : decode cX10_isLawful 7 = .ok (.iconst 2, 1) := by decide +kernel
theorem dX10_isLawful_8 : decode cX10_isLawful 8 = .ok (.iload_n 2, 1) := by decide +kernel
theorem dX10_isLawful_9 : decode cX10_isLawful 9 = .ok (.imul, 1) := by decide +kernel
theorem dX10_isLawful_10 : decode cX10_isLawful 10 = .ok (.iload_n 0, 1) := by decide +kernel
theorem dX10_isLawful_11 : decode cX10_isLawful 11 = .ok (.if_icmp .le 17, 3) := by decide +kernel
theorem dX10_isLawful_14 : decode cX10_isLawful 14 = .ok (.iload_n 1, 1) := by decide +kernel
theorem dX10_isLawful_15 : decode cX10_isLawful 15 = .ok (.iload_n 0, 1) := by decide +kernel
theorem dX10_isLawful_16 : decode cX10_isLawful 16 = .ok (.if_icmp .gt 12, 3) := by decide +kernel
theorem dX10_isLawful_19 : decode cX10_isLawful 19 = .ok (.iload_n 2, 1) := by decide +kernel
theorem dX10_isLawful_20 : decode cX10_isLawful 20 = .ok (.iload_n 0, 1) := by decide +kernel
theorem dX10_isLawful_21 : decode cX10_isLawful 21 = .ok (.if_icmp .gt 7, 3) := by decide +kernel
theorem dX10_isLawful_24 : decode cX10_isLawful 24 = .ok (.iconst 1, 1) := by decide +kernel
theorem dX10_isLawful_25 : decode cX10_isLawful 25 = .ok (.goto 4, 3) := by decide +kernel
theorem dX10_isLawful_28 : decode cX10_isLawful 28 = .ok (.iconst 0, 1) := by decide +kernel
theorem dX10_isLawful_29 : decode cX10_isLawful 29 = .ok (.ireturn, 1) := by decide +kernel
theorem dX11_init_0 : decode cX11_init 0 = .ok (.aload_n 0, 1) := by decide +kernel
theorem dX11_init_1 : decode cX11_init 1 = .ok (.invokespecial 1, 3) := by decide +kernel
theorem dX11_init_4 : decode cX11_init 4 = .ok (.aload_n 0, 1) := by decide +kernel
theorem dX11_init_5 : decode cX11_init 5 = .ok (.bipush 120, 2) := by decide +kernel
theorem dX11_init_7 : decode cX11_init 7 = .ok (.newarray .int, 2) := by decide +kernel
theorem dX11_init_9 : decode cX11_init 9 = .ok (.putfield 7, 3) := by decide +kernel
theorem dX11_init_12 : decode cX11_init 12 = .ok (.aload_n 0, 1) := by decide +kernel
theorem dX11_init_13 : decode cX11_init 13 = .ok (.bipush 103, 2) := by decide +kernel
theorem dX11_init_15 : decode cX11_init 15 = .ok (.newarray .int, 2) := by decide +kernel
theorem dX11_init_17 : decode cX11_init 17 = .ok (.putfield 13, 3) := by decide +kernel
theorem dX11_init_20 : decode cX11_init 20 = .ok (.aload_n 0, 1) := by decide +kernel
theorem dX11_init_21 : decode cX11_init 21 = .ok (.bipush 103, 2) := by decide +kernel
theorem dX11_init_23 : decode cX11_init 23 = .ok (.newarray .int, 2) := by decide +kernel
theorem dX11_init_25 : decode cX11_init 25 = .ok (.putfield 16, 3) := by decide +kernel
theorem dX11_init_28 : decode cX11_init 28 = .ok (.aload_n 0, 1) := by decide +kernel
theorem dX11_init_29 : decode cX11_init 29 = .ok (.sipush 1030, 3) := by decide +kernel
theorem dX11_init_32 : decode cX11_init 32 = .ok (.newarray .int, 2) := by decide +kernel
theorem dX11_init_34 : decode cX11_init 34 = .ok (.putfield 19, 3) := by decide +kernel
theorem dX11_init_37 : decode cX11_init 37 = .ok (.aload_n 0, 1) := by decide +kernel
theorem dX11_init_38 : decode cX11_init 38 = .ok (.sipush 206, 3) := by decide +kernel
theorem dX11_init_41 : decode cX11_init 41 = .ok (.newarray .int, 2) := by decide +kernel
theorem dX11_init_43 : decode cX11_init 43 = .ok (.putfield 22, 3) := by decide +kernel
theorem dX11_init_46 : decode cX11_init 46 = .ok (.aload_n 0, 1) := by decide +kernel
theorem dX11_init_47 : decode cX11_init 47 = .ok (.iconst 2, 1) := by decide +kernel
theorem dX11_init_48 : decode cX11_init 48 = .ok (.newarray .boolean, 2) := by decide +kernel
theorem dX11_init_50 : decode cX11_init 50 = .ok (.putfield 25, 3) := by decide +kernel
theorem dX11_init_53 : decode cX11_init 53 = .ok (.aload_n 0, 1) := by decide +kernel
theorem dX11_init_54 : decode cX11_init 54 = .ok (.bipush 6, 2) := by decide +kernel
theorem dX11_init_56 : decode cX11_init 56 = .ok (.newarray .int, 2) := by decide +kernel
theorem dX11_init_58 : decode cX11_init 58 = .ok (.putfield 29, 3) := by decide +kernel
theorem dX11_init_61 : decode cX11_init 61 = .ok (.aload_n 0, 1) := by decide +kernel
theorem dX11_init_62 : decode cX11_init 62 = .ok (.bipush 6, 2) := by decide +kernel
theorem dX11_init_64 : decode cX11_init 64 = .ok (.newarray .int, 2) := by decide +kernel
theorem dX11_init_66 : decode cX11_init 66 = .ok (.putfield 32, 3) := by decide +kernel
theorem dX11_init_69 : decode cX11_init 69 = .ok (.aload_n 0, 1) := by decide +kernel
theorem dX11_init_70 : decode cX11_init 70 = .ok (.bipush 20, 2) := by decide +kernel
theorem dX11_init_72 : decode cX11_init 72 = .ok (.newarray .int, 2) := by decide +kernel
theorem dX11_init_74 : decode cX11_init 74 = .ok (.putfield 35, 3) := by decide +kernel
theorem dX11_init_77 : decode cX11_init 77 = .ok (.aload_n 0, 1) := by decide +kernel
theorem dX11_init_78 : decode cX11_init 78 = .ok (.bipush 64, 2) := by decide +kernel
theorem dX11_init_80 : decode cX11_init 80 = .ok (.newarray .int, 2) := by decide +kernel
theorem dX11_init_82 : decode cX11_init 82 = .ok (.putfield 38, 3) := by decide +kernel
theorem dX11_init_85 : decode cX11_init 85 = .ok (.aload_n 0, 1) := by decide +kernel
theorem dX11_init_86 : decode cX11_init 86 = .ok (.bipush 64, 2) := by decide +kernel
theorem dX11_init_88 : decode cX11_init 88 = .ok (.newarray .int, 2) := by decide +kernel
theorem dX11_init_90 : decode cX11_init 90 = .ok (.putfield 41, 3) := by decide +kernel
theorem dX11_init_93 : decode cX11_init 93 = .ok (.aload_n 0, 1) := by decide +kernel
theorem dX11_init_94 : decode cX11_init 94 = .ok (.invokevirtual 44, 3) := by decide +kernel
theorem dX11_init_97 : decode cX11_init 97 = .ok (.aload_n 0, 1) := by decide +kernel
theorem dX11_init_98 : decode cX11_init 98 = .ok (.invokevirtual 47, 3) := by decide +kernel
theorem dX11_init_101 : decode cX11_init 101 = .ok (.return_, 1) := by decide +kernel
theorem dX11_in_0 : decode cX11_in 0 = .ok (.iload_n 0, 1) := by decide +kernel
theorem dX11_in_1 : decode cX11_in 1 = .ok (.iload_n 1, 1) := by decide +kernel
theorem dX11_in_2 : decode cX11_in 2 = .ok (.if_icmp .lt 12, 3) := by decide +kernel
theorem dX11_in_5 : decode cX11_in 5 = .ok (.iload_n 0, 1) := by decide +kernel
theorem dX11_in_6 : decode cX11_in 6 = .ok (.iload_n 2, 1) := by decide +kernel
theorem dX11_in_7 : decode cX11_in 7 = .ok (.if_icmp .gt 7, 3) := by decide +kernel
theorem dX11_in_10 : decode cX11_in 10 = .ok (.iconst 1, 1) := by decide +kernel
theorem dX11_in_11 : decode cX11_in 11 = .ok (.goto 4, 3) := by decide +kernel
theorem dX11_in_14 : decode cX11_in 14 = .ok (.iconst 0, 1) := by decide +kernel
theorem dX11_in_15 : decode cX11_in 15 = .ok (.ireturn, 1) := by decide +kernel
theorem dX11_has_0 : decode cX11_has 0 = .ok (.iload_n 0, 1) := by decide +kernel
theorem dX11_has_1 : decode cX11_has 1 = .ok (.iload_n 1, 1) := by decide +kernel
theorem dX11_has_2 : decode cX11_has 2 = .ok (.ishr, 1) := by decide +kernel
theorem dX11_has_3 : decode cX11_has 3 = .ok (.iconst 1, 1) := by decide +kernel
theorem dX11_has_4 : decode cX11_has 4 = .ok (.iand, 1) := by decide +kernel
theorem dX11_has_5 : decode cX11_has 5 = .ok (.iconst 1, 1) := by decide +kernel
theorem dX11_has_6 : decode cX11_has 6 = .ok (.if_icmp .ne 7, 3) := by decide +kernel
theorem dX11_has_9 : decode cX11_has 9 = .ok (.iconst 1, 1) := by decide +kernel
theorem dX11_has_10 : decode cX11_has 10 = .ok (.goto 4, 3) := by decide +kernel
theorem dX11_has_13 : decode cX11_has 13 = .ok (.iconst 0, 1) := by decide +kernel
theorem dX11_has_14 : decode cX11_has 14 = .ok (.ireturn, 1) := by decide +kernel
theorem dX11_ones_0 : decode cX11_ones 0 = .ok (.iconst 0, 1) := by decide +kernel
theorem dX11_ones_1 : decode cX11_ones 1 = .ok (.istore_n 1, 1) := by decide +kernel
theorem dX11_ones_2 : decode cX11_ones 2 = .ok (.iload_n 0, 1) := by decide +kernel
theorem dX11_ones_3 : decode cX11_ones 3 = .ok (.istore_n 2, 1) := by decide +kernel
theorem dX11_ones_4 : decode cX11_ones 4 = .ok (.iload_n 2, 1) := by decide +kernel
theorem dX11_ones_5 : decode cX11_ones 5 = .ok (.ifCond .eq 15, 3) := by decide +kernel
theorem dX11_ones_8 : decode cX11_ones 8 = .ok (.iinc 1 1, 3) := by decide +kernel
theorem dX11_ones_11 : decode cX11_ones 11 = .ok (.iload_n 2, 1) := by decide +kernel
theorem dX11_ones_12 : decode cX11_ones 12 = .ok (.iload_n 2, 1) := by decide +kernel
theorem dX11_ones_13 : decode cX11_ones 13 = .ok (.iconst 1, 1) := by decide +kernel
theorem dX11_ones_14 : decode cX11_ones 14 = .ok (.isub, 1) := by decide +kernel
theorem dX11_ones_15 : decode cX11_ones 15 = .ok (.iand, 1) := by decide +kernel
theorem dX11_ones_16 : decode cX11_ones 16 = .ok (.istore_n 2, 1) := by decide +kernel
theorem dX11_ones_17 : decode cX11_ones 17 = .ok (.goto (-13), 3) := by decide +kernel
theorem dX11_ones_20 : decode cX11_ones 20 = .ok (.iload_n 1, 1) := by decide +kernel
theorem dX11_ones_21 : decode cX11_ones 21 = .ok (.ireturn, 1) := by decide +kernel
theorem dX11_type_0 : decode cX11_type 0 = .ok (.aload_n 0, 1) := by decide +kernel
theorem dX11_type_1 : decode cX11_type 1 = .ok (.iconst 0, 1) := by decide +kernel
theorem dX11_type_2 : decode cX11_type 2 = .ok (.putfield 50, 3) := by decide +kernel
theorem dX11_type_5 : decode cX11_type 5 = .ok (.iload_n 1, 1) := by decide +kernel
theorem dX11_type_6 : decode cX11_type 6 = .ok (.iconst 0, 1) := by decide +kernel
theorem dX11_type_7 : decode cX11_type 7 = .ok (.sipush 255, 3) := by decide +kernel
theorem dX11_type_10 : decode cX11_type 10 = .ok (.invokestatic 54, 3) := by decide +kernel
theorem dX11_type_13 : decode cX11_type 13 = .ok (.ifCond .ne 5, 3) := by decide +kernel
theorem dX11_type_16 : decode cX11_type 16 = .ok (.iconst (-1), 1) := by decide +kernel
theorem dX11_type_17 : decode cX11_type 17 = .ok (.ireturn, 1) := by decide +kernel
theorem dX11_type_18 : decode cX11_type 18 = .ok (.aload_n 0, 1) := by decide +kernel
theorem dX11_type_19 : decode cX11_type 19 = .ok (.getfield 58, 3) := by decide +kernel
theorem dX11_type_22 : decode cX11_type 22 = .ok (.bipush 120, 2) := by decide +kernel
theorem dX11_type_24 : decode cX11_type 24 = .ok (.if_icmp .ne 6, 3) := by decide +kernel
theorem dX11_type_27 : decode cX11_type 27 = .ok (.bipush (-3), 2) := by decide +kernel
theorem dX11_type_29 : decode cX11_type 29 = .ok (.ireturn, 1) := by decide +kernel
theorem dX11_type_30 : decode cX11_type 30 = .ok (.aload_n 0, 1) := by decide +kernel
theorem dX11_type_31 : decode cX11_type 31 = .ok (.getfield 7, 3) := by decide +kernel
theorem dX11_type_34 : decode cX11_type 34 = .ok (.aload_n 0, 1) := by decide +kernel
theorem dX11_type_35 : decode cX11_type 35 = .ok (.getfield 58, 3) := by decide +kernel
theorem dX11_type_38 : decode cX11_type 38 = .ok (.iload_n 1, 1) := by decide +kernel
theorem dX11_type_39 : decode cX11_type 39 = .ok (.iastore, 1) := by decide +kernel
theorem dX11_type_40 : decode cX11_type 40 = .ok (.aload_n 0, 1) := by decide +kernel
theorem dX11_type_41 : decode cX11_type 41 = .ok (.dup, 1) := by decide +kernel
theorem dX11_type_42 : decode cX11_type 42 = .ok (.getfield 58, 3) := by decide +kernel
theorem dX11_type_45 : decode cX11_type 45 = .ok (.iconst 1, 1) := by decide +kernel
theorem dX11_type_46 : decode cX11_type 46 = .ok (.iadd, 1) := by decide +kernel
theorem dX11_type_47 : decode cX11_type 47 = .ok (.putfield 58, 3) := by decide +kernel
theorem dX11_type_50 : decode cX11_type 50 = .ok (.aload_n 0, 1) := by decide +kernel
theorem dX11_type_51 : decode cX11_type 51 = .ok (.getfield 58, 3) := by decide +kernel
theorem dX11_type_54 : decode cX11_type 54 = .ok (.ireturn, 1) := by decide +kernel
theorem dX11_clear_0 : decode cX11_clear 0 = .ok (.aload_n 0, 1) := by decide +kernel
theorem dX11_clear_1 : decode cX11_clear 1 = .ok (.iconst 0, 1) := by decide +kernel
theorem dX11_clear_2 : decode cX11_clear 2 = .ok (.putfield 50, 3) := by decide +kernel
theorem dX11_clear_5 : decode cX11_clear 5 = .ok (.aload_n 0, 1) := by decide +kernel
theorem dX11_clear_6 : decode cX11_clear 6 = .ok (.getfield 58, 3) := by decide +kernel
theorem dX11_clear_9 : decode cX11_clear 9 = .ok (.istore_n 1, 1) := by decide +kernel
theorem dX11_clear_10 : decode cX11_clear 10 = .ok (.aload_n 0, 1) := by decide +kernel
theorem dX11_clear_11 : decode cX11_clear 11 = .ok (.iconst 0, 1) := by decide +kernel
theorem dX11_clear_12 : decode cX11_clear 12 = .ok (.putfield 58, 3) := by decide +kernel
theorem dX11_clear_15 : decode cX11_clear 15 = .ok (.iload_n 1, 1) := by decide +kernel
theorem dX11_clear_16 : decode cX11_clear 16 = .ok (.ireturn, 1) := by decide +kernel
theorem dX11_letterAt_0 : decode cX11_letterAt 0 = .ok (.iload_n 1, 1) := by decide +kernel
theorem dX11_letterAt_1 : decode cX11_letterAt 1 = .ok (.aload_n 0, 1) := by decide +kernel
theorem dX11_letterAt_2 : decode cX11_letterAt 2 = .ok (.getfield 58, 3) := by decide +kernel
theorem dX11_letterAt_5 : decode cX11_letterAt 5 = .ok (.if_icmp .ge 12, 3) := by decide +kernel
theorem dX11_letterAt_8 : decode cX11_letterAt 8 = .ok (.aload_n 0, 1) := by decide +kernel
theorem dX11_letterAt_9 : decode cX11_letterAt 9 = .ok (.getfield 7, 3) := by decide +kernel
theorem dX11_letterAt_12 : decode cX11_letterAt 12 = .ok (.iload_n 1, 1) := by decide +kernel
theorem dX11_letterAt_13 : decode cX11_letterAt 13 = .ok (.iaload, 1) := by decide +kernel
theorem dX11_letterAt_14 : decode cX11_letterAt 14 = .ok (.goto 4, 3) := by decide +kernel
theorem dX11_letterAt_17 : decode cX11_letterAt 17 = .ok (.iconst (-1), 1) := by decide +kernel
theorem dX11_letterAt_18 : decode cX11_letterAt 18 = .ok (.ireturn, 1) := by decide +kernel
theorem dX11_isRow_0 : decode cX11_isRow 0 = .ok (.aload_n 0, 1) := by decide +kernel
theorem dX11_isRow_1 : decode cX11_isRow 1 = .ok (.aload_n 0, 1) := by decide +kernel
theorem dX11_isRow_2 : decode cX11_isRow 2 = .ok (.getfield 61, 3) := by decide +kernel
theorem dX11_isRow_5 : decode cX11_isRow 5 = .ok (.invokevirtual 64, 3) := by decide +kernel
theorem dX11_isRow_8 : decode cX11_isRow 8 = .ok (.iload_n 1, 1) := by decide +kernel
theorem dX11_isRow_9 : decode cX11_isRow 9 = .ok (.if_icmp .ne 106, 3) := by decide +kernel
theorem dX11_isRow_12 : decode cX11_isRow 12 = .ok (.aload_n 0, 1) := by decide +kernel
theorem dX11_isRow_13 : decode cX11_isRow 13 = .ok (.aload_n 0, 1) := by decide +kernel
theorem dX11_isRow_14 : decode cX11_isRow 14 = .ok (.getfield 61, 3) := by decide +kernel
theorem dX11_isRow_17 : decode cX11_isRow 17 = .ok (.iconst 1, 1) := by decide +kernel
theorem dX11_isRow_18 : decode cX11_isRow 18 = .ok (.iadd, 1) := by decide +kernel
theorem dX11_isRow_19 : decode cX11_isRow 19 = .ok (.invokevirtual 64, 3) := by decide +kernel
theorem dX11_isRow_22 : decode cX11_isRow 22 = .ok (.iload_n 2, 1) := by decide +kernel
theorem dX11_isRow_23 : decode cX11_isRow 23 = .ok (.if_icmp .ne 92, 3) := by decide +kernel
theorem dX11_isRow_26 : decode cX11_isRow 26 = .ok (.aload_n 0, 1) := by decide +kernel
theorem dX11_isRow_27 : decode cX11_isRow 27 = .ok (.aload_n 0, 1) := by decide +kernel
theorem dX11_isRow_28 : decode cX11_isRow 28 = .ok (.getfield 61, 3) := by decide +kernel
theorem dX11_isRow_31 : decode cX11_isRow 31 = .ok (.iconst 2, 1) := by decide +kernel
theorem dX11_isRow_32 : decode cX11_isRow 32 = .ok (.iadd, 1) := by decide +kernel
theorem dX11_isRow_33 : decode cX11_isRow 33 = .ok (.invokevirtual 64, 3) := by decide +kernel
theorem dX11_isRow_36 : decode cX11_isRow 36 = .ok (.iload_n 3, 1) := by decide +kernel
theorem dX11_isRow_37 : decode cX11_isRow 37 = .ok (.if_icmp .ne 78, 3) := by decide +kernel
theorem dX11_isRow_40 : decode cX11_isRow 40 = .ok (.aload_n 0, 1) := by decide +kernel
theorem dX11_isRow_41 : decode cX11_isRow 41 = .ok (.aload_n 0, 1) := by decide +kernel
theorem dX11_isRow_42 : decode cX11_isRow 42 = .ok (.getfield 61, 3) := by decide +kernel
theorem dX11_isRow_45 : decode cX11_isRow 45 = .ok (.iconst 3, 1) := by decide +kernel
theorem dX11_isRow_46 : decode cX11_isRow 46 = .ok (.iadd, 1) := by decide +kernel
theorem dX11_isRow_47 : decode cX11_isRow 47 = .ok (.invokevirtual 64, 3) := by decide +kernel
theorem dX11_isRow_50 : decode cX11_isRow 50 = .ok (.iload 4, 2) := by decide +kernel
theorem dX11_isRow_52 : decode cX11_isRow 52 = .ok (.if_icmp .ne 63, 3) := by decide +kernel
theorem dX11_isRow_55 : decode cX11_isRow 55 = .ok (.iload 5, 2) := by decide +kernel
theorem dX11_isRow_57 : decode cX11_isRow 57 = .ok (.ifCond .eq 18, 3) := by decide +kernel
theorem dX11_isRow_60 : decode cX11_isRow 60 = .ok (.aload_n 0, 1) := by decide +kernel
theorem dX11_isRow_61 : decode cX11_isRow 61 = .ok (.aload_n 0, 1) := by decide +kernel
theorem dX11_isRow_62 : decode cX11_isRow 62 = .ok (.getfield 61, 3) := by decide +kernel
theorem dX11_isRow_65 : decode cX11_isRow 65 = .ok (.iconst 4, 1) := by decide +kernel
theorem dX11_isRow_66 : decode cX11_isRow 66 = .ok (.iadd, 1) := by decide +kernel
theorem dX11_isRow_67 : decode cX11_isRow 67 = .ok (.invokevirtual 64, 3) := by decide +kernel
theorem dX11_isRow_70 : decode cX11_isRow 70 = .ok (.iload 5, 2) := by decide +kernel
theorem dX11_isRow_72 : decode cX11_isRow 72 = .ok (.if_icmp .ne 43, 3) := by decide +kernel
theorem dX11_isRow_75 : decode cX11_isRow 75 = .ok (.iload 6, 2) := by decide +kernel
theorem dX11_isRow_77 : decode cX11_isRow 77 = .ok (.ifCond .eq 34, 3) := by decide +kernel
theorem dX11_isRow_80 : decode cX11_isRow 80 = .ok (.aload_n 0, 1) := by decide +kernel
theorem dX11_isRow_81 : decode cX11_isRow 81 = .ok (.aload_n 0, 1) := by decide +kernel
theorem dX11_isRow_82 : decode cX11_isRow 82 = .ok (.getfield 61, 3) := by decide +kernel
theorem dX11_isRow_85 : decode cX11_isRow 85 = .ok (.iconst 5, 1) := by decide +kernel
theorem dX11_isRow_86 : decode cX11_isRow 86 = .ok (.iadd, 1) := by decide +kernel
theorem dX11_isRow_87 : decode cX11_isRow 87 = .ok (.invokevirtual 64, 3) := by decide +kernel
theorem dX11_isRow_90 : decode cX11_isRow 90 = .ok (.iload 6, 2) := by decide +kernel
theorem dX11_isRow_92 : decode cX11_isRow 92 = .ok (.if_icmp .ne 23, 3) := by decide +kernel
theorem dX11_isRow_95 : decode cX11_isRow 95 = .ok (.aload_n 0, 1) := by decide +kernel
theorem dX11_isRow_96 : decode cX11_isRow 96 = .ok (.aload_n 0, 1) := by decide +kernel
theorem dX11_isRow_97 : decode cX11_isRow 97 = .ok (.getfield 61, 3) := by decide +kernel
theorem dX11_isRow_100 : decode cX11_isRow 100 = .ok (.bipush 6, 2) := by decide +kernel
theorem dX11_isRow_102 : decode cX11_isRow 102 = .ok (.iadd, 1) := by decide +kernel
theorem dX11_isRow_103 : decode cX11_isRow 103 = .ok (.invokevirtual 64, 3) := by decide +kernel
theorem dX11_isRow_106 : decode cX11_isRow 106 = .ok (.iload 7, 2) := by decide +kernel
theorem dX11_isRow_108 : decode cX11_isRow 108 = .ok (.if_icmp .ne 7, 3) := by decide +kernel
theorem dX11_isRow_111 : decode cX11_isRow 111 = .ok (.iconst 1, 1) := by decide +kernel
theorem dX11_isRow_112 : decode cX11_isRow 112 = .ok (.goto 4, 3) := by decide +kernel
theorem dX11_isRow_115 : decode cX11_isRow 115 = .ok (.iconst 0, 1) := by decide +kernel
theorem dX11_isRow_116 : decode cX11_isRow 116 = .ok (.ireturn, 1) := by decide +kernel
theorem dX11_reads_0 : decode cX11_reads 0 = .ok (.aload_n 0, 1) := by decide +kernel
theorem dX11_reads_1 : decode cX11_reads 1 = .ok (.aload_n 0, 1) := by decide +kernel
theorem dX11_reads_2 : decode cX11_reads 2 = .ok (.getfield 68, 3) := by decide +kernel
theorem dX11_reads_5 : decode cX11_reads 5 = .ok (.invokevirtual 64, 3) := by decide +kernel
theorem dX11_reads_8 : decode cX11_reads 8 = .ok (.bipush 97, 2) := by decide +kernel
theorem dX11_reads_10 : decode cX11_reads 10 = .ok (.bipush 122, 2) := by decide +kernel
theorem dX11_reads_12 : decode cX11_reads 12 = .ok (.invokestatic 54, 3) := by decide +kernel
theorem dX11_reads_15 : decode cX11_reads 15 = .ok (.ifCond .eq 16, 3) := by decide +kernel
theorem dX11_reads_18 : decode cX11_reads 18 = .ok (.aload_n 0, 1) := by decide +kernel
theorem dX11_reads_19 : decode cX11_reads 19 = .ok (.dup, 1) := by decide +kernel
theorem dX11_reads_20 : decode cX11_reads 20 = .ok (.getfield 68, 3) := by decide +kernel
theorem dX11_reads_23 : decode cX11_reads 23 = .ok (.iconst 1, 1) := by decide +kernel
theorem dX11_reads_24 : decode cX11_reads 24 = .ok (.iadd, 1) := by decide +kernel
theorem dX11_reads_25 : decode cX11_reads 25 = .ok (.putfield 68, 3) := by decide +kernel
theorem dX11_reads_28 : decode cX11_reads 28 = .ok (.goto (-28), 3) := by decide +kernel
theorem dX11_reads_31 : decode cX11_reads 31 = .ok (.aload_n 0, 1) := by decide +kernel
theorem dX11_reads_32 : decode cX11_reads 32 = .ok (.getfield 68, 3) := by decide +kernel
theorem dX11_reads_35 : decode cX11_reads 35 = .ok (.aload_n 0, 1) := by decide +kernel
theorem dX11_reads_36 : decode cX11_reads 36 = .ok (.getfield 61, 3) := by decide +kernel
theorem dX11_reads_39 : decode cX11_reads 39 = .ok (.isub, 1) := by decide +kernel
theorem dX11_reads_40 : decode cX11_reads 40 = .ok (.istore_n 1, 1) := by decide +kernel
theorem dX11_reads_41 : decode cX11_reads 41 = .ok (.aload_n 0, 1) := by decide +kernel
theorem dX11_reads_42 : decode cX11_reads 42 = .ok (.iload_n 1, 1) := by decide +kernel
theorem dX11_reads_43 : decode cX11_reads 43 = .ok (.iconst 4, 1) := by decide +kernel
theorem dX11_reads_44 : decode cX11_reads 44 = .ok (.if_icmp .ne 25, 3) := by decide +kernel
theorem dX11_reads_47 : decode cX11_reads 47 = .ok (.aload_n 0, 1) := by decide +kernel
theorem dX11_reads_48 : decode cX11_reads 48 = .ok (.bipush 99, 2) := by decide +kernel
theorem dX11_reads_50 : decode cX11_reads 50 = .ok (.bipush 111, 2) := by decide +kernel
theorem dX11_reads_52 : decode cX11_reads 52 = .ok (.bipush 112, 2) := by decide +kernel
theorem dX11_reads_54 : decode cX11_reads 54 = .ok (.bipush 121, 2) := by decide +kernel
theorem dX11_reads_56 : decode cX11_reads 56 = .ok (.iconst 0, 1) := by decide +kernel
theorem dX11_reads_57 : decode cX11_reads 57 = .ok (.iconst 0, 1) := by decide +kernel
theorem dX11_reads_58 : decode cX11_reads 58 = .ok (.iconst 0, 1) := by decide +kernel
theorem dX11_reads_59 : decode cX11_reads 59 = .ok (.invokevirtual 71, 3) := by decide +kernel
theorem dX11_reads_62 : decode cX11_reads 62 = .ok (.ifCond .eq 7, 3) := by decide +kernel
theorem dX11_reads_65 : decode cX11_reads 65 = .ok (.iconst 1, 1) := by decide +kernel
theorem dX11_reads_66 : decode cX11_reads 66 = .ok (.goto 90, 3) := by decide +kernel
theorem dX11_reads_69 : decode cX11_reads 69 = .ok (.iload_n 1, 1) := by decide +kernel
theorem dX11_reads_70 : decode cX11_reads 70 = .ok (.bipush 7, 2) := by decide +kernel
theorem dX11_reads_72 : decode cX11_reads 72 = .ok (.if_icmp .ne 28, 3) := by decide +kernel
theorem dX11_reads_75 : decode cX11_reads 75 = .ok (.aload_n 0, 1) := by decide +kernel
theorem dX11_reads_76 : decode cX11_reads 76 = .ok (.bipush 119, 2) := by decide +kernel
theorem dX11_reads_78 : decode cX11_reads 78 = .ok (.bipush 105, 2) := by decide +kernel
theorem dX11_reads_80 : decode cX11_reads 80 = .ok (.bipush 116, 2) := by decide +kernel
theorem dX11_reads_82 : decode cX11_reads 82 = .ok (.bipush 110, 2) := by decide +kernel
theorem dX11_reads_84 : decode cX11_reads 84 = .ok (.bipush 101, 2) := by decide +kernel
theorem dX11_reads_86 : decode cX11_reads 86 = .ok (.bipush 115, 2) := by decide +kernel
theorem dX11_reads_88 : decode cX11_reads 88 = .ok (.bipush 115, 2) := by decide +kernel
theorem dX11_reads_90 : decode cX11_reads 90 = .ok (.invokevirtual 71, 3) := by decide +kernel
theorem dX11_reads_93 : decode cX11_reads 93 = .ok (.ifCond .eq 7, 3) := by decide +kernel
theorem dX11_reads_96 : decode cX11_reads 96 = .ok (.iconst 2, 1) := by decide +kernel
theorem dX11_reads_97 : decode cX11_reads 97 = .ok (.goto 59, 3) := by decide +kernel
theorem dX11_reads_100 : decode cX11_reads 100 = .ok (.iload_n 1, 1) := by decide +kernel
theorem dX11_reads_101 : decode cX11_reads 101 = .ok (.iconst 4, 1) := by decide +kernel
theorem dX11_reads_102 : decode cX11_reads 102 = .ok (.if_icmp .ne 25, 3) := by decide +kernel
theorem dX11_reads_105 : decode cX11_reads 105 = .ok (.aload_n 0, 1) := by decide +kernel
theorem dX11_reads_106 : decode cX11_reads 106 = .ok (.bipush 114, 2) := by decide +kernel
theorem dX11_reads_108 : decode cX11_reads 108 = .ok (.bipush 101, 2) := by decide +kernel
theorem dX11_reads_110 : decode cX11_reads 110 = .ok (.bipush 97, 2) := by decide +kernel
theorem dX11_reads_112 : decode cX11_reads 112 = .ok (.bipush 100, 2) := by decide +kernel
theorem dX11_reads_114 : decode cX11_reads 114 = .ok (.iconst 0, 1) := by decide +kernel
theorem dX11_reads_115 : decode cX11_reads 115 = .ok (.iconst 0, 1) := by decide +kernel
theorem dX11_reads_116 : decode cX11_reads 116 = .ok (.iconst 0, 1) := by decide +kernel
theorem dX11_reads_117 : decode cX11_reads 117 = .ok (.invokevirtual 71, 3) := by decide +kernel
theorem dX11_reads_120 : decode cX11_reads 120 = .ok (.ifCond .eq 7, 3) := by decide +kernel
theorem dX11_reads_123 : decode cX11_reads 123 = .ok (.iconst 3, 1) := by decide +kernel
theorem dX11_reads_124 : decode cX11_reads 124 = .ok (.goto 32, 3) := by decide +kernel
theorem dX11_reads_127 : decode cX11_reads 127 = .ok (.iload_n 1, 1) := by decide +kernel
theorem dX11_reads_128 : decode cX11_reads 128 = .ok (.iconst 5, 1) := by decide +kernel
theorem dX11_reads_129 : decode cX11_reads 129 = .ok (.if_icmp .ne 26, 3) := by decide +kernel
theorem dX11_reads_132 : decode cX11_reads 132 = .ok (.aload_n 0, 1) := by decide +kernel
theorem dX11_reads_133 : decode cX11_reads 133 = .ok (.bipush 119, 2) := by decide +kernel
theorem dX11_reads_135 : decode cX11_reads 135 = .ok (.bipush 114, 2) := by decide +kernel
theorem dX11_reads_137 : decode cX11_reads 137 = .ok (.bipush 105, 2) := by decide +kernel
theorem dX11_reads_139 : decode cX11_reads 139 = .ok (.bipush 116, 2) := by decide +kernel
theorem dX11_reads_141 : decode cX11_reads 141 = .ok (.bipush 101, 2) := by decide +kernel
theorem dX11_reads_143 : decode cX11_reads 143 = .ok (.iconst 0, 1) := by decide +kernel
theorem dX11_reads_144 : decode cX11_reads 144 = .ok (.iconst 0, 1) := by decide +kernel
theorem dX11_reads_145 : decode cX11_reads 145 = .ok (.invokevirtual 71, 3) := by decide +kernel
theorem dX11_reads_148 : decode cX11_reads 148 = .ok (.ifCond .eq 7, 3) := by decide +kernel
theorem dX11_reads_151 : decode cX11_reads 151 = .ok (.iconst 4, 1) := by decide +kernel
theorem dX11_reads_152 : decode cX11_reads 152 = .ok (.goto 4, 3) := by decide +kernel
theorem dX11_reads_155 : decode cX11_reads 155 = .ok (.iconst 0, 1) := by decide +kernel
theorem dX11_reads_156 : decode cX11_reads 156 = .ok (.putfield 75, 3) := by decide +kernel
theorem dX11_reads_159 : decode cX11_reads 159 = .ok (.aload_n 0, 1) := by decide +kernel
theorem dX11_reads_160 : decode cX11_reads 160 = .ok (.aload_n 0, 1) := by decide +kernel
theorem dX11_reads_161 : decode cX11_reads 161 = .ok (.getfield 75, 3) := by decide +kernel
theorem dX11_reads_164 : decode cX11_reads 164 = .ok (.ifCond .ne 7, 3) := by decide +kernel
theorem dX11_reads_167 : decode cX11_reads 167 = .ok (.iconst 4, 1) := by decide +kernel
theorem dX11_reads_168 : decode cX11_reads 168 = .ok (.goto 4, 3) := by decide +kernel
theorem dX11_reads_171 : decode cX11_reads 171 = .ok (.iconst 1, 1) := by decide +kernel
theorem dX11_reads_172 : decode cX11_reads 172 = .ok (.putfield 78, 3) := by decide +kernel
theorem dX11_reads_175 : decode cX11_reads 175 = .ok (.return_, 1) := by decide +kernel
theorem dX11_advances_0 : decode cX11_advances 0 = .ok (.aload_n 0, 1) := by decide +kernel
theorem dX11_advances_1 : decode cX11_advances 1 = .ok (.aload_n 0, 1) := by decide +kernel
theorem dX11_advances_2 : decode cX11_advances 2 = .ok (.getfield 68, 3) := by decide +kernel
theorem dX11_advances_5 : decode cX11_advances 5 = .ok (.invokevirtual 64, 3) := by decide +kernel
theorem dX11_advances_8 : decode cX11_advances 8 = .ok (.bipush 32, 2) := by decide +kernel
theorem dX11_advances_10 : decode cX11_advances 10 = .ok (.if_icmp .ne 16, 3) := by decide +kernel
theorem dX11_advances_13 : decode cX11_advances 13 = .ok (.aload_n 0, 1) := by decide +kernel
theorem dX11_advances_14 : decode cX11_advances 14 = .ok (.dup, 1) := by decide +kernel
theorem dX11_advances_15 : decode cX11_advances 15 = .ok (.getfield 68, 3) := by decide +kernel
theorem dX11_advances_18 : decode cX11_advances 18 = .ok (.iconst 1, 1) := by decide +kernel
theorem dX11_advances_19 : decode cX11_advances 19 = .ok (.iadd, 1) := by decide +kernel
theorem dX11_advances_20 : decode cX11_advances 20 = .ok (.putfield 68, 3) := by decide +kernel
theorem dX11_advances_23 : decode cX11_advances 23 = .ok (.goto (-23), 3) := by decide +kernel
theorem dX11_advances_26 : decode cX11_advances 26 = .ok (.aload_n 0, 1) := by decide +kernel
theorem dX11_advances_27 : decode cX11_advances 27 = .ok (.aload_n 0, 1) := by decide +kernel
theorem dX11_advances_28 : decode cX11_advances 28 = .ok (.getfield 68, 3) := by decide +kernel
theorem dX11_advances_31 : decode cX11_advances 31 = .ok (.putfield 61, 3) := by decide +kernel
theorem dX11_advances_34 : decode cX11_advances 34 = .ok (.aload_n 0, 1) := by decide +kernel
theorem dX11_advances_35 : decode cX11_advances 35 = .ok (.aload_n 0, 1) := by decide +kernel
theorem dX11_advances_36 : decode cX11_advances 36 = .ok (.getfield 68, 3) := by decide +kernel
theorem dX11_advances_39 : decode cX11_advances 39 = .ok (.invokevirtual 64, 3) := by decide +kernel
theorem dX11_advances_42 : decode cX11_advances 42 = .ok (.istore_n 1, 1) := by decide +kernel
theorem dX11_advances_43 : decode cX11_advances 43 = .ok (.iload_n 1, 1) := by decide +kernel
theorem dX11_advances_44 : decode cX11_advances 44 = .ok (.ifCond .ge 11, 3) := by decide +kernel
theorem dX11_advances_47 : decode cX11_advances 47 = .ok (.aload_n 0, 1) := by decide +kernel
theorem dX11_advances_48 : decode cX11_advances 48 = .ok (.iconst 0, 1) := by decide +kernel
theorem dX11_advances_49 : decode cX11_advances 49 = .ok (.putfield 78, 3) := by decide +kernel
theorem dX11_advances_52 : decode cX11_advances 52 = .ok (.goto 172, 3) := by decide +kernel
theorem dX11_advances_55 : decode cX11_advances 55 = .ok (.iload_n 1, 1) := by decide +kernel
theorem dX11_advances_56 : decode cX11_advances 56 = .ok (.bipush 48, 2) := by decide +kernel
theorem dX11_advances_58 : decode cX11_advances 58 = .ok (.bipush 57, 2) := by decide +kernel
theorem dX11_advances_60 : decode cX11_advances 60 = .ok (.invokestatic 54, 3) := by decide +kernel
theorem dX11_advances_63 : decode cX11_advances 63 = .ok (.ifCond .eq 118, 3) := by decide +kernel
theorem dX11_advances_66 : decode cX11_advances 66 = .ok (.aload_n 0, 1) := by decide +kernel
theorem dX11_advances_67 : decode cX11_advances 67 = .ok (.iconst 0, 1) := by decide +kernel
theorem dX11_advances_68 : decode cX11_advances 68 = .ok (.putfield 75, 3) := by decide +kernel
theorem dX11_advances_71 : decode cX11_advances 71 = .ok (.aload_n 0, 1) := by decide +kernel
theorem dX11_advances_72 : decode cX11_advances 72 = .ok (.aload_n 0, 1) := by decide +kernel
theorem dX11_advances_73 : decode cX11_advances 73 = .ok (.getfield 68, 3) := by decide +kernel
theorem dX11_advances_76 : decode cX11_advances 76 = .ok (.invokevirtual 64, 3) := by decide +kernel
theorem dX11_advances_79 : decode cX11_advances 79 = .ok (.bipush 48, 2) := by decide +kernel
theorem dX11_advances_81 : decode cX11_advances 81 = .ok (.bipush 57, 2) := by decide +kernel
theorem dX11_advances_83 : decode cX11_advances 83 = .ok (.invokestatic 54, 3) := by decide +kernel
theorem dX11_advances_86 : decode cX11_advances 86 = .ok (.ifCond .eq 55, 3) := by decide +kernel
theorem dX11_advances_89 : decode cX11_advances 89 = .ok (.aload_n 0, 1) := by decide +kernel
theorem dX11_advances_90 : decode cX11_advances 90 = .ok (.aload_n 0, 1) := by decide +kernel
theorem dX11_advances_91 : decode cX11_advances 91 = .ok (.getfield 75, 3) := by decide +kernel
theorem dX11_advances_94 : decode cX11_advances 94 = .ok (.bipush 99, 2) := by decide +kernel
theorem dX11_advances_96 : decode cX11_advances 96 = .ok (.if_icmp .le 10, 3) := by decide +kernel
theorem dX11_advances_99 : decode cX11_advances 99 = .ok (.aload_n 0, 1) := by decide +kernel
theorem dX11_advances_100 : decode cX11_advances 100 = .ok (.getfield 75, 3) := by decide +kernel
theorem dX11_advances_103 : decode cX11_advances 103 = .ok (.goto 22, 3) := by decide +kernel
theorem dX11_advances_106 : decode cX11_advances 106 = .ok (.bipush 10, 2) := by decide +kernel
theorem dX11_advances_108 : decode cX11_advances 108 = .ok (.aload_n 0, 1) := by decide +kernel
theorem dX11_advances_109 : decode cX11_advances 109 = .ok (.getfield 75, 3) := by decide +kernel
theorem dX11_advances_112 : decode cX11_advances 112 = .ok (.imul, 1) := by decide +kernel
theorem dX11_advances_113 : decode cX11_advances 113 = .ok (.aload_n 0, 1) := by decide +kernel
theorem dX11_advances_114 : decode cX11_advances 114 = .ok (.aload_n 0, 1) := by decide +kernel
theorem dX11_advances_115 : decode cX11_advances 115 = .ok (.getfield 68, 3) := by decide +kernel
theorem dX11_advances_118 : decode cX11_advances 118 = .ok (.invokevirtual 64, 3) := by decide +kernel
theorem dX11_advances_121 : decode cX11_advances 121 = .ok (.iadd, 1) := by decide +kernel
theorem dX11_advances_122 : decode cX11_advances 122 = .ok (.bipush 48, 2) := by decide +kernel
theorem dX11_advances_124 : decode cX11_advances 124 = .ok (.isub, 1) := by decide +kernel
theorem dX11_advances_125 : decode cX11_advances 125 = .ok (.putfield 75, 3) := by decide +kernel
theorem dX11_advances_128 : decode cX11_advances 128 = .ok (.aload_n 0, 1) := by decide +kernel
theorem dX11_advances_129 : decode cX11_advances 129 = .ok (.dup, 1) := by decide +kernel
theorem dX11_advances_130 : decode cX11_advances 130 = .ok (.getfield 68, 3) := by decide +kernel
theorem dX11_advances_133 : decode cX11_advances 133 = .ok (.iconst 1, 1) := by decide +kernel
theorem dX11_advances_134 : decode cX11_advances 134 = .ok (.iadd, 1) := by decide +kernel
theorem dX11_advances_135 : decode cX11_advances 135 = .ok (.putfield 68, 3) := by decide +kernel
theorem dX11_advances_138 : decode cX11_advances 138 = .ok (.goto (-67), 3) := by decide +kernel
theorem dX11_advances_141 : decode cX11_advances 141 = .ok (.aload_n 0, 1) := by decide +kernel
theorem dX11_advances_142 : decode cX11_advances 142 = .ok (.aload_n 0, 1) := by decide +kernel
theorem dX11_advances_143 : decode cX11_advances 143 = .ok (.getfield 75, 3) := by decide +kernel
theorem dX11_advances_146 : decode cX11_advances 146 = .ok (.bipush 99, 2) := by decide +kernel
theorem dX11_advances_148 : decode cX11_advances 148 = .ok (.if_icmp .gt 22, 3) := by decide +kernel
theorem dX11_advances_151 : decode cX11_advances 151 = .ok (.iload_n 1, 1) := by decide +kernel
theorem dX11_advances_152 : decode cX11_advances 152 = .ok (.bipush 48, 2) := by decide +kernel
theorem dX11_advances_154 : decode cX11_advances 154 = .ok (.if_icmp .ne 20, 3) := by decide +kernel
theorem dX11_advances_157 : decode cX11_advances 157 = .ok (.aload_n 0, 1) := by decide +kernel
theorem dX11_advances_158 : decode cX11_advances 158 = .ok (.getfield 68, 3) := by decide +kernel
theorem dX11_advances_161 : decode cX11_advances 161 = .ok (.aload_n 0, 1) := by decide +kernel
theorem dX11_advances_162 : decode cX11_advances 162 = .ok (.getfield 61, 3) := by decide +kernel
theorem dX11_advances_165 : decode cX11_advances 165 = .ok (.isub, 1) := by decide +kernel
theorem dX11_advances_166 : decode cX11_advances 166 = .ok (.iconst 1, 1) := by decide +kernel
theorem dX11_advances_167 : decode cX11_advances 167 = .ok (.if_icmp .le 7, 3) := by decide +kernel
theorem dX11_advances_170 : decode cX11_advances 170 = .ok (.iconst 4, 1) := by decide +kernel
theorem dX11_advances_171 : decode cX11_advances 171 = .ok (.goto 4, 3) := by decide +kernel
theorem dX11_advances_174 : decode cX11_advances 174 = .ok (.iconst 2, 1) := by decide +kernel
theorem dX11_advances_175 : decode cX11_advances 175 = .ok (.putfield 78, 3) := by decide +kernel
theorem dX11_advances_178 : decode cX11_advances 178 = .ok (.goto 46, 3) := by decide +kernel
theorem dX11_advances_181 : decode cX11_advances 181 = .ok (.iload_n 1, 1) := by decide +kernel
theorem dX11_advances_182 : decode cX11_advances 182 = .ok (.bipush 97, 2) := by decide +kernel
theorem dX11_advances_184 : decode cX11_advances 184 = .ok (.bipush 122, 2) := by decide +kernel
theorem dX11_advances_186 : decode cX11_advances 186 = .ok (.invokestatic 54, 3) := by decide +kernel
theorem dX11_advances_189 : decode cX11_advances 189 = .ok (.ifCond .eq 10, 3) := by decide +kernel
theorem dX11_advances_192 : decode cX11_advances 192 = .ok (.aload_n 0, 1) := by decide +kernel
theorem dX11_advances_193 : decode cX11_advances 193 = .ok (.invokevirtual 81, 3) := by decide +kernel
theorem dX11_advances_196 : decode cX11_advances 196 = .ok (.goto 28, 3) := by decide +kernel
theorem dX11_advances_199 : decode cX11_advances 199 = .ok (.aload_n 0, 1) := by decide +kernel
theorem dX11_advances_200 : decode cX11_advances 200 = .ok (.dup, 1) := by decide +kernel
theorem dX11_advances_201 : decode cX11_advances 201 = .ok (.getfield 68, 3) := by decide +kernel
theorem dX11_advances_204 : decode cX11_advances 204 = .ok (.iconst 1, 1) := by decide +kernel
theorem dX11_advances_205 : decode cX11_advances 205 = .ok (.iadd, 1) := by decide +kernel
theorem dX11_advances_206 : decode cX11_advances 206 = .ok (.putfield 68, 3) := by decide +kernel
theorem dX11_advances_209 : decode cX11_advances 209 = .ok (.aload_n 0, 1) := by decide +kernel
theorem dX11_advances_210 : decode cX11_advances 210 = .ok (.iload_n 1, 1) := by decide +kernel
theorem dX11_advances_211 : decode cX11_advances 211 = .ok (.bipush 59, 2) := by decide +kernel
theorem dX11_advances_213 : decode cX11_advances 213 = .ok (.if_icmp .ne 7, 3) := by decide +kernel
theorem dX11_advances_216 : decode cX11_advances 216 = .ok (.iconst 3, 1) := by decide +kernel
theorem dX11_advances_217 : decode cX11_advances 217 = .ok (.goto 4, 3) := by decide +kernel
theorem dX11_advances_220 : decode cX11_advances 220 = .ok (.iconst 4, 1) := by decide +kernel
theorem dX11_advances_221 : decode cX11_advances 221 = .ok (.putfield 78, 3) := by decide +kernel
theorem dX11_advances_224 : decode cX11_advances 224 = .ok (.return_, 1) := by decide +kernel
theorem dX11_isWell_0 : decode cX11_isWell 0 = .ok (.aload_n 0, 1) := by decide +kernel
theorem dX11_isWell_1 : decode cX11_isWell 1 = .ok (.getfield 84, 3) := by decide +kernel
theorem dX11_isWell_4 : decode cX11_isWell 4 = .ok (.ifCond .ge 7, 3) := by decide +kernel
theorem dX11_isWell_7 : decode cX11_isWell 7 = .ok (.iconst 1, 1) := by decide +kernel
theorem dX11_isWell_8 : decode cX11_isWell 8 = .ok (.goto 4, 3) := by decide +kernel
theorem dX11_isWell_11 : decode cX11_isWell 11 = .ok (.iconst 0, 1) := by decide +kernel
theorem dX11_isWell_12 : decode cX11_isWell 12 = .ok (.ireturn, 1) := by decide +kernel
theorem dX11_takes_0 : decode cX11_takes 0 = .ok (.aload_n 0, 1) := by decide +kernel
theorem dX11_takes_1 : decode cX11_takes 1 = .ok (.invokevirtual 87, 3) := by decide +kernel
theorem dX11_takes_4 : decode cX11_takes 4 = .ok (.ifCond .ne 5, 3) := by decide +kernel
theorem dX11_takes_7 : decode cX11_takes 7 = .ok (.iconst 0, 1) := by decide +kernel
theorem dX11_takes_8 : decode cX11_takes 8 = .ok (.ireturn, 1) := by decide +kernel
theorem dX11_takes_9 : decode cX11_takes 9 = .ok (.iload_n 1, 1) := by decide +kernel
theorem dX11_takes_10 : decode cX11_takes 10 = .ok (.ifCond .ne 13, 3) := by decide +kernel
theorem dX11_takes_13 : decode cX11_takes 13 = .ok (.aload_n 0, 1) := by decide +kernel
theorem dX11_takes_14 : decode cX11_takes 14 = .ok (.aload_n 0, 1) := by decide +kernel
theorem dX11_takes_15 : decode cX11_takes 15 = .ok (.getfield 61, 3) := by decide +kernel
theorem dX11_takes_18 : decode cX11_takes 18 = .ok (.putfield 84, 3) := by decide +kernel
theorem dX11_takes_21 : decode cX11_takes 21 = .ok (.iconst 0, 1) := by decide +kernel
theorem dX11_takes_22 : decode cX11_takes 22 = .ok (.ireturn, 1) := by decide +kernel
theorem dX11_takes_23 : decode cX11_takes 23 = .ok (.aload_n 0, 1) := by decide +kernel
theorem dX11_takes_24 : decode cX11_takes 24 = .ok (.getfield 75, 3) := by decide +kernel
theorem dX11_takes_27 : decode cX11_takes 27 = .ok (.istore_n 2, 1) := by decide +kernel
theorem dX11_takes_28 : decode cX11_takes 28 = .ok (.aload_n 0, 1) := by decide +kernel
theorem dX11_takes_29 : decode cX11_takes 29 = .ok (.invokevirtual 91, 3) := by decide +kernel
theorem dX11_takes_32 : decode cX11_takes 32 = .ok (.iload_n 2, 1) := by decide +kernel
theorem dX11_takes_33 : decode cX11_takes 33 = .ok (.ireturn, 1) := by decide +kernel
theorem dX11_number_0 : decode cX11_number 0 = .ok (.aload_n 0, 1) := by decide +kernel
theorem dX11_number_1 : decode cX11_number 1 = .ok (.aload_n 0, 1) := by decide +kernel
theorem dX11_number_2 : decode cX11_number 2 = .ok (.getfield 78, 3) := by decide +kernel
theorem dX11_number_5 : decode cX11_number 5 = .ok (.iconst 2, 1) := by decide +kernel
theorem dX11_number_6 : decode cX11_number 6 = .ok (.if_icmp .ne 19, 3) := by decide +kernel
theorem dX11_number_9 : decode cX11_number 9 = .ok (.aload_n 0, 1) := by decide +kernel
theorem dX11_number_10 : decode cX11_number 10 = .ok (.getfield 75, 3) := by decide +kernel
theorem dX11_number_13 : decode cX11_number 13 = .ok (.iload_n 1, 1) := by decide +kernel
theorem dX11_number_14 : decode cX11_number 14 = .ok (.iload_n 2, 1) := by decide +kernel
theorem dX11_number_15 : decode cX11_number 15 = .ok (.invokestatic 54, 3) := by decide +kernel
theorem dX11_number_18 : decode cX11_number 18 = .ok (.ifCond .eq 7, 3) := by decide +kernel
theorem dX11_number_21 : decode cX11_number 21 = .ok (.iconst 1, 1) := by decide +kernel
theorem dX11_number_22 : decode cX11_number 22 = .ok (.goto 4, 3) := by decide +kernel
theorem dX11_number_25 : decode cX11_number 25 = .ok (.iconst 0, 1) := by decide +kernel
theorem dX11_number_26 : decode cX11_number 26 = .ok (.invokevirtual 94, 3) := by decide +kernel
theorem dX11_number_29 : decode cX11_number 29 = .ok (.ireturn, 1) := by decide +kernel
theorem dX11_begins_0 : decode cX11_begins 0 = .ok (.iconst 0, 1) := by decide +kernel
theorem dX11_begins_1 : decode cX11_begins 1 = .ok (.istore_n 1, 1) := by decide +kernel
theorem dX11_begins_2 : decode cX11_begins 2 = .ok (.iload_n 1, 1) := by decide +kernel
theorem dX11_begins_3 : decode cX11_begins 3 = .ok (.bipush 103, 2) := by decide +kernel
theorem dX11_begins_5 : decode cX11_begins 5 = .ok (.if_icmp .ge 16, 3) := by decide +kernel
theorem dX11_begins_8 : decode cX11_begins 8 = .ok (.aload_n 0, 1) := by decide +kernel
theorem dX11_begins_9 : decode cX11_begins 9 = .ok (.getfield 13, 3) := by decide +kernel
theorem dX11_begins_12 : decode cX11_begins 12 = .ok (.iload_n 1, 1) := by decide +kernel
theorem dX11_begins_13 : decode cX11_begins 13 = .ok (.iconst 0, 1) := by decide +kernel
theorem dX11_begins_14 : decode cX11_begins 14 = .ok (.iastore, 1) := by decide +kernel
theorem dX11_begins_15 : decode cX11_begins 15 = .ok (.iinc 1 1, 3) := by decide +kernel
theorem dX11_begins_18 : decode cX11_begins 18 = .ok (.goto (-16), 3) := by decide +kernel
theorem dX11_begins_21 : decode cX11_begins 21 = .ok (.aload_n 0, 1) := by decide +kernel
theorem dX11_begins_22 : decode cX11_begins 22 = .ok (.getfield 13, 3) := by decide +kernel
theorem dX11_begins_25 : decode cX11_begins 25 = .ok (.bipush 30, 2) := by decide +kernel
theorem dX11_begins_27 : decode cX11_begins 27 = .ok (.iconst 1, 1) := by decide +kernel
theorem dX11_begins_28 : decode cX11_begins 28 = .ok (.iastore, 1) := by decide +kernel
theorem dX11_begins_29 : decode cX11_begins 29 = .ok (.aload_n 0, 1) := by decide +kernel
theorem dX11_begins_30 : decode cX11_begins 30 = .ok (.iconst 0, 1) := by decide +kernel
theorem dX11_begins_31 : decode cX11_begins 31 = .ok (.putfield 98, 3) := by decide +kernel
theorem dX11_begins_34 : decode cX11_begins 34 = .ok (.return_, 1) := by decide +kernel
theorem dX11_mayBegin_0 : decode cX11_mayBegin 0 = .ok (.aload_n 0, 1) := by decide +kernel
theorem dX11_mayBegin_1 : decode cX11_mayBegin 1 = .ok (.getfield 75, 3) := by decide +kernel
theorem dX11_mayBegin_4 : decode cX11_mayBegin 4 = .ok (.iconst 3, 1) := by decide +kernel
theorem dX11_mayBegin_5 : decode cX11_mayBegin 5 = .ok (.if_icmp .ge 20, 3) := by decide +kernel
theorem dX11_mayBegin_8 : decode cX11_mayBegin 8 = .ok (.aload_n 0, 1) := by decide +kernel
theorem dX11_mayBegin_9 : decode cX11_mayBegin 9 = .ok (.getfield 98, 3) := by decide +kernel
theorem dX11_mayBegin_12 : decode cX11_mayBegin 12 = .ok (.bipush 6, 2) := by decide +kernel
theorem dX11_mayBegin_14 : decode cX11_mayBegin 14 = .ok (.if_icmp .ge 7, 3) := by decide +kernel
theorem dX11_mayBegin_17 : decode cX11_mayBegin 17 = .ok (.iconst 1, 1) := by decide +kernel
theorem dX11_mayBegin_18 : decode cX11_mayBegin 18 = .ok (.goto 38, 3) := by decide +kernel
theorem dX11_mayBegin_21 : decode cX11_mayBegin 21 = .ok (.iconst 0, 1) := by decide +kernel
theorem dX11_mayBegin_22 : decode cX11_mayBegin 22 = .ok (.goto 34, 3) := by decide +kernel
theorem dX11_mayBegin_25 : decode cX11_mayBegin 25 = .ok (.aload_n 0, 1) := by decide +kernel
theorem dX11_mayBegin_26 : decode cX11_mayBegin 26 = .ok (.getfield 13, 3) := by decide +kernel
theorem dX11_mayBegin_29 : decode cX11_mayBegin 29 = .ok (.bipush 31, 2) := by decide +kernel
theorem dX11_mayBegin_31 : decode cX11_mayBegin 31 = .ok (.aload_n 0, 1) := by decide +kernel
theorem dX11_mayBegin_32 : decode cX11_mayBegin 32 = .ok (.getfield 75, 3) := by decide +kernel
theorem dX11_mayBegin_35 : decode cX11_mayBegin 35 = .ok (.iconst 3, 1) := by decide +kernel
theorem dX11_mayBegin_36 : decode cX11_mayBegin 36 = .ok (.if_icmp .ne 8, 3) := by decide +kernel
theorem dX11_mayBegin_39 : decode cX11_mayBegin 39 = .ok (.bipush 6, 2) := by decide +kernel
theorem dX11_mayBegin_41 : decode cX11_mayBegin 41 = .ok (.goto 5, 3) := by decide +kernel
theorem dX11_mayBegin_44 : decode cX11_mayBegin 44 = .ok (.bipush 7, 2) := by decide +kernel
theorem dX11_mayBegin_46 : decode cX11_mayBegin 46 = .ok (.iadd, 1) := by decide +kernel
theorem dX11_mayBegin_47 : decode cX11_mayBegin 47 = .ok (.iaload, 1) := by decide +kernel
theorem dX11_mayBegin_48 : decode cX11_mayBegin 48 = .ok (.ifCond .ne 7, 3) := by decide +kernel
theorem dX11_mayBegin_51 : decode cX11_mayBegin 51 = .ok (.iconst 1, 1) := by decide +kernel
theorem dX11_mayBegin_52 : decode cX11_mayBegin 52 = .ok (.goto 4, 3) := by decide +kernel
theorem dX11_mayBegin_55 : decode cX11_mayBegin 55 = .ok (.iconst 0, 1) := by decide +kernel
theorem dX11_mayBegin_56 : decode cX11_mayBegin 56 = .ok (.ireturn, 1) := by decide +kernel
theorem dX11_readsItem_0 : decode cX11_readsItem 0 = .ok (.iload_n 1, 1) := by decide +kernel
theorem dX11_readsItem_1 : decode cX11_readsItem 1 = .ok (.iconst 2, 1) := by decide +kernel
theorem dX11_readsItem_2 : decode cX11_readsItem 2 = .ok (.if_icmp .le 31, 3) := by decide +kernel
theorem dX11_readsItem_5 : decode cX11_readsItem 5 = .ok (.aload_n 0, 1) := by decide +kernel
theorem dX11_readsItem_6 : decode cX11_readsItem 6 = .ok (.getfield 13, 3) := by decide +kernel
theorem dX11_readsItem_9 : decode cX11_readsItem 9 = .ok (.bipush 31, 2) := by decide +kernel
theorem dX11_readsItem_11 : decode cX11_readsItem 11 = .ok (.iload_n 1, 1) := by decide +kernel
theorem dX11_readsItem_12 : decode cX11_readsItem 12 = .ok (.iconst 3, 1) := by decide +kernel
theorem dX11_readsItem_13 : decode cX11_readsItem 13 = .ok (.if_icmp .ne 8, 3) := by decide +kernel
theorem dX11_readsItem_16 : decode cX11_readsItem 16 = .ok (.bipush 6, 2) := by decide +kernel
theorem dX11_readsItem_18 : decode cX11_readsItem 18 = .ok (.goto 5, 3) := by decide +kernel
theorem dX11_readsItem_21 : decode cX11_readsItem 21 = .ok (.bipush 7, 2) := by decide +kernel
theorem dX11_readsItem_23 : decode cX11_readsItem 23 = .ok (.iadd, 1) := by decide +kernel
theorem dX11_readsItem_24 : decode cX11_readsItem 24 = .ok (.aload_n 0, 1) := by decide +kernel
theorem dX11_readsItem_25 : decode cX11_readsItem 25 = .ok (.iconst 1, 1) := by decide +kernel
theorem dX11_readsItem_26 : decode cX11_readsItem 26 = .ok (.bipush 30, 2) := by decide +kernel
theorem dX11_readsItem_28 : decode cX11_readsItem 28 = .ok (.invokevirtual 101, 3) := by decide +kernel
theorem dX11_readsItem_31 : decode cX11_readsItem 31 = .ok (.iastore, 1) := by decide +kernel
theorem dX11_readsItem_32 : decode cX11_readsItem 32 = .ok (.return_, 1) := by decide +kernel
theorem dX11_readsItem_33 : decode cX11_readsItem 33 = .ok (.aload_n 0, 1) := by decide +kernel
theorem dX11_readsItem_34 : decode cX11_readsItem 34 = .ok (.getfield 98, 3) := by decide +kernel
theorem dX11_readsItem_37 : decode cX11_readsItem 37 = .ok (.istore_n 2, 1) := by decide +kernel
theorem dX11_readsItem_38 : decode cX11_readsItem 38 = .ok (.aload_n 0, 1) := by decide +kernel
theorem dX11_readsItem_39 : decode cX11_readsItem 39 = .ok (.getfield 13, 3) := by decide +kernel
theorem dX11_readsItem_42 : decode cX11_readsItem 42 = .ok (.bipush 31, 2) := by decide +kernel
theorem dX11_readsItem_44 : decode cX11_readsItem 44 = .ok (.iload_n 2, 1) := by decide +kernel
theorem dX11_readsItem_45 : decode cX11_readsItem 45 = .ok (.iadd, 1) := by decide +kernel
theorem dX11_readsItem_46 : decode cX11_readsItem 46 = .ok (.aload_n 0, 1) := by decide +kernel
theorem dX11_readsItem_47 : decode cX11_readsItem 47 = .ok (.iconst 0, 1) := by decide +kernel
theorem dX11_readsItem_48 : decode cX11_readsItem 48 = .ok (.iconst 5, 1) := by decide +kernel
theorem dX11_readsItem_49 : decode cX11_readsItem 49 = .ok (.invokevirtual 101, 3) := by decide +kernel
theorem dX11_readsItem_52 : decode cX11_readsItem 52 = .ok (.iastore, 1) := by decide +kernel
theorem dX11_readsItem_53 : decode cX11_readsItem 53 = .ok (.aload_n 0, 1) := by decide +kernel
theorem dX11_readsItem_54 : decode cX11_readsItem 54 = .ok (.getfield 13, 3) := by decide +kernel
theorem dX11_readsItem_57 : decode cX11_readsItem 57 = .ok (.iconst 0, 1) := by decide +kernel
theorem dX11_readsItem_58 : decode cX11_readsItem 58 = .ok (.iload_n 2, 1) := by decide +kernel
theorem dX11_readsItem_59 : decode cX11_readsItem 59 = .ok (.iadd, 1) := by decide +kernel
theorem dX11_readsItem_60 : decode cX11_readsItem 60 = .ok (.iconst 1, 1) := by decide +kernel
theorem dX11_readsItem_61 : decode cX11_readsItem 61 = .ok (.iastore, 1) := by decide +kernel
theorem dX11_readsItem_62 : decode cX11_readsItem 62 = .ok (.aload_n 0, 1) := by decide +kernel
theorem dX11_readsItem_63 : decode cX11_readsItem 63 = .ok (.getfield 13, 3) := by decide +kernel
theorem dX11_readsItem_66 : decode cX11_readsItem 66 = .ok (.bipush 18, 2) := by decide +kernel
theorem dX11_readsItem_68 : decode cX11_readsItem 68 = .ok (.iload_n 2, 1) := by decide +kernel
theorem dX11_readsItem_69 : decode cX11_readsItem 69 = .ok (.iadd, 1) := by decide +kernel
theorem dX11_readsItem_70 : decode cX11_readsItem 70 = .ok (.iload_n 1, 1) := by decide +kernel
theorem dX11_readsItem_71 : decode cX11_readsItem 71 = .ok (.iconst 2, 1) := by decide +kernel
theorem dX11_readsItem_72 : decode cX11_readsItem 72 = .ok (.if_icmp .ne 8, 3) := by decide +kernel
theorem dX11_readsItem_75 : decode cX11_readsItem 75 = .ok (.bipush (-9), 2) := by decide +kernel
theorem dX11_readsItem_77 : decode cX11_readsItem 77 = .ok (.goto 4, 3) := by decide +kernel
theorem dX11_readsItem_80 : decode cX11_readsItem 80 = .ok (.iconst 0, 1) := by decide +kernel
theorem dX11_readsItem_81 : decode cX11_readsItem 81 = .ok (.iastore, 1) := by decide +kernel
theorem dX11_readsItem_82 : decode cX11_readsItem 82 = .ok (.aload_n 0, 1) := by decide +kernel
theorem dX11_readsItem_83 : decode cX11_readsItem 83 = .ok (.getfield 13, 3) := by decide +kernel
theorem dX11_readsItem_86 : decode cX11_readsItem 86 = .ok (.bipush 39, 2) := by decide +kernel
theorem dX11_readsItem_88 : decode cX11_readsItem 88 = .ok (.dup2, 1) := by decide +kernel
theorem dX11_readsItem_89 : decode cX11_readsItem 89 = .ok (.iaload, 1) := by decide +kernel
theorem dX11_readsItem_90 : decode cX11_readsItem 90 = .ok (.iload_n 1, 1) := by decide +kernel
theorem dX11_readsItem_91 : decode cX11_readsItem 91 = .ok (.iconst 2, 1) := by decide +kernel
theorem dX11_readsItem_92 : decode cX11_readsItem 92 = .ok (.if_icmp .ne 9, 3) := by decide +kernel
theorem dX11_readsItem_95 : decode cX11_readsItem 95 = .ok (.iconst 1, 1) := by decide +kernel
theorem dX11_readsItem_96 : decode cX11_readsItem 96 = .ok (.iload_n 2, 1) := by decide +kernel
theorem dX11_readsItem_97 : decode cX11_readsItem 97 = .ok (.ishl, 1) := by decide +kernel
theorem dX11_readsItem_98 : decode cX11_readsItem 98 = .ok (.goto 4, 3) := by decide +kernel
theorem dX11_readsItem_101 : decode cX11_readsItem 101 = .ok (.iconst 0, 1) := by decide +kernel
theorem dX11_readsItem_102 : decode cX11_readsItem 102 = .ok (.ior, 1) := by decide +kernel
theorem dX11_readsItem_103 : decode cX11_readsItem 103 = .ok (.iastore, 1) := by decide +kernel
theorem dX11_readsItem_104 : decode cX11_readsItem 104 = .ok (.aload_n 0, 1) := by decide +kernel
theorem dX11_readsItem_105 : decode cX11_readsItem 105 = .ok (.dup, 1) := by decide +kernel
theorem dX11_readsItem_106 : decode cX11_readsItem 106 = .ok (.getfield 98, 3) := by decide +kernel
theorem dX11_readsItem_109 : decode cX11_readsItem 109 = .ok (.iconst 1, 1) := by decide +kernel
theorem dX11_readsItem_110 : decode cX11_readsItem 110 = .ok (.iadd, 1) := by decide +kernel
theorem dX11_readsItem_111 : decode cX11_readsItem 111 = .ok (.putfield 98, 3) := by decide +kernel
theorem dX11_readsItem_114 : decode cX11_readsItem 114 = .ok (.return_, 1) := by decide +kernel
theorem dX11_totalOf_0 : decode cX11_totalOf 0 = .ok (.iconst 0, 1) := by decide +kernel
theorem dX11_totalOf_1 : decode cX11_totalOf 1 = .ok (.istore_n 2, 1) := by decide +kernel
theorem dX11_totalOf_2 : decode cX11_totalOf 2 = .ok (.iconst 0, 1) := by decide +kernel
theorem dX11_totalOf_3 : decode cX11_totalOf 3 = .ok (.istore_n 3, 1) := by decide +kernel
theorem dX11_totalOf_4 : decode cX11_totalOf 4 = .ok (.iload_n 3, 1) := by decide +kernel
theorem dX11_totalOf_5 : decode cX11_totalOf 5 = .ok (.bipush 6, 2) := by decide +kernel
theorem dX11_totalOf_7 : decode cX11_totalOf 7 = .ok (.if_icmp .ge 17, 3) := by decide +kernel
theorem dX11_totalOf_10 : decode cX11_totalOf 10 = .ok (.iload_n 2, 1) := by decide +kernel
theorem dX11_totalOf_11 : decode cX11_totalOf 11 = .ok (.aload_n 0, 1) := by decide +kernel
theorem dX11_totalOf_12 : decode cX11_totalOf 12 = .ok (.iload_n 1, 1) := by decide +kernel
theorem dX11_totalOf_13 : decode cX11_totalOf 13 = .ok (.iload_n 3, 1) := by decide +kernel
theorem dX11_totalOf_14 : decode cX11_totalOf 14 = .ok (.iadd, 1) := by decide +kernel
theorem dX11_totalOf_15 : decode cX11_totalOf 15 = .ok (.iaload, 1) := by decide +kernel
theorem dX11_totalOf_16 : decode cX11_totalOf 16 = .ok (.iadd, 1) := by decide +kernel
theorem dX11_totalOf_17 : decode cX11_totalOf 17 = .ok (.istore_n 2, 1) := by decide +kernel
theorem dX11_totalOf_18 : decode cX11_totalOf 18 = .ok (.iinc 3 1, 3) := by decide +kernel
theorem dX11_totalOf_21 : decode cX11_totalOf 21 = .ok (.goto (-17), 3) := by decide +kernel
theorem dX11_totalOf_24 : decode cX11_totalOf 24 = .ok (.iload_n 2, 1) := by decide +kernel
theorem dX11_totalOf_25 : decode cX11_totalOf 25 = .ok (.ireturn, 1) := by decide +kernel
theorem dX11_isLawful_0 : decode cX11_isLawful 0 = .ok (.iload_n 1, 1) := by decide +kernel
theorem dX11_isLawful_1 : decode cX11_isLawful 1 = .ok (.iload_n 2, 1) := by decide +kernel
theorem dX11_isLawful_2 : decode cX11_isLawful 2 = .ok (.iadd, 1) := by decide +kernel
theorem dX11_isLawful_3 : decode cX11_isLawful 3 = .ok (.iload_n 0, 1) := by decide +kernel
theorem dX11_isLawful_4 : decode cX11_isLawful 4 = .ok (.if_icmp .le 32, 3) := by decide +kernel
theorem dX11_isLawful_7 : decode cX11_isLawful 7 = .ok (.iconst 2, 1) := by decide +kernel
theorem dX11_isLawful_8 : decode cX11_isLawful 8 = .ok (.iload_n 2, 1) := by decide +kernel
theorem dX11_isLawful_9 : decode cX11_isLawful 9 = .ok (.imul, 1) := by decide +kernel
theorem dX11_isLawful_10 : decode cX11_isLawful 10 = .ok (.iload_n 0, 1) := by decide +kernel
theorem dX11_isLawful_11 : decode cX11_isLawful 11 = .ok (.if_icmp .le 25, 3) := by decide +kernel
theorem dX11_isLawful_14 : decode cX11_isLawful 14 = .ok (.iload_n 1, 1) := by decide +kernel
theorem dX11_isLawful_15 : decode cX11_isLawful 15 = .ok (.iconst 1, 1) := by decide +kernel
theorem dX11_isLawful_16 : decode cX11_isLawful 16 = .ok (.iload_n 0, 1) := by decide +kernel
theorem dX11_isLawful_17 : decode cX11_isLawful 17 = .ok (.invokestatic 54, 3) := by decide +kernel
theorem dX11_isLawful_20 : decode cX11_isLawful 20 = .ok (.ifCond .eq 16, 3) := by decide +kernel
theorem dX11_isLawful_23 : decode cX11_isLawful 23 = .ok (.iload_n 2, 1) := by decide +kernel
theorem dX11_isLawful_24 : decode cX11_isLawful 24 = .ok (.iconst 1, 1) := by decide +kernel
theorem dX11_isLawful_25 : decode cX11_isLawful 25 = .ok (.iload_n 0, 1) := by decide +kernel
theorem dX11_isLawful_26 : decode cX11_isLawful 26 = .ok (.invokestatic 54, 3) := by decide +kernel
theorem dX11_isLawful_29 : decode cX11_isLawful 29 = .ok (.ifCond .eq 7, 3) := by decide +kernel
theorem dX11_isLawful_32 : decode cX11_isLawful 32 = .ok (.iconst 1, 1) := by decide +kernel
theorem dX11_isLawful_33 : decode cX11_isLawful 33 = .ok (.goto 4, 3) := by decide +kernel
theorem dX11_isLawful_36 : decode cX11_isLawful 36 = .ok (.iconst 0, 1) := by decide +kernel
theorem dX11_isLawful_37 : decode cX11_isLawful 37 = .ok (.ireturn, 1) := by decide +kernel
theorem dX11_file_0 : decode cX11_file 0 = .ok (.aload_n 0, 1) := by decide +kernel
theorem dX11_file_1 : decode cX11_file 1 = .ok (.iconst 0, 1) := by decide +kernel
theorem dX11_file_2 : decode cX11_file 2 = .ok (.putfield 50, 3) := by decide +kernel
theorem dX11_file_5 : decode cX11_file 5 = .ok (.aload_n 0, 1) := by decide +kernel
theorem dX11_file_6 : decode cX11_file 6 = .ok (.iconst (-1), 1) := by decide +kernel
theorem dX11_file_7 : decode cX11_file 7 = .ok (.putfield 84, 3) := by decide +kernel
theorem dX11_file_10 : decode cX11_file 10 = .ok (.aload_n 0, 1) := by decide +kernel
theorem dX11_file_11 : decode cX11_file 11 = .ok (.iconst 0, 1) := by decide +kernel
theorem dX11_file_12 : decode cX11_file 12 = .ok (.putfield 68, 3) := by decide +kernel
theorem dX11_file_15 : decode cX11_file 15 = .ok (.aload_n 0, 1) := by decide +kernel
theorem dX11_file_16 : decode cX11_file 16 = .ok (.invokevirtual 44, 3) := by decide +kernel
theorem dX11_file_19 : decode cX11_file 19 = .ok (.iconst 0, 1) := by decide +kernel
theorem dX11_file_20 : decode cX11_file 20 = .ok (.istore_n 1, 1) := by decide +kernel
theorem dX11_file_21 : decode cX11_file 21 = .ok (.aload_n 0, 1) := by decide +kernel
theorem dX11_file_22 : decode cX11_file 22 = .ok (.invokevirtual 91, 3) := by decide +kernel
theorem dX11_file_25 : decode cX11_file 25 = .ok (.aload_n 0, 1) := by decide +kernel
theorem dX11_file_26 : decode cX11_file 26 = .ok (.invokevirtual 87, 3) := by decide +kernel
theorem dX11_file_29 : decode cX11_file 29 = .ok (.ifCond .eq 71, 3) := by decide +kernel
theorem dX11_file_32 : decode cX11_file 32 = .ok (.aload_n 0, 1) := by decide +kernel
theorem dX11_file_33 : decode cX11_file 33 = .ok (.getfield 78, 3) := by decide +kernel
theorem dX11_file_36 : decode cX11_file 36 = .ok (.ifCond .eq 64, 3) := by decide +kernel
theorem dX11_file_39 : decode cX11_file 39 = .ok (.aload_n 0, 1) := by decide +kernel
theorem dX11_file_40 : decode cX11_file 40 = .ok (.aload_n 0, 1) := by decide +kernel
theorem dX11_file_41 : decode cX11_file 41 = .ok (.getfield 78, 3) := by decide +kernel
theorem dX11_file_44 : decode cX11_file 44 = .ok (.iconst 1, 1) := by decide +kernel
theorem dX11_file_45 : decode cX11_file 45 = .ok (.if_icmp .ne 14, 3) := by decide +kernel
theorem dX11_file_48 : decode cX11_file 48 = .ok (.aload_n 0, 1) := by decide +kernel
theorem dX11_file_49 : decode cX11_file 49 = .ok (.invokevirtual 105, 3) := by decide +kernel
theorem dX11_file_52 : decode cX11_file 52 = .ok (.ifCond .eq 7, 3) := by decide +kernel
theorem dX11_file_55 : decode cX11_file 55 = .ok (.iconst 1, 1) := by decide +kernel
theorem dX11_file_56 : decode cX11_file 56 = .ok (.goto 4, 3) := by decide +kernel
theorem dX11_file_59 : decode cX11_file 59 = .ok (.iconst 0, 1) := by decide +kernel
theorem dX11_file_60 : decode cX11_file 60 = .ok (.invokevirtual 94, 3) := by decide +kernel
theorem dX11_file_63 : decode cX11_file 63 = .ok (.istore_n 2, 1) := by decide +kernel
theorem dX11_file_64 : decode cX11_file 64 = .ok (.aload_n 0, 1) := by decide +kernel
theorem dX11_file_65 : decode cX11_file 65 = .ok (.invokevirtual 87, 3) := by decide +kernel
theorem dX11_file_68 : decode cX11_file 68 = .ok (.ifCond .eq 8, 3) := by decide +kernel
theorem dX11_file_71 : decode cX11_file 71 = .ok (.aload_n 0, 1) := by decide +kernel
theorem dX11_file_72 : decode cX11_file 72 = .ok (.iload_n 2, 1) := by decide +kernel
theorem dX11_file_73 : decode cX11_file 73 = .ok (.invokevirtual 108, 3) := by decide +kernel
theorem dX11_file_76 : decode cX11_file 76 = .ok (.aload_n 0, 1) := by decide +kernel
theorem dX11_file_77 : decode cX11_file 77 = .ok (.aload_n 0, 1) := by decide +kernel
theorem dX11_file_78 : decode cX11_file 78 = .ok (.getfield 78, 3) := by decide +kernel
theorem dX11_file_81 : decode cX11_file 81 = .ok (.iconst 3, 1) := by decide +kernel
theorem dX11_file_82 : decode cX11_file 82 = .ok (.if_icmp .ne 7, 3) := by decide +kernel
theorem dX11_file_85 : decode cX11_file 85 = .ok (.iconst 1, 1) := by decide +kernel
theorem dX11_file_86 : decode cX11_file 86 = .ok (.goto 4, 3) := by decide +kernel
theorem dX11_file_89 : decode cX11_file 89 = .ok (.iconst 0, 1) := by decide +kernel
theorem dX11_file_90 : decode cX11_file 90 = .ok (.invokevirtual 94, 3) := by decide +kernel
theorem dX11_file_93 : decode cX11_file 93 = .ok (.pop, 1) := by decide +kernel
theorem dX11_file_94 : decode cX11_file 94 = .ok (.iinc 1 1, 3) := by decide +kernel
theorem dX11_file_97 : decode cX11_file 97 = .ok (.goto (-72), 3) := by decide +kernel
theorem dX11_file_100 : decode cX11_file 100 = .ok (.aload_n 0, 1) := by decide +kernel
theorem dX11_file_101 : decode cX11_file 101 = .ok (.invokevirtual 87, 3) := by decide +kernel
theorem dX11_file_104 : decode cX11_file 104 = .ok (.ifCond .eq 26, 3) := by decide +kernel
theorem dX11_file_107 : decode cX11_file 107 = .ok (.iload_n 1, 1) := by decide +kernel
theorem dX11_file_108 : decode cX11_file 108 = .ok (.ifCond .ne 22, 3) := by decide +kernel
theorem dX11_file_111 : decode cX11_file 111 = .ok (.aload_n 0, 1) := by decide +kernel
theorem dX11_file_112 : decode cX11_file 112 = .ok (.getfield 13, 3) := by decide +kernel
theorem dX11_file_115 : decode cX11_file 115 = .ok (.bipush 37, 2) := by decide +kernel
theorem dX11_file_117 : decode cX11_file 117 = .ok (.iconst 1, 1) := by decide +kernel
theorem dX11_file_118 : decode cX11_file 118 = .ok (.iastore, 1) := by decide +kernel
theorem dX11_file_119 : decode cX11_file 119 = .ok (.aload_n 0, 1) := by decide +kernel
theorem dX11_file_120 : decode cX11_file 120 = .ok (.getfield 13, 3) := by decide +kernel
theorem dX11_file_123 : decode cX11_file 123 = .ok (.bipush 38, 2) := by decide +kernel
theorem dX11_file_125 : decode cX11_file 125 = .ok (.iconst 1, 1) := by decide +kernel
theorem dX11_file_126 : decode cX11_file 126 = .ok (.iastore, 1) := by decide +kernel
theorem dX11_file_127 : decode cX11_file 127 = .ok (.goto 47, 3) := by decide +kernel
theorem dX11_file_130 : decode cX11_file 130 = .ok (.aload_n 0, 1) := by decide +kernel
theorem dX11_file_131 : decode cX11_file 131 = .ok (.invokevirtual 87, 3) := by decide +kernel
theorem dX11_file_134 : decode cX11_file 134 = .ok (.ifCond .eq 40, 3) := by decide +kernel
theorem dX11_file_137 : decode cX11_file 137 = .ok (.aload_n 0, 1) := by decide +kernel
theorem dX11_file_138 : decode cX11_file 138 = .ok (.getfield 13, 3) := by decide +kernel
theorem dX11_file_141 : decode cX11_file 141 = .ok (.bipush 31, 2) := by decide +kernel
theorem dX11_file_143 : decode cX11_file 143 = .ok (.invokestatic 112, 3) := by decide +kernel
theorem dX11_file_146 : decode cX11_file 146 = .ok (.aload_n 0, 1) := by decide +kernel
theorem dX11_file_147 : decode cX11_file 147 = .ok (.getfield 13, 3) := by decide +kernel
theorem dX11_file_150 : decode cX11_file 150 = .ok (.bipush 37, 2) := by decide +kernel
theorem dX11_file_152 : decode cX11_file 152 = .ok (.iaload, 1) := by decide +kernel
theorem dX11_file_153 : decode cX11_file 153 = .ok (.aload_n 0, 1) := by decide +kernel
theorem dX11_file_154 : decode cX11_file 154 = .ok (.getfield 13, 3) := by decide +kernel
theorem dX11_file_157 : decode cX11_file 157 = .ok (.bipush 38, 2) := by decide +kernel
theorem dX11_file_159 : decode cX11_file 159 = .ok (.iaload, 1) := by decide +kernel
theorem dX11_file_160 : decode cX11_file 160 = .ok (.invokestatic 116, 3) := by decide +kernel
theorem dX11_file_163 : decode cX11_file 163 = .ok (.ifCond .ne 11, 3) := by decide +kernel
theorem dX11_file_166 : decode cX11_file 166 = .ok (.aload_n 0, 1) := by decide +kernel
theorem dX11_file_167 : decode cX11_file 167 = .ok (.aload_n 0, 1) := by decide +kernel
theorem dX11_file_168 : decode cX11_file 168 = .ok (.getfield 58, 3) := by decide +kernel
theorem dX11_file_171 : decode cX11_file 171 = .ok (.putfield 84, 3) := by decide +kernel
theorem dX11_file_174 : decode cX11_file 174 = .ok (.aload_n 0, 1) := by decide +kernel
theorem dX11_file_175 : decode cX11_file 175 = .ok (.invokevirtual 87, 3) := by decide +kernel
theorem dX11_file_178 : decode cX11_file 178 = .ok (.ifCond .ne 11, 3) := by decide +kernel
theorem dX11_file_181 : decode cX11_file 181 = .ok (.bipush (-10), 2) := by decide +kernel
theorem dX11_file_183 : decode cX11_file 183 = .ok (.aload_n 0, 1) := by decide +kernel
theorem dX11_file_184 : decode cX11_file 184 = .ok (.getfield 84, 3) := by decide +kernel
theorem dX11_file_187 : decode cX11_file 187 = .ok (.isub, 1) := by decide +kernel
theorem dX11_file_188 : decode cX11_file 188 = .ok (.ireturn, 1) := by decide +kernel
theorem dX11_file_189 : decode cX11_file 189 = .ok (.aload_n 0, 1) := by decide +kernel
theorem dX11_file_190 : decode cX11_file 190 = .ok (.invokevirtual 47, 3) := by decide +kernel
theorem dX11_file_193 : decode cX11_file 193 = .ok (.iload_n 1, 1) := by decide +kernel
theorem dX11_file_194 : decode cX11_file 194 = .ok (.ireturn, 1) := by decide +kernel
theorem dX11_settles_0 : decode cX11_settles 0 = .ok (.aload_n 0, 1) := by decide +kernel
theorem dX11_settles_1 : decode cX11_settles 1 = .ok (.getfield 13, 3) := by decide +kernel
theorem dX11_settles_4 : decode cX11_settles 4 = .ok (.bipush 37, 2) := by decide +kernel
theorem dX11_settles_6 : decode cX11_settles 6 = .ok (.iaload, 1) := by decide +kernel
theorem dX11_settles_7 : decode cX11_settles 7 = .ok (.ifCond .ne 19, 3) := by decide +kernel
theorem dX11_settles_10 : decode cX11_settles 10 = .ok (.aload_n 0, 1) := by decide +kernel
theorem dX11_settles_11 : decode cX11_settles 11 = .ok (.getfield 13, 3) := by decide +kernel
theorem dX11_settles_14 : decode cX11_settles 14 = .ok (.bipush 37, 2) := by decide +kernel
theorem dX11_settles_16 : decode cX11_settles 16 = .ok (.iconst 1, 1) := by decide +kernel
theorem dX11_settles_17 : decode cX11_settles 17 = .ok (.iastore, 1) := by decide +kernel
theorem dX11_settles_18 : decode cX11_settles 18 = .ok (.aload_n 0, 1) := by decide +kernel
theorem dX11_settles_19 : decode cX11_settles 19 = .ok (.getfield 13, 3) := by decide +kernel
theorem dX11_settles_22 : decode cX11_settles 22 = .ok (.bipush 38, 2) := by decide +kernel
theorem dX11_settles_24 : decode cX11_settles 24 = .ok (.iconst 1, 1) := by decide +kernel
theorem dX11_settles_25 : decode cX11_settles 25 = .ok (.iastore, 1) := by decide +kernel
theorem dX11_settles_26 : decode cX11_settles 26 = .ok (.aload_n 0, 1) := by decide +kernel
theorem dX11_settles_27 : decode cX11_settles 27 = .ok (.aload_n 0, 1) := by decide +kernel
theorem dX11_settles_28 : decode cX11_settles 28 = .ok (.getfield 98, 3) := by decide +kernel
theorem dX11_settles_31 : decode cX11_settles 31 = .ok (.putfield 119, 3) := by decide +kernel
theorem dX11_settles_34 : decode cX11_settles 34 = .ok (.iconst 0, 1) := by decide +kernel
theorem dX11_settles_35 : decode cX11_settles 35 = .ok (.istore_n 1, 1) := by decide +kernel
theorem dX11_settles_36 : decode cX11_settles 36 = .ok (.iload_n 1, 1) := by decide +kernel
theorem dX11_settles_37 : decode cX11_settles 37 = .ok (.bipush 103, 2) := by decide +kernel
theorem dX11_settles_39 : decode cX11_settles 39 = .ok (.if_icmp .ge 21, 3) := by decide +kernel
theorem dX11_settles_42 : decode cX11_settles 42 = .ok (.aload_n 0, 1) := by decide +kernel
theorem dX11_settles_43 : decode cX11_settles 43 = .ok (.getfield 16, 3) := by decide +kernel
theorem dX11_settles_46 : decode cX11_settles 46 = .ok (.iload_n 1, 1) := by decide +kernel
theorem dX11_settles_47 : decode cX11_settles 47 = .ok (.aload_n 0, 1) := by decide +kernel
theorem dX11_settles_48 : decode cX11_settles 48 = .ok (.getfield 13, 3) := by decide +kernel
theorem dX11_settles_51 : decode cX11_settles 51 = .ok (.iload_n 1, 1) := by decide +kernel
theorem dX11_settles_52 : decode cX11_settles 52 = .ok (.iaload, 1) := by decide +kernel
theorem dX11_settles_53 : decode cX11_settles 53 = .ok (.iastore, 1) := by decide +kernel
theorem dX11_settles_54 : decode cX11_settles 54 = .ok (.iinc 1 1, 3) := by decide +kernel
theorem dX11_settles_57 : decode cX11_settles 57 = .ok (.goto (-21), 3) := by decide +kernel
theorem dX11_settles_60 : decode cX11_settles 60 = .ok (.aload_n 0, 1) := by decide +kernel
theorem dX11_settles_61 : decode cX11_settles 61 = .ok (.iconst 0, 1) := by decide +kernel
theorem dX11_settles_62 : decode cX11_settles 62 = .ok (.putfield 58, 3) := by decide +kernel
theorem dX11_settles_65 : decode cX11_settles 65 = .ok (.aload_n 0, 1) := by decide +kernel
theorem dX11_settles_66 : decode cX11_settles 66 = .ok (.iconst 0, 1) := by decide +kernel
theorem dX11_settles_67 : decode cX11_settles 67 = .ok (.putfield 122, 3) := by decide +kernel
theorem dX11_settles_70 : decode cX11_settles 70 = .ok (.aload_n 0, 1) := by decide +kernel
theorem dX11_settles_71 : decode cX11_settles 71 = .ok (.iconst 0, 1) := by decide +kernel
theorem dX11_settles_72 : decode cX11_settles 72 = .ok (.putfield 125, 3) := by decide +kernel
theorem dX11_settles_75 : decode cX11_settles 75 = .ok (.aload_n 0, 1) := by decide +kernel
theorem dX11_settles_76 : decode cX11_settles 76 = .ok (.getfield 25, 3) := by decide +kernel
theorem dX11_settles_79 : decode cX11_settles 79 = .ok (.iconst 0, 1) := by decide +kernel
theorem dX11_settles_80 : decode cX11_settles 80 = .ok (.iconst 0, 1) := by decide +kernel
theorem dX11_settles_81 : decode cX11_settles 81 = .ok (.bastore, 1) := by decide +kernel
theorem dX11_settles_82 : decode cX11_settles 82 = .ok (.aload_n 0, 1) := by decide +kernel
theorem dX11_settles_83 : decode cX11_settles 83 = .ok (.getfield 25, 3) := by decide +kernel
theorem dX11_settles_86 : decode cX11_settles 86 = .ok (.iconst 1, 1) := by decide +kernel
theorem dX11_settles_87 : decode cX11_settles 87 = .ok (.iconst 0, 1) := by decide +kernel
theorem dX11_settles_88 : decode cX11_settles 88 = .ok (.bastore, 1) := by decide +kernel
theorem dX11_settles_89 : decode cX11_settles 89 = .ok (.return_, 1) := by decide +kernel
theorem dX11_isCopy_0 : decode cX11_isCopy 0 = .ok (.iload_n 1, 1) := by decide +kernel
theorem dX11_isCopy_1 : decode cX11_isCopy 1 = .ok (.iconst 0, 1) := by decide +kernel
theorem dX11_isCopy_2 : decode cX11_isCopy 2 = .ok (.aload_n 0, 1) := by decide +kernel
theorem dX11_isCopy_3 : decode cX11_isCopy 3 = .ok (.getfield 119, 3) := by decide +kernel
theorem dX11_isCopy_6 : decode cX11_isCopy 6 = .ok (.iconst 1, 1) := by decide +kernel
theorem dX11_isCopy_7 : decode cX11_isCopy 7 = .ok (.isub, 1) := by decide +kernel
theorem dX11_isCopy_8 : decode cX11_isCopy 8 = .ok (.invokestatic 54, 3) := by decide +kernel
theorem dX11_isCopy_11 : decode cX11_isCopy 11 = .ok (.ireturn, 1) := by decide +kernel
theorem dX11_isGroup_0 : decode cX11_isGroup 0 = .ok (.iload_n 0, 1) := by decide +kernel
theorem dX11_isGroup_1 : decode cX11_isGroup 1 = .ok (.iconst 0, 1) := by decide +kernel
theorem dX11_isGroup_2 : decode cX11_isGroup 2 = .ok (.iconst 2, 1) := by decide +kernel
theorem dX11_isGroup_3 : decode cX11_isGroup 3 = .ok (.invokestatic 54, 3) := by decide +kernel
theorem dX11_isGroup_6 : decode cX11_isGroup 6 = .ok (.ireturn, 1) := by decide +kernel
theorem dX11_confAt_0 : decode cX11_confAt 0 = .ok (.bipush 31, 2) := by decide +kernel
theorem dX11_confAt_2 : decode cX11_confAt 2 = .ok (.bipush 9, 2) := by decide +kernel
theorem dX11_confAt_4 : decode cX11_confAt 4 = .ok (.iload_n 0, 1) := by decide +kernel
theorem dX11_confAt_5 : decode cX11_confAt 5 = .ok (.imul, 1) := by decide +kernel
theorem dX11_confAt_6 : decode cX11_confAt 6 = .ok (.iadd, 1) := by decide +kernel
theorem dX11_confAt_7 : decode cX11_confAt 7 = .ok (.ireturn, 1) := by decide +kernel
theorem dX11_newest_0 : decode cX11_newest 0 = .ok (.aload_n 0, 1) := by decide +kernel
theorem dX11_newest_1 : decode cX11_newest 1 = .ok (.getfield 16, 3) := by decide +kernel
theorem dX11_newest_4 : decode cX11_newest 4 = .ok (.bipush 30, 2) := by decide +kernel
theorem dX11_newest_6 : decode cX11_newest 6 = .ok (.iaload, 1) := by decide +kernel
theorem dX11_newest_7 : decode cX11_newest 7 = .ok (.iconst 1, 1) := by decide +kernel
theorem dX11_newest_8 : decode cX11_newest 8 = .ok (.isub, 1) := by decide +kernel
theorem dX11_newest_9 : decode cX11_newest 9 = .ok (.invokestatic 128, 3) := by decide +kernel
theorem dX11_newest_12 : decode cX11_newest 12 = .ok (.ireturn, 1) := by decide +kernel
theorem dX11_present_0 : decode cX11_present 0 = .ok (.iconst 0, 1) := by decide +kernel
theorem dX11_present_1 : decode cX11_present 1 = .ok (.istore_n 2, 1) := by decide +kernel
theorem dX11_present_2 : decode cX11_present 2 = .ok (.iconst 0, 1) := by decide +kernel
theorem dX11_present_3 : decode cX11_present 3 = .ok (.istore_n 3, 1) := by decide +kernel
theorem dX11_present_4 : decode cX11_present 4 = .ok (.iload_n 3, 1) := by decide +kernel
theorem dX11_present_5 : decode cX11_present 5 = .ok (.aload_n 0, 1) := by decide +kernel
theorem dX11_present_6 : decode cX11_present 6 = .ok (.getfield 119, 3) := by decide +kernel
theorem dX11_present_9 : decode cX11_present 9 = .ok (.if_icmp .ge 44, 3) := by decide +kernel
theorem dX11_present_12 : decode cX11_present 12 = .ok (.iload_n 2, 1) := by decide +kernel
theorem dX11_present_13 : decode cX11_present 13 = .ok (.aload_n 0, 1) := by decide +kernel
theorem dX11_present_14 : decode cX11_present 14 = .ok (.getfield 16, 3) := by decide +kernel
theorem dX11_present_17 : decode cX11_present 17 = .ok (.iconst 0, 1) := by decide +kernel
theorem dX11_present_18 : decode cX11_present 18 = .ok (.iload_n 3, 1) := by decide +kernel
theorem dX11_present_19 : decode cX11_present 19 = .ok (.iadd, 1) := by decide +kernel
theorem dX11_present_20 : decode cX11_present 20 = .ok (.iaload, 1) := by decide +kernel
theorem dX11_present_21 : decode cX11_present 21 = .ok (.iconst 1, 1) := by decide +kernel
theorem dX11_present_22 : decode cX11_present 22 = .ok (.if_icmp .ne 22, 3) := by decide +kernel
theorem dX11_present_25 : decode cX11_present 25 = .ok (.aload_n 0, 1) := by decide +kernel
theorem dX11_present_26 : decode cX11_present 26 = .ok (.getfield 16, 3) := by decide +kernel
theorem dX11_present_29 : decode cX11_present 29 = .ok (.bipush 6, 2) := by decide +kernel
theorem dX11_present_31 : decode cX11_present 31 = .ok (.iload_n 3, 1) := by decide +kernel
theorem dX11_present_32 : decode cX11_present 32 = .ok (.iadd, 1) := by decide +kernel
theorem dX11_present_33 : decode cX11_present 33 = .ok (.iaload, 1) := by decide +kernel
theorem dX11_present_34 : decode cX11_present 34 = .ok (.iload_n 1, 1) := by decide +kernel
theorem dX11_present_35 : decode cX11_present 35 = .ok (.if_icmp .ne 9, 3) := by decide +kernel
theorem dX11_present_38 : decode cX11_present 38 = .ok (.iconst 1, 1) := by decide +kernel
theorem dX11_present_39 : decode cX11_present 39 = .ok (.iload_n 3, 1) := by decide +kernel
theorem dX11_present_40 : decode cX11_present 40 = .ok (.ishl, 1) := by decide +kernel
theorem dX11_present_41 : decode cX11_present 41 = .ok (.goto 4, 3) := by decide +kernel
theorem dX11_present_44 : decode cX11_present 44 = .ok (.iconst 0, 1) := by decide +kernel
theorem dX11_present_45 : decode cX11_present 45 = .ok (.ior, 1) := by decide +kernel
theorem dX11_present_46 : decode cX11_present 46 = .ok (.istore_n 2, 1) := by decide +kernel
theorem dX11_present_47 : decode cX11_present 47 = .ok (.iinc 3 1, 3) := by decide +kernel
theorem dX11_present_50 : decode cX11_present 50 = .ok (.goto (-46), 3) := by decide +kernel
theorem dX11_present_53 : decode cX11_present 53 = .ok (.iload_n 2, 1) := by decide +kernel
theorem dX11_present_54 : decode cX11_present 54 = .ok (.ireturn, 1) := by decide +kernel
theorem dX11_greatest_0 : decode cX11_greatest 0 = .ok (.bipush (-9), 2) := by decide +kernel
theorem dX11_greatest_2 : decode cX11_greatest 2 = .ok (.istore_n 3, 1) := by decide +kernel
theorem dX11_greatest_3 : decode cX11_greatest 3 = .ok (.iconst 0, 1) := by decide +kernel
theorem dX11_greatest_4 : decode cX11_greatest 4 = .ok (.istore 4, 2) := by decide +kernel
theorem dX11_greatest_6 : decode cX11_greatest 6 = .ok (.iload 4, 2) := by decide +kernel
theorem dX11_greatest_8 : decode cX11_greatest 8 = .ok (.aload_n 0, 1) := by decide +kernel
theorem dX11_greatest_9 : decode cX11_greatest 9 = .ok (.getfield 119, 3) := by decide +kernel
theorem dX11_greatest_12 : decode cX11_greatest 12 = .ok (.if_icmp .ge 45, 3) := by decide +kernel
theorem dX11_greatest_15 : decode cX11_greatest 15 = .ok (.iload_n 1, 1) := by decide +kernel
theorem dX11_greatest_16 : decode cX11_greatest 16 = .ok (.iload 4, 2) := by decide +kernel
theorem dX11_greatest_18 : decode cX11_greatest 18 = .ok (.invokestatic 131, 3) := by decide +kernel
theorem dX11_greatest_21 : decode cX11_greatest 21 = .ok (.ifCond .eq 28, 3) := by decide +kernel
theorem dX11_greatest_24 : decode cX11_greatest 24 = .ok (.aload_n 0, 1) := by decide +kernel
theorem dX11_greatest_25 : decode cX11_greatest 25 = .ok (.getfield 16, 3) := by decide +kernel
theorem dX11_greatest_28 : decode cX11_greatest 28 = .ok (.iload_n 2, 1) := by decide +kernel
theorem dX11_greatest_29 : decode cX11_greatest 29 = .ok (.iload 4, 2) := by decide +kernel
theorem dX11_greatest_31 : decode cX11_greatest 31 = .ok (.iadd, 1) := by decide +kernel
theorem dX11_greatest_32 : decode cX11_greatest 32 = .ok (.iaload, 1) := by decide +kernel
theorem dX11_greatest_33 : decode cX11_greatest 33 = .ok (.iload_n 3, 1) := by decide +kernel
theorem dX11_greatest_34 : decode cX11_greatest 34 = .ok (.if_icmp .le 15, 3) := by decide +kernel
theorem dX11_greatest_37 : decode cX11_greatest 37 = .ok (.aload_n 0, 1) := by decide +kernel
theorem dX11_greatest_38 : decode cX11_greatest 38 = .ok (.getfield 16, 3) := by decide +kernel
theorem dX11_greatest_41 : decode cX11_greatest 41 = .ok (.iload_n 2, 1) := by decide +kernel
theorem dX11_greatest_42 : decode cX11_greatest 42 = .ok (.iload 4, 2) := by decide +kernel
theorem dX11_greatest_44 : decode cX11_greatest 44 = .ok (.iadd, 1) := by decide +kernel
theorem dX11_greatest_45 : decode cX11_greatest 45 = .ok (.iaload, 1) := by decide +kernel
theorem dX11_greatest_46 : decode cX11_greatest 46 = .ok (.goto 4, 3) := by decide +kernel
theorem dX11_greatest_49 : decode cX11_greatest 49 = .ok (.iload_n 3, 1) := by decide +kernel
theorem dX11_greatest_50 : decode cX11_greatest 50 = .ok (.istore_n 3, 1) := by decide +kernel
theorem dX11_greatest_51 : decode cX11_greatest 51 = .ok (.iinc 4 1, 3) := by decide +kernel
theorem dX11_greatest_54 : decode cX11_greatest 54 = .ok (.goto (-48), 3) := by decide +kernel
theorem dX11_greatest_57 : decode cX11_greatest 57 = .ok (.iload_n 3, 1) := by decide +kernel
theorem dX11_greatest_58 : decode cX11_greatest 58 = .ok (.ireturn, 1) := by decide +kernel
theorem dX11_votesOf_0 : decode cX11_votesOf 0 = .ok (.iconst 0, 1) := by decide +kernel
theorem dX11_votesOf_1 : decode cX11_votesOf 1 = .ok (.istore_n 3, 1) := by decide +kernel
theorem dX11_votesOf_2 : decode cX11_votesOf 2 = .ok (.iconst 0, 1) := by decide +kernel
theorem dX11_votesOf_3 : decode cX11_votesOf 3 = .ok (.istore 4, 2) := by decide +kernel
theorem dX11_votesOf_5 : decode cX11_votesOf 5 = .ok (.iload 4, 2) := by decide +kernel
theorem dX11_votesOf_7 : decode cX11_votesOf 7 = .ok (.aload_n 0, 1) := by decide +kernel
theorem dX11_votesOf_8 : decode cX11_votesOf 8 = .ok (.getfield 119, 3) := by decide +kernel
theorem dX11_votesOf_11 : decode cX11_votesOf 11 = .ok (.if_icmp .ge 34, 3) := by decide +kernel
theorem dX11_votesOf_14 : decode cX11_votesOf 14 = .ok (.iload_n 3, 1) := by decide +kernel
theorem dX11_votesOf_15 : decode cX11_votesOf 15 = .ok (.iload_n 1, 1) := by decide +kernel
theorem dX11_votesOf_16 : decode cX11_votesOf 16 = .ok (.iload 4, 2) := by decide +kernel
theorem dX11_votesOf_18 : decode cX11_votesOf 18 = .ok (.invokestatic 131, 3) := by decide +kernel
theorem dX11_votesOf_21 : decode cX11_votesOf 21 = .ok (.ifCond .eq 15, 3) := by decide +kernel
theorem dX11_votesOf_24 : decode cX11_votesOf 24 = .ok (.aload_n 0, 1) := by decide +kernel
theorem dX11_votesOf_25 : decode cX11_votesOf 25 = .ok (.getfield 16, 3) := by decide +kernel
theorem dX11_votesOf_28 : decode cX11_votesOf 28 = .ok (.iload_n 2, 1) := by decide +kernel
theorem dX11_votesOf_29 : decode cX11_votesOf 29 = .ok (.iload 4, 2) := by decide +kernel
theorem dX11_votesOf_31 : decode cX11_votesOf 31 = .ok (.iadd, 1) := by decide +kernel
theorem dX11_votesOf_32 : decode cX11_votesOf 32 = .ok (.iaload, 1) := by decide +kernel
theorem dX11_votesOf_33 : decode cX11_votesOf 33 = .ok (.goto 4, 3) := by decide +kernel
theorem dX11_votesOf_36 : decode cX11_votesOf 36 = .ok (.iconst 0, 1) := by decide +kernel
theorem dX11_votesOf_37 : decode cX11_votesOf 37 = .ok (.iadd, 1) := by decide +kernel
theorem dX11_votesOf_38 : decode cX11_votesOf 38 = .ok (.istore_n 3, 1) := by decide +kernel
theorem dX11_votesOf_39 : decode cX11_votesOf 39 = .ok (.iinc 4 1, 3) := by decide +kernel
theorem dX11_votesOf_42 : decode cX11_votesOf 42 = .ok (.goto (-37), 3) := by decide +kernel
theorem dX11_votesOf_45 : decode cX11_votesOf 45 = .ok (.iload_n 3, 1) := by decide +kernel
theorem dX11_votesOf_46 : decode cX11_votesOf 46 = .ok (.ireturn, 1) := by decide +kernel
theorem dX11_data_0 : decode cX11_data 0 = .ok (.aload_n 0, 1) := by decide +kernel
theorem dX11_data_1 : decode cX11_data 1 = .ok (.iload_n 1, 1) := by decide +kernel
theorem dX11_data_2 : decode cX11_data 2 = .ok (.bipush 12, 2) := by decide +kernel
theorem dX11_data_4 : decode cX11_data 4 = .ok (.invokevirtual 135, 3) := by decide +kernel
theorem dX11_data_7 : decode cX11_data 7 = .ok (.istore_n 2, 1) := by decide +kernel
theorem dX11_data_8 : decode cX11_data 8 = .ok (.bipush (-9), 2) := by decide +kernel
theorem dX11_data_10 : decode cX11_data 10 = .ok (.istore_n 3, 1) := by decide +kernel
theorem dX11_data_11 : decode cX11_data 11 = .ok (.aload_n 0, 1) := by decide +kernel
theorem dX11_data_12 : decode cX11_data 12 = .ok (.getfield 119, 3) := by decide +kernel
theorem dX11_data_15 : decode cX11_data 15 = .ok (.iconst 1, 1) := by decide +kernel
theorem dX11_data_16 : decode cX11_data 16 = .ok (.isub, 1) := by decide +kernel
theorem dX11_data_17 : decode cX11_data 17 = .ok (.istore 4, 2) := by decide +kernel
theorem dX11_data_19 : decode cX11_data 19 = .ok (.iload 4, 2) := by decide +kernel
theorem dX11_data_21 : decode cX11_data 21 = .ok (.ifCond .lt 62, 3) := by decide +kernel
theorem dX11_data_24 : decode cX11_data 24 = .ok (.iload_n 1, 1) := by decide +kernel
theorem dX11_data_25 : decode cX11_data 25 = .ok (.iload 4, 2) := by decide +kernel
theorem dX11_data_27 : decode cX11_data 27 = .ok (.invokestatic 131, 3) := by decide +kernel
theorem dX11_data_30 : decode cX11_data 30 = .ok (.ifCond .eq 45, 3) := by decide +kernel
theorem dX11_data_33 : decode cX11_data 33 = .ok (.aload_n 0, 1) := by decide +kernel
theorem dX11_data_34 : decode cX11_data 34 = .ok (.getfield 16, 3) := by decide +kernel
theorem dX11_data_37 : decode cX11_data 37 = .ok (.bipush 12, 2) := by decide +kernel
theorem dX11_data_39 : decode cX11_data 39 = .ok (.iload 4, 2) := by decide +kernel
theorem dX11_data_41 : decode cX11_data 41 = .ok (.iadd, 1) := by decide +kernel
theorem dX11_data_42 : decode cX11_data 42 = .ok (.iaload, 1) := by decide +kernel
theorem dX11_data_43 : decode cX11_data 43 = .ok (.iload_n 2, 1) := by decide +kernel
theorem dX11_data_44 : decode cX11_data 44 = .ok (.if_icmp .ne 31, 3) := by decide +kernel
theorem dX11_data_47 : decode cX11_data 47 = .ok (.aload_n 0, 1) := by decide +kernel
theorem dX11_data_48 : decode cX11_data 48 = .ok (.getfield 16, 3) := by decide +kernel
theorem dX11_data_51 : decode cX11_data 51 = .ok (.bipush 18, 2) := by decide +kernel
theorem dX11_data_53 : decode cX11_data 53 = .ok (.iload 4, 2) := by decide +kernel
theorem dX11_data_55 : decode cX11_data 55 = .ok (.iadd, 1) := by decide +kernel
theorem dX11_data_56 : decode cX11_data 56 = .ok (.iaload, 1) := by decide +kernel
theorem dX11_data_57 : decode cX11_data 57 = .ok (.bipush (-9), 2) := by decide +kernel
theorem dX11_data_59 : decode cX11_data 59 = .ok (.if_icmp .eq 16, 3) := by decide +kernel
theorem dX11_data_62 : decode cX11_data 62 = .ok (.aload_n 0, 1) := by decide +kernel
theorem dX11_data_63 : decode cX11_data 63 = .ok (.getfield 16, 3) := by decide +kernel
theorem dX11_data_66 : decode cX11_data 66 = .ok (.bipush 18, 2) := by decide +kernel
theorem dX11_data_68 : decode cX11_data 68 = .ok (.iload 4, 2) := by decide +kernel
theorem dX11_data_70 : decode cX11_data 70 = .ok (.iadd, 1) := by decide +kernel
theorem dX11_data_71 : decode cX11_data 71 = .ok (.iaload, 1) := by decide +kernel
theorem dX11_data_72 : decode cX11_data 72 = .ok (.goto 4, 3) := by decide +kernel
theorem dX11_data_75 : decode cX11_data 75 = .ok (.iload_n 3, 1) := by decide +kernel
theorem dX11_data_76 : decode cX11_data 76 = .ok (.istore_n 3, 1) := by decide +kernel
theorem dX11_data_77 : decode cX11_data 77 = .ok (.iinc 4 (-1), 3) := by decide +kernel
theorem dX11_data_80 : decode cX11_data 80 = .ok (.goto (-61), 3) := by decide +kernel
theorem dX11_data_83 : decode cX11_data 83 = .ok (.iload_n 3, 1) := by decide +kernel
theorem dX11_data_84 : decode cX11_data 84 = .ok (.ireturn, 1) := by decide +kernel
theorem dX11_isEnough_0 : decode cX11_isEnough 0 = .ok (.iload_n 1, 1) := by decide +kernel
theorem dX11_isEnough_1 : decode cX11_isEnough 1 = .ok (.ifCond .ne 5, 3) := by decide +kernel
theorem dX11_isEnough_4 : decode cX11_isEnough 4 = .ok (.iconst 0, 1) := by decide +kernel
theorem dX11_isEnough_5 : decode cX11_isEnough 5 = .ok (.ireturn, 1) := by decide +kernel
theorem dX11_isEnough_6 : decode cX11_isEnough 6 = .ok (.aload_n 0, 1) := by decide +kernel
theorem dX11_isEnough_7 : decode cX11_isEnough 7 = .ok (.iload_n 1, 1) := by decide +kernel
theorem dX11_isEnough_8 : decode cX11_isEnough 8 = .ok (.bipush 24, 2) := by decide +kernel
theorem dX11_isEnough_10 : decode cX11_isEnough 10 = .ok (.invokevirtual 135, 3) := by decide +kernel
theorem dX11_isEnough_13 : decode cX11_isEnough 13 = .ok (.invokestatic 128, 3) := by decide +kernel
theorem dX11_isEnough_16 : decode cX11_isEnough 16 = .ok (.istore_n 3, 1) := by decide +kernel
theorem dX11_isEnough_17 : decode cX11_isEnough 17 = .ok (.aload_n 0, 1) := by decide +kernel
theorem dX11_isEnough_18 : decode cX11_isEnough 18 = .ok (.iload_n 1, 1) := by decide +kernel
theorem dX11_isEnough_19 : decode cX11_isEnough 19 = .ok (.iload_n 3, 1) := by decide +kernel
theorem dX11_isEnough_20 : decode cX11_isEnough 20 = .ok (.invokevirtual 138, 3) := by decide +kernel
theorem dX11_isEnough_23 : decode cX11_isEnough 23 = .ok (.aload_n 0, 1) := by decide +kernel
theorem dX11_isEnough_24 : decode cX11_isEnough 24 = .ok (.getfield 16, 3) := by decide +kernel
theorem dX11_isEnough_27 : decode cX11_isEnough 27 = .ok (.iload_n 3, 1) := by decide +kernel
theorem dX11_isEnough_28 : decode cX11_isEnough 28 = .ok (.iload_n 2, 1) := by decide +kernel
theorem dX11_isEnough_29 : decode cX11_isEnough 29 = .ok (.iadd, 1) := by decide +kernel
theorem dX11_isEnough_30 : decode cX11_isEnough 30 = .ok (.iaload, 1) := by decide +kernel
theorem dX11_isEnough_31 : decode cX11_isEnough 31 = .ok (.if_icmp .lt 7, 3) := by decide +kernel
theorem dX11_isEnough_34 : decode cX11_isEnough 34 = .ok (.iconst 1, 1) := by decide +kernel
theorem dX11_isEnough_35 : decode cX11_isEnough 35 = .ok (.goto 4, 3) := by decide +kernel
theorem dX11_isEnough_38 : decode cX11_isEnough 38 = .ok (.iconst 0, 1) := by decide +kernel
theorem dX11_isEnough_39 : decode cX11_isEnough 39 = .ok (.ireturn, 1) := by decide +kernel
theorem dX11_gives_0 : decode cX11_gives 0 = .ok (.iconst 0, 1) := by decide +kernel
theorem dX11_gives_1 : decode cX11_gives 1 = .ok (.istore 5, 2) := by decide +kernel
theorem dX11_gives_3 : decode cX11_gives 3 = .ok (.iload 5, 2) := by decide +kernel
theorem dX11_gives_5 : decode cX11_gives 5 = .ok (.aload_n 0, 1) := by decide +kernel
theorem dX11_gives_6 : decode cX11_gives 6 = .ok (.getfield 119, 3) := by decide +kernel
theorem dX11_gives_9 : decode cX11_gives 9 = .ok (.if_icmp .ge 77, 3) := by decide +kernel
theorem dX11_gives_12 : decode cX11_gives 12 = .ok (.iload_n 1, 1) := by decide +kernel
theorem dX11_gives_13 : decode cX11_gives 13 = .ok (.iload 5, 2) := by decide +kernel
theorem dX11_gives_15 : decode cX11_gives 15 = .ok (.invokestatic 131, 3) := by decide +kernel
theorem dX11_gives_18 : decode cX11_gives 18 = .ok (.ifCond .eq 62, 3) := by decide +kernel
theorem dX11_gives_21 : decode cX11_gives 21 = .ok (.aload_n 0, 1) := by decide +kernel
theorem dX11_gives_22 : decode cX11_gives 22 = .ok (.getfield 16, 3) := by decide +kernel
theorem dX11_gives_25 : decode cX11_gives 25 = .ok (.bipush 24, 2) := by decide +kernel
theorem dX11_gives_27 : decode cX11_gives 27 = .ok (.iload 5, 2) := by decide +kernel
theorem dX11_gives_29 : decode cX11_gives 29 = .ok (.iadd, 1) := by decide +kernel
theorem dX11_gives_30 : decode cX11_gives 30 = .ok (.iload_n 2, 1) := by decide +kernel
theorem dX11_gives_31 : decode cX11_gives 31 = .ok (.iastore, 1) := by decide +kernel
theorem dX11_gives_32 : decode cX11_gives 32 = .ok (.aload_n 0, 1) := by decide +kernel
theorem dX11_gives_33 : decode cX11_gives 33 = .ok (.getfield 16, 3) := by decide +kernel
theorem dX11_gives_36 : decode cX11_gives 36 = .ok (.bipush 12, 2) := by decide +kernel
theorem dX11_gives_38 : decode cX11_gives 38 = .ok (.iload 5, 2) := by decide +kernel
theorem dX11_gives_40 : decode cX11_gives 40 = .ok (.iadd, 1) := by decide +kernel
theorem dX11_gives_41 : decode cX11_gives 41 = .ok (.iload_n 3, 1) := by decide +kernel
theorem dX11_gives_42 : decode cX11_gives 42 = .ok (.iastore, 1) := by decide +kernel
theorem dX11_gives_43 : decode cX11_gives 43 = .ok (.aload_n 0, 1) := by decide +kernel
theorem dX11_gives_44 : decode cX11_gives 44 = .ok (.getfield 16, 3) := by decide +kernel
theorem dX11_gives_47 : decode cX11_gives 47 = .ok (.bipush 18, 2) := by decide +kernel
theorem dX11_gives_49 : decode cX11_gives 49 = .ok (.iload 5, 2) := by decide +kernel
theorem dX11_gives_51 : decode cX11_gives 51 = .ok (.iadd, 1) := by decide +kernel
theorem dX11_gives_52 : decode cX11_gives 52 = .ok (.aload_n 0, 1) := by decide +kernel
theorem dX11_gives_53 : decode cX11_gives 53 = .ok (.getfield 16, 3) := by decide +kernel
theorem dX11_gives_56 : decode cX11_gives 56 = .ok (.iload_n 2, 1) := by decide +kernel
theorem dX11_gives_57 : decode cX11_gives 57 = .ok (.invokestatic 128, 3) := by decide +kernel
theorem dX11_gives_60 : decode cX11_gives 60 = .ok (.bipush 8, 2) := by decide +kernel
theorem dX11_gives_62 : decode cX11_gives 62 = .ok (.iadd, 1) := by decide +kernel
theorem dX11_gives_63 : decode cX11_gives 63 = .ok (.iaload, 1) := by decide +kernel
theorem dX11_gives_64 : decode cX11_gives 64 = .ok (.iload 5, 2) := by decide +kernel
theorem dX11_gives_66 : decode cX11_gives 66 = .ok (.invokestatic 131, 3) := by decide +kernel
theorem dX11_gives_69 : decode cX11_gives 69 = .ok (.ifCond .eq 8, 3) := by decide +kernel
theorem dX11_gives_72 : decode cX11_gives 72 = .ok (.bipush (-9), 2) := by decide +kernel
theorem dX11_gives_74 : decode cX11_gives 74 = .ok (.goto 5, 3) := by decide +kernel
theorem dX11_gives_77 : decode cX11_gives 77 = .ok (.iload 4, 2) := by decide +kernel
theorem dX11_gives_79 : decode cX11_gives 79 = .ok (.iastore, 1) := by decide +kernel
theorem dX11_gives_80 : decode cX11_gives 80 = .ok (.iinc 5 1, 3) := by decide +kernel
theorem dX11_gives_83 : decode cX11_gives 83 = .ok (.goto (-80), 3) := by decide +kernel
theorem dX11_gives_86 : decode cX11_gives 86 = .ok (.return_, 1) := by decide +kernel
theorem dX11_notes_0 : decode cX11_notes 0 = .ok (.aload_n 0, 1) := by decide +kernel
theorem dX11_notes_1 : decode cX11_notes 1 = .ok (.getfield 125, 3) := by decide +kernel
theorem dX11_notes_4 : decode cX11_notes 4 = .ok (.bipush 10, 2) := by decide +kernel
theorem dX11_notes_6 : decode cX11_notes 6 = .ok (.if_icmp .ne 39, 3) := by decide +kernel
theorem dX11_notes_9 : decode cX11_notes 9 = .ok (.iconst 0, 1) := by decide +kernel
theorem dX11_notes_10 : decode cX11_notes 10 = .ok (.istore_n 1, 1) := by decide +kernel
theorem dX11_notes_11 : decode cX11_notes 11 = .ok (.iload_n 1, 1) := by decide +kernel
theorem dX11_notes_12 : decode cX11_notes 12 = .ok (.sipush 927, 3) := by decide +kernel
theorem dX11_notes_15 : decode cX11_notes 15 = .ok (.if_icmp .ge 24, 3) := by decide +kernel
theorem dX11_notes_18 : decode cX11_notes 18 = .ok (.aload_n 0, 1) := by decide +kernel
theorem dX11_notes_19 : decode cX11_notes 19 = .ok (.getfield 19, 3) := by decide +kernel
theorem dX11_notes_22 : decode cX11_notes 22 = .ok (.iload_n 1, 1) := by decide +kernel
theorem dX11_notes_23 : decode cX11_notes 23 = .ok (.aload_n 0, 1) := by decide +kernel
theorem dX11_notes_24 : decode cX11_notes 24 = .ok (.getfield 19, 3) := by decide +kernel
theorem dX11_notes_27 : decode cX11_notes 27 = .ok (.iload_n 1, 1) := by decide +kernel
theorem dX11_notes_28 : decode cX11_notes 28 = .ok (.bipush 103, 2) := by decide +kernel
theorem dX11_notes_30 : decode cX11_notes 30 = .ok (.iadd, 1) := by decide +kernel
theorem dX11_notes_31 : decode cX11_notes 31 = .ok (.iaload, 1) := by decide +kernel
theorem dX11_notes_32 : decode cX11_notes 32 = .ok (.iastore, 1) := by decide +kernel
theorem dX11_notes_33 : decode cX11_notes 33 = .ok (.iinc 1 1, 3) := by decide +kernel
theorem dX11_notes_36 : decode cX11_notes 36 = .ok (.goto (-25), 3) := by decide +kernel
theorem dX11_notes_39 : decode cX11_notes 39 = .ok (.aload_n 0, 1) := by decide +kernel
theorem dX11_notes_40 : decode cX11_notes 40 = .ok (.bipush 9, 2) := by decide +kernel
theorem dX11_notes_42 : decode cX11_notes 42 = .ok (.putfield 125, 3) := by decide +kernel
theorem dX11_notes_45 : decode cX11_notes 45 = .ok (.iconst 0, 1) := by decide +kernel
theorem dX11_notes_46 : decode cX11_notes 46 = .ok (.istore_n 1, 1) := by decide +kernel
theorem dX11_notes_47 : decode cX11_notes 47 = .ok (.iload_n 1, 1) := by decide +kernel
theorem dX11_notes_48 : decode cX11_notes 48 = .ok (.bipush 103, 2) := by decide +kernel
theorem dX11_notes_50 : decode cX11_notes 50 = .ok (.if_icmp .ge 29, 3) := by decide +kernel
theorem dX11_notes_53 : decode cX11_notes 53 = .ok (.aload_n 0, 1) := by decide +kernel
theorem dX11_notes_54 : decode cX11_notes 54 = .ok (.getfield 19, 3) := by decide +kernel
theorem dX11_notes_57 : decode cX11_notes 57 = .ok (.bipush 103, 2) := by decide +kernel
theorem dX11_notes_59 : decode cX11_notes 59 = .ok (.aload_n 0, 1) := by decide +kernel
theorem dX11_notes_60 : decode cX11_notes 60 = .ok (.getfield 125, 3) := by decide +kernel
theorem dX11_notes_63 : decode cX11_notes 63 = .ok (.imul, 1) := by decide +kernel
theorem dX11_notes_64 : decode cX11_notes 64 = .ok (.iload_n 1, 1) := by decide +kernel
theorem dX11_notes_65 : decode cX11_notes 65 = .ok (.iadd, 1) := by decide +kernel
theorem dX11_notes_66 : decode cX11_notes 66 = .ok (.aload_n 0, 1) := by decide +kernel
theorem dX11_notes_67 : decode cX11_notes 67 = .ok (.getfield 16, 3) := by decide +kernel
theorem dX11_notes_70 : decode cX11_notes 70 = .ok (.iload_n 1, 1) := by decide +kernel
theorem dX11_notes_71 : decode cX11_notes 71 = .ok (.iaload, 1) := by decide +kernel
theorem dX11_notes_72 : decode cX11_notes 72 = .ok (.iastore, 1) := by decide +kernel
theorem dX11_notes_73 : decode cX11_notes 73 = .ok (.iinc 1 1, 3) := by decide +kernel
theorem dX11_notes_76 : decode cX11_notes 76 = .ok (.goto (-29), 3) := by decide +kernel
theorem dX11_notes_79 : decode cX11_notes 79 = .ok (.aload_n 0, 1) := by decide +kernel
theorem dX11_notes_80 : decode cX11_notes 80 = .ok (.dup, 1) := by decide +kernel
theorem dX11_notes_81 : decode cX11_notes 81 = .ok (.getfield 125, 3) := by decide +kernel
theorem dX11_notes_84 : decode cX11_notes 84 = .ok (.iconst 1, 1) := by decide +kernel
theorem dX11_notes_85 : decode cX11_notes 85 = .ok (.iadd, 1) := by decide +kernel
theorem dX11_notes_86 : decode cX11_notes 86 = .ok (.putfield 125, 3) := by decide +kernel
theorem dX11_notes_89 : decode cX11_notes 89 = .ok (.return_, 1) := by decide +kernel
theorem dX11_reads__0 : decode cX11_reads_ 0 = .ok (.aload_n 0, 1) := by decide +kernel
theorem dX11_reads__1 : decode cX11_reads_ 1 = .ok (.iconst 0, 1) := by decide +kernel
theorem dX11_reads__2 : decode cX11_reads_ 2 = .ok (.putfield 50, 3) := by decide +kernel
theorem dX11_reads__5 : decode cX11_reads_ 5 = .ok (.iload_n 1, 1) := by decide +kernel
theorem dX11_reads__6 : decode cX11_reads_ 6 = .ok (.invokestatic 141, 3) := by decide +kernel
theorem dX11_reads__9 : decode cX11_reads_ 9 = .ok (.ifCond .ne 5, 3) := by decide +kernel
theorem dX11_reads__12 : decode cX11_reads_ 12 = .ok (.iconst (-1), 1) := by decide +kernel
theorem dX11_reads__13 : decode cX11_reads_ 13 = .ok (.ireturn, 1) := by decide +kernel
theorem dX11_reads__14 : decode cX11_reads_ 14 = .ok (.aload_n 0, 1) := by decide +kernel
theorem dX11_reads__15 : decode cX11_reads_ 15 = .ok (.iload_n 1, 1) := by decide +kernel
theorem dX11_reads__16 : decode cX11_reads_ 16 = .ok (.invokevirtual 145, 3) := by decide +kernel
theorem dX11_reads__19 : decode cX11_reads_ 19 = .ok (.istore_n 2, 1) := by decide +kernel
theorem dX11_reads__20 : decode cX11_reads_ 20 = .ok (.aload_n 0, 1) := by decide +kernel
theorem dX11_reads__21 : decode cX11_reads_ 21 = .ok (.iload_n 2, 1) := by decide +kernel
theorem dX11_reads__22 : decode cX11_reads_ 22 = .ok (.bipush 6, 2) := by decide +kernel
theorem dX11_reads__24 : decode cX11_reads_ 24 = .ok (.invokevirtual 148, 3) := by decide +kernel
theorem dX11_reads__27 : decode cX11_reads_ 27 = .ok (.ifCond .ne 6, 3) := by decide +kernel
theorem dX11_reads__30 : decode cX11_reads_ 30 = .ok (.bipush (-4), 2) := by decide +kernel
theorem dX11_reads__32 : decode cX11_reads_ 32 = .ok (.ireturn, 1) := by decide +kernel
theorem dX11_reads__33 : decode cX11_reads_ 33 = .ok (.aload_n 0, 1) := by decide +kernel
theorem dX11_reads__34 : decode cX11_reads_ 34 = .ok (.iload_n 2, 1) := by decide +kernel
theorem dX11_reads__35 : decode cX11_reads_ 35 = .ok (.invokevirtual 151, 3) := by decide +kernel
theorem dX11_reads__38 : decode cX11_reads_ 38 = .ok (.bipush (-9), 2) := by decide +kernel
theorem dX11_reads__40 : decode cX11_reads_ 40 = .ok (.if_icmp .ne 6, 3) := by decide +kernel
theorem dX11_reads__43 : decode cX11_reads_ 43 = .ok (.bipush (-5), 2) := by decide +kernel
theorem dX11_reads__45 : decode cX11_reads_ 45 = .ok (.ireturn, 1) := by decide +kernel
theorem dX11_reads__46 : decode cX11_reads_ 46 = .ok (.aload_n 0, 1) := by decide +kernel
theorem dX11_reads__47 : decode cX11_reads_ 47 = .ok (.aload_n 0, 1) := by decide +kernel
theorem dX11_reads__48 : decode cX11_reads_ 48 = .ok (.iload_n 2, 1) := by decide +kernel
theorem dX11_reads__49 : decode cX11_reads_ 49 = .ok (.invokevirtual 151, 3) := by decide +kernel
theorem dX11_reads__52 : decode cX11_reads_ 52 = .ok (.putfield 154, 3) := by decide +kernel
theorem dX11_reads__55 : decode cX11_reads_ 55 = .ok (.aload_n 0, 1) := by decide +kernel
theorem dX11_reads__56 : decode cX11_reads_ 56 = .ok (.iload_n 2, 1) := by decide +kernel
theorem dX11_reads__57 : decode cX11_reads_ 57 = .ok (.bipush 12, 2) := by decide +kernel
theorem dX11_reads__59 : decode cX11_reads_ 59 = .ok (.invokevirtual 135, 3) := by decide +kernel
theorem dX11_reads__62 : decode cX11_reads_ 62 = .ok (.ireturn, 1) := by decide +kernel
theorem dX11_writes_0 : decode cX11_writes 0 = .ok (.aload_n 0, 1) := by decide +kernel
theorem dX11_writes_1 : decode cX11_writes 1 = .ok (.iconst 0, 1) := by decide +kernel
theorem dX11_writes_2 : decode cX11_writes 2 = .ok (.putfield 50, 3) := by decide +kernel
theorem dX11_writes_5 : decode cX11_writes 5 = .ok (.iload_n 1, 1) := by decide +kernel
theorem dX11_writes_6 : decode cX11_writes 6 = .ok (.invokestatic 141, 3) := by decide +kernel
theorem dX11_writes_9 : decode cX11_writes 9 = .ok (.ifCond .eq 14, 3) := by decide +kernel
theorem dX11_writes_12 : decode cX11_writes 12 = .ok (.iload_n 2, 1) := by decide +kernel
theorem dX11_writes_13 : decode cX11_writes 13 = .ok (.iconst 0, 1) := by decide +kernel
theorem dX11_writes_14 : decode cX11_writes 14 = .ok (.sipush 999, 3) := by decide +kernel
theorem dX11_writes_17 : decode cX11_writes 17 = .ok (.invokestatic 54, 3) := by decide +kernel
theorem dX11_writes_20 : decode cX11_writes 20 = .ok (.ifCond .ne 5, 3) := by decide +kernel
theorem dX11_writes_23 : decode cX11_writes 23 = .ok (.iconst (-1), 1) := by decide +kernel
theorem dX11_writes_24 : decode cX11_writes 24 = .ok (.ireturn, 1) := by decide +kernel
theorem dX11_writes_25 : decode cX11_writes 25 = .ok (.aload_n 0, 1) := by decide +kernel
theorem dX11_writes_26 : decode cX11_writes 26 = .ok (.iload_n 1, 1) := by decide +kernel
theorem dX11_writes_27 : decode cX11_writes 27 = .ok (.invokevirtual 145, 3) := by decide +kernel
theorem dX11_writes_30 : decode cX11_writes 30 = .ok (.istore_n 3, 1) := by decide +kernel
theorem dX11_writes_31 : decode cX11_writes 31 = .ok (.aload_n 0, 1) := by decide +kernel
theorem dX11_writes_32 : decode cX11_writes 32 = .ok (.iload_n 3, 1) := by decide +kernel
theorem dX11_writes_33 : decode cX11_writes 33 = .ok (.bipush 7, 2) := by decide +kernel
theorem dX11_writes_35 : decode cX11_writes 35 = .ok (.invokevirtual 148, 3) := by decide +kernel
theorem dX11_writes_38 : decode cX11_writes 38 = .ok (.ifCond .ne 6, 3) := by decide +kernel
theorem dX11_writes_41 : decode cX11_writes 41 = .ok (.bipush (-4), 2) := by decide +kernel
theorem dX11_writes_43 : decode cX11_writes 43 = .ok (.ireturn, 1) := by decide +kernel
theorem dX11_writes_44 : decode cX11_writes 44 = .ok (.aload_n 0, 1) := by decide +kernel
theorem dX11_writes_45 : decode cX11_writes 45 = .ok (.invokevirtual 157, 3) := by decide +kernel
theorem dX11_writes_48 : decode cX11_writes 48 = .ok (.aload_n 0, 1) := by decide +kernel
theorem dX11_writes_49 : decode cX11_writes 49 = .ok (.iload_n 3, 1) := by decide +kernel
theorem dX11_writes_50 : decode cX11_writes 50 = .ok (.bipush 12, 2) := by decide +kernel
theorem dX11_writes_52 : decode cX11_writes 52 = .ok (.invokevirtual 135, 3) := by decide +kernel
theorem dX11_writes_55 : decode cX11_writes 55 = .ok (.iconst 1, 1) := by decide +kernel
theorem dX11_writes_56 : decode cX11_writes 56 = .ok (.iadd, 1) := by decide +kernel
theorem dX11_writes_57 : decode cX11_writes 57 = .ok (.istore 4, 2) := by decide +kernel
theorem dX11_writes_59 : decode cX11_writes 59 = .ok (.aload_n 0, 1) := by decide +kernel
theorem dX11_writes_60 : decode cX11_writes 60 = .ok (.iload_n 3, 1) := by decide +kernel
theorem dX11_writes_61 : decode cX11_writes 61 = .ok (.aload_n 0, 1) := by decide +kernel
theorem dX11_writes_62 : decode cX11_writes 62 = .ok (.iload_n 3, 1) := by decide +kernel
theorem dX11_writes_63 : decode cX11_writes 63 = .ok (.bipush 24, 2) := by decide +kernel
theorem dX11_writes_65 : decode cX11_writes 65 = .ok (.invokevirtual 135, 3) := by decide +kernel
theorem dX11_writes_68 : decode cX11_writes 68 = .ok (.iload 4, 2) := by decide +kernel
theorem dX11_writes_70 : decode cX11_writes 70 = .ok (.iload_n 2, 1) := by decide +kernel
theorem dX11_writes_71 : decode cX11_writes 71 = .ok (.invokevirtual 160, 3) := by decide +kernel
theorem dX11_writes_74 : decode cX11_writes 74 = .ok (.iload 4, 2) := by decide +kernel
theorem dX11_writes_76 : decode cX11_writes 76 = .ok (.ireturn, 1) := by decide +kernel
theorem dX11_mends_0 : decode cX11_mends 0 = .ok (.aload_n 0, 1) := by decide +kernel
theorem dX11_mends_1 : decode cX11_mends 1 = .ok (.iconst 0, 1) := by decide +kernel
theorem dX11_mends_2 : decode cX11_mends 2 = .ok (.putfield 50, 3) := by decide +kernel
theorem dX11_mends_5 : decode cX11_mends 5 = .ok (.iload_n 1, 1) := by decide +kernel
theorem dX11_mends_6 : decode cX11_mends 6 = .ok (.invokestatic 141, 3) := by decide +kernel
theorem dX11_mends_9 : decode cX11_mends 9 = .ok (.ifCond .ne 5, 3) := by decide +kernel
theorem dX11_mends_12 : decode cX11_mends 12 = .ok (.iconst (-1), 1) := by decide +kernel
theorem dX11_mends_13 : decode cX11_mends 13 = .ok (.ireturn, 1) := by decide +kernel
theorem dX11_mends_14 : decode cX11_mends 14 = .ok (.aload_n 0, 1) := by decide +kernel
theorem dX11_mends_15 : decode cX11_mends 15 = .ok (.iload_n 1, 1) := by decide +kernel
theorem dX11_mends_16 : decode cX11_mends 16 = .ok (.invokevirtual 145, 3) := by decide +kernel
theorem dX11_mends_19 : decode cX11_mends 19 = .ok (.istore_n 2, 1) := by decide +kernel
theorem dX11_mends_20 : decode cX11_mends 20 = .ok (.aload_n 0, 1) := by decide +kernel
theorem dX11_mends_21 : decode cX11_mends 21 = .ok (.iload_n 2, 1) := by decide +kernel
theorem dX11_mends_22 : decode cX11_mends 22 = .ok (.bipush 6, 2) := by decide +kernel
theorem dX11_mends_24 : decode cX11_mends 24 = .ok (.invokevirtual 148, 3) := by decide +kernel
theorem dX11_mends_27 : decode cX11_mends 27 = .ok (.ifCond .ne 6, 3) := by decide +kernel
theorem dX11_mends_30 : decode cX11_mends 30 = .ok (.bipush (-4), 2) := by decide +kernel
theorem dX11_mends_32 : decode cX11_mends 32 = .ok (.ireturn, 1) := by decide +kernel
theorem dX11_mends_33 : decode cX11_mends 33 = .ok (.aload_n 0, 1) := by decide +kernel
theorem dX11_mends_34 : decode cX11_mends 34 = .ok (.iload_n 2, 1) := by decide +kernel
theorem dX11_mends_35 : decode cX11_mends 35 = .ok (.invokevirtual 151, 3) := by decide +kernel
theorem dX11_mends_38 : decode cX11_mends 38 = .ok (.istore_n 3, 1) := by decide +kernel
theorem dX11_mends_39 : decode cX11_mends 39 = .ok (.iload_n 3, 1) := by decide +kernel
theorem dX11_mends_40 : decode cX11_mends 40 = .ok (.bipush (-9), 2) := by decide +kernel
theorem dX11_mends_42 : decode cX11_mends 42 = .ok (.if_icmp .ne 6, 3) := by decide +kernel
theorem dX11_mends_45 : decode cX11_mends 45 = .ok (.bipush (-5), 2) := by decide +kernel
theorem dX11_mends_47 : decode cX11_mends 47 = .ok (.ireturn, 1) := by decide +kernel
theorem dX11_mends_48 : decode cX11_mends 48 = .ok (.aload_n 0, 1) := by decide +kernel
theorem dX11_mends_49 : decode cX11_mends 49 = .ok (.invokevirtual 157, 3) := by decide +kernel
theorem dX11_mends_52 : decode cX11_mends 52 = .ok (.aload_n 0, 1) := by decide +kernel
theorem dX11_mends_53 : decode cX11_mends 53 = .ok (.iload_n 2, 1) := by decide +kernel
theorem dX11_mends_54 : decode cX11_mends 54 = .ok (.bipush 12, 2) := by decide +kernel
theorem dX11_mends_56 : decode cX11_mends 56 = .ok (.invokevirtual 135, 3) := by decide +kernel
theorem dX11_mends_59 : decode cX11_mends 59 = .ok (.istore 4, 2) := by decide +kernel
theorem dX11_mends_61 : decode cX11_mends 61 = .ok (.iconst 0, 1) := by decide +kernel
theorem dX11_mends_62 : decode cX11_mends 62 = .ok (.istore 5, 2) := by decide +kernel
theorem dX11_mends_64 : decode cX11_mends 64 = .ok (.iconst 0, 1) := by decide +kernel
theorem dX11_mends_65 : decode cX11_mends 65 = .ok (.istore 6, 2) := by decide +kernel
theorem dX11_mends_67 : decode cX11_mends 67 = .ok (.iload 6, 2) := by decide +kernel
theorem dX11_mends_69 : decode cX11_mends 69 = .ok (.aload_n 0, 1) := by decide +kernel
theorem dX11_mends_70 : decode cX11_mends 70 = .ok (.getfield 119, 3) := by decide +kernel
theorem dX11_mends_73 : decode cX11_mends 73 = .ok (.if_icmp .ge 43, 3) := by decide +kernel
theorem dX11_mends_76 : decode cX11_mends 76 = .ok (.iload 5, 2) := by decide +kernel
theorem dX11_mends_78 : decode cX11_mends 78 = .ok (.iload_n 2, 1) := by decide +kernel
theorem dX11_mends_79 : decode cX11_mends 79 = .ok (.iload 6, 2) := by decide +kernel
theorem dX11_mends_81 : decode cX11_mends 81 = .ok (.invokestatic 131, 3) := by decide +kernel
theorem dX11_mends_84 : decode cX11_mends 84 = .ok (.ifCond .eq 22, 3) := by decide +kernel
theorem dX11_mends_87 : decode cX11_mends 87 = .ok (.aload_n 0, 1) := by decide +kernel
theorem dX11_mends_88 : decode cX11_mends 88 = .ok (.getfield 16, 3) := by decide +kernel
theorem dX11_mends_91 : decode cX11_mends 91 = .ok (.bipush 12, 2) := by decide +kernel
theorem dX11_mends_93 : decode cX11_mends 93 = .ok (.iload 6, 2) := by decide +kernel
theorem dX11_mends_95 : decode cX11_mends 95 = .ok (.iadd, 1) := by decide +kernel
theorem dX11_mends_96 : decode cX11_mends 96 = .ok (.iaload, 1) := by decide +kernel
theorem dX11_mends_97 : decode cX11_mends 97 = .ok (.iload 4, 2) := by decide +kernel
theorem dX11_mends_99 : decode cX11_mends 99 = .ok (.if_icmp .eq 7, 3) := by decide +kernel
theorem dX11_mends_102 : decode cX11_mends 102 = .ok (.iconst 1, 1) := by decide +kernel
theorem dX11_mends_103 : decode cX11_mends 103 = .ok (.goto 4, 3) := by decide +kernel
theorem dX11_mends_106 : decode cX11_mends 106 = .ok (.iconst 0, 1) := by decide +kernel
theorem dX11_mends_107 : decode cX11_mends 107 = .ok (.iadd, 1) := by decide +kernel
theorem dX11_mends_108 : decode cX11_mends 108 = .ok (.istore 5, 2) := by decide +kernel
theorem dX11_mends_110 : decode cX11_mends 110 = .ok (.iinc 6 1, 3) := by decide +kernel
theorem dX11_mends_113 : decode cX11_mends 113 = .ok (.goto (-46), 3) := by decide +kernel
theorem dX11_mends_116 : decode cX11_mends 116 = .ok (.aload_n 0, 1) := by decide +kernel
theorem dX11_mends_117 : decode cX11_mends 117 = .ok (.iload_n 2, 1) := by decide +kernel
theorem dX11_mends_118 : decode cX11_mends 118 = .ok (.aload_n 0, 1) := by decide +kernel
theorem dX11_mends_119 : decode cX11_mends 119 = .ok (.iload_n 2, 1) := by decide +kernel
theorem dX11_mends_120 : decode cX11_mends 120 = .ok (.bipush 24, 2) := by decide +kernel
theorem dX11_mends_122 : decode cX11_mends 122 = .ok (.invokevirtual 135, 3) := by decide +kernel
theorem dX11_mends_125 : decode cX11_mends 125 = .ok (.iload 4, 2) := by decide +kernel
theorem dX11_mends_127 : decode cX11_mends 127 = .ok (.iload_n 3, 1) := by decide +kernel
theorem dX11_mends_128 : decode cX11_mends 128 = .ok (.invokevirtual 160, 3) := by decide +kernel
theorem dX11_mends_131 : decode cX11_mends 131 = .ok (.iload 5, 2) := by decide +kernel
theorem dX11_mends_133 : decode cX11_mends 133 = .ok (.ireturn, 1) := by decide +kernel
theorem dX11_votes_0 : decode cX11_votes 0 = .ok (.aload_n 0, 1) := by decide +kernel
theorem dX11_votes_1 : decode cX11_votes 1 = .ok (.iconst 0, 1) := by decide +kernel
theorem dX11_votes_2 : decode cX11_votes 2 = .ok (.putfield 50, 3) := by decide +kernel
theorem dX11_votes_5 : decode cX11_votes 5 = .ok (.iload_n 1, 1) := by decide +kernel
theorem dX11_votes_6 : decode cX11_votes 6 = .ok (.invokestatic 141, 3) := by decide +kernel
theorem dX11_votes_9 : decode cX11_votes 9 = .ok (.ifCond .eq 52, 3) := by decide +kernel
theorem dX11_votes_12 : decode cX11_votes 12 = .ok (.aload_n 0, 1) := by decide +kernel
theorem dX11_votes_13 : decode cX11_votes 13 = .ok (.iload_n 2, 1) := by decide +kernel
theorem dX11_votes_14 : decode cX11_votes 14 = .ok (.invokevirtual 164, 3) := by decide +kernel
theorem dX11_votes_17 : decode cX11_votes 17 = .ok (.ifCond .eq 44, 3) := by decide +kernel
theorem dX11_votes_20 : decode cX11_votes 20 = .ok (.iload_n 3, 1) := by decide +kernel
theorem dX11_votes_21 : decode cX11_votes 21 = .ok (.iconst 0, 1) := by decide +kernel
theorem dX11_votes_22 : decode cX11_votes 22 = .ok (.iconst 5, 1) := by decide +kernel
theorem dX11_votes_23 : decode cX11_votes 23 = .ok (.invokestatic 54, 3) := by decide +kernel
theorem dX11_votes_26 : decode cX11_votes 26 = .ok (.ifCond .eq 35, 3) := by decide +kernel
theorem dX11_votes_29 : decode cX11_votes 29 = .ok (.iload 4, 2) := by decide +kernel
theorem dX11_votes_31 : decode cX11_votes 31 = .ok (.iconst 0, 1) := by decide +kernel
theorem dX11_votes_32 : decode cX11_votes 32 = .ok (.iconst 1, 1) := by decide +kernel
theorem dX11_votes_33 : decode cX11_votes 33 = .ok (.invokestatic 54, 3) := by decide +kernel
theorem dX11_votes_36 : decode cX11_votes 36 = .ok (.ifCond .eq 25, 3) := by decide +kernel
theorem dX11_votes_39 : decode cX11_votes 39 = .ok (.iload 5, 2) := by decide +kernel
theorem dX11_votes_41 : decode cX11_votes 41 = .ok (.iconst 1, 1) := by decide +kernel
theorem dX11_votes_42 : decode cX11_votes 42 = .ok (.bipush 30, 2) := by decide +kernel
theorem dX11_votes_44 : decode cX11_votes 44 = .ok (.invokestatic 54, 3) := by decide +kernel
theorem dX11_votes_47 : decode cX11_votes 47 = .ok (.ifCond .eq 14, 3) := by decide +kernel
theorem dX11_votes_50 : decode cX11_votes 50 = .ok (.iload 6, 2) := by decide +kernel
theorem dX11_votes_52 : decode cX11_votes 52 = .ok (.iconst 1, 1) := by decide +kernel
theorem dX11_votes_53 : decode cX11_votes 53 = .ok (.bipush 30, 2) := by decide +kernel
theorem dX11_votes_55 : decode cX11_votes 55 = .ok (.invokestatic 54, 3) := by decide +kernel
theorem dX11_votes_58 : decode cX11_votes 58 = .ok (.ifCond .ne 5, 3) := by decide +kernel
theorem dX11_votes_61 : decode cX11_votes 61 = .ok (.iconst (-1), 1) := by decide +kernel
theorem dX11_votes_62 : decode cX11_votes 62 = .ok (.ireturn, 1) := by decide +kernel
theorem dX11_votes_63 : decode cX11_votes 63 = .ok (.aload_n 0, 1) := by decide +kernel
theorem dX11_votes_64 : decode cX11_votes 64 = .ok (.getfield 16, 3) := by decide +kernel
theorem dX11_votes_67 : decode cX11_votes 67 = .ok (.bipush 30, 2) := by decide +kernel
theorem dX11_votes_69 : decode cX11_votes 69 = .ok (.iaload, 1) := by decide +kernel
theorem dX11_votes_70 : decode cX11_votes 70 = .ok (.bipush 8, 2) := by decide +kernel
theorem dX11_votes_72 : decode cX11_votes 72 = .ok (.if_icmp .ne 6, 3) := by decide +kernel
theorem dX11_votes_75 : decode cX11_votes 75 = .ok (.bipush (-3), 2) := by decide +kernel
theorem dX11_votes_77 : decode cX11_votes 77 = .ok (.ireturn, 1) := by decide +kernel
theorem dX11_votes_78 : decode cX11_votes 78 = .ok (.aload_n 0, 1) := by decide +kernel
theorem dX11_votes_79 : decode cX11_votes 79 = .ok (.iload_n 1, 1) := by decide +kernel
theorem dX11_votes_80 : decode cX11_votes 80 = .ok (.invokevirtual 145, 3) := by decide +kernel
theorem dX11_votes_83 : decode cX11_votes 83 = .ok (.istore 7, 2) := by decide +kernel
theorem dX11_votes_85 : decode cX11_votes 85 = .ok (.iload 7, 2) := by decide +kernel
theorem dX11_votes_87 : decode cX11_votes 87 = .ok (.ifCond .ne 6, 3) := by decide +kernel
theorem dX11_votes_90 : decode cX11_votes 90 = .ok (.bipush (-4), 2) := by decide +kernel
theorem dX11_votes_92 : decode cX11_votes 92 = .ok (.ireturn, 1) := by decide +kernel
theorem dX11_votes_93 : decode cX11_votes 93 = .ok (.aload_n 0, 1) := by decide +kernel
theorem dX11_votes_94 : decode cX11_votes 94 = .ok (.iload 7, 2) := by decide +kernel
theorem dX11_votes_96 : decode cX11_votes 96 = .ok (.bipush 24, 2) := by decide +kernel
theorem dX11_votes_98 : decode cX11_votes 98 = .ok (.invokevirtual 135, 3) := by decide +kernel
theorem dX11_votes_101 : decode cX11_votes 101 = .ok (.invokestatic 128, 3) := by decide +kernel
theorem dX11_votes_104 : decode cX11_votes 104 = .ok (.istore 8, 2) := by decide +kernel
theorem dX11_votes_106 : decode cX11_votes 106 = .ok (.aload_n 0, 1) := by decide +kernel
theorem dX11_votes_107 : decode cX11_votes 107 = .ok (.getfield 16, 3) := by decide +kernel
theorem dX11_votes_110 : decode cX11_votes 110 = .ok (.iload 8, 2) := by decide +kernel
theorem dX11_votes_112 : decode cX11_votes 112 = .ok (.invokestatic 112, 3) := by decide +kernel
theorem dX11_votes_115 : decode cX11_votes 115 = .ok (.aload_n 0, 1) := by decide +kernel
theorem dX11_votes_116 : decode cX11_votes 116 = .ok (.getfield 16, 3) := by decide +kernel
theorem dX11_votes_119 : decode cX11_votes 119 = .ok (.iload 8, 2) := by decide +kernel
theorem dX11_votes_121 : decode cX11_votes 121 = .ok (.iload_n 2, 1) := by decide +kernel
theorem dX11_votes_122 : decode cX11_votes 122 = .ok (.iadd, 1) := by decide +kernel
theorem dX11_votes_123 : decode cX11_votes 123 = .ok (.iaload, 1) := by decide +kernel
theorem dX11_votes_124 : decode cX11_votes 124 = .ok (.isub, 1) := by decide +kernel
theorem dX11_votes_125 : decode cX11_votes 125 = .ok (.iload_n 3, 1) := by decide +kernel
theorem dX11_votes_126 : decode cX11_votes 126 = .ok (.iadd, 1) := by decide +kernel
theorem dX11_votes_127 : decode cX11_votes 127 = .ok (.iload 5, 2) := by decide +kernel
theorem dX11_votes_129 : decode cX11_votes 129 = .ok (.iload 6, 2) := by decide +kernel
theorem dX11_votes_131 : decode cX11_votes 131 = .ok (.invokestatic 116, 3) := by decide +kernel
theorem dX11_votes_134 : decode cX11_votes 134 = .ok (.ifCond .ne 6, 3) := by decide +kernel
theorem dX11_votes_137 : decode cX11_votes 137 = .ok (.bipush (-2), 2) := by decide +kernel
theorem dX11_votes_139 : decode cX11_votes 139 = .ok (.ireturn, 1) := by decide +kernel
theorem dX11_votes_140 : decode cX11_votes 140 = .ok (.aload_n 0, 1) := by decide +kernel
theorem dX11_votes_141 : decode cX11_votes 141 = .ok (.iload 7, 2) := by decide +kernel
theorem dX11_votes_143 : decode cX11_votes 143 = .ok (.bipush 7, 2) := by decide +kernel
theorem dX11_votes_145 : decode cX11_votes 145 = .ok (.invokevirtual 148, 3) := by decide +kernel
theorem dX11_votes_148 : decode cX11_votes 148 = .ok (.ifCond .ne 6, 3) := by decide +kernel
theorem dX11_votes_151 : decode cX11_votes 151 = .ok (.bipush (-4), 2) := by decide +kernel
theorem dX11_votes_153 : decode cX11_votes 153 = .ok (.ireturn, 1) := by decide +kernel
theorem dX11_votes_154 : decode cX11_votes 154 = .ok (.aload_n 0, 1) := by decide +kernel
theorem dX11_votes_155 : decode cX11_votes 155 = .ok (.iload 7, 2) := by decide +kernel
theorem dX11_votes_157 : decode cX11_votes 157 = .ok (.invokevirtual 151, 3) := by decide +kernel
theorem dX11_votes_160 : decode cX11_votes 160 = .ok (.istore 9, 2) := by decide +kernel
theorem dX11_votes_162 : decode cX11_votes 162 = .ok (.iload 9, 2) := by decide +kernel
theorem dX11_votes_164 : decode cX11_votes 164 = .ok (.bipush (-9), 2) := by decide +kernel
theorem dX11_votes_166 : decode cX11_votes 166 = .ok (.if_icmp .ne 6, 3) := by decide +kernel
theorem dX11_votes_169 : decode cX11_votes 169 = .ok (.bipush (-5), 2) := by decide +kernel
theorem dX11_votes_171 : decode cX11_votes 171 = .ok (.ireturn, 1) := by decide +kernel
theorem dX11_votes_172 : decode cX11_votes 172 = .ok (.aload_n 0, 1) := by decide +kernel
theorem dX11_votes_173 : decode cX11_votes 173 = .ok (.invokevirtual 157, 3) := by decide +kernel
theorem dX11_votes_176 : decode cX11_votes 176 = .ok (.aload_n 0, 1) := by decide +kernel
theorem dX11_votes_177 : decode cX11_votes 177 = .ok (.getfield 16, 3) := by decide +kernel
theorem dX11_votes_180 : decode cX11_votes 180 = .ok (.bipush 30, 2) := by decide +kernel
theorem dX11_votes_182 : decode cX11_votes 182 = .ok (.iaload, 1) := by decide +kernel
theorem dX11_votes_183 : decode cX11_votes 183 = .ok (.istore 10, 2) := by decide +kernel
theorem dX11_votes_185 : decode cX11_votes 185 = .ok (.iload 10, 2) := by decide +kernel
theorem dX11_votes_187 : decode cX11_votes 187 = .ok (.invokestatic 128, 3) := by decide +kernel
theorem dX11_votes_190 : decode cX11_votes 190 = .ok (.istore 11, 2) := by decide +kernel
theorem dX11_votes_192 : decode cX11_votes 192 = .ok (.iconst 0, 1) := by decide +kernel
theorem dX11_votes_193 : decode cX11_votes 193 = .ok (.istore 12, 2) := by decide +kernel
theorem dX11_votes_195 : decode cX11_votes 195 = .ok (.iload 12, 2) := by decide +kernel
theorem dX11_votes_197 : decode cX11_votes 197 = .ok (.bipush 9, 2) := by decide +kernel
theorem dX11_votes_199 : decode cX11_votes 199 = .ok (.if_icmp .ge 29, 3) := by decide +kernel
theorem dX11_votes_202 : decode cX11_votes 202 = .ok (.aload_n 0, 1) := by decide +kernel
theorem dX11_votes_203 : decode cX11_votes 203 = .ok (.getfield 16, 3) := by decide +kernel
theorem dX11_votes_206 : decode cX11_votes 206 = .ok (.iload 11, 2) := by decide +kernel
theorem dX11_votes_208 : decode cX11_votes 208 = .ok (.iload 12, 2) := by decide +kernel
theorem dX11_votes_210 : decode cX11_votes 210 = .ok (.iadd, 1) := by decide +kernel
theorem dX11_votes_211 : decode cX11_votes 211 = .ok (.aload_n 0, 1) := by decide +kernel
theorem dX11_votes_212 : decode cX11_votes 212 = .ok (.getfield 16, 3) := by decide +kernel
theorem dX11_votes_215 : decode cX11_votes 215 = .ok (.iload 8, 2) := by decide +kernel
theorem dX11_votes_217 : decode cX11_votes 217 = .ok (.iload 12, 2) := by decide +kernel
theorem dX11_votes_219 : decode cX11_votes 219 = .ok (.iadd, 1) := by decide +kernel
theorem dX11_votes_220 : decode cX11_votes 220 = .ok (.iaload, 1) := by decide +kernel
theorem dX11_votes_221 : decode cX11_votes 221 = .ok (.iastore, 1) := by decide +kernel
theorem dX11_votes_222 : decode cX11_votes 222 = .ok (.iinc 12 1, 3) := by decide +kernel
theorem dX11_votes_225 : decode cX11_votes 225 = .ok (.goto (-30), 3) := by decide +kernel
theorem dX11_votes_228 : decode cX11_votes 228 = .ok (.aload_n 0, 1) := by decide +kernel
theorem dX11_votes_229 : decode cX11_votes 229 = .ok (.getfield 16, 3) := by decide +kernel
theorem dX11_votes_232 : decode cX11_votes 232 = .ok (.iload 11, 2) := by decide +kernel
theorem dX11_votes_234 : decode cX11_votes 234 = .ok (.iload_n 2, 1) := by decide +kernel
theorem dX11_votes_235 : decode cX11_votes 235 = .ok (.iadd, 1) := by decide +kernel
theorem dX11_votes_236 : decode cX11_votes 236 = .ok (.iload_n 3, 1) := by decide +kernel
theorem dX11_votes_237 : decode cX11_votes 237 = .ok (.iastore, 1) := by decide +kernel
theorem dX11_votes_238 : decode cX11_votes 238 = .ok (.aload_n 0, 1) := by decide +kernel
theorem dX11_votes_239 : decode cX11_votes 239 = .ok (.getfield 16, 3) := by decide +kernel
theorem dX11_votes_242 : decode cX11_votes 242 = .ok (.iload 11, 2) := by decide +kernel
theorem dX11_votes_244 : decode cX11_votes 244 = .ok (.bipush 6, 2) := by decide +kernel
theorem dX11_votes_246 : decode cX11_votes 246 = .ok (.iadd, 1) := by decide +kernel
theorem dX11_votes_247 : decode cX11_votes 247 = .ok (.iload 5, 2) := by decide +kernel
theorem dX11_votes_249 : decode cX11_votes 249 = .ok (.iastore, 1) := by decide +kernel
theorem dX11_votes_250 : decode cX11_votes 250 = .ok (.aload_n 0, 1) := by decide +kernel
theorem dX11_votes_251 : decode cX11_votes 251 = .ok (.getfield 16, 3) := by decide +kernel
theorem dX11_votes_254 : decode cX11_votes 254 = .ok (.iload 11, 2) := by decide +kernel
theorem dX11_votes_256 : decode cX11_votes 256 = .ok (.bipush 7, 2) := by decide +kernel
theorem dX11_votes_258 : decode cX11_votes 258 = .ok (.iadd, 1) := by decide +kernel
theorem dX11_votes_259 : decode cX11_votes 259 = .ok (.iload 6, 2) := by decide +kernel
theorem dX11_votes_261 : decode cX11_votes 261 = .ok (.iastore, 1) := by decide +kernel
theorem dX11_votes_262 : decode cX11_votes 262 = .ok (.aload_n 0, 1) := by decide +kernel
theorem dX11_votes_263 : decode cX11_votes 263 = .ok (.getfield 16, 3) := by decide +kernel
theorem dX11_votes_266 : decode cX11_votes 266 = .ok (.iload 11, 2) := by decide +kernel
theorem dX11_votes_268 : decode cX11_votes 268 = .ok (.bipush 8, 2) := by decide +kernel
theorem dX11_votes_270 : decode cX11_votes 270 = .ok (.iadd, 1) := by decide +kernel
theorem dX11_votes_271 : decode cX11_votes 271 = .ok (.dup2, 1) := by decide +kernel
theorem dX11_votes_272 : decode cX11_votes 272 = .ok (.iaload, 1) := by decide +kernel
theorem dX11_votes_273 : decode cX11_votes 273 = .ok (.iconst 1, 1) := by decide +kernel
theorem dX11_votes_274 : decode cX11_votes 274 = .ok (.iload_n 2, 1) := by decide +kernel
theorem dX11_votes_275 : decode cX11_votes 275 = .ok (.ishl, 1) := by decide +kernel
theorem dX11_votes_276 : decode cX11_votes 276 = .ok (.iconst (-1), 1) := by decide +kernel
theorem dX11_votes_277 : decode cX11_votes 277 = .ok (.ixor, 1) := by decide +kernel
theorem dX11_votes_278 : decode cX11_votes 278 = .ok (.iand, 1) := by decide +kernel
theorem dX11_votes_279 : decode cX11_votes 279 = .ok (.iastore, 1) := by decide +kernel
theorem dX11_votes_280 : decode cX11_votes 280 = .ok (.aload_n 0, 1) := by decide +kernel
theorem dX11_votes_281 : decode cX11_votes 281 = .ok (.getfield 16, 3) := by decide +kernel
theorem dX11_votes_284 : decode cX11_votes 284 = .ok (.iload 11, 2) := by decide +kernel
theorem dX11_votes_286 : decode cX11_votes 286 = .ok (.bipush 8, 2) := by decide +kernel
theorem dX11_votes_288 : decode cX11_votes 288 = .ok (.iadd, 1) := by decide +kernel
theorem dX11_votes_289 : decode cX11_votes 289 = .ok (.dup2, 1) := by decide +kernel
theorem dX11_votes_290 : decode cX11_votes 290 = .ok (.iaload, 1) := by decide +kernel
theorem dX11_votes_291 : decode cX11_votes 291 = .ok (.iload 4, 2) := by decide +kernel
theorem dX11_votes_293 : decode cX11_votes 293 = .ok (.iload_n 2, 1) := by decide +kernel
theorem dX11_votes_294 : decode cX11_votes 294 = .ok (.ishl, 1) := by decide +kernel
theorem dX11_votes_295 : decode cX11_votes 295 = .ok (.ior, 1) := by decide +kernel
theorem dX11_votes_296 : decode cX11_votes 296 = .ok (.iastore, 1) := by decide +kernel
theorem dX11_votes_297 : decode cX11_votes 297 = .ok (.aload_n 0, 1) := by decide +kernel
theorem dX11_votes_298 : decode cX11_votes 298 = .ok (.getfield 16, 3) := by decide +kernel
theorem dX11_votes_301 : decode cX11_votes 301 = .ok (.bipush 30, 2) := by decide +kernel
theorem dX11_votes_303 : decode cX11_votes 303 = .ok (.dup2, 1) := by decide +kernel
theorem dX11_votes_304 : decode cX11_votes 304 = .ok (.iaload, 1) := by decide +kernel
theorem dX11_votes_305 : decode cX11_votes 305 = .ok (.iconst 1, 1) := by decide +kernel
theorem dX11_votes_306 : decode cX11_votes 306 = .ok (.iadd, 1) := by decide +kernel
theorem dX11_votes_307 : decode cX11_votes 307 = .ok (.iastore, 1) := by decide +kernel
theorem dX11_votes_308 : decode cX11_votes 308 = .ok (.aload_n 0, 1) := by decide +kernel
theorem dX11_votes_309 : decode cX11_votes 309 = .ok (.iload 7, 2) := by decide +kernel
theorem dX11_votes_311 : decode cX11_votes 311 = .ok (.iload 10, 2) := by decide +kernel
theorem dX11_votes_313 : decode cX11_votes 313 = .ok (.aload_n 0, 1) := by decide +kernel
theorem dX11_votes_314 : decode cX11_votes 314 = .ok (.iload 7, 2) := by decide +kernel
theorem dX11_votes_316 : decode cX11_votes 316 = .ok (.bipush 12, 2) := by decide +kernel
theorem dX11_votes_318 : decode cX11_votes 318 = .ok (.invokevirtual 135, 3) := by decide +kernel
theorem dX11_votes_321 : decode cX11_votes 321 = .ok (.iload 9, 2) := by decide +kernel
theorem dX11_votes_323 : decode cX11_votes 323 = .ok (.invokevirtual 160, 3) := by decide +kernel
theorem dX11_votes_326 : decode cX11_votes 326 = .ok (.iload 10, 2) := by decide +kernel
theorem dX11_votes_328 : decode cX11_votes 328 = .ok (.ireturn, 1) := by decide +kernel
theorem dX11_flips_0 : decode cX11_flips 0 = .ok (.aload_n 0, 1) := by decide +kernel
theorem dX11_flips_1 : decode cX11_flips 1 = .ok (.iconst 0, 1) := by decide +kernel
theorem dX11_flips_2 : decode cX11_flips 2 = .ok (.putfield 50, 3) := by decide +kernel
theorem dX11_flips_5 : decode cX11_flips 5 = .ok (.aload_n 0, 1) := by decide +kernel
theorem dX11_flips_6 : decode cX11_flips 6 = .ok (.iload_n 1, 1) := by decide +kernel
theorem dX11_flips_7 : decode cX11_flips 7 = .ok (.invokevirtual 164, 3) := by decide +kernel
theorem dX11_flips_10 : decode cX11_flips 10 = .ok (.ifCond .ne 5, 3) := by decide +kernel
theorem dX11_flips_13 : decode cX11_flips 13 = .ok (.iconst (-1), 1) := by decide +kernel
theorem dX11_flips_14 : decode cX11_flips 14 = .ok (.ireturn, 1) := by decide +kernel
theorem dX11_flips_15 : decode cX11_flips 15 = .ok (.aload_n 0, 1) := by decide +kernel
theorem dX11_flips_16 : decode cX11_flips 16 = .ok (.invokevirtual 157, 3) := by decide +kernel
theorem dX11_flips_19 : decode cX11_flips 19 = .ok (.aload_n 0, 1) := by decide +kernel
theorem dX11_flips_20 : decode cX11_flips 20 = .ok (.getfield 16, 3) := by decide +kernel
theorem dX11_flips_23 : decode cX11_flips 23 = .ok (.iconst 0, 1) := by decide +kernel
theorem dX11_flips_24 : decode cX11_flips 24 = .ok (.iload_n 1, 1) := by decide +kernel
theorem dX11_flips_25 : decode cX11_flips 25 = .ok (.iadd, 1) := by decide +kernel
theorem dX11_flips_26 : decode cX11_flips 26 = .ok (.iconst 1, 1) := by decide +kernel
theorem dX11_flips_27 : decode cX11_flips 27 = .ok (.aload_n 0, 1) := by decide +kernel
theorem dX11_flips_28 : decode cX11_flips 28 = .ok (.getfield 16, 3) := by decide +kernel
theorem dX11_flips_31 : decode cX11_flips 31 = .ok (.iconst 0, 1) := by decide +kernel
theorem dX11_flips_32 : decode cX11_flips 32 = .ok (.iload_n 1, 1) := by decide +kernel
theorem dX11_flips_33 : decode cX11_flips 33 = .ok (.iadd, 1) := by decide +kernel
theorem dX11_flips_34 : decode cX11_flips 34 = .ok (.iaload, 1) := by decide +kernel
theorem dX11_flips_35 : decode cX11_flips 35 = .ok (.isub, 1) := by decide +kernel
theorem dX11_flips_36 : decode cX11_flips 36 = .ok (.iastore, 1) := by decide +kernel
theorem dX11_flips_37 : decode cX11_flips 37 = .ok (.aload_n 0, 1) := by decide +kernel
theorem dX11_flips_38 : decode cX11_flips 38 = .ok (.getfield 16, 3) := by decide +kernel
theorem dX11_flips_41 : decode cX11_flips 41 = .ok (.iconst 0, 1) := by decide +kernel
theorem dX11_flips_42 : decode cX11_flips 42 = .ok (.iload_n 1, 1) := by decide +kernel
theorem dX11_flips_43 : decode cX11_flips 43 = .ok (.iadd, 1) := by decide +kernel
theorem dX11_flips_44 : decode cX11_flips 44 = .ok (.iaload, 1) := by decide +kernel
theorem dX11_flips_45 : decode cX11_flips 45 = .ok (.ireturn, 1) := by decide +kernel
theorem dX11_moves_0 : decode cX11_moves 0 = .ok (.aload_n 0, 1) := by decide +kernel
theorem dX11_moves_1 : decode cX11_moves 1 = .ok (.iconst 0, 1) := by decide +kernel
theorem dX11_moves_2 : decode cX11_moves 2 = .ok (.putfield 50, 3) := by decide +kernel
theorem dX11_moves_5 : decode cX11_moves 5 = .ok (.aload_n 0, 1) := by decide +kernel
theorem dX11_moves_6 : decode cX11_moves 6 = .ok (.iload_n 1, 1) := by decide +kernel
theorem dX11_moves_7 : decode cX11_moves 7 = .ok (.invokevirtual 164, 3) := by decide +kernel
theorem dX11_moves_10 : decode cX11_moves 10 = .ok (.ifCond .eq 10, 3) := by decide +kernel
theorem dX11_moves_13 : decode cX11_moves 13 = .ok (.iload_n 2, 1) := by decide +kernel
theorem dX11_moves_14 : decode cX11_moves 14 = .ok (.invokestatic 141, 3) := by decide +kernel
theorem dX11_moves_17 : decode cX11_moves 17 = .ok (.ifCond .ne 5, 3) := by decide +kernel
theorem dX11_moves_20 : decode cX11_moves 20 = .ok (.iconst (-1), 1) := by decide +kernel
theorem dX11_moves_21 : decode cX11_moves 21 = .ok (.ireturn, 1) := by decide +kernel
theorem dX11_moves_22 : decode cX11_moves 22 = .ok (.aload_n 0, 1) := by decide +kernel
theorem dX11_moves_23 : decode cX11_moves 23 = .ok (.getfield 16, 3) := by decide +kernel
theorem dX11_moves_26 : decode cX11_moves 26 = .ok (.bipush 6, 2) := by decide +kernel
theorem dX11_moves_28 : decode cX11_moves 28 = .ok (.iload_n 1, 1) := by decide +kernel
theorem dX11_moves_29 : decode cX11_moves 29 = .ok (.iadd, 1) := by decide +kernel
theorem dX11_moves_30 : decode cX11_moves 30 = .ok (.iaload, 1) := by decide +kernel
theorem dX11_moves_31 : decode cX11_moves 31 = .ok (.istore_n 3, 1) := by decide +kernel
theorem dX11_moves_32 : decode cX11_moves 32 = .ok (.iload_n 3, 1) := by decide +kernel
theorem dX11_moves_33 : decode cX11_moves 33 = .ok (.iload_n 2, 1) := by decide +kernel
theorem dX11_moves_34 : decode cX11_moves 34 = .ok (.if_icmp .ne 6, 3) := by decide +kernel
theorem dX11_moves_37 : decode cX11_moves 37 = .ok (.bipush (-2), 2) := by decide +kernel
theorem dX11_moves_39 : decode cX11_moves 39 = .ok (.ireturn, 1) := by decide +kernel
theorem dX11_moves_40 : decode cX11_moves 40 = .ok (.aload_n 0, 1) := by decide +kernel
theorem dX11_moves_41 : decode cX11_moves 41 = .ok (.invokevirtual 157, 3) := by decide +kernel
theorem dX11_moves_44 : decode cX11_moves 44 = .ok (.aload_n 0, 1) := by decide +kernel
theorem dX11_moves_45 : decode cX11_moves 45 = .ok (.getfield 16, 3) := by decide +kernel
theorem dX11_moves_48 : decode cX11_moves 48 = .ok (.bipush 6, 2) := by decide +kernel
theorem dX11_moves_50 : decode cX11_moves 50 = .ok (.iload_n 1, 1) := by decide +kernel
theorem dX11_moves_51 : decode cX11_moves 51 = .ok (.iadd, 1) := by decide +kernel
theorem dX11_moves_52 : decode cX11_moves 52 = .ok (.iload_n 2, 1) := by decide +kernel
theorem dX11_moves_53 : decode cX11_moves 53 = .ok (.iastore, 1) := by decide +kernel
theorem dX11_moves_54 : decode cX11_moves 54 = .ok (.iload_n 3, 1) := by decide +kernel
theorem dX11_moves_55 : decode cX11_moves 55 = .ok (.ireturn, 1) := by decide +kernel
theorem dX11_undo_0 : decode cX11_undo 0 = .ok (.aload_n 0, 1) := by decide +kernel
theorem dX11_undo_1 : decode cX11_undo 1 = .ok (.iconst 0, 1) := by decide +kernel
theorem dX11_undo_2 : decode cX11_undo 2 = .ok (.putfield 50, 3) := by decide +kernel
theorem dX11_undo_5 : decode cX11_undo 5 = .ok (.aload_n 0, 1) := by decide +kernel
theorem dX11_undo_6 : decode cX11_undo 6 = .ok (.getfield 125, 3) := by decide +kernel
theorem dX11_undo_9 : decode cX11_undo 9 = .ok (.ifCond .ne 6, 3) := by decide +kernel
theorem dX11_undo_12 : decode cX11_undo 12 = .ok (.bipush (-2), 2) := by decide +kernel
theorem dX11_undo_14 : decode cX11_undo 14 = .ok (.ireturn, 1) := by decide +kernel
theorem dX11_undo_15 : decode cX11_undo 15 = .ok (.aload_n 0, 1) := by decide +kernel
theorem dX11_undo_16 : decode cX11_undo 16 = .ok (.dup, 1) := by decide +kernel
theorem dX11_undo_17 : decode cX11_undo 17 = .ok (.getfield 125, 3) := by decide +kernel
theorem dX11_undo_20 : decode cX11_undo 20 = .ok (.iconst 1, 1) := by decide +kernel
theorem dX11_undo_21 : decode cX11_undo 21 = .ok (.isub, 1) := by decide +kernel
theorem dX11_undo_22 : decode cX11_undo 22 = .ok (.putfield 125, 3) := by decide +kernel
theorem dX11_undo_25 : decode cX11_undo 25 = .ok (.iconst 0, 1) := by decide +kernel
theorem dX11_undo_26 : decode cX11_undo 26 = .ok (.istore_n 1, 1) := by decide +kernel
theorem dX11_undo_27 : decode cX11_undo 27 = .ok (.iload_n 1, 1) := by decide +kernel
theorem dX11_undo_28 : decode cX11_undo 28 = .ok (.bipush 103, 2) := by decide +kernel
theorem dX11_undo_30 : decode cX11_undo 30 = .ok (.if_icmp .ge 29, 3) := by decide +kernel
theorem dX11_undo_33 : decode cX11_undo 33 = .ok (.aload_n 0, 1) := by decide +kernel
theorem dX11_undo_34 : decode cX11_undo 34 = .ok (.getfield 16, 3) := by decide +kernel
theorem dX11_undo_37 : decode cX11_undo 37 = .ok (.iload_n 1, 1) := by decide +kernel
theorem dX11_undo_38 : decode cX11_undo 38 = .ok (.aload_n 0, 1) := by decide +kernel
theorem dX11_undo_39 : decode cX11_undo 39 = .ok (.getfield 19, 3) := by decide +kernel
theorem dX11_undo_42 : decode cX11_undo 42 = .ok (.bipush 103, 2) := by decide +kernel
theorem dX11_undo_44 : decode cX11_undo 44 = .ok (.aload_n 0, 1) := by decide +kernel
theorem dX11_undo_45 : decode cX11_undo 45 = .ok (.getfield 125, 3) := by decide +kernel
theorem dX11_undo_48 : decode cX11_undo 48 = .ok (.imul, 1) := by decide +kernel
theorem dX11_undo_49 : decode cX11_undo 49 = .ok (.iload_n 1, 1) := by decide +kernel
theorem dX11_undo_50 : decode cX11_undo 50 = .ok (.iadd, 1) := by decide +kernel
theorem dX11_undo_51 : decode cX11_undo 51 = .ok (.iaload, 1) := by decide +kernel
theorem dX11_undo_52 : decode cX11_undo 52 = .ok (.iastore, 1) := by decide +kernel
theorem dX11_undo_53 : decode cX11_undo 53 = .ok (.iinc 1 1, 3) := by decide +kernel
theorem dX11_undo_56 : decode cX11_undo 56 = .ok (.goto (-29), 3) := by decide +kernel
theorem dX11_undo_59 : decode cX11_undo 59 = .ok (.aload_n 0, 1) := by decide +kernel
theorem dX11_undo_60 : decode cX11_undo 60 = .ok (.getfield 125, 3) := by decide +kernel
theorem dX11_undo_63 : decode cX11_undo 63 = .ok (.ireturn, 1) := by decide +kernel
theorem dX11_copy_0 : decode cX11_copy 0 = .ok (.aload_n 0, 1) := by decide +kernel
theorem dX11_copy_1 : decode cX11_copy 1 = .ok (.iconst 0, 1) := by decide +kernel
theorem dX11_copy_2 : decode cX11_copy 2 = .ok (.putfield 50, 3) := by decide +kernel
theorem dX11_copy_5 : decode cX11_copy 5 = .ok (.aload_n 0, 1) := by decide +kernel
theorem dX11_copy_6 : decode cX11_copy 6 = .ok (.iload_n 1, 1) := by decide +kernel
theorem dX11_copy_7 : decode cX11_copy 7 = .ok (.invokevirtual 164, 3) := by decide +kernel
theorem dX11_copy_10 : decode cX11_copy 10 = .ok (.ifCond .eq 13, 3) := by decide +kernel
theorem dX11_copy_13 : decode cX11_copy 13 = .ok (.iload_n 2, 1) := by decide +kernel
theorem dX11_copy_14 : decode cX11_copy 14 = .ok (.iconst 0, 1) := by decide +kernel
theorem dX11_copy_15 : decode cX11_copy 15 = .ok (.bipush 6, 2) := by decide +kernel
theorem dX11_copy_17 : decode cX11_copy 17 = .ok (.invokestatic 54, 3) := by decide +kernel
theorem dX11_copy_20 : decode cX11_copy 20 = .ok (.ifCond .ne 5, 3) := by decide +kernel
theorem dX11_copy_23 : decode cX11_copy 23 = .ok (.iconst (-1), 1) := by decide +kernel
theorem dX11_copy_24 : decode cX11_copy 24 = .ok (.ireturn, 1) := by decide +kernel
theorem dX11_copy_25 : decode cX11_copy 25 = .ok (.iload_n 2, 1) := by decide +kernel
theorem dX11_copy_26 : decode cX11_copy 26 = .ok (.iconst 5, 1) := by decide +kernel
theorem dX11_copy_27 : decode cX11_copy 27 = .ok (.if_icmp .ge 17, 3) := by decide +kernel
theorem dX11_copy_30 : decode cX11_copy 30 = .ok (.aload_n 0, 1) := by decide +kernel
theorem dX11_copy_31 : decode cX11_copy 31 = .ok (.getfield 16, 3) := by decide +kernel
theorem dX11_copy_34 : decode cX11_copy 34 = .ok (.bipush 6, 2) := by decide +kernel
theorem dX11_copy_36 : decode cX11_copy 36 = .ok (.iload_n 2, 1) := by decide +kernel
theorem dX11_copy_37 : decode cX11_copy 37 = .ok (.imul, 1) := by decide +kernel
theorem dX11_copy_38 : decode cX11_copy 38 = .ok (.iload_n 1, 1) := by decide +kernel
theorem dX11_copy_39 : decode cX11_copy 39 = .ok (.iadd, 1) := by decide +kernel
theorem dX11_copy_40 : decode cX11_copy 40 = .ok (.iaload, 1) := by decide +kernel
theorem dX11_copy_41 : decode cX11_copy 41 = .ok (.goto 38, 3) := by decide +kernel
theorem dX11_copy_44 : decode cX11_copy 44 = .ok (.iload_n 2, 1) := by decide +kernel
theorem dX11_copy_45 : decode cX11_copy 45 = .ok (.iconst 5, 1) := by decide +kernel
theorem dX11_copy_46 : decode cX11_copy 46 = .ok (.if_icmp .ne 17, 3) := by decide +kernel
theorem dX11_copy_49 : decode cX11_copy 49 = .ok (.aload_n 0, 1) := by decide +kernel
theorem dX11_copy_50 : decode cX11_copy 50 = .ok (.getfield 16, 3) := by decide +kernel
theorem dX11_copy_53 : decode cX11_copy 53 = .ok (.aload_n 0, 1) := by decide +kernel
theorem dX11_copy_54 : decode cX11_copy 54 = .ok (.invokevirtual 167, 3) := by decide +kernel
theorem dX11_copy_57 : decode cX11_copy 57 = .ok (.iload_n 1, 1) := by decide +kernel
theorem dX11_copy_58 : decode cX11_copy 58 = .ok (.iadd, 1) := by decide +kernel
theorem dX11_copy_59 : decode cX11_copy 59 = .ok (.iaload, 1) := by decide +kernel
theorem dX11_copy_60 : decode cX11_copy 60 = .ok (.goto 19, 3) := by decide +kernel
theorem dX11_copy_63 : decode cX11_copy 63 = .ok (.aload_n 0, 1) := by decide +kernel
theorem dX11_copy_64 : decode cX11_copy 64 = .ok (.getfield 16, 3) := by decide +kernel
theorem dX11_copy_67 : decode cX11_copy 67 = .ok (.aload_n 0, 1) := by decide +kernel
theorem dX11_copy_68 : decode cX11_copy 68 = .ok (.invokevirtual 167, 3) := by decide +kernel
theorem dX11_copy_71 : decode cX11_copy 71 = .ok (.bipush 8, 2) := by decide +kernel
theorem dX11_copy_73 : decode cX11_copy 73 = .ok (.iadd, 1) := by decide +kernel
theorem dX11_copy_74 : decode cX11_copy 74 = .ok (.iaload, 1) := by decide +kernel
theorem dX11_copy_75 : decode cX11_copy 75 = .ok (.iload_n 1, 1) := by decide +kernel
theorem dX11_copy_76 : decode cX11_copy 76 = .ok (.ishr, 1) := by decide +kernel
theorem dX11_copy_77 : decode cX11_copy 77 = .ok (.iconst 1, 1) := by decide +kernel
theorem dX11_copy_78 : decode cX11_copy 78 = .ok (.iand, 1) := by decide +kernel
theorem dX11_copy_79 : decode cX11_copy 79 = .ok (.ireturn, 1) := by decide +kernel
theorem dX11_group_0 : decode cX11_group 0 = .ok (.aload_n 0, 1) := by decide +kernel
theorem dX11_group_1 : decode cX11_group 1 = .ok (.iconst 0, 1) := by decide +kernel
theorem dX11_group_2 : decode cX11_group 2 = .ok (.putfield 50, 3) := by decide +kernel
theorem dX11_group_5 : decode cX11_group 5 = .ok (.iload_n 1, 1) := by decide +kernel
theorem dX11_group_6 : decode cX11_group 6 = .ok (.invokestatic 141, 3) := by decide +kernel
theorem dX11_group_9 : decode cX11_group 9 = .ok (.ifCond .eq 13, 3) := by decide +kernel
theorem dX11_group_12 : decode cX11_group 12 = .ok (.iload_n 2, 1) := by decide +kernel
theorem dX11_group_13 : decode cX11_group 13 = .ok (.iconst 0, 1) := by decide +kernel
theorem dX11_group_14 : decode cX11_group 14 = .ok (.bipush 7, 2) := by decide +kernel
theorem dX11_group_16 : decode cX11_group 16 = .ok (.invokestatic 54, 3) := by decide +kernel
theorem dX11_group_19 : decode cX11_group 19 = .ok (.ifCond .ne 5, 3) := by decide +kernel
theorem dX11_group_22 : decode cX11_group 22 = .ok (.iconst (-1), 1) := by decide +kernel
theorem dX11_group_23 : decode cX11_group 23 = .ok (.ireturn, 1) := by decide +kernel
theorem dX11_group_24 : decode cX11_group 24 = .ok (.aload_n 0, 1) := by decide +kernel
theorem dX11_group_25 : decode cX11_group 25 = .ok (.iload_n 1, 1) := by decide +kernel
theorem dX11_group_26 : decode cX11_group 26 = .ok (.invokevirtual 145, 3) := by decide +kernel
theorem dX11_group_29 : decode cX11_group 29 = .ok (.istore_n 3, 1) := by decide +kernel
theorem dX11_group_30 : decode cX11_group 30 = .ok (.iload_n 2, 1) := by decide +kernel
theorem dX11_group_31 : decode cX11_group 31 = .ok (.ifCond .eq 7, 3) := by decide +kernel
theorem dX11_group_34 : decode cX11_group 34 = .ok (.iload_n 3, 1) := by decide +kernel
theorem dX11_group_35 : decode cX11_group 35 = .ok (.ifCond .ne 28, 3) := by decide +kernel
theorem dX11_group_38 : decode cX11_group 38 = .ok (.iload_n 2, 1) := by decide +kernel
theorem dX11_group_39 : decode cX11_group 39 = .ok (.iconst 1, 1) := by decide +kernel
theorem dX11_group_40 : decode cX11_group 40 = .ok (.if_icmp .eq 8, 3) := by decide +kernel
theorem dX11_group_43 : decode cX11_group 43 = .ok (.iload_n 2, 1) := by decide +kernel
theorem dX11_group_44 : decode cX11_group 44 = .ok (.iconst 3, 1) := by decide +kernel
theorem dX11_group_45 : decode cX11_group 45 = .ok (.if_icmp .ne 8, 3) := by decide +kernel
theorem dX11_group_48 : decode cX11_group 48 = .ok (.bipush (-9), 2) := by decide +kernel
theorem dX11_group_50 : decode cX11_group 50 = .ok (.goto 12, 3) := by decide +kernel
theorem dX11_group_53 : decode cX11_group 53 = .ok (.iload_n 2, 1) := by decide +kernel
theorem dX11_group_54 : decode cX11_group 54 = .ok (.ifCond .ne 7, 3) := by decide +kernel
theorem dX11_group_57 : decode cX11_group 57 = .ok (.iload_n 3, 1) := by decide +kernel
theorem dX11_group_58 : decode cX11_group 58 = .ok (.goto 4, 3) := by decide +kernel
theorem dX11_group_61 : decode cX11_group 61 = .ok (.iconst 0, 1) := by decide +kernel
theorem dX11_group_62 : decode cX11_group 62 = .ok (.ireturn, 1) := by decide +kernel
theorem dX11_group_63 : decode cX11_group 63 = .ok (.aload_n 0, 1) := by decide +kernel
theorem dX11_group_64 : decode cX11_group 64 = .ok (.iload_n 3, 1) := by decide +kernel
theorem dX11_group_65 : decode cX11_group 65 = .ok (.invokevirtual 151, 3) := by decide +kernel
theorem dX11_group_68 : decode cX11_group 68 = .ok (.bipush (-9), 2) := by decide +kernel
theorem dX11_group_70 : decode cX11_group 70 = .ok (.if_icmp .eq 7, 3) := by decide +kernel
theorem dX11_group_73 : decode cX11_group 73 = .ok (.iconst 1, 1) := by decide +kernel
theorem dX11_group_74 : decode cX11_group 74 = .ok (.goto 4, 3) := by decide +kernel
theorem dX11_group_77 : decode cX11_group 77 = .ok (.iconst 0, 1) := by decide +kernel
theorem dX11_group_78 : decode cX11_group 78 = .ok (.istore 4, 2) := by decide +kernel
theorem dX11_group_80 : decode cX11_group 80 = .ok (.iload_n 2, 1) := by decide +kernel
theorem dX11_group_81 : decode cX11_group 81 = .ok (.iconst 4, 1) := by decide +kernel
theorem dX11_group_82 : decode cX11_group 82 = .ok (.if_icmp .ge 49, 3) := by decide +kernel
theorem dX11_group_85 : decode cX11_group 85 = .ok (.iload_n 2, 1) := by decide +kernel
theorem dX11_group_86 : decode cX11_group 86 = .ok (.iconst 1, 1) := by decide +kernel
theorem dX11_group_87 : decode cX11_group 87 = .ok (.if_icmp .ne 13, 3) := by decide +kernel
theorem dX11_group_90 : decode cX11_group 90 = .ok (.aload_n 0, 1) := by decide +kernel
theorem dX11_group_91 : decode cX11_group 91 = .ok (.iload_n 3, 1) := by decide +kernel
theorem dX11_group_92 : decode cX11_group 92 = .ok (.bipush 24, 2) := by decide +kernel
theorem dX11_group_94 : decode cX11_group 94 = .ok (.invokevirtual 135, 3) := by decide +kernel
theorem dX11_group_97 : decode cX11_group 97 = .ok (.goto 33, 3) := by decide +kernel
theorem dX11_group_100 : decode cX11_group 100 = .ok (.iload_n 2, 1) := by decide +kernel
theorem dX11_group_101 : decode cX11_group 101 = .ok (.iconst 2, 1) := by decide +kernel
theorem dX11_group_102 : decode cX11_group 102 = .ok (.if_icmp .ne 21, 3) := by decide +kernel
theorem dX11_group_105 : decode cX11_group 105 = .ok (.aload_n 0, 1) := by decide +kernel
theorem dX11_group_106 : decode cX11_group 106 = .ok (.iload_n 3, 1) := by decide +kernel
theorem dX11_group_107 : decode cX11_group 107 = .ok (.aload_n 0, 1) := by decide +kernel
theorem dX11_group_108 : decode cX11_group 108 = .ok (.iload_n 3, 1) := by decide +kernel
theorem dX11_group_109 : decode cX11_group 109 = .ok (.bipush 24, 2) := by decide +kernel
theorem dX11_group_111 : decode cX11_group 111 = .ok (.invokevirtual 135, 3) := by decide +kernel
theorem dX11_group_114 : decode cX11_group 114 = .ok (.invokestatic 128, 3) := by decide +kernel
theorem dX11_group_117 : decode cX11_group 117 = .ok (.invokevirtual 138, 3) := by decide +kernel
theorem dX11_group_120 : decode cX11_group 120 = .ok (.goto 10, 3) := by decide +kernel
theorem dX11_group_123 : decode cX11_group 123 = .ok (.aload_n 0, 1) := by decide +kernel
theorem dX11_group_124 : decode cX11_group 124 = .ok (.iload_n 3, 1) := by decide +kernel
theorem dX11_group_125 : decode cX11_group 125 = .ok (.bipush 12, 2) := by decide +kernel
theorem dX11_group_127 : decode cX11_group 127 = .ok (.invokevirtual 135, 3) := by decide +kernel
theorem dX11_group_130 : decode cX11_group 130 = .ok (.ireturn, 1) := by decide +kernel
theorem dX11_group_131 : decode cX11_group 131 = .ok (.iload_n 2, 1) := by decide +kernel
theorem dX11_group_132 : decode cX11_group 132 = .ok (.iconst 4, 1) := by decide +kernel
theorem dX11_group_133 : decode cX11_group 133 = .ok (.if_icmp .ne 8, 3) := by decide +kernel
theorem dX11_group_136 : decode cX11_group 136 = .ok (.iload 4, 2) := by decide +kernel
theorem dX11_group_138 : decode cX11_group 138 = .ok (.goto 69, 3) := by decide +kernel
theorem dX11_group_141 : decode cX11_group 141 = .ok (.iload_n 2, 1) := by decide +kernel
theorem dX11_group_142 : decode cX11_group 142 = .ok (.iconst 5, 1) := by decide +kernel
theorem dX11_group_143 : decode cX11_group 143 = .ok (.if_icmp .ne 26, 3) := by decide +kernel
theorem dX11_group_146 : decode cX11_group 146 = .ok (.iload 4, 2) := by decide +kernel
theorem dX11_group_148 : decode cX11_group 148 = .ok (.ifCond .eq 17, 3) := by decide +kernel
theorem dX11_group_151 : decode cX11_group 151 = .ok (.aload_n 0, 1) := by decide +kernel
theorem dX11_group_152 : decode cX11_group 152 = .ok (.iload_n 3, 1) := by decide +kernel
theorem dX11_group_153 : decode cX11_group 153 = .ok (.bipush 6, 2) := by decide +kernel
theorem dX11_group_155 : decode cX11_group 155 = .ok (.invokevirtual 148, 3) := by decide +kernel
theorem dX11_group_158 : decode cX11_group 158 = .ok (.ifCond .eq 7, 3) := by decide +kernel
theorem dX11_group_161 : decode cX11_group 161 = .ok (.iconst 1, 1) := by decide +kernel
theorem dX11_group_162 : decode cX11_group 162 = .ok (.goto 45, 3) := by decide +kernel
theorem dX11_group_165 : decode cX11_group 165 = .ok (.iconst 0, 1) := by decide +kernel
theorem dX11_group_166 : decode cX11_group 166 = .ok (.goto 41, 3) := by decide +kernel
theorem dX11_group_169 : decode cX11_group 169 = .ok (.aload_n 0, 1) := by decide +kernel
theorem dX11_group_170 : decode cX11_group 170 = .ok (.iload_n 3, 1) := by decide +kernel
theorem dX11_group_171 : decode cX11_group 171 = .ok (.bipush 7, 2) := by decide +kernel
theorem dX11_group_173 : decode cX11_group 173 = .ok (.invokevirtual 148, 3) := by decide +kernel
theorem dX11_group_176 : decode cX11_group 176 = .ok (.ifCond .eq 30, 3) := by decide +kernel
theorem dX11_group_179 : decode cX11_group 179 = .ok (.iload_n 2, 1) := by decide +kernel
theorem dX11_group_180 : decode cX11_group 180 = .ok (.bipush 6, 2) := by decide +kernel
theorem dX11_group_182 : decode cX11_group 182 = .ok (.if_icmp .eq 20, 3) := by decide +kernel
theorem dX11_group_185 : decode cX11_group 185 = .ok (.iload 4, 2) := by decide +kernel
theorem dX11_group_187 : decode cX11_group 187 = .ok (.ifCond .eq 19, 3) := by decide +kernel
theorem dX11_group_190 : decode cX11_group 190 = .ok (.aload_n 0, 1) := by decide +kernel
theorem dX11_group_191 : decode cX11_group 191 = .ok (.getfield 16, 3) := by decide +kernel
theorem dX11_group_194 : decode cX11_group 194 = .ok (.bipush 30, 2) := by decide +kernel
theorem dX11_group_196 : decode cX11_group 196 = .ok (.iaload, 1) := by decide +kernel
theorem dX11_group_197 : decode cX11_group 197 = .ok (.bipush 8, 2) := by decide +kernel
theorem dX11_group_199 : decode cX11_group 199 = .ok (.if_icmp .ge 7, 3) := by decide +kernel
theorem dX11_group_202 : decode cX11_group 202 = .ok (.iconst 1, 1) := by decide +kernel
theorem dX11_group_203 : decode cX11_group 203 = .ok (.goto 4, 3) := by decide +kernel
theorem dX11_group_206 : decode cX11_group 206 = .ok (.iconst 0, 1) := by decide +kernel
theorem dX11_group_207 : decode cX11_group 207 = .ok (.istore 5, 2) := by decide +kernel
theorem dX11_group_209 : decode cX11_group 209 = .ok (.iload 5, 2) := by decide +kernel
theorem dX11_group_211 : decode cX11_group 211 = .ok (.ifCond .eq 7, 3) := by decide +kernel
theorem dX11_group_214 : decode cX11_group 214 = .ok (.iconst 1, 1) := by decide +kernel
theorem dX11_group_215 : decode cX11_group 215 = .ok (.goto 4, 3) := by decide +kernel
theorem dX11_group_218 : decode cX11_group 218 = .ok (.iconst 0, 1) := by decide +kernel
theorem dX11_group_219 : decode cX11_group 219 = .ok (.ireturn, 1) := by decide +kernel
theorem dX11_asked_0 : decode cX11_asked 0 = .ok (.aload_n 0, 1) := by decide +kernel
theorem dX11_asked_1 : decode cX11_asked 1 = .ok (.iconst 0, 1) := by decide +kernel
theorem dX11_asked_2 : decode cX11_asked 2 = .ok (.putfield 50, 3) := by decide +kernel
theorem dX11_asked_5 : decode cX11_asked 5 = .ok (.aload_n 0, 1) := by decide +kernel
theorem dX11_asked_6 : decode cX11_asked 6 = .ok (.getfield 154, 3) := by decide +kernel
theorem dX11_asked_9 : decode cX11_asked 9 = .ok (.ireturn, 1) := by decide +kernel
theorem dX11_gcd_0 : decode cX11_gcd 0 = .ok (.iload_n 0, 1) := by decide +kernel
theorem dX11_gcd_1 : decode cX11_gcd 1 = .ok (.istore_n 2, 1) := by decide +kernel
theorem dX11_gcd_2 : decode cX11_gcd 2 = .ok (.iload_n 1, 1) := by decide +kernel
theorem dX11_gcd_3 : decode cX11_gcd 3 = .ok (.istore_n 3, 1) := by decide +kernel
theorem dX11_gcd_4 : decode cX11_gcd 4 = .ok (.iload_n 3, 1) := by decide +kernel
theorem dX11_gcd_5 : decode cX11_gcd 5 = .ok (.ifCond .eq 16, 3) := by decide +kernel
theorem dX11_gcd_8 : decode cX11_gcd 8 = .ok (.iload_n 2, 1) := by decide +kernel
theorem dX11_gcd_9 : decode cX11_gcd 9 = .ok (.iload_n 3, 1) := by decide +kernel
theorem dX11_gcd_10 : decode cX11_gcd 10 = .ok (.irem, 1) := by decide +kernel
theorem dX11_gcd_11 : decode cX11_gcd 11 = .ok (.istore 4, 2) := by decide +kernel
theorem dX11_gcd_13 : decode cX11_gcd 13 = .ok (.iload_n 3, 1) := by decide +kernel
theorem dX11_gcd_14 : decode cX11_gcd 14 = .ok (.istore_n 2, 1) := by decide +kernel
theorem dX11_gcd_15 : decode cX11_gcd 15 = .ok (.iload 4, 2) := by decide +kernel
theorem dX11_gcd_17 : decode cX11_gcd 17 = .ok (.istore_n 3, 1) := by decide +kernel
theorem dX11_gcd_18 : decode cX11_gcd 18 = .ok (.goto (-14), 3) := by decide +kernel
theorem dX11_gcd_21 : decode cX11_gcd 21 = .ok (.iload_n 2, 1) := by decide +kernel
theorem dX11_gcd_22 : decode cX11_gcd 22 = .ok (.ireturn, 1) := by decide +kernel
theorem dX11_partOf_0 : decode cX11_partOf 0 = .ok (.iconst 1, 1) := by decide +kernel
theorem dX11_partOf_1 : decode cX11_partOf 1 = .ok (.istore_n 3, 1) := by decide +kernel
theorem dX11_partOf_2 : decode cX11_partOf 2 = .ok (.iconst 0, 1) := by decide +kernel
theorem dX11_partOf_3 : decode cX11_partOf 3 = .ok (.istore 4, 2) := by decide +kernel
theorem dX11_partOf_5 : decode cX11_partOf 5 = .ok (.iload 4, 2) := by decide +kernel
theorem dX11_partOf_7 : decode cX11_partOf 7 = .ok (.aload_n 0, 1) := by decide +kernel
theorem dX11_partOf_8 : decode cX11_partOf 8 = .ok (.getfield 119, 3) := by decide +kernel
theorem dX11_partOf_11 : decode cX11_partOf 11 = .ok (.if_icmp .ge 29, 3) := by decide +kernel
theorem dX11_partOf_14 : decode cX11_partOf 14 = .ok (.iload_n 3, 1) := by decide +kernel
theorem dX11_partOf_15 : decode cX11_partOf 15 = .ok (.iload_n 1, 1) := by decide +kernel
theorem dX11_partOf_16 : decode cX11_partOf 16 = .ok (.iload 4, 2) := by decide +kernel
theorem dX11_partOf_18 : decode cX11_partOf 18 = .ok (.invokestatic 131, 3) := by decide +kernel
theorem dX11_partOf_21 : decode cX11_partOf 21 = .ok (.ifCond .eq 7, 3) := by decide +kernel
theorem dX11_partOf_24 : decode cX11_partOf 24 = .ok (.iload_n 2, 1) := by decide +kernel
theorem dX11_partOf_25 : decode cX11_partOf 25 = .ok (.goto 7, 3) := by decide +kernel
theorem dX11_partOf_28 : decode cX11_partOf 28 = .ok (.bipush 10, 2) := by decide +kernel
theorem dX11_partOf_30 : decode cX11_partOf 30 = .ok (.iload_n 2, 1) := by decide +kernel
theorem dX11_partOf_31 : decode cX11_partOf 31 = .ok (.isub, 1) := by decide +kernel
theorem dX11_partOf_32 : decode cX11_partOf 32 = .ok (.imul, 1) := by decide +kernel
theorem dX11_partOf_33 : decode cX11_partOf 33 = .ok (.istore_n 3, 1) := by decide +kernel
theorem dX11_partOf_34 : decode cX11_partOf 34 = .ok (.iinc 4 1, 3) := by decide +kernel
theorem dX11_partOf_37 : decode cX11_partOf 37 = .ok (.goto (-32), 3) := by decide +kernel
theorem dX11_partOf_40 : decode cX11_partOf 40 = .ok (.iload_n 3, 1) := by decide +kernel
theorem dX11_partOf_41 : decode cX11_partOf 41 = .ok (.ireturn, 1) := by decide +kernel
theorem dX11_wholeOf_0 : decode cX11_wholeOf 0 = .ok (.iconst 1, 1) := by decide +kernel
theorem dX11_wholeOf_1 : decode cX11_wholeOf 1 = .ok (.istore_n 1, 1) := by decide +kernel
theorem dX11_wholeOf_2 : decode cX11_wholeOf 2 = .ok (.iconst 0, 1) := by decide +kernel
theorem dX11_wholeOf_3 : decode cX11_wholeOf 3 = .ok (.istore_n 2, 1) := by decide +kernel
theorem dX11_wholeOf_4 : decode cX11_wholeOf 4 = .ok (.iload_n 2, 1) := by decide +kernel
theorem dX11_wholeOf_5 : decode cX11_wholeOf 5 = .ok (.aload_n 0, 1) := by decide +kernel
theorem dX11_wholeOf_6 : decode cX11_wholeOf 6 = .ok (.getfield 119, 3) := by decide +kernel
theorem dX11_wholeOf_9 : decode cX11_wholeOf 9 = .ok (.if_icmp .ge 14, 3) := by decide +kernel
theorem dX11_wholeOf_12 : decode cX11_wholeOf 12 = .ok (.iload_n 1, 1) := by decide +kernel
theorem dX11_wholeOf_13 : decode cX11_wholeOf 13 = .ok (.bipush 10, 2) := by decide +kernel
theorem dX11_wholeOf_15 : decode cX11_wholeOf 15 = .ok (.imul, 1) := by decide +kernel
theorem dX11_wholeOf_16 : decode cX11_wholeOf 16 = .ok (.istore_n 1, 1) := by decide +kernel
theorem dX11_wholeOf_17 : decode cX11_wholeOf 17 = .ok (.iinc 2 1, 3) := by decide +kernel
theorem dX11_wholeOf_20 : decode cX11_wholeOf 20 = .ok (.goto (-16), 3) := by decide +kernel
theorem dX11_wholeOf_23 : decode cX11_wholeOf 23 = .ok (.iload_n 1, 1) := by decide +kernel
theorem dX11_wholeOf_24 : decode cX11_wholeOf 24 = .ok (.ireturn, 1) := by decide +kernel
theorem dX11_isEnoughNow_0 : decode cX11_isEnoughNow 0 = .ok (.aload_n 0, 1) := by decide +kernel
theorem dX11_isEnoughNow_1 : decode cX11_isEnoughNow 1 = .ok (.iload_n 1, 1) := by decide +kernel
theorem dX11_isEnoughNow_2 : decode cX11_isEnoughNow 2 = .ok (.aload_n 0, 1) := by decide +kernel
theorem dX11_isEnoughNow_3 : decode cX11_isEnoughNow 3 = .ok (.invokevirtual 167, 3) := by decide +kernel
theorem dX11_isEnoughNow_6 : decode cX11_isEnoughNow 6 = .ok (.invokevirtual 138, 3) := by decide +kernel
theorem dX11_isEnoughNow_9 : decode cX11_isEnoughNow 9 = .ok (.aload_n 0, 1) := by decide +kernel
theorem dX11_isEnoughNow_10 : decode cX11_isEnoughNow 10 = .ok (.getfield 16, 3) := by decide +kernel
theorem dX11_isEnoughNow_13 : decode cX11_isEnoughNow 13 = .ok (.aload_n 0, 1) := by decide +kernel
theorem dX11_isEnoughNow_14 : decode cX11_isEnoughNow 14 = .ok (.invokevirtual 167, 3) := by decide +kernel
theorem dX11_isEnoughNow_17 : decode cX11_isEnoughNow 17 = .ok (.iload_n 2, 1) := by decide +kernel
theorem dX11_isEnoughNow_18 : decode cX11_isEnoughNow 18 = .ok (.ifCond .ne 8, 3) := by decide +kernel
theorem dX11_isEnoughNow_21 : decode cX11_isEnoughNow 21 = .ok (.bipush 6, 2) := by decide +kernel
theorem dX11_isEnoughNow_23 : decode cX11_isEnoughNow 23 = .ok (.goto 5, 3) := by decide +kernel
theorem dX11_isEnoughNow_26 : decode cX11_isEnoughNow 26 = .ok (.bipush 7, 2) := by decide +kernel
theorem dX11_isEnoughNow_28 : decode cX11_isEnoughNow 28 = .ok (.iadd, 1) := by decide +kernel
theorem dX11_isEnoughNow_29 : decode cX11_isEnoughNow 29 = .ok (.iaload, 1) := by decide +kernel
theorem dX11_isEnoughNow_30 : decode cX11_isEnoughNow 30 = .ok (.if_icmp .lt 7, 3) := by decide +kernel
theorem dX11_isEnoughNow_33 : decode cX11_isEnoughNow 33 = .ok (.iconst 1, 1) := by decide +kernel
theorem dX11_isEnoughNow_34 : decode cX11_isEnoughNow 34 = .ok (.goto 4, 3) := by decide +kernel
theorem dX11_isEnoughNow_37 : decode cX11_isEnoughNow 37 = .ok (.iconst 0, 1) := by decide +kernel
theorem dX11_isEnoughNow_38 : decode cX11_isEnoughNow 38 = .ok (.ireturn, 1) := by decide +kernel
theorem dX11_chance_0 : decode cX11_chance 0 = .ok (.aload_n 0, 1) := by decide +kernel
theorem dX11_chance_1 : decode cX11_chance 1 = .ok (.iconst 0, 1) := by decide +kernel
theorem dX11_chance_2 : decode cX11_chance 2 = .ok (.putfield 50, 3) := by decide +kernel
theorem dX11_chance_5 : decode cX11_chance 5 = .ok (.iload_n 1, 1) := by decide +kernel
theorem dX11_chance_6 : decode cX11_chance 6 = .ok (.iconst 0, 1) := by decide +kernel
theorem dX11_chance_7 : decode cX11_chance 7 = .ok (.bipush 10, 2) := by decide +kernel
theorem dX11_chance_9 : decode cX11_chance 9 = .ok (.invokestatic 54, 3) := by decide +kernel
theorem dX11_chance_12 : decode cX11_chance 12 = .ok (.ifCond .eq 21, 3) := by decide +kernel
theorem dX11_chance_15 : decode cX11_chance 15 = .ok (.iload_n 2, 1) := by decide +kernel
theorem dX11_chance_16 : decode cX11_chance 16 = .ok (.iconst 0, 1) := by decide +kernel
theorem dX11_chance_17 : decode cX11_chance 17 = .ok (.iconst 1, 1) := by decide +kernel
theorem dX11_chance_18 : decode cX11_chance 18 = .ok (.invokestatic 54, 3) := by decide +kernel
theorem dX11_chance_21 : decode cX11_chance 21 = .ok (.ifCond .eq 12, 3) := by decide +kernel
theorem dX11_chance_24 : decode cX11_chance 24 = .ok (.iload_n 3, 1) := by decide +kernel
theorem dX11_chance_25 : decode cX11_chance 25 = .ok (.iconst 0, 1) := by decide +kernel
theorem dX11_chance_26 : decode cX11_chance 26 = .ok (.iconst 1, 1) := by decide +kernel
theorem dX11_chance_27 : decode cX11_chance 27 = .ok (.invokestatic 54, 3) := by decide +kernel
theorem dX11_chance_30 : decode cX11_chance 30 = .ok (.ifCond .ne 5, 3) := by decide +kernel
theorem dX11_chance_33 : decode cX11_chance 33 = .ok (.iconst (-1), 1) := by decide +kernel
theorem dX11_chance_34 : decode cX11_chance 34 = .ok (.ireturn, 1) := by decide +kernel
theorem dX11_chance_35 : decode cX11_chance 35 = .ok (.iconst 0, 1) := by decide +kernel
theorem dX11_chance_36 : decode cX11_chance 36 = .ok (.istore 4, 2) := by decide +kernel
theorem dX11_chance_38 : decode cX11_chance 38 = .ok (.iconst 0, 1) := by decide +kernel
theorem dX11_chance_39 : decode cX11_chance 39 = .ok (.istore 5, 2) := by decide +kernel
theorem dX11_chance_41 : decode cX11_chance 41 = .ok (.iload 5, 2) := by decide +kernel
theorem dX11_chance_43 : decode cX11_chance 43 = .ok (.iconst 1, 1) := by decide +kernel
theorem dX11_chance_44 : decode cX11_chance 44 = .ok (.aload_n 0, 1) := by decide +kernel
theorem dX11_chance_45 : decode cX11_chance 45 = .ok (.getfield 119, 3) := by decide +kernel
theorem dX11_chance_48 : decode cX11_chance 48 = .ok (.ishl, 1) := by decide +kernel
theorem dX11_chance_49 : decode cX11_chance 49 = .ok (.if_icmp .ge 35, 3) := by decide +kernel
theorem dX11_chance_52 : decode cX11_chance 52 = .ok (.iload 4, 2) := by decide +kernel
theorem dX11_chance_54 : decode cX11_chance 54 = .ok (.aload_n 0, 1) := by decide +kernel
theorem dX11_chance_55 : decode cX11_chance 55 = .ok (.iload 5, 2) := by decide +kernel
theorem dX11_chance_57 : decode cX11_chance 57 = .ok (.iload_n 2, 1) := by decide +kernel
theorem dX11_chance_58 : decode cX11_chance 58 = .ok (.invokevirtual 171, 3) := by decide +kernel
theorem dX11_chance_61 : decode cX11_chance 61 = .ok (.ifCond .eq 13, 3) := by decide +kernel
theorem dX11_chance_64 : decode cX11_chance 64 = .ok (.aload_n 0, 1) := by decide +kernel
theorem dX11_chance_65 : decode cX11_chance 65 = .ok (.iload 5, 2) := by decide +kernel
theorem dX11_chance_67 : decode cX11_chance 67 = .ok (.iload_n 1, 1) := by decide +kernel
theorem dX11_chance_68 : decode cX11_chance 68 = .ok (.invokevirtual 174, 3) := by decide +kernel
theorem dX11_chance_71 : decode cX11_chance 71 = .ok (.goto 4, 3) := by decide +kernel
theorem dX11_chance_74 : decode cX11_chance 74 = .ok (.iconst 0, 1) := by decide +kernel
theorem dX11_chance_75 : decode cX11_chance 75 = .ok (.iadd, 1) := by decide +kernel
theorem dX11_chance_76 : decode cX11_chance 76 = .ok (.istore 4, 2) := by decide +kernel
theorem dX11_chance_78 : decode cX11_chance 78 = .ok (.iinc 5 1, 3) := by decide +kernel
theorem dX11_chance_81 : decode cX11_chance 81 = .ok (.goto (-40), 3) := by decide +kernel
theorem dX11_chance_84 : decode cX11_chance 84 = .ok (.iload 4, 2) := by decide +kernel
theorem dX11_chance_86 : decode cX11_chance 86 = .ok (.aload_n 0, 1) := by decide +kernel
theorem dX11_chance_87 : decode cX11_chance 87 = .ok (.invokevirtual 177, 3) := by decide +kernel
theorem dX11_chance_90 : decode cX11_chance 90 = .ok (.invokestatic 180, 3) := by decide +kernel
theorem dX11_chance_93 : decode cX11_chance 93 = .ok (.istore 5, 2) := by decide +kernel
theorem dX11_chance_95 : decode cX11_chance 95 = .ok (.iload_n 3, 1) := by decide +kernel
theorem dX11_chance_96 : decode cX11_chance 96 = .ok (.ifCond .ne 11, 3) := by decide +kernel
theorem dX11_chance_99 : decode cX11_chance 99 = .ok (.iload 4, 2) := by decide +kernel
theorem dX11_chance_101 : decode cX11_chance 101 = .ok (.iload 5, 2) := by decide +kernel
theorem dX11_chance_103 : decode cX11_chance 103 = .ok (.idiv, 1) := by decide +kernel
theorem dX11_chance_104 : decode cX11_chance 104 = .ok (.goto 10, 3) := by decide +kernel
theorem dX11_chance_107 : decode cX11_chance 107 = .ok (.aload_n 0, 1) := by decide +kernel
theorem dX11_chance_108 : decode cX11_chance 108 = .ok (.invokevirtual 177, 3) := by decide +kernel
theorem dX11_chance_111 : decode cX11_chance 111 = .ok (.iload 5, 2) := by decide +kernel
theorem dX11_chance_113 : decode cX11_chance 113 = .ok (.idiv, 1) := by decide +kernel
theorem dX11_chance_114 : decode cX11_chance 114 = .ok (.ireturn, 1) := by decide +kernel
theorem dX11_least_0 : decode cX11_least 0 = .ok (.aload_n 0, 1) := by decide +kernel
theorem dX11_least_1 : decode cX11_least 1 = .ok (.iconst 0, 1) := by decide +kernel
theorem dX11_least_2 : decode cX11_least 2 = .ok (.putfield 50, 3) := by decide +kernel
theorem dX11_least_5 : decode cX11_least 5 = .ok (.iload_n 1, 1) := by decide +kernel
theorem dX11_least_6 : decode cX11_least 6 = .ok (.iconst 0, 1) := by decide +kernel
theorem dX11_least_7 : decode cX11_least 7 = .ok (.iconst 1, 1) := by decide +kernel
theorem dX11_least_8 : decode cX11_least 8 = .ok (.invokestatic 54, 3) := by decide +kernel
theorem dX11_least_11 : decode cX11_least 11 = .ok (.ifCond .ne 5, 3) := by decide +kernel
theorem dX11_least_14 : decode cX11_least 14 = .ok (.iconst (-1), 1) := by decide +kernel
theorem dX11_least_15 : decode cX11_least 15 = .ok (.ireturn, 1) := by decide +kernel
theorem dX11_least_16 : decode cX11_least 16 = .ok (.iconst 1, 1) := by decide +kernel
theorem dX11_least_17 : decode cX11_least 17 = .ok (.aload_n 0, 1) := by decide +kernel
theorem dX11_least_18 : decode cX11_least 18 = .ok (.getfield 119, 3) := by decide +kernel
theorem dX11_least_21 : decode cX11_least 21 = .ok (.ishl, 1) := by decide +kernel
theorem dX11_least_22 : decode cX11_least 22 = .ok (.iconst 1, 1) := by decide +kernel
theorem dX11_least_23 : decode cX11_least 23 = .ok (.isub, 1) := by decide +kernel
theorem dX11_least_24 : decode cX11_least 24 = .ok (.istore_n 2, 1) := by decide +kernel
theorem dX11_least_25 : decode cX11_least 25 = .ok (.iload_n 2, 1) := by decide +kernel
theorem dX11_least_26 : decode cX11_least 26 = .ok (.istore_n 3, 1) := by decide +kernel
theorem dX11_least_27 : decode cX11_least 27 = .ok (.iload_n 3, 1) := by decide +kernel
theorem dX11_least_28 : decode cX11_least 28 = .ok (.ifCond .lt 35, 3) := by decide +kernel
theorem dX11_least_31 : decode cX11_least 31 = .ok (.aload_n 0, 1) := by decide +kernel
theorem dX11_least_32 : decode cX11_least 32 = .ok (.iload_n 3, 1) := by decide +kernel
theorem dX11_least_33 : decode cX11_least 33 = .ok (.iload_n 1, 1) := by decide +kernel
theorem dX11_least_34 : decode cX11_least 34 = .ok (.invokevirtual 171, 3) := by decide +kernel
theorem dX11_least_37 : decode cX11_least 37 = .ok (.ifCond .eq 18, 3) := by decide +kernel
theorem dX11_least_40 : decode cX11_least 40 = .ok (.iload_n 3, 1) := by decide +kernel
theorem dX11_least_41 : decode cX11_least 41 = .ok (.invokestatic 183, 3) := by decide +kernel
theorem dX11_least_44 : decode cX11_least 44 = .ok (.iload_n 2, 1) := by decide +kernel
theorem dX11_least_45 : decode cX11_least 45 = .ok (.invokestatic 183, 3) := by decide +kernel
theorem dX11_least_48 : decode cX11_least 48 = .ok (.if_icmp .gt 7, 3) := by decide +kernel
theorem dX11_least_51 : decode cX11_least 51 = .ok (.iload_n 3, 1) := by decide +kernel
theorem dX11_least_52 : decode cX11_least 52 = .ok (.goto 4, 3) := by decide +kernel
theorem dX11_least_55 : decode cX11_least 55 = .ok (.iload_n 2, 1) := by decide +kernel
theorem dX11_least_56 : decode cX11_least 56 = .ok (.istore_n 2, 1) := by decide +kernel
theorem dX11_least_57 : decode cX11_least 57 = .ok (.iinc 3 (-1), 3) := by decide +kernel
theorem dX11_least_60 : decode cX11_least 60 = .ok (.goto (-33), 3) := by decide +kernel
theorem dX11_least_63 : decode cX11_least 63 = .ok (.iload_n 2, 1) := by decide +kernel
theorem dX11_least_64 : decode cX11_least 64 = .ok (.ireturn, 1) := by decide +kernel
theorem dX11_sumsBy_0 : decode cX11_sumsBy 0 = .ok (.iconst 0, 1) := by decide +kernel
theorem dX11_sumsBy_1 : decode cX11_sumsBy 1 = .ok (.istore_n 2, 1) := by decide +kernel
theorem dX11_sumsBy_2 : decode cX11_sumsBy 2 = .ok (.iload_n 2, 1) := by decide +kernel
theorem dX11_sumsBy_3 : decode cX11_sumsBy 3 = .ok (.bipush 20, 2) := by decide +kernel
theorem dX11_sumsBy_5 : decode cX11_sumsBy 5 = .ok (.if_icmp .ge 16, 3) := by decide +kernel
theorem dX11_sumsBy_8 : decode cX11_sumsBy 8 = .ok (.aload_n 0, 1) := by decide +kernel
theorem dX11_sumsBy_9 : decode cX11_sumsBy 9 = .ok (.getfield 35, 3) := by decide +kernel
theorem dX11_sumsBy_12 : decode cX11_sumsBy 12 = .ok (.iload_n 2, 1) := by decide +kernel
theorem dX11_sumsBy_13 : decode cX11_sumsBy 13 = .ok (.iconst 0, 1) := by decide +kernel
theorem dX11_sumsBy_14 : decode cX11_sumsBy 14 = .ok (.iastore, 1) := by decide +kernel
theorem dX11_sumsBy_15 : decode cX11_sumsBy 15 = .ok (.iinc 2 1, 3) := by decide +kernel
theorem dX11_sumsBy_18 : decode cX11_sumsBy 18 = .ok (.goto (-16), 3) := by decide +kernel
theorem dX11_sumsBy_21 : decode cX11_sumsBy 21 = .ok (.aload_n 0, 1) := by decide +kernel
theorem dX11_sumsBy_22 : decode cX11_sumsBy 22 = .ok (.getfield 41, 3) := by decide +kernel
theorem dX11_sumsBy_25 : decode cX11_sumsBy 25 = .ok (.iconst 0, 1) := by decide +kernel
theorem dX11_sumsBy_26 : decode cX11_sumsBy 26 = .ok (.iconst 0, 1) := by decide +kernel
theorem dX11_sumsBy_27 : decode cX11_sumsBy 27 = .ok (.iastore, 1) := by decide +kernel
theorem dX11_sumsBy_28 : decode cX11_sumsBy 28 = .ok (.iconst 0, 1) := by decide +kernel
theorem dX11_sumsBy_29 : decode cX11_sumsBy 29 = .ok (.istore_n 2, 1) := by decide +kernel
theorem dX11_sumsBy_30 : decode cX11_sumsBy 30 = .ok (.iload_n 2, 1) := by decide +kernel
theorem dX11_sumsBy_31 : decode cX11_sumsBy 31 = .ok (.aload_n 0, 1) := by decide +kernel
theorem dX11_sumsBy_32 : decode cX11_sumsBy 32 = .ok (.getfield 119, 3) := by decide +kernel
theorem dX11_sumsBy_35 : decode cX11_sumsBy 35 = .ok (.if_icmp .ge 48, 3) := by decide +kernel
theorem dX11_sumsBy_38 : decode cX11_sumsBy 38 = .ok (.iconst 0, 1) := by decide +kernel
theorem dX11_sumsBy_39 : decode cX11_sumsBy 39 = .ok (.istore_n 3, 1) := by decide +kernel
theorem dX11_sumsBy_40 : decode cX11_sumsBy 40 = .ok (.iload_n 3, 1) := by decide +kernel
theorem dX11_sumsBy_41 : decode cX11_sumsBy 41 = .ok (.iconst 1, 1) := by decide +kernel
theorem dX11_sumsBy_42 : decode cX11_sumsBy 42 = .ok (.iload_n 2, 1) := by decide +kernel
theorem dX11_sumsBy_43 : decode cX11_sumsBy 43 = .ok (.ishl, 1) := by decide +kernel
theorem dX11_sumsBy_44 : decode cX11_sumsBy 44 = .ok (.if_icmp .ge 33, 3) := by decide +kernel
theorem dX11_sumsBy_47 : decode cX11_sumsBy 47 = .ok (.aload_n 0, 1) := by decide +kernel
theorem dX11_sumsBy_48 : decode cX11_sumsBy 48 = .ok (.getfield 41, 3) := by decide +kernel
theorem dX11_sumsBy_51 : decode cX11_sumsBy 51 = .ok (.iload_n 3, 1) := by decide +kernel
theorem dX11_sumsBy_52 : decode cX11_sumsBy 52 = .ok (.iconst 1, 1) := by decide +kernel
theorem dX11_sumsBy_53 : decode cX11_sumsBy 53 = .ok (.iload_n 2, 1) := by decide +kernel
theorem dX11_sumsBy_54 : decode cX11_sumsBy 54 = .ok (.ishl, 1) := by decide +kernel
theorem dX11_sumsBy_55 : decode cX11_sumsBy 55 = .ok (.ior, 1) := by decide +kernel
theorem dX11_sumsBy_56 : decode cX11_sumsBy 56 = .ok (.aload_n 0, 1) := by decide +kernel
theorem dX11_sumsBy_57 : decode cX11_sumsBy 57 = .ok (.getfield 41, 3) := by decide +kernel
theorem dX11_sumsBy_60 : decode cX11_sumsBy 60 = .ok (.iload_n 3, 1) := by decide +kernel
theorem dX11_sumsBy_61 : decode cX11_sumsBy 61 = .ok (.iaload, 1) := by decide +kernel
theorem dX11_sumsBy_62 : decode cX11_sumsBy 62 = .ok (.iload_n 1, 1) := by decide +kernel
theorem dX11_sumsBy_63 : decode cX11_sumsBy 63 = .ok (.iconst 2, 1) := by decide +kernel
theorem dX11_sumsBy_64 : decode cX11_sumsBy 64 = .ok (.iload_n 2, 1) := by decide +kernel
theorem dX11_sumsBy_65 : decode cX11_sumsBy 65 = .ok (.imul, 1) := by decide +kernel
theorem dX11_sumsBy_66 : decode cX11_sumsBy 66 = .ok (.ishr, 1) := by decide +kernel
theorem dX11_sumsBy_67 : decode cX11_sumsBy 67 = .ok (.iconst 3, 1) := by decide +kernel
theorem dX11_sumsBy_68 : decode cX11_sumsBy 68 = .ok (.iand, 1) := by decide +kernel
theorem dX11_sumsBy_69 : decode cX11_sumsBy 69 = .ok (.iadd, 1) := by decide +kernel
theorem dX11_sumsBy_70 : decode cX11_sumsBy 70 = .ok (.iastore, 1) := by decide +kernel
theorem dX11_sumsBy_71 : decode cX11_sumsBy 71 = .ok (.iinc 3 1, 3) := by decide +kernel
theorem dX11_sumsBy_74 : decode cX11_sumsBy 74 = .ok (.goto (-34), 3) := by decide +kernel
theorem dX11_sumsBy_77 : decode cX11_sumsBy 77 = .ok (.iinc 2 1, 3) := by decide +kernel
theorem dX11_sumsBy_80 : decode cX11_sumsBy 80 = .ok (.goto (-50), 3) := by decide +kernel
theorem dX11_sumsBy_83 : decode cX11_sumsBy 83 = .ok (.iconst 0, 1) := by decide +kernel
theorem dX11_sumsBy_84 : decode cX11_sumsBy 84 = .ok (.istore_n 2, 1) := by decide +kernel
theorem dX11_sumsBy_85 : decode cX11_sumsBy 85 = .ok (.iload_n 2, 1) := by decide +kernel
theorem dX11_sumsBy_86 : decode cX11_sumsBy 86 = .ok (.iconst 1, 1) := by decide +kernel
theorem dX11_sumsBy_87 : decode cX11_sumsBy 87 = .ok (.aload_n 0, 1) := by decide +kernel
theorem dX11_sumsBy_88 : decode cX11_sumsBy 88 = .ok (.getfield 119, 3) := by decide +kernel
theorem dX11_sumsBy_91 : decode cX11_sumsBy 91 = .ok (.ishl, 1) := by decide +kernel
theorem dX11_sumsBy_92 : decode cX11_sumsBy 92 = .ok (.if_icmp .ge 29, 3) := by decide +kernel
theorem dX11_sumsBy_95 : decode cX11_sumsBy 95 = .ok (.aload_n 0, 1) := by decide +kernel
theorem dX11_sumsBy_96 : decode cX11_sumsBy 96 = .ok (.getfield 35, 3) := by decide +kernel
theorem dX11_sumsBy_99 : decode cX11_sumsBy 99 = .ok (.aload_n 0, 1) := by decide +kernel
theorem dX11_sumsBy_100 : decode cX11_sumsBy 100 = .ok (.getfield 41, 3) := by decide +kernel
theorem dX11_sumsBy_103 : decode cX11_sumsBy 103 = .ok (.iload_n 2, 1) := by decide +kernel
theorem dX11_sumsBy_104 : decode cX11_sumsBy 104 = .ok (.iaload, 1) := by decide +kernel
theorem dX11_sumsBy_105 : decode cX11_sumsBy 105 = .ok (.dup2, 1) := by decide +kernel
theorem dX11_sumsBy_106 : decode cX11_sumsBy 106 = .ok (.iaload, 1) := by decide +kernel
theorem dX11_sumsBy_107 : decode cX11_sumsBy 107 = .ok (.aload_n 0, 1) := by decide +kernel
theorem dX11_sumsBy_108 : decode cX11_sumsBy 108 = .ok (.getfield 38, 3) := by decide +kernel
theorem dX11_sumsBy_111 : decode cX11_sumsBy 111 = .ok (.iload_n 2, 1) := by decide +kernel
theorem dX11_sumsBy_112 : decode cX11_sumsBy 112 = .ok (.iaload, 1) := by decide +kernel
theorem dX11_sumsBy_113 : decode cX11_sumsBy 113 = .ok (.iadd, 1) := by decide +kernel
theorem dX11_sumsBy_114 : decode cX11_sumsBy 114 = .ok (.iastore, 1) := by decide +kernel
theorem dX11_sumsBy_115 : decode cX11_sumsBy 115 = .ok (.iinc 2 1, 3) := by decide +kernel
theorem dX11_sumsBy_118 : decode cX11_sumsBy 118 = .ok (.goto (-33), 3) := by decide +kernel
theorem dX11_sumsBy_121 : decode cX11_sumsBy 121 = .ok (.bipush 18, 2) := by decide +kernel
theorem dX11_sumsBy_123 : decode cX11_sumsBy 123 = .ok (.istore_n 2, 1) := by decide +kernel
theorem dX11_sumsBy_124 : decode cX11_sumsBy 124 = .ok (.iload_n 2, 1) := by decide +kernel
theorem dX11_sumsBy_125 : decode cX11_sumsBy 125 = .ok (.ifCond .lt 26, 3) := by decide +kernel
theorem dX11_sumsBy_128 : decode cX11_sumsBy 128 = .ok (.aload_n 0, 1) := by decide +kernel
theorem dX11_sumsBy_129 : decode cX11_sumsBy 129 = .ok (.getfield 35, 3) := by decide +kernel
theorem dX11_sumsBy_132 : decode cX11_sumsBy 132 = .ok (.iload_n 2, 1) := by decide +kernel
theorem dX11_sumsBy_133 : decode cX11_sumsBy 133 = .ok (.dup2, 1) := by decide +kernel
theorem dX11_sumsBy_134 : decode cX11_sumsBy 134 = .ok (.iaload, 1) := by decide +kernel
theorem dX11_sumsBy_135 : decode cX11_sumsBy 135 = .ok (.aload_n 0, 1) := by decide +kernel
theorem dX11_sumsBy_136 : decode cX11_sumsBy 136 = .ok (.getfield 35, 3) := by decide +kernel
theorem dX11_sumsBy_139 : decode cX11_sumsBy 139 = .ok (.iload_n 2, 1) := by decide +kernel
theorem dX11_sumsBy_140 : decode cX11_sumsBy 140 = .ok (.iconst 1, 1) := by decide +kernel
theorem dX11_sumsBy_141 : decode cX11_sumsBy 141 = .ok (.iadd, 1) := by decide +kernel
theorem dX11_sumsBy_142 : decode cX11_sumsBy 142 = .ok (.iaload, 1) := by decide +kernel
theorem dX11_sumsBy_143 : decode cX11_sumsBy 143 = .ok (.iadd, 1) := by decide +kernel
theorem dX11_sumsBy_144 : decode cX11_sumsBy 144 = .ok (.iastore, 1) := by decide +kernel
theorem dX11_sumsBy_145 : decode cX11_sumsBy 145 = .ok (.iinc 2 (-1), 3) := by decide +kernel
theorem dX11_sumsBy_148 : decode cX11_sumsBy 148 = .ok (.goto (-24), 3) := by decide +kernel
theorem dX11_sumsBy_151 : decode cX11_sumsBy 151 = .ok (.aload_n 0, 1) := by decide +kernel
theorem dX11_sumsBy_152 : decode cX11_sumsBy 152 = .ok (.getfield 41, 3) := by decide +kernel
theorem dX11_sumsBy_155 : decode cX11_sumsBy 155 = .ok (.iconst 1, 1) := by decide +kernel
theorem dX11_sumsBy_156 : decode cX11_sumsBy 156 = .ok (.aload_n 0, 1) := by decide +kernel
theorem dX11_sumsBy_157 : decode cX11_sumsBy 157 = .ok (.getfield 119, 3) := by decide +kernel
theorem dX11_sumsBy_160 : decode cX11_sumsBy 160 = .ok (.ishl, 1) := by decide +kernel
theorem dX11_sumsBy_161 : decode cX11_sumsBy 161 = .ok (.iconst 1, 1) := by decide +kernel
theorem dX11_sumsBy_162 : decode cX11_sumsBy 162 = .ok (.isub, 1) := by decide +kernel
theorem dX11_sumsBy_163 : decode cX11_sumsBy 163 = .ok (.iaload, 1) := by decide +kernel
theorem dX11_sumsBy_164 : decode cX11_sumsBy 164 = .ok (.ireturn, 1) := by decide +kernel
theorem dX11_best_0 : decode cX11_best 0 = .ok (.aload_n 0, 1) := by decide +kernel
theorem dX11_best_1 : decode cX11_best 1 = .ok (.iconst 0, 1) := by decide +kernel
theorem dX11_best_2 : decode cX11_best 2 = .ok (.putfield 50, 3) := by decide +kernel
theorem dX11_best_5 : decode cX11_best 5 = .ok (.iload_n 1, 1) := by decide +kernel
theorem dX11_best_6 : decode cX11_best 6 = .ok (.iconst 0, 1) := by decide +kernel
theorem dX11_best_7 : decode cX11_best 7 = .ok (.bipush 10, 2) := by decide +kernel
theorem dX11_best_9 : decode cX11_best 9 = .ok (.invokestatic 54, 3) := by decide +kernel
theorem dX11_best_12 : decode cX11_best 12 = .ok (.ifCond .eq 22, 3) := by decide +kernel
theorem dX11_best_15 : decode cX11_best 15 = .ok (.iload_n 2, 1) := by decide +kernel
theorem dX11_best_16 : decode cX11_best 16 = .ok (.iconst 0, 1) := by decide +kernel
theorem dX11_best_17 : decode cX11_best 17 = .ok (.bipush 10, 2) := by decide +kernel
theorem dX11_best_19 : decode cX11_best 19 = .ok (.invokestatic 54, 3) := by decide +kernel
theorem dX11_best_22 : decode cX11_best 22 = .ok (.ifCond .eq 12, 3) := by decide +kernel
theorem dX11_best_25 : decode cX11_best 25 = .ok (.iload_n 3, 1) := by decide +kernel
theorem dX11_best_26 : decode cX11_best 26 = .ok (.iconst 0, 1) := by decide +kernel
theorem dX11_best_27 : decode cX11_best 27 = .ok (.iconst 2, 1) := by decide +kernel
theorem dX11_best_28 : decode cX11_best 28 = .ok (.invokestatic 54, 3) := by decide +kernel
theorem dX11_best_31 : decode cX11_best 31 = .ok (.ifCond .ne 5, 3) := by decide +kernel
theorem dX11_best_34 : decode cX11_best 34 = .ok (.iconst (-1), 1) := by decide +kernel
theorem dX11_best_35 : decode cX11_best 35 = .ok (.ireturn, 1) := by decide +kernel
theorem dX11_best_36 : decode cX11_best 36 = .ok (.bipush (-9), 2) := by decide +kernel
theorem dX11_best_38 : decode cX11_best 38 = .ok (.istore 4, 2) := by decide +kernel
theorem dX11_best_40 : decode cX11_best 40 = .ok (.bipush (-9), 2) := by decide +kernel
theorem dX11_best_42 : decode cX11_best 42 = .ok (.istore 5, 2) := by decide +kernel
theorem dX11_best_44 : decode cX11_best 44 = .ok (.bipush (-9), 2) := by decide +kernel
theorem dX11_best_46 : decode cX11_best 46 = .ok (.istore 6, 2) := by decide +kernel
theorem dX11_best_48 : decode cX11_best 48 = .ok (.iconst 0, 1) := by decide +kernel
theorem dX11_best_49 : decode cX11_best 49 = .ok (.istore 7, 2) := by decide +kernel
theorem dX11_best_51 : decode cX11_best 51 = .ok (.iload 7, 2) := by decide +kernel
theorem dX11_best_53 : decode cX11_best 53 = .ok (.iconst 1, 1) := by decide +kernel
theorem dX11_best_54 : decode cX11_best 54 = .ok (.aload_n 0, 1) := by decide +kernel
theorem dX11_best_55 : decode cX11_best 55 = .ok (.getfield 119, 3) := by decide +kernel
theorem dX11_best_58 : decode cX11_best 58 = .ok (.ishl, 1) := by decide +kernel
theorem dX11_best_59 : decode cX11_best 59 = .ok (.if_icmp .ge 23, 3) := by decide +kernel
theorem dX11_best_62 : decode cX11_best 62 = .ok (.aload_n 0, 1) := by decide +kernel
theorem dX11_best_63 : decode cX11_best 63 = .ok (.getfield 38, 3) := by decide +kernel
theorem dX11_best_66 : decode cX11_best 66 = .ok (.iload 7, 2) := by decide +kernel
theorem dX11_best_68 : decode cX11_best 68 = .ok (.aload_n 0, 1) := by decide +kernel
theorem dX11_best_69 : decode cX11_best 69 = .ok (.iload 7, 2) := by decide +kernel
theorem dX11_best_71 : decode cX11_best 71 = .ok (.iload_n 1, 1) := by decide +kernel
theorem dX11_best_72 : decode cX11_best 72 = .ok (.invokevirtual 174, 3) := by decide +kernel
theorem dX11_best_75 : decode cX11_best 75 = .ok (.iastore, 1) := by decide +kernel
theorem dX11_best_76 : decode cX11_best 76 = .ok (.iinc 7 1, 3) := by decide +kernel
theorem dX11_best_79 : decode cX11_best 79 = .ok (.goto (-28), 3) := by decide +kernel
theorem dX11_best_82 : decode cX11_best 82 = .ok (.iconst 1, 1) := by decide +kernel
theorem dX11_best_83 : decode cX11_best 83 = .ok (.istore 7, 2) := by decide +kernel
theorem dX11_best_85 : decode cX11_best 85 = .ok (.iload 7, 2) := by decide +kernel
theorem dX11_best_87 : decode cX11_best 87 = .ok (.iconst 1, 1) := by decide +kernel
theorem dX11_best_88 : decode cX11_best 88 = .ok (.iconst 2, 1) := by decide +kernel
theorem dX11_best_89 : decode cX11_best 89 = .ok (.aload_n 0, 1) := by decide +kernel
theorem dX11_best_90 : decode cX11_best 90 = .ok (.getfield 119, 3) := by decide +kernel
theorem dX11_best_93 : decode cX11_best 93 = .ok (.imul, 1) := by decide +kernel
theorem dX11_best_94 : decode cX11_best 94 = .ok (.ishl, 1) := by decide +kernel
theorem dX11_best_95 : decode cX11_best 95 = .ok (.if_icmp .ge 86, 3) := by decide +kernel
theorem dX11_best_98 : decode cX11_best 98 = .ok (.aload_n 0, 1) := by decide +kernel
theorem dX11_best_99 : decode cX11_best 99 = .ok (.iload 7, 2) := by decide +kernel
theorem dX11_best_101 : decode cX11_best 101 = .ok (.invokevirtual 186, 3) := by decide +kernel
theorem dX11_best_104 : decode cX11_best 104 = .ok (.istore 8, 2) := by decide +kernel
theorem dX11_best_106 : decode cX11_best 106 = .ok (.iload 8, 2) := by decide +kernel
theorem dX11_best_108 : decode cX11_best 108 = .ok (.iconst 2, 1) := by decide +kernel
theorem dX11_best_109 : decode cX11_best 109 = .ok (.idiv, 1) := by decide +kernel
theorem dX11_best_110 : decode cX11_best 110 = .ok (.iconst 1, 1) := by decide +kernel
theorem dX11_best_111 : decode cX11_best 111 = .ok (.iadd, 1) := by decide +kernel
theorem dX11_best_112 : decode cX11_best 112 = .ok (.istore 9, 2) := by decide +kernel
theorem dX11_best_114 : decode cX11_best 114 = .ok (.iload 9, 2) := by decide +kernel
theorem dX11_best_116 : decode cX11_best 116 = .ok (.iload 8, 2) := by decide +kernel
theorem dX11_best_118 : decode cX11_best 118 = .ok (.if_icmp .gt 57, 3) := by decide +kernel
theorem dX11_best_121 : decode cX11_best 121 = .ok (.iload_n 2, 1) := by decide +kernel
theorem dX11_best_122 : decode cX11_best 122 = .ok (.aload_n 0, 1) := by decide +kernel
theorem dX11_best_123 : decode cX11_best 123 = .ok (.getfield 35, 3) := by decide +kernel
theorem dX11_best_126 : decode cX11_best 126 = .ok (.iload 8, 2) := by decide +kernel
theorem dX11_best_128 : decode cX11_best 128 = .ok (.iconst 1, 1) := by decide +kernel
theorem dX11_best_129 : decode cX11_best 129 = .ok (.iadd, 1) := by decide +kernel
theorem dX11_best_130 : decode cX11_best 130 = .ok (.iload 9, 2) := by decide +kernel
theorem dX11_best_132 : decode cX11_best 132 = .ok (.isub, 1) := by decide +kernel
theorem dX11_best_133 : decode cX11_best 133 = .ok (.iaload, 1) := by decide +kernel
theorem dX11_best_134 : decode cX11_best 134 = .ok (.imul, 1) := by decide +kernel
theorem dX11_best_135 : decode cX11_best 135 = .ok (.bipush 10, 2) := by decide +kernel
theorem dX11_best_137 : decode cX11_best 137 = .ok (.iload_n 2, 1) := by decide +kernel
theorem dX11_best_138 : decode cX11_best 138 = .ok (.isub, 1) := by decide +kernel
theorem dX11_best_139 : decode cX11_best 139 = .ok (.aload_n 0, 1) := by decide +kernel
theorem dX11_best_140 : decode cX11_best 140 = .ok (.getfield 35, 3) := by decide +kernel
theorem dX11_best_143 : decode cX11_best 143 = .ok (.iload 9, 2) := by decide +kernel
theorem dX11_best_145 : decode cX11_best 145 = .ok (.iaload, 1) := by decide +kernel
theorem dX11_best_146 : decode cX11_best 146 = .ok (.imul, 1) := by decide +kernel
theorem dX11_best_147 : decode cX11_best 147 = .ok (.iadd, 1) := by decide +kernel
theorem dX11_best_148 : decode cX11_best 148 = .ok (.istore 10, 2) := by decide +kernel
theorem dX11_best_150 : decode cX11_best 150 = .ok (.iload 10, 2) := by decide +kernel
theorem dX11_best_152 : decode cX11_best 152 = .ok (.iload 4, 2) := by decide +kernel
theorem dX11_best_154 : decode cX11_best 154 = .ok (.if_icmp .le 15, 3) := by decide +kernel
theorem dX11_best_157 : decode cX11_best 157 = .ok (.iload 10, 2) := by decide +kernel
theorem dX11_best_159 : decode cX11_best 159 = .ok (.istore 4, 2) := by decide +kernel
theorem dX11_best_161 : decode cX11_best 161 = .ok (.iload 7, 2) := by decide +kernel
theorem dX11_best_163 : decode cX11_best 163 = .ok (.istore 5, 2) := by decide +kernel
theorem dX11_best_165 : decode cX11_best 165 = .ok (.iload 9, 2) := by decide +kernel
theorem dX11_best_167 : decode cX11_best 167 = .ok (.istore 6, 2) := by decide +kernel
theorem dX11_best_169 : decode cX11_best 169 = .ok (.iinc 9 1, 3) := by decide +kernel
theorem dX11_best_172 : decode cX11_best 172 = .ok (.goto (-58), 3) := by decide +kernel
theorem dX11_best_175 : decode cX11_best 175 = .ok (.iinc 7 1, 3) := by decide +kernel
theorem dX11_best_178 : decode cX11_best 178 = .ok (.goto (-93), 3) := by decide +kernel
theorem dX11_best_181 : decode cX11_best 181 = .ok (.iload_n 3, 1) := by decide +kernel
theorem dX11_best_182 : decode cX11_best 182 = .ok (.ifCond .ne 8, 3) := by decide +kernel
theorem dX11_best_185 : decode cX11_best 185 = .ok (.iload 4, 2) := by decide +kernel
theorem dX11_best_187 : decode cX11_best 187 = .ok (.goto 15, 3) := by decide +kernel
theorem dX11_best_190 : decode cX11_best 190 = .ok (.iload_n 3, 1) := by decide +kernel
theorem dX11_best_191 : decode cX11_best 191 = .ok (.iconst 1, 1) := by decide +kernel
theorem dX11_best_192 : decode cX11_best 192 = .ok (.if_icmp .ne 8, 3) := by decide +kernel
theorem dX11_best_195 : decode cX11_best 195 = .ok (.iload 5, 2) := by decide +kernel
theorem dX11_best_197 : decode cX11_best 197 = .ok (.goto 5, 3) := by decide +kernel
theorem dX11_best_200 : decode cX11_best 200 = .ok (.iload 6, 2) := by decide +kernel
theorem dX11_best_202 : decode cX11_best 202 = .ok (.ireturn, 1) := by decide +kernel
theorem dX11_sees_0 : decode cX11_sees 0 = .ok (.aload_n 0, 1) := by decide +kernel
theorem dX11_sees_1 : decode cX11_sees 1 = .ok (.iconst 0, 1) := by decide +kernel
theorem dX11_sees_2 : decode cX11_sees 2 = .ok (.putfield 50, 3) := by decide +kernel
theorem dX11_sees_5 : decode cX11_sees 5 = .ok (.iload_n 1, 1) := by decide +kernel
theorem dX11_sees_6 : decode cX11_sees 6 = .ok (.iconst 0, 1) := by decide +kernel
theorem dX11_sees_7 : decode cX11_sees 7 = .ok (.iconst 1, 1) := by decide +kernel
theorem dX11_sees_8 : decode cX11_sees 8 = .ok (.invokestatic 54, 3) := by decide +kernel
theorem dX11_sees_11 : decode cX11_sees 11 = .ok (.ifCond .eq 12, 3) := by decide +kernel
theorem dX11_sees_14 : decode cX11_sees 14 = .ok (.iload_n 2, 1) := by decide +kernel
theorem dX11_sees_15 : decode cX11_sees 15 = .ok (.iconst 0, 1) := by decide +kernel
theorem dX11_sees_16 : decode cX11_sees 16 = .ok (.iconst 1, 1) := by decide +kernel
theorem dX11_sees_17 : decode cX11_sees 17 = .ok (.invokestatic 54, 3) := by decide +kernel
theorem dX11_sees_20 : decode cX11_sees 20 = .ok (.ifCond .ne 5, 3) := by decide +kernel
theorem dX11_sees_23 : decode cX11_sees 23 = .ok (.iconst (-1), 1) := by decide +kernel
theorem dX11_sees_24 : decode cX11_sees 24 = .ok (.ireturn, 1) := by decide +kernel
theorem dX11_sees_25 : decode cX11_sees 25 = .ok (.aload_n 0, 1) := by decide +kernel
theorem dX11_sees_26 : decode cX11_sees 26 = .ok (.getfield 122, 3) := by decide +kernel
theorem dX11_sees_29 : decode cX11_sees 29 = .ok (.bipush 6, 2) := by decide +kernel
theorem dX11_sees_31 : decode cX11_sees 31 = .ok (.if_icmp .ne 6, 3) := by decide +kernel
theorem dX11_sees_34 : decode cX11_sees 34 = .ok (.bipush (-3), 2) := by decide +kernel
theorem dX11_sees_36 : decode cX11_sees 36 = .ok (.ireturn, 1) := by decide +kernel
theorem dX11_sees_37 : decode cX11_sees 37 = .ok (.aload_n 0, 1) := by decide +kernel
theorem dX11_sees_38 : decode cX11_sees 38 = .ok (.getfield 29, 3) := by decide +kernel
theorem dX11_sees_41 : decode cX11_sees 41 = .ok (.aload_n 0, 1) := by decide +kernel
theorem dX11_sees_42 : decode cX11_sees 42 = .ok (.getfield 122, 3) := by decide +kernel
theorem dX11_sees_45 : decode cX11_sees 45 = .ok (.iload_n 1, 1) := by decide +kernel
theorem dX11_sees_46 : decode cX11_sees 46 = .ok (.iastore, 1) := by decide +kernel
theorem dX11_sees_47 : decode cX11_sees 47 = .ok (.aload_n 0, 1) := by decide +kernel
theorem dX11_sees_48 : decode cX11_sees 48 = .ok (.getfield 32, 3) := by decide +kernel
theorem dX11_sees_51 : decode cX11_sees 51 = .ok (.aload_n 0, 1) := by decide +kernel
theorem dX11_sees_52 : decode cX11_sees 52 = .ok (.getfield 122, 3) := by decide +kernel
theorem dX11_sees_55 : decode cX11_sees 55 = .ok (.iload_n 2, 1) := by decide +kernel
theorem dX11_sees_56 : decode cX11_sees 56 = .ok (.iastore, 1) := by decide +kernel
theorem dX11_sees_57 : decode cX11_sees 57 = .ok (.aload_n 0, 1) := by decide +kernel
theorem dX11_sees_58 : decode cX11_sees 58 = .ok (.dup, 1) := by decide +kernel
theorem dX11_sees_59 : decode cX11_sees 59 = .ok (.getfield 122, 3) := by decide +kernel
theorem dX11_sees_62 : decode cX11_sees 62 = .ok (.iconst 1, 1) := by decide +kernel
theorem dX11_sees_63 : decode cX11_sees 63 = .ok (.iadd, 1) := by decide +kernel
theorem dX11_sees_64 : decode cX11_sees 64 = .ok (.putfield 122, 3) := by decide +kernel
theorem dX11_sees_67 : decode cX11_sees 67 = .ok (.aload_n 0, 1) := by decide +kernel
theorem dX11_sees_68 : decode cX11_sees 68 = .ok (.getfield 122, 3) := by decide +kernel
theorem dX11_sees_71 : decode cX11_sees 71 = .ok (.ireturn, 1) := by decide +kernel
theorem dX11_forget_0 : decode cX11_forget 0 = .ok (.aload_n 0, 1) := by decide +kernel
theorem dX11_forget_1 : decode cX11_forget 1 = .ok (.iconst 0, 1) := by decide +kernel
theorem dX11_forget_2 : decode cX11_forget 2 = .ok (.putfield 50, 3) := by decide +kernel
theorem dX11_forget_5 : decode cX11_forget 5 = .ok (.aload_n 0, 1) := by decide +kernel
theorem dX11_forget_6 : decode cX11_forget 6 = .ok (.getfield 122, 3) := by decide +kernel
theorem dX11_forget_9 : decode cX11_forget 9 = .ok (.istore_n 1, 1) := by decide +kernel
theorem dX11_forget_10 : decode cX11_forget 10 = .ok (.aload_n 0, 1) := by decide +kernel
theorem dX11_forget_11 : decode cX11_forget 11 = .ok (.iconst 0, 1) := by decide +kernel
theorem dX11_forget_12 : decode cX11_forget 12 = .ok (.putfield 122, 3) := by decide +kernel
theorem dX11_forget_15 : decode cX11_forget 15 = .ok (.iload_n 1, 1) := by decide +kernel
theorem dX11_forget_16 : decode cX11_forget 16 = .ok (.ireturn, 1) := by decide +kernel
theorem dX11_unseen_0 : decode cX11_unseen 0 = .ok (.aload_n 0, 1) := by decide +kernel
theorem dX11_unseen_1 : decode cX11_unseen 1 = .ok (.iconst 0, 1) := by decide +kernel
theorem dX11_unseen_2 : decode cX11_unseen 2 = .ok (.putfield 50, 3) := by decide +kernel
theorem dX11_unseen_5 : decode cX11_unseen 5 = .ok (.iload_n 1, 1) := by decide +kernel
theorem dX11_unseen_6 : decode cX11_unseen 6 = .ok (.iconst 0, 1) := by decide +kernel
theorem dX11_unseen_7 : decode cX11_unseen 7 = .ok (.iconst 1, 1) := by decide +kernel
theorem dX11_unseen_8 : decode cX11_unseen 8 = .ok (.invokestatic 54, 3) := by decide +kernel
theorem dX11_unseen_11 : decode cX11_unseen 11 = .ok (.ifCond .ne 5, 3) := by decide +kernel
theorem dX11_unseen_14 : decode cX11_unseen 14 = .ok (.iconst (-1), 1) := by decide +kernel
theorem dX11_unseen_15 : decode cX11_unseen 15 = .ok (.ireturn, 1) := by decide +kernel
theorem dX11_unseen_16 : decode cX11_unseen 16 = .ok (.iconst 1, 1) := by decide +kernel
theorem dX11_unseen_17 : decode cX11_unseen 17 = .ok (.aload_n 0, 1) := by decide +kernel
theorem dX11_unseen_18 : decode cX11_unseen 18 = .ok (.getfield 119, 3) := by decide +kernel
theorem dX11_unseen_21 : decode cX11_unseen 21 = .ok (.ishl, 1) := by decide +kernel
theorem dX11_unseen_22 : decode cX11_unseen 22 = .ok (.iconst 1, 1) := by decide +kernel
theorem dX11_unseen_23 : decode cX11_unseen 23 = .ok (.isub, 1) := by decide +kernel
theorem dX11_unseen_24 : decode cX11_unseen 24 = .ok (.istore_n 2, 1) := by decide +kernel
theorem dX11_unseen_25 : decode cX11_unseen 25 = .ok (.iconst 0, 1) := by decide +kernel
theorem dX11_unseen_26 : decode cX11_unseen 26 = .ok (.istore_n 3, 1) := by decide +kernel
theorem dX11_unseen_27 : decode cX11_unseen 27 = .ok (.bipush (-9), 2) := by decide +kernel
theorem dX11_unseen_29 : decode cX11_unseen 29 = .ok (.istore 4, 2) := by decide +kernel
theorem dX11_unseen_31 : decode cX11_unseen 31 = .ok (.iconst 0, 1) := by decide +kernel
theorem dX11_unseen_32 : decode cX11_unseen 32 = .ok (.istore 5, 2) := by decide +kernel
theorem dX11_unseen_34 : decode cX11_unseen 34 = .ok (.iload 5, 2) := by decide +kernel
theorem dX11_unseen_36 : decode cX11_unseen 36 = .ok (.iload_n 2, 1) := by decide +kernel
theorem dX11_unseen_37 : decode cX11_unseen 37 = .ok (.if_icmp .gt 109, 3) := by decide +kernel
theorem dX11_unseen_40 : decode cX11_unseen 40 = .ok (.iconst 1, 1) := by decide +kernel
theorem dX11_unseen_41 : decode cX11_unseen 41 = .ok (.istore 6, 2) := by decide +kernel
theorem dX11_unseen_43 : decode cX11_unseen 43 = .ok (.iconst 0, 1) := by decide +kernel
theorem dX11_unseen_44 : decode cX11_unseen 44 = .ok (.istore 7, 2) := by decide +kernel
theorem dX11_unseen_46 : decode cX11_unseen 46 = .ok (.iload 7, 2) := by decide +kernel
theorem dX11_unseen_48 : decode cX11_unseen 48 = .ok (.aload_n 0, 1) := by decide +kernel
theorem dX11_unseen_49 : decode cX11_unseen 49 = .ok (.getfield 122, 3) := by decide +kernel
theorem dX11_unseen_52 : decode cX11_unseen 52 = .ok (.if_icmp .ge 57, 3) := by decide +kernel
theorem dX11_unseen_55 : decode cX11_unseen 55 = .ok (.iload 6, 2) := by decide +kernel
theorem dX11_unseen_57 : decode cX11_unseen 57 = .ok (.ifCond .eq 43, 3) := by decide +kernel
theorem dX11_unseen_60 : decode cX11_unseen 60 = .ok (.aload_n 0, 1) := by decide +kernel
theorem dX11_unseen_61 : decode cX11_unseen 61 = .ok (.iload_n 2, 1) := by decide +kernel
theorem dX11_unseen_62 : decode cX11_unseen 62 = .ok (.iload 5, 2) := by decide +kernel
theorem dX11_unseen_64 : decode cX11_unseen 64 = .ok (.iconst (-1), 1) := by decide +kernel
theorem dX11_unseen_65 : decode cX11_unseen 65 = .ok (.ixor, 1) := by decide +kernel
theorem dX11_unseen_66 : decode cX11_unseen 66 = .ok (.iand, 1) := by decide +kernel
theorem dX11_unseen_67 : decode cX11_unseen 67 = .ok (.aload_n 0, 1) := by decide +kernel
theorem dX11_unseen_68 : decode cX11_unseen 68 = .ok (.getfield 29, 3) := by decide +kernel
theorem dX11_unseen_71 : decode cX11_unseen 71 = .ok (.iload 7, 2) := by decide +kernel
theorem dX11_unseen_73 : decode cX11_unseen 73 = .ok (.iaload, 1) := by decide +kernel
theorem dX11_unseen_74 : decode cX11_unseen 74 = .ok (.invokevirtual 171, 3) := by decide +kernel
theorem dX11_unseen_77 : decode cX11_unseen 77 = .ok (.aload_n 0, 1) := by decide +kernel
theorem dX11_unseen_78 : decode cX11_unseen 78 = .ok (.getfield 32, 3) := by decide +kernel
theorem dX11_unseen_81 : decode cX11_unseen 81 = .ok (.iload 7, 2) := by decide +kernel
theorem dX11_unseen_83 : decode cX11_unseen 83 = .ok (.iaload, 1) := by decide +kernel
theorem dX11_unseen_84 : decode cX11_unseen 84 = .ok (.iconst 1, 1) := by decide +kernel
theorem dX11_unseen_85 : decode cX11_unseen 85 = .ok (.if_icmp .ne 7, 3) := by decide +kernel
theorem dX11_unseen_88 : decode cX11_unseen 88 = .ok (.iconst 1, 1) := by decide +kernel
theorem dX11_unseen_89 : decode cX11_unseen 89 = .ok (.goto 4, 3) := by decide +kernel
theorem dX11_unseen_92 : decode cX11_unseen 92 = .ok (.iconst 0, 1) := by decide +kernel
theorem dX11_unseen_93 : decode cX11_unseen 93 = .ok (.if_icmp .ne 7, 3) := by decide +kernel
theorem dX11_unseen_96 : decode cX11_unseen 96 = .ok (.iconst 1, 1) := by decide +kernel
theorem dX11_unseen_97 : decode cX11_unseen 97 = .ok (.goto 4, 3) := by decide +kernel
theorem dX11_unseen_100 : decode cX11_unseen 100 = .ok (.iconst 0, 1) := by decide +kernel
theorem dX11_unseen_101 : decode cX11_unseen 101 = .ok (.istore 6, 2) := by decide +kernel
theorem dX11_unseen_103 : decode cX11_unseen 103 = .ok (.iinc 7 1, 3) := by decide +kernel
theorem dX11_unseen_106 : decode cX11_unseen 106 = .ok (.goto (-60), 3) := by decide +kernel
theorem dX11_unseen_109 : decode cX11_unseen 109 = .ok (.iload 6, 2) := by decide +kernel
theorem dX11_unseen_111 : decode cX11_unseen 111 = .ok (.ifCond .eq 12, 3) := by decide +kernel
theorem dX11_unseen_114 : decode cX11_unseen 114 = .ok (.iload_n 3, 1) := by decide +kernel
theorem dX11_unseen_115 : decode cX11_unseen 115 = .ok (.ifCond .ne 8, 3) := by decide +kernel
theorem dX11_unseen_118 : decode cX11_unseen 118 = .ok (.iload 5, 2) := by decide +kernel
theorem dX11_unseen_120 : decode cX11_unseen 120 = .ok (.goto 5, 3) := by decide +kernel
theorem dX11_unseen_123 : decode cX11_unseen 123 = .ok (.iload 4, 2) := by decide +kernel
theorem dX11_unseen_125 : decode cX11_unseen 125 = .ok (.istore 4, 2) := by decide +kernel
theorem dX11_unseen_127 : decode cX11_unseen 127 = .ok (.iload_n 3, 1) := by decide +kernel
theorem dX11_unseen_128 : decode cX11_unseen 128 = .ok (.iload 6, 2) := by decide +kernel
theorem dX11_unseen_130 : decode cX11_unseen 130 = .ok (.ifCond .eq 7, 3) := by decide +kernel
theorem dX11_unseen_133 : decode cX11_unseen 133 = .ok (.iconst 1, 1) := by decide +kernel
theorem dX11_unseen_134 : decode cX11_unseen 134 = .ok (.goto 4, 3) := by decide +kernel
theorem dX11_unseen_137 : decode cX11_unseen 137 = .ok (.iconst 0, 1) := by decide +kernel
theorem dX11_unseen_138 : decode cX11_unseen 138 = .ok (.iadd, 1) := by decide +kernel
theorem dX11_unseen_139 : decode cX11_unseen 139 = .ok (.istore_n 3, 1) := by decide +kernel
theorem dX11_unseen_140 : decode cX11_unseen 140 = .ok (.iinc 5 1, 3) := by decide +kernel
theorem dX11_unseen_143 : decode cX11_unseen 143 = .ok (.goto (-109), 3) := by decide +kernel
theorem dX11_unseen_146 : decode cX11_unseen 146 = .ok (.iload_n 1, 1) := by decide +kernel
theorem dX11_unseen_147 : decode cX11_unseen 147 = .ok (.ifCond .ne 7, 3) := by decide +kernel
theorem dX11_unseen_150 : decode cX11_unseen 150 = .ok (.iload_n 3, 1) := by decide +kernel
theorem dX11_unseen_151 : decode cX11_unseen 151 = .ok (.goto 5, 3) := by decide +kernel
theorem dX11_unseen_154 : decode cX11_unseen 154 = .ok (.iload 4, 2) := by decide +kernel
theorem dX11_unseen_156 : decode cX11_unseen 156 = .ok (.ireturn, 1) := by decide +kernel
theorem dX11_keep_0 : decode cX11_keep 0 = .ok (.aload_n 0, 1) := by decide +kernel
theorem dX11_keep_1 : decode cX11_keep 1 = .ok (.iconst 0, 1) := by decide +kernel
theorem dX11_keep_2 : decode cX11_keep 2 = .ok (.putfield 50, 3) := by decide +kernel
theorem dX11_keep_5 : decode cX11_keep 5 = .ok (.iload_n 1, 1) := by decide +kernel
theorem dX11_keep_6 : decode cX11_keep 6 = .ok (.iconst 0, 1) := by decide +kernel
theorem dX11_keep_7 : decode cX11_keep 7 = .ok (.iconst 1, 1) := by decide +kernel
theorem dX11_keep_8 : decode cX11_keep 8 = .ok (.invokestatic 54, 3) := by decide +kernel
theorem dX11_keep_11 : decode cX11_keep 11 = .ok (.ifCond .ne 5, 3) := by decide +kernel
theorem dX11_keep_14 : decode cX11_keep 14 = .ok (.iconst (-1), 1) := by decide +kernel
theorem dX11_keep_15 : decode cX11_keep 15 = .ok (.ireturn, 1) := by decide +kernel
theorem dX11_keep_16 : decode cX11_keep 16 = .ok (.iconst 0, 1) := by decide +kernel
theorem dX11_keep_17 : decode cX11_keep 17 = .ok (.istore_n 2, 1) := by decide +kernel
theorem dX11_keep_18 : decode cX11_keep 18 = .ok (.iload_n 2, 1) := by decide +kernel
theorem dX11_keep_19 : decode cX11_keep 19 = .ok (.bipush 103, 2) := by decide +kernel
theorem dX11_keep_21 : decode cX11_keep 21 = .ok (.if_icmp .ge 26, 3) := by decide +kernel
theorem dX11_keep_24 : decode cX11_keep 24 = .ok (.aload_n 0, 1) := by decide +kernel
theorem dX11_keep_25 : decode cX11_keep 25 = .ok (.getfield 22, 3) := by decide +kernel
theorem dX11_keep_28 : decode cX11_keep 28 = .ok (.bipush 103, 2) := by decide +kernel
theorem dX11_keep_30 : decode cX11_keep 30 = .ok (.iload_n 1, 1) := by decide +kernel
theorem dX11_keep_31 : decode cX11_keep 31 = .ok (.imul, 1) := by decide +kernel
theorem dX11_keep_32 : decode cX11_keep 32 = .ok (.iload_n 2, 1) := by decide +kernel
theorem dX11_keep_33 : decode cX11_keep 33 = .ok (.iadd, 1) := by decide +kernel
theorem dX11_keep_34 : decode cX11_keep 34 = .ok (.aload_n 0, 1) := by decide +kernel
theorem dX11_keep_35 : decode cX11_keep 35 = .ok (.getfield 16, 3) := by decide +kernel
theorem dX11_keep_38 : decode cX11_keep 38 = .ok (.iload_n 2, 1) := by decide +kernel
theorem dX11_keep_39 : decode cX11_keep 39 = .ok (.iaload, 1) := by decide +kernel
theorem dX11_keep_40 : decode cX11_keep 40 = .ok (.iastore, 1) := by decide +kernel
theorem dX11_keep_41 : decode cX11_keep 41 = .ok (.iinc 2 1, 3) := by decide +kernel
theorem dX11_keep_44 : decode cX11_keep 44 = .ok (.goto (-26), 3) := by decide +kernel
theorem dX11_keep_47 : decode cX11_keep 47 = .ok (.aload_n 0, 1) := by decide +kernel
theorem dX11_keep_48 : decode cX11_keep 48 = .ok (.getfield 25, 3) := by decide +kernel
theorem dX11_keep_51 : decode cX11_keep 51 = .ok (.iload_n 1, 1) := by decide +kernel
theorem dX11_keep_52 : decode cX11_keep 52 = .ok (.iconst 1, 1) := by decide +kernel
theorem dX11_keep_53 : decode cX11_keep 53 = .ok (.bastore, 1) := by decide +kernel
theorem dX11_keep_54 : decode cX11_keep 54 = .ok (.aload_n 0, 1) := by decide +kernel
theorem dX11_keep_55 : decode cX11_keep 55 = .ok (.getfield 119, 3) := by decide +kernel
theorem dX11_keep_58 : decode cX11_keep 58 = .ok (.ireturn, 1) := by decide +kernel
theorem dX11_back_0 : decode cX11_back 0 = .ok (.aload_n 0, 1) := by decide +kernel
theorem dX11_back_1 : decode cX11_back 1 = .ok (.iconst 0, 1) := by decide +kernel
theorem dX11_back_2 : decode cX11_back 2 = .ok (.putfield 50, 3) := by decide +kernel
theorem dX11_back_5 : decode cX11_back 5 = .ok (.iload_n 1, 1) := by decide +kernel
theorem dX11_back_6 : decode cX11_back 6 = .ok (.iconst 0, 1) := by decide +kernel
theorem dX11_back_7 : decode cX11_back 7 = .ok (.iconst 1, 1) := by decide +kernel
theorem dX11_back_8 : decode cX11_back 8 = .ok (.invokestatic 54, 3) := by decide +kernel
theorem dX11_back_11 : decode cX11_back 11 = .ok (.ifCond .ne 5, 3) := by decide +kernel
theorem dX11_back_14 : decode cX11_back 14 = .ok (.iconst (-1), 1) := by decide +kernel
theorem dX11_back_15 : decode cX11_back 15 = .ok (.ireturn, 1) := by decide +kernel
theorem dX11_back_16 : decode cX11_back 16 = .ok (.aload_n 0, 1) := by decide +kernel
theorem dX11_back_17 : decode cX11_back 17 = .ok (.getfield 25, 3) := by decide +kernel
theorem dX11_back_20 : decode cX11_back 20 = .ok (.iload_n 1, 1) := by decide +kernel
theorem dX11_back_21 : decode cX11_back 21 = .ok (.baload, 1) := by decide +kernel
theorem dX11_back_22 : decode cX11_back 22 = .ok (.ifCond .ne 6, 3) := by decide +kernel
theorem dX11_back_25 : decode cX11_back 25 = .ok (.bipush (-2), 2) := by decide +kernel
theorem dX11_back_27 : decode cX11_back 27 = .ok (.ireturn, 1) := by decide +kernel
theorem dX11_back_28 : decode cX11_back 28 = .ok (.iconst 0, 1) := by decide +kernel
theorem dX11_back_29 : decode cX11_back 29 = .ok (.istore_n 2, 1) := by decide +kernel
theorem dX11_back_30 : decode cX11_back 30 = .ok (.iload_n 2, 1) := by decide +kernel
theorem dX11_back_31 : decode cX11_back 31 = .ok (.bipush 103, 2) := by decide +kernel
theorem dX11_back_33 : decode cX11_back 33 = .ok (.if_icmp .ge 26, 3) := by decide +kernel
theorem dX11_back_36 : decode cX11_back 36 = .ok (.aload_n 0, 1) := by decide +kernel
theorem dX11_back_37 : decode cX11_back 37 = .ok (.getfield 16, 3) := by decide +kernel
theorem dX11_back_40 : decode cX11_back 40 = .ok (.iload_n 2, 1) := by decide +kernel
theorem dX11_back_41 : decode cX11_back 41 = .ok (.aload_n 0, 1) := by decide +kernel
theorem dX11_back_42 : decode cX11_back 42 = .ok (.getfield 22, 3) := by decide +kernel
theorem dX11_back_45 : decode cX11_back 45 = .ok (.bipush 103, 2) := by decide +kernel
theorem dX11_back_47 : decode cX11_back 47 = .ok (.iload_n 1, 1) := by decide +kernel
theorem dX11_back_48 : decode cX11_back 48 = .ok (.imul, 1) := by decide +kernel
theorem dX11_back_49 : decode cX11_back 49 = .ok (.iload_n 2, 1) := by decide +kernel
theorem dX11_back_50 : decode cX11_back 50 = .ok (.iadd, 1) := by decide +kernel
theorem dX11_back_51 : decode cX11_back 51 = .ok (.iaload, 1) := by decide +kernel
theorem dX11_back_52 : decode cX11_back 52 = .ok (.iastore, 1) := by decide +kernel
theorem dX11_back_53 : decode cX11_back 53 = .ok (.iinc 2 1, 3) := by decide +kernel
theorem dX11_back_56 : decode cX11_back 56 = .ok (.goto (-26), 3) := by decide +kernel
theorem dX11_back_59 : decode cX11_back 59 = .ok (.aload_n 0, 1) := by decide +kernel
theorem dX11_back_60 : decode cX11_back 60 = .ok (.iconst 0, 1) := by decide +kernel
theorem dX11_back_61 : decode cX11_back 61 = .ok (.putfield 125, 3) := by decide +kernel
theorem dX11_back_64 : decode cX11_back 64 = .ok (.aload_n 0, 1) := by decide +kernel
theorem dX11_back_65 : decode cX11_back 65 = .ok (.getfield 119, 3) := by decide +kernel
theorem dX11_back_68 : decode cX11_back 68 = .ok (.ireturn, 1) := by decide +kernel
theorem dX11_count_0 : decode cX11_count 0 = .ok (.aload_n 0, 1) := by decide +kernel
theorem dX11_count_1 : decode cX11_count 1 = .ok (.iconst 0, 1) := by decide +kernel
theorem dX11_count_2 : decode cX11_count 2 = .ok (.putfield 50, 3) := by decide +kernel
theorem dX11_count_5 : decode cX11_count 5 = .ok (.iload_n 1, 1) := by decide +kernel
theorem dX11_count_6 : decode cX11_count 6 = .ok (.iconst 0, 1) := by decide +kernel
theorem dX11_count_7 : decode cX11_count 7 = .ok (.bipush 7, 2) := by decide +kernel
theorem dX11_count_9 : decode cX11_count 9 = .ok (.invokestatic 54, 3) := by decide +kernel
theorem dX11_count_12 : decode cX11_count 12 = .ok (.ifCond .ne 5, 3) := by decide +kernel
theorem dX11_count_15 : decode cX11_count 15 = .ok (.iconst (-1), 1) := by decide +kernel
theorem dX11_count_16 : decode cX11_count 16 = .ok (.ireturn, 1) := by decide +kernel
theorem dX11_count_17 : decode cX11_count 17 = .ok (.iload_n 1, 1) := by decide +kernel
theorem dX11_count_18 : decode cX11_count 18 = .ok (.iconst 2, 1) := by decide +kernel
theorem dX11_count_19 : decode cX11_count 19 = .ok (.if_icmp .ge 22, 3) := by decide +kernel
theorem dX11_count_22 : decode cX11_count 22 = .ok (.iload_n 1, 1) := by decide +kernel
theorem dX11_count_23 : decode cX11_count 23 = .ok (.ifCond .ne 10, 3) := by decide +kernel
theorem dX11_count_26 : decode cX11_count 26 = .ok (.aload_n 0, 1) := by decide +kernel
theorem dX11_count_27 : decode cX11_count 27 = .ok (.getfield 119, 3) := by decide +kernel
theorem dX11_count_30 : decode cX11_count 30 = .ok (.goto 10, 3) := by decide +kernel
theorem dX11_count_33 : decode cX11_count 33 = .ok (.aload_n 0, 1) := by decide +kernel
theorem dX11_count_34 : decode cX11_count 34 = .ok (.getfield 16, 3) := by decide +kernel
theorem dX11_count_37 : decode cX11_count 37 = .ok (.bipush 30, 2) := by decide +kernel
theorem dX11_count_39 : decode cX11_count 39 = .ok (.iaload, 1) := by decide +kernel
theorem dX11_count_40 : decode cX11_count 40 = .ok (.ireturn, 1) := by decide +kernel
theorem dX11_count_41 : decode cX11_count 41 = .ok (.iload_n 1, 1) := by decide +kernel
theorem dX11_count_42 : decode cX11_count 42 = .ok (.iconst 5, 1) := by decide +kernel
theorem dX11_count_43 : decode cX11_count 43 = .ok (.if_icmp .ge 55, 3) := by decide +kernel
theorem dX11_count_46 : decode cX11_count 46 = .ok (.iload_n 1, 1) := by decide +kernel
theorem dX11_count_47 : decode cX11_count 47 = .ok (.iconst 2, 1) := by decide +kernel
theorem dX11_count_48 : decode cX11_count 48 = .ok (.if_icmp .ne 18, 3) := by decide +kernel
theorem dX11_count_51 : decode cX11_count 51 = .ok (.aload_n 0, 1) := by decide +kernel
theorem dX11_count_52 : decode cX11_count 52 = .ok (.getfield 16, 3) := by decide +kernel
theorem dX11_count_55 : decode cX11_count 55 = .ok (.aload_n 0, 1) := by decide +kernel
theorem dX11_count_56 : decode cX11_count 56 = .ok (.invokevirtual 167, 3) := by decide +kernel
theorem dX11_count_59 : decode cX11_count 59 = .ok (.bipush 6, 2) := by decide +kernel
theorem dX11_count_61 : decode cX11_count 61 = .ok (.iadd, 1) := by decide +kernel
theorem dX11_count_62 : decode cX11_count 62 = .ok (.iaload, 1) := by decide +kernel
theorem dX11_count_63 : decode cX11_count 63 = .ok (.goto 34, 3) := by decide +kernel
theorem dX11_count_66 : decode cX11_count 66 = .ok (.iload_n 1, 1) := by decide +kernel
theorem dX11_count_67 : decode cX11_count 67 = .ok (.iconst 3, 1) := by decide +kernel
theorem dX11_count_68 : decode cX11_count 68 = .ok (.if_icmp .ne 18, 3) := by decide +kernel
theorem dX11_count_71 : decode cX11_count 71 = .ok (.aload_n 0, 1) := by decide +kernel
theorem dX11_count_72 : decode cX11_count 72 = .ok (.getfield 16, 3) := by decide +kernel
theorem dX11_count_75 : decode cX11_count 75 = .ok (.aload_n 0, 1) := by decide +kernel
theorem dX11_count_76 : decode cX11_count 76 = .ok (.invokevirtual 167, 3) := by decide +kernel
theorem dX11_count_79 : decode cX11_count 79 = .ok (.bipush 7, 2) := by decide +kernel
theorem dX11_count_81 : decode cX11_count 81 = .ok (.iadd, 1) := by decide +kernel
theorem dX11_count_82 : decode cX11_count 82 = .ok (.iaload, 1) := by decide +kernel
theorem dX11_count_83 : decode cX11_count 83 = .ok (.goto 14, 3) := by decide +kernel
theorem dX11_count_86 : decode cX11_count 86 = .ok (.aload_n 0, 1) := by decide +kernel
theorem dX11_count_87 : decode cX11_count 87 = .ok (.getfield 16, 3) := by decide +kernel
theorem dX11_count_90 : decode cX11_count 90 = .ok (.aload_n 0, 1) := by decide +kernel
theorem dX11_count_91 : decode cX11_count 91 = .ok (.invokevirtual 167, 3) := by decide +kernel
theorem dX11_count_94 : decode cX11_count 94 = .ok (.invokestatic 112, 3) := by decide +kernel
theorem dX11_count_97 : decode cX11_count 97 = .ok (.ireturn, 1) := by decide +kernel
theorem dX11_count_98 : decode cX11_count 98 = .ok (.iload_n 1, 1) := by decide +kernel
theorem dX11_count_99 : decode cX11_count 99 = .ok (.iconst 5, 1) := by decide +kernel
theorem dX11_count_100 : decode cX11_count 100 = .ok (.if_icmp .ne 10, 3) := by decide +kernel
theorem dX11_count_103 : decode cX11_count 103 = .ok (.aload_n 0, 1) := by decide +kernel
theorem dX11_count_104 : decode cX11_count 104 = .ok (.getfield 122, 3) := by decide +kernel
theorem dX11_count_107 : decode cX11_count 107 = .ok (.goto 20, 3) := by decide +kernel
theorem dX11_count_110 : decode cX11_count 110 = .ok (.iload_n 1, 1) := by decide +kernel
theorem dX11_count_111 : decode cX11_count 111 = .ok (.bipush 6, 2) := by decide +kernel
theorem dX11_count_113 : decode cX11_count 113 = .ok (.if_icmp .ne 10, 3) := by decide +kernel
theorem dX11_count_116 : decode cX11_count 116 = .ok (.aload_n 0, 1) := by decide +kernel
theorem dX11_count_117 : decode cX11_count 117 = .ok (.getfield 58, 3) := by decide +kernel
theorem dX11_count_120 : decode cX11_count 120 = .ok (.goto 7, 3) := by decide +kernel
theorem dX11_count_123 : decode cX11_count 123 = .ok (.aload_n 0, 1) := by decide +kernel
theorem dX11_count_124 : decode cX11_count 124 = .ok (.getfield 125, 3) := by decide +kernel
theorem dX11_count_127 : decode cX11_count 127 = .ok (.ireturn, 1) := by decide +kernel
theorem dJ6_bitCount_0f7a4_0 : decode cJ6_bitCount_0f7a4 0 = .ok (.iload_n 0, 1) := by decide +kernel
theorem dJ6_bitCount_0f7a4_1 : decode cJ6_bitCount_0f7a4 1 = .ok (.iload_n 0, 1) := by decide +kernel
theorem dJ6_bitCount_0f7a4_2 : decode cJ6_bitCount_0f7a4 2 = .ok (.iconst 1, 1) := by decide +kernel
theorem dJ6_bitCount_0f7a4_3 : decode cJ6_bitCount_0f7a4 3 = .ok (.iushr, 1) := by decide +kernel
theorem dJ6_bitCount_0f7a4_4 : decode cJ6_bitCount_0f7a4 4 = .ok (.ldc_w 265, 3) := by decide +kernel
theorem dJ6_bitCount_0f7a4_7 : decode cJ6_bitCount_0f7a4 7 = .ok (.iand, 1) := by decide +kernel
theorem dJ6_bitCount_0f7a4_8 : decode cJ6_bitCount_0f7a4 8 = .ok (.isub, 1) := by decide +kernel
theorem dJ6_bitCount_0f7a4_9 : decode cJ6_bitCount_0f7a4 9 = .ok (.istore_n 0, 1) := by decide +kernel
theorem dJ6_bitCount_0f7a4_10 : decode cJ6_bitCount_0f7a4 10 = .ok (.iload_n 0, 1) := by decide +kernel
theorem dJ6_bitCount_0f7a4_11 : decode cJ6_bitCount_0f7a4 11 = .ok (.ldc_w 266, 3) := by decide +kernel
theorem dJ6_bitCount_0f7a4_14 : decode cJ6_bitCount_0f7a4 14 = .ok (.iand, 1) := by decide +kernel
theorem dJ6_bitCount_0f7a4_15 : decode cJ6_bitCount_0f7a4 15 = .ok (.iload_n 0, 1) := by decide +kernel
theorem dJ6_bitCount_0f7a4_16 : decode cJ6_bitCount_0f7a4 16 = .ok (.iconst 2, 1) := by decide +kernel
theorem dJ6_bitCount_0f7a4_17 : decode cJ6_bitCount_0f7a4 17 = .ok (.iushr, 1) := by decide +kernel
theorem dJ6_bitCount_0f7a4_18 : decode cJ6_bitCount_0f7a4 18 = .ok (.ldc_w 266, 3) := by decide +kernel
theorem dJ6_bitCount_0f7a4_21 : decode cJ6_bitCount_0f7a4 21 = .ok (.iand, 1) := by decide +kernel
theorem dJ6_bitCount_0f7a4_22 : decode cJ6_bitCount_0f7a4 22 = .ok (.iadd, 1) := by decide +kernel
theorem dJ6_bitCount_0f7a4_23 : decode cJ6_bitCount_0f7a4 23 = .ok (.istore_n 0, 1) := by decide +kernel
theorem dJ6_bitCount_0f7a4_24 : decode cJ6_bitCount_0f7a4 24 = .ok (.iload_n 0, 1) := by decide +kernel
theorem dJ6_bitCount_0f7a4_25 : decode cJ6_bitCount_0f7a4 25 = .ok (.iload_n 0, 1) := by decide +kernel
theorem dJ6_bitCount_0f7a4_26 : decode cJ6_bitCount_0f7a4 26 = .ok (.iconst 4, 1) := by decide +kernel
theorem dJ6_bitCount_0f7a4_27 : decode cJ6_bitCount_0f7a4 27 = .ok (.iushr, 1) := by decide +kernel
theorem dJ6_bitCount_0f7a4_28 : decode cJ6_bitCount_0f7a4 28 = .ok (.iadd, 1) := by decide +kernel
theorem dJ6_bitCount_0f7a4_29 : decode cJ6_bitCount_0f7a4 29 = .ok (.ldc_w 267, 3) := by decide +kernel
theorem dJ6_bitCount_0f7a4_32 : decode cJ6_bitCount_0f7a4 32 = .ok (.iand, 1) := by decide +kernel
theorem dJ6_bitCount_0f7a4_33 : decode cJ6_bitCount_0f7a4 33 = .ok (.istore_n 0, 1) := by decide +kernel
theorem dJ6_bitCount_0f7a4_34 : decode cJ6_bitCount_0f7a4 34 = .ok (.iload_n 0, 1) := by decide +kernel
theorem dJ6_bitCount_0f7a4_35 : decode cJ6_bitCount_0f7a4 35 = .ok (.iload_n 0, 1) := by decide +kernel
theorem dJ6_bitCount_0f7a4_36 : decode cJ6_bitCount_0f7a4 36 = .ok (.bipush 8, 2) := by decide +kernel
theorem dJ6_bitCount_0f7a4_38 : decode cJ6_bitCount_0f7a4 38 = .ok (.iushr, 1) := by decide +kernel
theorem dJ6_bitCount_0f7a4_39 : decode cJ6_bitCount_0f7a4 39 = .ok (.iadd, 1) := by decide +kernel
theorem dJ6_bitCount_0f7a4_40 : decode cJ6_bitCount_0f7a4 40 = .ok (.istore_n 0, 1) := by decide +kernel
theorem dJ6_bitCount_0f7a4_41 : decode cJ6_bitCount_0f7a4 41 = .ok (.iload_n 0, 1) := by decide +kernel
theorem dJ6_bitCount_0f7a4_42 : decode cJ6_bitCount_0f7a4 42 = .ok (.iload_n 0, 1) := by decide +kernel
theorem dJ6_bitCount_0f7a4_43 : decode cJ6_bitCount_0f7a4 43 = .ok (.bipush 16, 2) := by decide +kernel
theorem dJ6_bitCount_0f7a4_45 : decode cJ6_bitCount_0f7a4 45 = .ok (.iushr, 1) := by decide +kernel
theorem dJ6_bitCount_0f7a4_46 : decode cJ6_bitCount_0f7a4 46 = .ok (.iadd, 1) := by decide +kernel
theorem dJ6_bitCount_0f7a4_47 : decode cJ6_bitCount_0f7a4 47 = .ok (.istore_n 0, 1) := by decide +kernel
theorem dJ6_bitCount_0f7a4_48 : decode cJ6_bitCount_0f7a4 48 = .ok (.iload_n 0, 1) := by decide +kernel
theorem dJ6_bitCount_0f7a4_49 : decode cJ6_bitCount_0f7a4 49 = .ok (.bipush 63, 2) := by decide +kernel
theorem dJ6_bitCount_0f7a4_51 : decode cJ6_bitCount_0f7a4 51 = .ok (.iand, 1) := by decide +kernel
theorem dJ6_bitCount_0f7a4_52 : decode cJ6_bitCount_0f7a4 52 = .ok (.ireturn, 1) := by decide +kernel
theorem dJ9_max_7cf53_0 : decode cJ9_max_7cf53 0 = .ok (.iload_n 0, 1) := by decide +kernel
theorem dJ9_max_7cf53_1 : decode cJ9_max_7cf53 1 = .ok (.iload_n 1, 1) := by decide +kernel
theorem dJ9_max_7cf53_2 : decode cJ9_max_7cf53 2 = .ok (.if_icmp .lt 7, 3) := by decide +kernel
theorem dJ9_max_7cf53_5 : decode cJ9_max_7cf53 5 = .ok (.iload_n 0, 1) := by decide +kernel
theorem dJ9_max_7cf53_6 : decode cJ9_max_7cf53 6 = .ok (.goto 4, 3) := by decide +kernel
theorem dJ9_max_7cf53_9 : decode cJ9_max_7cf53 9 = .ok (.iload_n 1, 1) := by decide +kernel
theorem dJ9_max_7cf53_10 : decode cJ9_max_7cf53 10 = .ok (.ireturn, 1) := by decide +kernel
theorem dJ9_min_7cf53_0 : decode cJ9_min_7cf53 0 = .ok (.iload_n 0, 1) := by decide +kernel
theorem dJ9_min_7cf53_1 : decode cJ9_min_7cf53 1 = .ok (.iload_n 1, 1) := by decide +kernel
theorem dJ9_min_7cf53_2 : decode cJ9_min_7cf53 2 = .ok (.if_icmp .gt 7, 3) := by decide +kernel
theorem dJ9_min_7cf53_5 : decode cJ9_min_7cf53 5 = .ok (.iload_n 0, 1) := by decide +kernel
theorem dJ9_min_7cf53_6 : decode cJ9_min_7cf53 6 = .ok (.goto 4, 3) := by decide +kernel
theorem dJ9_min_7cf53_9 : decode cJ9_min_7cf53 9 = .ok (.iload_n 1, 1) := by decide +kernel
theorem dJ9_min_7cf53_10 : decode cJ9_min_7cf53 10 = .ok (.ireturn, 1) := by decide +kernel
theorem dJ0_length_8abf5_0 : decode cJ0_length_8abf5 0 = .ok (.aload_n 0, 1) := by decide +kernel
theorem dJ0_length_8abf5_1 : decode cJ0_length_8abf5 1 = .ok (.getfield 9, 3) := by decide +kernel
theorem dJ0_length_8abf5_4 : decode cJ0_length_8abf5 4 = .ok (.arraylength, 1) := by decide +kernel
theorem dJ0_length_8abf5_5 : decode cJ0_length_8abf5 5 = .ok (.aload_n 0, 1) := by decide +kernel
theorem dJ0_length_8abf5_6 : decode cJ0_length_8abf5 6 = .ok (.invokevirtual 335, 3) := by decide +kernel
theorem dJ0_length_8abf5_9 : decode cJ0_length_8abf5 9 = .ok (.ishr, 1) := by decide +kernel
theorem dJ0_length_8abf5_10 : decode cJ0_length_8abf5 10 = .ok (.ireturn, 1) := by decide +kernel
theorem dJ0_charAt_5068e_0 : decode cJ0_charAt_5068e 0 = .ok (.aload_n 0, 1) := by decide +kernel
theorem dJ0_charAt_5068e_1 : decode cJ0_charAt_5068e 1 = .ok (.invokevirtual 492, 3) := by decide +kernel
theorem dJ0_charAt_5068e_4 : decode cJ0_charAt_5068e 4 = .ok (.ifCond .eq 12, 3) := by decide +kernel
theorem dJ0_charAt_5068e_7 : decode cJ0_charAt_5068e 7 = .ok (.aload_n 0, 1) := by decide +kernel
theorem dJ0_charAt_5068e_8 : decode cJ0_charAt_5068e 8 = .ok (.getfield 9, 3) := by decide +kernel
theorem dJ0_charAt_5068e_11 : decode cJ0_charAt_5068e 11 = .ok (.iload_n 1, 1) := by decide +kernel
theorem dJ0_charAt_5068e_12 : decode cJ0_charAt_5068e 12 = .ok (.invokestatic 495, 3) := by decide +kernel
theorem dJ0_charAt_5068e_15 : decode cJ0_charAt_5068e 15 = .ok (.ireturn, 1) := by decide +kernel
theorem dJ0_charAt_5068e_16 : decode cJ0_charAt_5068e 16 = .ok (.aload_n 0, 1) := by decide +kernel
theorem dJ0_charAt_5068e_17 : decode cJ0_charAt_5068e 17 = .ok (.getfield 9, 3) := by decide +kernel
theorem dJ0_charAt_5068e_20 : decode cJ0_charAt_5068e 20 = .ok (.iload_n 1, 1) := by decide +kernel
theorem dJ0_charAt_5068e_21 : decode cJ0_charAt_5068e 21 = .ok (.invokestatic 498, 3) := by decide +kernel
theorem dJ0_charAt_5068e_24 : decode cJ0_charAt_5068e 24 = .ok (.ireturn, 1) := by decide +kernel
theorem dJ0_coder_7d493_0 : decode cJ0_coder_7d493 0 = .ok (.getstatic 38, 3) := by decide +kernel
theorem dJ0_coder_7d493_3 : decode cJ0_coder_7d493 3 = .ok (.ifCond .eq 10, 3) := by decide +kernel
theorem dJ0_coder_7d493_6 : decode cJ0_coder_7d493 6 = .ok (.aload_n 0, 1) := by decide +kernel
theorem dJ0_coder_7d493_7 : decode cJ0_coder_7d493 7 = .ok (.getfield 15, 3) := by decide +kernel
theorem dJ0_coder_7d493_10 : decode cJ0_coder_7d493 10 = .ok (.goto 4, 3) := by decide +kernel
theorem dJ0_coder_7d493_13 : decode cJ0_coder_7d493 13 = .ok (.iconst 1, 1) := by decide +kernel
theorem dJ0_coder_7d493_14 : decode cJ0_coder_7d493 14 = .ok (.ireturn, 1) := by decide +kernel
theorem dJ0_isLatin1_aae02_0 : decode cJ0_isLatin1_aae02 0 = .ok (.getstatic 38, 3) := by decide +kernel
theorem dJ0_isLatin1_aae02_3 : decode cJ0_isLatin1_aae02 3 = .ok (.ifCond .eq 14, 3) := by decide +kernel
theorem dJ0_isLatin1_aae02_6 : decode cJ0_isLatin1_aae02 6 = .ok (.aload_n 0, 1) := by decide +kernel
theorem dJ0_isLatin1_aae02_7 : decode cJ0_isLatin1_aae02 7 = .ok (.getfield 15, 3) := by decide +kernel
theorem dJ0_isLatin1_aae02_10 : decode cJ0_isLatin1_aae02 10 = .ok (.ifCond .ne 7, 3) := by decide +kernel
theorem dJ0_isLatin1_aae02_13 : decode cJ0_isLatin1_aae02 13 = .ok (.iconst 1, 1) := by decide +kernel
theorem dJ0_isLatin1_aae02_14 : decode cJ0_isLatin1_aae02 14 = .ok (.goto 4, 3) := by decide +kernel
theorem dJ0_isLatin1_aae02_17 : decode cJ0_isLatin1_aae02 17 = .ok (.iconst 0, 1) := by decide +kernel
theorem dJ0_isLatin1_aae02_18 : decode cJ0_isLatin1_aae02 18 = .ok (.ireturn, 1) := by decide +kernel
theorem dJ0_checkIndex_df160_0 : decode cJ0_checkIndex_df160 0 = .ok (.iload_n 0, 1) := by decide +kernel
theorem dJ0_checkIndex_df160_1 : decode cJ0_checkIndex_df160 1 = .ok (.iload_n 1, 1) := by decide +kernel
theorem dJ0_checkIndex_df160_2 : decode cJ0_checkIndex_df160 2 = .ok (.getstatic 1053, 3) := by decide +kernel
theorem dJ0_checkIndex_df160_5 : decode cJ0_checkIndex_df160 5 = .ok (.invokestatic 1059, 3) := by decide +kernel
theorem dJ0_checkIndex_df160_8 : decode cJ0_checkIndex_df160 8 = .ok (.pop, 1) := by decide +kernel
theorem dJ0_checkIndex_df160_9 : decode cJ0_checkIndex_df160 9 = .ok (.return_, 1) := by decide +kernel
theorem dJ1_charAt_3b067_0 : decode cJ1_charAt_3b067 0 = .ok (.iload_n 1, 1) := by decide +kernel
theorem dJ1_charAt_3b067_1 : decode cJ1_charAt_3b067 1 = .ok (.aload_n 0, 1) := by decide +kernel
theorem dJ1_charAt_3b067_2 : decode cJ1_charAt_3b067 2 = .ok (.arraylength, 1) := by decide +kernel
theorem dJ1_charAt_3b067_3 : decode cJ1_charAt_3b067 3 = .ok (.invokestatic 9, 3) := by decide +kernel
theorem dJ1_charAt_3b067_6 : decode cJ1_charAt_3b067 6 = .ok (.aload_n 0, 1) := by decide +kernel
theorem dJ1_charAt_3b067_7 : decode cJ1_charAt_3b067 7 = .ok (.iload_n 1, 1) := by decide +kernel
theorem dJ1_charAt_3b067_8 : decode cJ1_charAt_3b067 8 = .ok (.baload, 1) := by decide +kernel
theorem dJ1_charAt_3b067_9 : decode cJ1_charAt_3b067 9 = .ok (.sipush 255, 3) := by decide +kernel
theorem dJ1_charAt_3b067_12 : decode cJ1_charAt_3b067 12 = .ok (.iand, 1) := by decide +kernel
theorem dJ1_charAt_3b067_13 : decode cJ1_charAt_3b067 13 = .ok (.i2c, 1) := by decide +kernel
theorem dJ1_charAt_3b067_14 : decode cJ1_charAt_3b067 14 = .ok (.ireturn, 1) := by decide +kernel
theorem dJ2_getChar_3b067_0 : decode cJ2_getChar_3b067 0 = .ok (.getstatic 44, 3) := by decide +kernel
theorem dJ2_getChar_3b067_3 : decode cJ2_getChar_3b067 3 = .ok (.ifCond .ne 25, 3) := by decide +kernel
theorem dJ2_getChar_3b067_6 : decode cJ2_getChar_3b067 6 = .ok (.iload_n 1, 1) := by decide +kernel
theorem dJ2_getChar_3b067_7 : decode cJ2_getChar_3b067 7 = .ok (.ifCond .lt 11, 3) := by decide +kernel
theorem dJ2_getChar_3b067_10 : decode cJ2_getChar_3b067 10 = .ok (.iload_n 1, 1) := by decide +kernel
theorem dJ2_getChar_3b067_11 : decode cJ2_getChar_3b067 11 = .ok (.aload_n 0, 1) := by decide +kernel
theorem dJ2_getChar_3b067_12 : decode cJ2_getChar_3b067 12 = .ok (.invokestatic 48, 3) := by decide +kernel
theorem dJ2_getChar_3b067_15 : decode cJ2_getChar_3b067 15 = .ok (.if_icmp .lt 13, 3) := by decide +kernel
theorem dJ2_getChar_3b067_18 : decode cJ2_getChar_3b067 18 = .ok (.new 52, 3) := by decide +kernel
theorem dJ2_getChar_3b067_21 : decode cJ2_getChar_3b067 21 = .ok (.dup, 1) := by decide +kernel
theorem dJ2_getChar_3b067_22 : decode cJ2_getChar_3b067 22 = .ok (.ldc 54, 2) := by decide +kernel
theorem dJ2_getChar_3b067_24 : decode cJ2_getChar_3b067 24 = .ok (.invokespecial 56, 3) := by decide +kernel
theorem dJ2_getChar_3b067_27 : decode cJ2_getChar_3b067 27 = .ok (.athrow, 1) := by decide +kernel
theorem dJ2_getChar_3b067_28 : decode cJ2_getChar_3b067 28 = .ok (.iload_n 1, 1) := by decide +kernel
theorem dJ2_getChar_3b067_29 : decode cJ2_getChar_3b067 29 = .ok (.iconst 1, 1) := by decide +kernel
theorem dJ2_getChar_3b067_30 : decode cJ2_getChar_3b067 30 = .ok (.ishl, 1) := by decide +kernel
theorem dJ2_getChar_3b067_31 : decode cJ2_getChar_3b067 31 = .ok (.istore_n 1, 1) := by decide +kernel
theorem dJ2_getChar_3b067_32 : decode cJ2_getChar_3b067 32 = .ok (.aload_n 0, 1) := by decide +kernel
theorem dJ2_getChar_3b067_33 : decode cJ2_getChar_3b067 33 = .ok (.iload_n 1, 1) := by decide +kernel
theorem dJ2_getChar_3b067_34 : decode cJ2_getChar_3b067 34 = .ok (.iinc 1 1, 3) := by decide +kernel
theorem dJ2_getChar_3b067_37 : decode cJ2_getChar_3b067 37 = .ok (.baload, 1) := by decide +kernel
theorem dJ2_getChar_3b067_38 : decode cJ2_getChar_3b067 38 = .ok (.sipush 255, 3) := by decide +kernel
theorem dJ2_getChar_3b067_41 : decode cJ2_getChar_3b067 41 = .ok (.iand, 1) := by decide +kernel
theorem dJ2_getChar_3b067_42 : decode cJ2_getChar_3b067 42 = .ok (.getstatic 59, 3) := by decide +kernel
theorem dJ2_getChar_3b067_45 : decode cJ2_getChar_3b067 45 = .ok (.ishl, 1) := by decide +kernel
theorem dJ2_getChar_3b067_46 : decode cJ2_getChar_3b067 46 = .ok (.aload_n 0, 1) := by decide +kernel
theorem dJ2_getChar_3b067_47 : decode cJ2_getChar_3b067 47 = .ok (.iload_n 1, 1) := by decide +kernel
theorem dJ2_getChar_3b067_48 : decode cJ2_getChar_3b067 48 = .ok (.baload, 1) := by decide +kernel
theorem dJ2_getChar_3b067_49 : decode cJ2_getChar_3b067 49 = .ok (.sipush 255, 3) := by decide +kernel
theorem dJ2_getChar_3b067_52 : decode cJ2_getChar_3b067 52 = .ok (.iand, 1) := by decide +kernel
theorem dJ2_getChar_3b067_53 : decode cJ2_getChar_3b067 53 = .ok (.getstatic 63, 3) := by decide +kernel
theorem dJ2_getChar_3b067_56 : decode cJ2_getChar_3b067 56 = .ok (.ishl, 1) := by decide +kernel
theorem dJ2_getChar_3b067_57 : decode cJ2_getChar_3b067 57 = .ok (.ior, 1) := by decide +kernel
theorem dJ2_getChar_3b067_58 : decode cJ2_getChar_3b067 58 = .ok (.i2c, 1) := by decide +kernel
theorem dJ2_getChar_3b067_59 : decode cJ2_getChar_3b067 59 = .ok (.ireturn, 1) := by decide +kernel
theorem dJ2_length_9d52b_0 : decode cJ2_length_9d52b 0 = .ok (.aload_n 0, 1) := by decide +kernel
theorem dJ2_length_9d52b_1 : decode cJ2_length_9d52b 1 = .ok (.arraylength, 1) := by decide +kernel
theorem dJ2_length_9d52b_2 : decode cJ2_length_9d52b 2 = .ok (.iconst 1, 1) := by decide +kernel
theorem dJ2_length_9d52b_3 : decode cJ2_length_9d52b 3 = .ok (.ishr, 1) := by decide +kernel
theorem dJ2_length_9d52b_4 : decode cJ2_length_9d52b 4 = .ok (.ireturn, 1) := by decide +kernel
theorem dJ2_charAt_3b067_0 : decode cJ2_charAt_3b067 0 = .ok (.iload_n 1, 1) := by decide +kernel
theorem dJ2_charAt_3b067_1 : decode cJ2_charAt_3b067 1 = .ok (.aload_n 0, 1) := by decide +kernel
theorem dJ2_charAt_3b067_2 : decode cJ2_charAt_3b067 2 = .ok (.invokestatic 67, 3) := by decide +kernel
theorem dJ2_charAt_3b067_5 : decode cJ2_charAt_3b067 5 = .ok (.aload_n 0, 1) := by decide +kernel
theorem dJ2_charAt_3b067_6 : decode cJ2_charAt_3b067 6 = .ok (.iload_n 1, 1) := by decide +kernel
theorem dJ2_charAt_3b067_7 : decode cJ2_charAt_3b067 7 = .ok (.invokestatic 71, 3) := by decide +kernel
theorem dJ2_charAt_3b067_10 : decode cJ2_charAt_3b067 10 = .ok (.ireturn, 1) := by decide +kernel
theorem dJ2_checkIndex_2214a_0 : decode cJ2_checkIndex_2214a 0 = .ok (.iload_n 0, 1) := by decide +kernel
theorem dJ2_checkIndex_2214a_1 : decode cJ2_checkIndex_2214a 1 = .ok (.aload_n 1, 1) := by decide +kernel
theorem dJ2_checkIndex_2214a_2 : decode cJ2_checkIndex_2214a 2 = .ok (.invokestatic 48, 3) := by decide +kernel
theorem dJ2_checkIndex_2214a_5 : decode cJ2_checkIndex_2214a 5 = .ok (.invokestatic 414, 3) := by decide +kernel
theorem dJ2_checkIndex_2214a_8 : decode cJ2_checkIndex_2214a 8 = .ok (.return_, 1) := by decide +kernel
theorem dJ3_checkIndex_8e157_0 : decode cJ3_checkIndex_8e157 0 = .ok (.iload_n 0, 1) := by decide +kernel
theorem dJ3_checkIndex_8e157_1 : decode cJ3_checkIndex_8e157 1 = .ok (.ifCond .lt 8, 3) := by decide +kernel
theorem dJ3_checkIndex_8e157_4 : decode cJ3_checkIndex_8e157 4 = .ok (.iload_n 0, 1) := by decide +kernel
theorem dJ3_checkIndex_8e157_5 : decode cJ3_checkIndex_8e157 5 = .ok (.iload_n 1, 1) := by decide +kernel
theorem dJ3_checkIndex_8e157_6 : decode cJ3_checkIndex_8e157 6 = .ok (.if_icmp .lt 10, 3) := by decide +kernel
theorem dJ3_checkIndex_8e157_9 : decode cJ3_checkIndex_8e157 9 = .ok (.aload_n 2, 1) := by decide +kernel
theorem dJ3_checkIndex_8e157_10 : decode cJ3_checkIndex_8e157 10 = .ok (.iload_n 0, 1) := by decide +kernel
theorem dJ3_checkIndex_8e157_11 : decode cJ3_checkIndex_8e157 11 = .ok (.iload_n 1, 1) := by decide +kernel
theorem dJ3_checkIndex_8e157_12 : decode cJ3_checkIndex_8e157 12 = .ok (.invokestatic 95, 3) := by decide +kernel
theorem dJ3_checkIndex_8e157_15 : decode cJ3_checkIndex_8e157 15 = .ok (.athrow, 1) := by decide +kernel
theorem dJ3_checkIndex_8e157_16 : decode cJ3_checkIndex_8e157 16 = .ok (.iload_n 0, 1) := by decide +kernel
theorem dJ3_checkIndex_8e157_17 : decode cJ3_checkIndex_8e157 17 = .ok (.ireturn, 1) := by decide +kernel
theorem dL_law_0 : decode cL_law 0 = .ok (.new 7, 3) := by decide +kernel
theorem dL_law_3 : decode cL_law 3 = .ok (.dup, 1) := by decide +kernel
theorem dL_law_4 : decode cL_law 4 = .ok (.invokespecial 9, 3) := by decide +kernel
theorem dL_law_7 : decode cL_law 7 = .ok (.astore_n 1, 1) := by decide +kernel
theorem dL_law_8 : decode cL_law 8 = .ok (.new 10, 3) := by decide +kernel
theorem dL_law_11 : decode cL_law 11 = .ok (.dup, 1) := by decide +kernel
theorem dL_law_12 : decode cL_law 12 = .ok (.invokespecial 12, 3) := by decide +kernel
theorem dL_law_15 : decode cL_law 15 = .ok (.astore_n 2, 1) := by decide +kernel
theorem dL_law_16 : decode cL_law 16 = .ok (.iconst 0, 1) := by decide +kernel
theorem dL_law_17 : decode cL_law 17 = .ok (.istore_n 3, 1) := by decide +kernel
theorem dL_law_18 : decode cL_law 18 = .ok (.iload_n 3, 1) := by decide +kernel
theorem dL_law_19 : decode cL_law 19 = .ok (.aload_n 0, 1) := by decide +kernel
theorem dL_law_20 : decode cL_law 20 = .ok (.arraylength, 1) := by decide +kernel
theorem dL_law_21 : decode cL_law 21 = .ok (.bipush 7, 2) := by decide +kernel
theorem dL_law_23 : decode cL_law 23 = .ok (.isub, 1) := by decide +kernel
theorem dL_law_24 : decode cL_law 24 = .ok (.if_icmp .gt 716, 3) := by decide +kernel
theorem dL_law_27 : decode cL_law 27 = .ok (.aload_n 0, 1) := by decide +kernel
theorem dL_law_28 : decode cL_law 28 = .ok (.iload_n 3, 1) := by decide +kernel
theorem dL_law_29 : decode cL_law 29 = .ok (.iaload, 1) := by decide +kernel
theorem dL_law_30 : decode cL_law 30 = .ok (.bipush 31, 2) := by decide +kernel
theorem dL_law_32 : decode cL_law 32 = .ok (.iand, 1) := by decide +kernel
theorem dL_law_33 : decode cL_law 33 = .ok (.tableswitch 701 0 21 #[103, 126, 139, 152, 175, 208, 231, 306, 329, 362, 375, 408, 441, 454, 497, 520, 563, 596, 609, 632, 655, 678], 103) := by decide +kernel
theorem dL_law_136 : decode cL_law 136 = .ok (.aload_n 1, 1) := by decide +kernel
theorem dL_law_137 : decode cL_law 137 = .ok (.aload_n 0, 1) := by decide +kernel
theorem dL_law_138 : decode cL_law 138 = .ok (.iload_n 3, 1) := by decide +kernel
theorem dL_law_139 : decode cL_law 139 = .ok (.iconst 1, 1) := by decide +kernel
theorem dL_law_140 : decode cL_law 140 = .ok (.iadd, 1) := by decide +kernel
theorem dL_law_141 : decode cL_law 141 = .ok (.iaload, 1) := by decide +kernel
theorem dL_law_142 : decode cL_law 142 = .ok (.invokevirtual 13, 3) := by decide +kernel
theorem dL_law_145 : decode cL_law 145 = .ok (.aload_n 2, 1) := by decide +kernel
theorem dL_law_146 : decode cL_law 146 = .ok (.aload_n 0, 1) := by decide +kernel
theorem dL_law_147 : decode cL_law 147 = .ok (.iload_n 3, 1) := by decide +kernel
theorem dL_law_148 : decode cL_law 148 = .ok (.iconst 1, 1) := by decide +kernel
theorem dL_law_149 : decode cL_law 149 = .ok (.iadd, 1) := by decide +kernel
theorem dL_law_150 : decode cL_law 150 = .ok (.iaload, 1) := by decide +kernel
theorem dL_law_151 : decode cL_law 151 = .ok (.invokevirtual 17, 3) := by decide +kernel
theorem dL_law_154 : decode cL_law 154 = .ok (.if_icmp .eq 580, 3) := by decide +kernel
theorem dL_law_157 : decode cL_law 157 = .ok (.iconst 0, 1) := by decide +kernel
theorem dL_law_158 : decode cL_law 158 = .ok (.ireturn, 1) := by decide +kernel
theorem dL_law_159 : decode cL_law 159 = .ok (.aload_n 1, 1) := by decide +kernel
theorem dL_law_160 : decode cL_law 160 = .ok (.invokevirtual 18, 3) := by decide +kernel
theorem dL_law_163 : decode cL_law 163 = .ok (.aload_n 2, 1) := by decide +kernel
theorem dL_law_164 : decode cL_law 164 = .ok (.invokevirtual 22, 3) := by decide +kernel
theorem dL_law_167 : decode cL_law 167 = .ok (.if_icmp .eq 567, 3) := by decide +kernel
theorem dL_law_170 : decode cL_law 170 = .ok (.iconst 0, 1) := by decide +kernel
theorem dL_law_171 : decode cL_law 171 = .ok (.ireturn, 1) := by decide +kernel
theorem dL_law_172 : decode cL_law 172 = .ok (.aload_n 1, 1) := by decide +kernel
theorem dL_law_173 : decode cL_law 173 = .ok (.invokevirtual 23, 3) := by decide +kernel
theorem dL_law_176 : decode cL_law 176 = .ok (.aload_n 2, 1) := by decide +kernel
theorem dL_law_177 : decode cL_law 177 = .ok (.invokevirtual 26, 3) := by decide +kernel
theorem dL_law_180 : decode cL_law 180 = .ok (.if_icmp .eq 554, 3) := by decide +kernel
theorem dL_law_183 : decode cL_law 183 = .ok (.iconst 0, 1) := by decide +kernel
theorem dL_law_184 : decode cL_law 184 = .ok (.ireturn, 1) := by decide +kernel
theorem dL_law_185 : decode cL_law 185 = .ok (.aload_n 1, 1) := by decide +kernel
theorem dL_law_186 : decode cL_law 186 = .ok (.aload_n 0, 1) := by decide +kernel
theorem dL_law_187 : decode cL_law 187 = .ok (.iload_n 3, 1) := by decide +kernel
theorem dL_law_188 : decode cL_law 188 = .ok (.iconst 1, 1) := by decide +kernel
theorem dL_law_189 : decode cL_law 189 = .ok (.iadd, 1) := by decide +kernel
theorem dL_law_190 : decode cL_law 190 = .ok (.iaload, 1) := by decide +kernel
theorem dL_law_191 : decode cL_law 191 = .ok (.invokevirtual 27, 3) := by decide +kernel
theorem dL_law_194 : decode cL_law 194 = .ok (.aload_n 2, 1) := by decide +kernel
theorem dL_law_195 : decode cL_law 195 = .ok (.aload_n 0, 1) := by decide +kernel
theorem dL_law_196 : decode cL_law 196 = .ok (.iload_n 3, 1) := by decide +kernel
theorem dL_law_197 : decode cL_law 197 = .ok (.iconst 1, 1) := by decide +kernel
theorem dL_law_198 : decode cL_law 198 = .ok (.iadd, 1) := by decide +kernel
theorem dL_law_199 : decode cL_law 199 = .ok (.iaload, 1) := by decide +kernel
theorem dL_law_200 : decode cL_law 200 = .ok (.invokevirtual 30, 3) := by decide +kernel
theorem dL_law_203 : decode cL_law 203 = .ok (.if_icmp .eq 531, 3) := by decide +kernel
theorem dL_law_206 : decode cL_law 206 = .ok (.iconst 0, 1) := by decide +kernel
theorem dL_law_207 : decode cL_law 207 = .ok (.ireturn, 1) := by decide +kernel
theorem dL_law_208 : decode cL_law 208 = .ok (.aload_n 1, 1) := by decide +kernel
theorem dL_law_209 : decode cL_law 209 = .ok (.aload_n 0, 1) := by decide +kernel
theorem dL_law_210 : decode cL_law 210 = .ok (.iload_n 3, 1) := by decide +kernel
theorem dL_law_211 : decode cL_law 211 = .ok (.iconst 1, 1) := by decide +kernel
theorem dL_law_212 : decode cL_law 212 = .ok (.iadd, 1) := by decide +kernel
theorem dL_law_213 : decode cL_law 213 = .ok (.iaload, 1) := by decide +kernel
theorem dL_law_214 : decode cL_law 214 = .ok (.aload_n 0, 1) := by decide +kernel
theorem dL_law_215 : decode cL_law 215 = .ok (.iload_n 3, 1) := by decide +kernel
theorem dL_law_216 : decode cL_law 216 = .ok (.iconst 2, 1) := by decide +kernel
theorem dL_law_217 : decode cL_law 217 = .ok (.iadd, 1) := by decide +kernel
theorem dL_law_218 : decode cL_law 218 = .ok (.iaload, 1) := by decide +kernel
theorem dL_law_219 : decode cL_law 219 = .ok (.invokevirtual 31, 3) := by decide +kernel
theorem dL_law_222 : decode cL_law 222 = .ok (.aload_n 2, 1) := by decide +kernel
theorem dL_law_223 : decode cL_law 223 = .ok (.aload_n 0, 1) := by decide +kernel
theorem dL_law_224 : decode cL_law 224 = .ok (.iload_n 3, 1) := by decide +kernel
theorem dL_law_225 : decode cL_law 225 = .ok (.iconst 1, 1) := by decide +kernel
theorem dL_law_226 : decode cL_law 226 = .ok (.iadd, 1) := by decide +kernel
theorem dL_law_227 : decode cL_law 227 = .ok (.iaload, 1) := by decide +kernel
theorem dL_law_228 : decode cL_law 228 = .ok (.aload_n 0, 1) := by decide +kernel
theorem dL_law_229 : decode cL_law 229 = .ok (.iload_n 3, 1) := by decide +kernel
theorem dL_law_230 : decode cL_law 230 = .ok (.iconst 2, 1) := by decide +kernel
theorem dL_law_231 : decode cL_law 231 = .ok (.iadd, 1) := by decide +kernel
theorem dL_law_232 : decode cL_law 232 = .ok (.iaload, 1) := by decide +kernel
theorem dL_law_233 : decode cL_law 233 = .ok (.invokevirtual 35, 3) := by decide +kernel
theorem dL_law_236 : decode cL_law 236 = .ok (.if_icmp .eq 498, 3) := by decide +kernel
theorem dL_law_239 : decode cL_law 239 = .ok (.iconst 0, 1) := by decide +kernel
theorem dL_law_240 : decode cL_law 240 = .ok (.ireturn, 1) := by decide +kernel
theorem dL_law_241 : decode cL_law 241 = .ok (.aload_n 1, 1) := by decide +kernel
theorem dL_law_242 : decode cL_law 242 = .ok (.aload_n 0, 1) := by decide +kernel
theorem dL_law_243 : decode cL_law 243 = .ok (.iload_n 3, 1) := by decide +kernel
theorem dL_law_244 : decode cL_law 244 = .ok (.iconst 1, 1) := by decide +kernel
theorem dL_law_245 : decode cL_law 245 = .ok (.iadd, 1) := by decide +kernel
theorem dL_law_246 : decode cL_law 246 = .ok (.iaload, 1) := by decide +kernel
theorem dL_law_247 : decode cL_law 247 = .ok (.invokevirtual 36, 3) := by decide +kernel
theorem dL_law_250 : decode cL_law 250 = .ok (.aload_n 2, 1) := by decide +kernel
theorem dL_law_251 : decode cL_law 251 = .ok (.aload_n 0, 1) := by decide +kernel
theorem dL_law_252 : decode cL_law 252 = .ok (.iload_n 3, 1) := by decide +kernel
theorem dL_law_253 : decode cL_law 253 = .ok (.iconst 1, 1) := by decide +kernel
theorem dL_law_254 : decode cL_law 254 = .ok (.iadd, 1) := by decide +kernel
theorem dL_law_255 : decode cL_law 255 = .ok (.iaload, 1) := by decide +kernel
theorem dL_law_256 : decode cL_law 256 = .ok (.invokevirtual 39, 3) := by decide +kernel
theorem dL_law_259 : decode cL_law 259 = .ok (.if_icmp .eq 475, 3) := by decide +kernel
theorem dL_law_262 : decode cL_law 262 = .ok (.iconst 0, 1) := by decide +kernel
theorem dL_law_263 : decode cL_law 263 = .ok (.ireturn, 1) := by decide +kernel
theorem dL_law_264 : decode cL_law 264 = .ok (.aload_n 1, 1) := by decide +kernel
theorem dL_law_265 : decode cL_law 265 = .ok (.aload_n 0, 1) := by decide +kernel
theorem dL_law_266 : decode cL_law 266 = .ok (.iload_n 3, 1) := by decide +kernel
theorem dL_law_267 : decode cL_law 267 = .ok (.iconst 1, 1) := by decide +kernel
theorem dL_law_268 : decode cL_law 268 = .ok (.iadd, 1) := by decide +kernel
theorem dL_law_269 : decode cL_law 269 = .ok (.iaload, 1) := by decide +kernel
theorem dL_law_270 : decode cL_law 270 = .ok (.aload_n 0, 1) := by decide +kernel
theorem dL_law_271 : decode cL_law 271 = .ok (.iload_n 3, 1) := by decide +kernel
theorem dL_law_272 : decode cL_law 272 = .ok (.iconst 2, 1) := by decide +kernel
theorem dL_law_273 : decode cL_law 273 = .ok (.iadd, 1) := by decide +kernel
theorem dL_law_274 : decode cL_law 274 = .ok (.iaload, 1) := by decide +kernel
theorem dL_law_275 : decode cL_law 275 = .ok (.aload_n 0, 1) := by decide +kernel
theorem dL_law_276 : decode cL_law 276 = .ok (.iload_n 3, 1) := by decide +kernel
theorem dL_law_277 : decode cL_law 277 = .ok (.iconst 3, 1) := by decide +kernel
theorem dL_law_278 : decode cL_law 278 = .ok (.iadd, 1) := by decide +kernel
theorem dL_law_279 : decode cL_law 279 = .ok (.iaload, 1) := by decide +kernel
theorem dL_law_280 : decode cL_law 280 = .ok (.aload_n 0, 1) := by decide +kernel
theorem dL_law_281 : decode cL_law 281 = .ok (.iload_n 3, 1) := by decide +kernel
theorem dL_law_282 : decode cL_law 282 = .ok (.iconst 4, 1) := by decide +kernel
theorem dL_law_283 : decode cL_law 283 = .ok (.iadd, 1) := by decide +kernel
theorem dL_law_284 : decode cL_law 284 = .ok (.iaload, 1) := by decide +kernel
theorem dL_law_285 : decode cL_law 285 = .ok (.aload_n 0, 1) := by decide +kernel
theorem dL_law_286 : decode cL_law 286 = .ok (.iload_n 3, 1) := by decide +kernel
theorem dL_law_287 : decode cL_law 287 = .ok (.iconst 5, 1) := by decide +kernel
theorem dL_law_288 : decode cL_law 288 = .ok (.iadd, 1) := by decide +kernel
theorem dL_law_289 : decode cL_law 289 = .ok (.iaload, 1) := by decide +kernel
theorem dL_law_290 : decode cL_law 290 = .ok (.aload_n 0, 1) := by decide +kernel
theorem dL_law_291 : decode cL_law 291 = .ok (.iload_n 3, 1) := by decide +kernel
theorem dL_law_292 : decode cL_law 292 = .ok (.bipush 6, 2) := by decide +kernel
theorem dL_law_294 : decode cL_law 294 = .ok (.iadd, 1) := by decide +kernel
theorem dL_law_295 : decode cL_law 295 = .ok (.iaload, 1) := by decide +kernel
theorem dL_law_296 : decode cL_law 296 = .ok (.invokevirtual 40, 3) := by decide +kernel
theorem dL_law_299 : decode cL_law 299 = .ok (.aload_n 2, 1) := by decide +kernel
theorem dL_law_300 : decode cL_law 300 = .ok (.aload_n 0, 1) := by decide +kernel
theorem dL_law_301 : decode cL_law 301 = .ok (.iload_n 3, 1) := by decide +kernel
theorem dL_law_302 : decode cL_law 302 = .ok (.iconst 1, 1) := by decide +kernel
theorem dL_law_303 : decode cL_law 303 = .ok (.iadd, 1) := by decide +kernel
theorem dL_law_304 : decode cL_law 304 = .ok (.iaload, 1) := by decide +kernel
theorem dL_law_305 : decode cL_law 305 = .ok (.aload_n 0, 1) := by decide +kernel
theorem dL_law_306 : decode cL_law 306 = .ok (.iload_n 3, 1) := by decide +kernel
theorem dL_law_307 : decode cL_law 307 = .ok (.iconst 2, 1) := by decide +kernel
theorem dL_law_308 : decode cL_law 308 = .ok (.iadd, 1) := by decide +kernel
theorem dL_law_309 : decode cL_law 309 = .ok (.iaload, 1) := by decide +kernel
theorem dL_law_310 : decode cL_law 310 = .ok (.aload_n 0, 1) := by decide +kernel
theorem dL_law_311 : decode cL_law 311 = .ok (.iload_n 3, 1) := by decide +kernel
theorem dL_law_312 : decode cL_law 312 = .ok (.iconst 3, 1) := by decide +kernel
theorem dL_law_313 : decode cL_law 313 = .ok (.iadd, 1) := by decide +kernel
theorem dL_law_314 : decode cL_law 314 = .ok (.iaload, 1) := by decide +kernel
theorem dL_law_315 : decode cL_law 315 = .ok (.aload_n 0, 1) := by decide +kernel
theorem dL_law_316 : decode cL_law 316 = .ok (.iload_n 3, 1) := by decide +kernel
theorem dL_law_317 : decode cL_law 317 = .ok (.iconst 4, 1) := by decide +kernel
theorem dL_law_318 : decode cL_law 318 = .ok (.iadd, 1) := by decide +kernel
theorem dL_law_319 : decode cL_law 319 = .ok (.iaload, 1) := by decide +kernel
theorem dL_law_320 : decode cL_law 320 = .ok (.aload_n 0, 1) := by decide +kernel
theorem dL_law_321 : decode cL_law 321 = .ok (.iload_n 3, 1) := by decide +kernel
theorem dL_law_322 : decode cL_law 322 = .ok (.iconst 5, 1) := by decide +kernel
theorem dL_law_323 : decode cL_law 323 = .ok (.iadd, 1) := by decide +kernel
theorem dL_law_324 : decode cL_law 324 = .ok (.iaload, 1) := by decide +kernel
theorem dL_law_325 : decode cL_law 325 = .ok (.aload_n 0, 1) := by decide +kernel
theorem dL_law_326 : decode cL_law 326 = .ok (.iload_n 3, 1) := by decide +kernel
theorem dL_law_327 : decode cL_law 327 = .ok (.bipush 6, 2) := by decide +kernel
theorem dL_law_329 : decode cL_law 329 = .ok (.iadd, 1) := by decide +kernel
theorem dL_law_330 : decode cL_law 330 = .ok (.iaload, 1) := by decide +kernel
theorem dL_law_331 : decode cL_law 331 = .ok (.invokevirtual 44, 3) := by decide +kernel
theorem dL_law_334 : decode cL_law 334 = .ok (.if_icmp .eq 400, 3) := by decide +kernel
theorem dL_law_337 : decode cL_law 337 = .ok (.iconst 0, 1) := by decide +kernel
theorem dL_law_338 : decode cL_law 338 = .ok (.ireturn, 1) := by decide +kernel
theorem dL_law_339 : decode cL_law 339 = .ok (.aload_n 1, 1) := by decide +kernel
theorem dL_law_340 : decode cL_law 340 = .ok (.aload_n 0, 1) := by decide +kernel
theorem dL_law_341 : decode cL_law 341 = .ok (.iload_n 3, 1) := by decide +kernel
theorem dL_law_342 : decode cL_law 342 = .ok (.iconst 1, 1) := by decide +kernel
theorem dL_law_343 : decode cL_law 343 = .ok (.iadd, 1) := by decide +kernel
theorem dL_law_344 : decode cL_law 344 = .ok (.iaload, 1) := by decide +kernel
theorem dL_law_345 : decode cL_law 345 = .ok (.invokevirtual 45, 3) := by decide +kernel
theorem dL_law_348 : decode cL_law 348 = .ok (.aload_n 2, 1) := by decide +kernel
theorem dL_law_349 : decode cL_law 349 = .ok (.aload_n 0, 1) := by decide +kernel
theorem dL_law_350 : decode cL_law 350 = .ok (.iload_n 3, 1) := by decide +kernel
theorem dL_law_351 : decode cL_law 351 = .ok (.iconst 1, 1) := by decide +kernel
theorem dL_law_352 : decode cL_law 352 = .ok (.iadd, 1) := by decide +kernel
theorem dL_law_353 : decode cL_law 353 = .ok (.iaload, 1) := by decide +kernel
theorem dL_law_354 : decode cL_law 354 = .ok (.invokevirtual 48, 3) := by decide +kernel
theorem dL_law_357 : decode cL_law 357 = .ok (.if_icmp .eq 377, 3) := by decide +kernel
theorem dL_law_360 : decode cL_law 360 = .ok (.iconst 0, 1) := by decide +kernel
theorem dL_law_361 : decode cL_law 361 = .ok (.ireturn, 1) := by decide +kernel
theorem dL_law_362 : decode cL_law 362 = .ok (.aload_n 1, 1) := by decide +kernel
theorem dL_law_363 : decode cL_law 363 = .ok (.aload_n 0, 1) := by decide +kernel
theorem dL_law_364 : decode cL_law 364 = .ok (.iload_n 3, 1) := by decide +kernel
theorem dL_law_365 : decode cL_law 365 = .ok (.iconst 1, 1) := by decide +kernel
theorem dL_law_366 : decode cL_law 366 = .ok (.iadd, 1) := by decide +kernel
theorem dL_law_367 : decode cL_law 367 = .ok (.iaload, 1) := by decide +kernel
theorem dL_law_368 : decode cL_law 368 = .ok (.aload_n 0, 1) := by decide +kernel
theorem dL_law_369 : decode cL_law 369 = .ok (.iload_n 3, 1) := by decide +kernel
theorem dL_law_370 : decode cL_law 370 = .ok (.iconst 2, 1) := by decide +kernel
theorem dL_law_371 : decode cL_law 371 = .ok (.iadd, 1) := by decide +kernel
theorem dL_law_372 : decode cL_law 372 = .ok (.iaload, 1) := by decide +kernel
theorem dL_law_373 : decode cL_law 373 = .ok (.invokevirtual 49, 3) := by decide +kernel
theorem dL_law_376 : decode cL_law 376 = .ok (.aload_n 2, 1) := by decide +kernel
theorem dL_law_377 : decode cL_law 377 = .ok (.aload_n 0, 1) := by decide +kernel
theorem dL_law_378 : decode cL_law 378 = .ok (.iload_n 3, 1) := by decide +kernel
theorem dL_law_379 : decode cL_law 379 = .ok (.iconst 1, 1) := by decide +kernel
theorem dL_law_380 : decode cL_law 380 = .ok (.iadd, 1) := by decide +kernel
theorem dL_law_381 : decode cL_law 381 = .ok (.iaload, 1) := by decide +kernel
theorem dL_law_382 : decode cL_law 382 = .ok (.aload_n 0, 1) := by decide +kernel
theorem dL_law_383 : decode cL_law 383 = .ok (.iload_n 3, 1) := by decide +kernel
theorem dL_law_384 : decode cL_law 384 = .ok (.iconst 2, 1) := by decide +kernel
theorem dL_law_385 : decode cL_law 385 = .ok (.iadd, 1) := by decide +kernel
theorem dL_law_386 : decode cL_law 386 = .ok (.iaload, 1) := by decide +kernel
theorem dL_law_387 : decode cL_law 387 = .ok (.invokevirtual 52, 3) := by decide +kernel
theorem dL_law_390 : decode cL_law 390 = .ok (.if_icmp .eq 344, 3) := by decide +kernel
theorem dL_law_393 : decode cL_law 393 = .ok (.iconst 0, 1) := by decide +kernel
theorem dL_law_394 : decode cL_law 394 = .ok (.ireturn, 1) := by decide +kernel
theorem dL_law_395 : decode cL_law 395 = .ok (.aload_n 1, 1) := by decide +kernel
theorem dL_law_396 : decode cL_law 396 = .ok (.invokevirtual 53, 3) := by decide +kernel
theorem dL_law_399 : decode cL_law 399 = .ok (.aload_n 2, 1) := by decide +kernel
theorem dL_law_400 : decode cL_law 400 = .ok (.invokevirtual 56, 3) := by decide +kernel
theorem dL_law_403 : decode cL_law 403 = .ok (.if_icmp .eq 331, 3) := by decide +kernel
theorem dL_law_406 : decode cL_law 406 = .ok (.iconst 0, 1) := by decide +kernel
theorem dL_law_407 : decode cL_law 407 = .ok (.ireturn, 1) := by decide +kernel
theorem dL_law_408 : decode cL_law 408 = .ok (.aload_n 1, 1) := by decide +kernel
theorem dL_law_409 : decode cL_law 409 = .ok (.aload_n 0, 1) := by decide +kernel
theorem dL_law_410 : decode cL_law 410 = .ok (.iload_n 3, 1) := by decide +kernel
theorem dL_law_411 : decode cL_law 411 = .ok (.iconst 1, 1) := by decide +kernel
theorem dL_law_412 : decode cL_law 412 = .ok (.iadd, 1) := by decide +kernel
theorem dL_law_413 : decode cL_law 413 = .ok (.iaload, 1) := by decide +kernel
theorem dL_law_414 : decode cL_law 414 = .ok (.aload_n 0, 1) := by decide +kernel
theorem dL_law_415 : decode cL_law 415 = .ok (.iload_n 3, 1) := by decide +kernel
theorem dL_law_416 : decode cL_law 416 = .ok (.iconst 2, 1) := by decide +kernel
theorem dL_law_417 : decode cL_law 417 = .ok (.iadd, 1) := by decide +kernel
theorem dL_law_418 : decode cL_law 418 = .ok (.iaload, 1) := by decide +kernel
theorem dL_law_419 : decode cL_law 419 = .ok (.invokevirtual 57, 3) := by decide +kernel
theorem dL_law_422 : decode cL_law 422 = .ok (.aload_n 2, 1) := by decide +kernel
theorem dL_law_423 : decode cL_law 423 = .ok (.aload_n 0, 1) := by decide +kernel
theorem dL_law_424 : decode cL_law 424 = .ok (.iload_n 3, 1) := by decide +kernel
theorem dL_law_425 : decode cL_law 425 = .ok (.iconst 1, 1) := by decide +kernel
theorem dL_law_426 : decode cL_law 426 = .ok (.iadd, 1) := by decide +kernel
theorem dL_law_427 : decode cL_law 427 = .ok (.iaload, 1) := by decide +kernel
theorem dL_law_428 : decode cL_law 428 = .ok (.aload_n 0, 1) := by decide +kernel
theorem dL_law_429 : decode cL_law 429 = .ok (.iload_n 3, 1) := by decide +kernel
theorem dL_law_430 : decode cL_law 430 = .ok (.iconst 2, 1) := by decide +kernel
theorem dL_law_431 : decode cL_law 431 = .ok (.iadd, 1) := by decide +kernel
theorem dL_law_432 : decode cL_law 432 = .ok (.iaload, 1) := by decide +kernel
theorem dL_law_433 : decode cL_law 433 = .ok (.invokevirtual 60, 3) := by decide +kernel
theorem dL_law_436 : decode cL_law 436 = .ok (.if_icmp .eq 298, 3) := by decide +kernel
theorem dL_law_439 : decode cL_law 439 = .ok (.iconst 0, 1) := by decide +kernel
theorem dL_law_440 : decode cL_law 440 = .ok (.ireturn, 1) := by decide +kernel
theorem dL_law_441 : decode cL_law 441 = .ok (.aload_n 1, 1) := by decide +kernel
theorem dL_law_442 : decode cL_law 442 = .ok (.aload_n 0, 1) := by decide +kernel
theorem dL_law_443 : decode cL_law 443 = .ok (.iload_n 3, 1) := by decide +kernel
theorem dL_law_444 : decode cL_law 444 = .ok (.iconst 1, 1) := by decide +kernel
theorem dL_law_445 : decode cL_law 445 = .ok (.iadd, 1) := by decide +kernel
theorem dL_law_446 : decode cL_law 446 = .ok (.iaload, 1) := by decide +kernel
theorem dL_law_447 : decode cL_law 447 = .ok (.aload_n 0, 1) := by decide +kernel
theorem dL_law_448 : decode cL_law 448 = .ok (.iload_n 3, 1) := by decide +kernel
theorem dL_law_449 : decode cL_law 449 = .ok (.iconst 2, 1) := by decide +kernel
theorem dL_law_450 : decode cL_law 450 = .ok (.iadd, 1) := by decide +kernel
theorem dL_law_451 : decode cL_law 451 = .ok (.iaload, 1) := by decide +kernel
theorem dL_law_452 : decode cL_law 452 = .ok (.invokevirtual 61, 3) := by decide +kernel
theorem dL_law_455 : decode cL_law 455 = .ok (.aload_n 2, 1) := by decide +kernel
theorem dL_law_456 : decode cL_law 456 = .ok (.aload_n 0, 1) := by decide +kernel
theorem dL_law_457 : decode cL_law 457 = .ok (.iload_n 3, 1) := by decide +kernel
theorem dL_law_458 : decode cL_law 458 = .ok (.iconst 1, 1) := by decide +kernel
theorem dL_law_459 : decode cL_law 459 = .ok (.iadd, 1) := by decide +kernel
theorem dL_law_460 : decode cL_law 460 = .ok (.iaload, 1) := by decide +kernel
theorem dL_law_461 : decode cL_law 461 = .ok (.aload_n 0, 1) := by decide +kernel
theorem dL_law_462 : decode cL_law 462 = .ok (.iload_n 3, 1) := by decide +kernel
theorem dL_law_463 : decode cL_law 463 = .ok (.iconst 2, 1) := by decide +kernel
theorem dL_law_464 : decode cL_law 464 = .ok (.iadd, 1) := by decide +kernel
theorem dL_law_465 : decode cL_law 465 = .ok (.iaload, 1) := by decide +kernel
theorem dL_law_466 : decode cL_law 466 = .ok (.invokevirtual 64, 3) := by decide +kernel
theorem dL_law_469 : decode cL_law 469 = .ok (.if_icmp .eq 265, 3) := by decide +kernel
theorem dL_law_472 : decode cL_law 472 = .ok (.iconst 0, 1) := by decide +kernel
theorem dL_law_473 : decode cL_law 473 = .ok (.ireturn, 1) := by decide +kernel
theorem dL_law_474 : decode cL_law 474 = .ok (.aload_n 1, 1) := by decide +kernel
theorem dL_law_475 : decode cL_law 475 = .ok (.invokevirtual 65, 3) := by decide +kernel
theorem dL_law_478 : decode cL_law 478 = .ok (.aload_n 2, 1) := by decide +kernel
theorem dL_law_479 : decode cL_law 479 = .ok (.invokevirtual 68, 3) := by decide +kernel
theorem dL_law_482 : decode cL_law 482 = .ok (.if_icmp .eq 252, 3) := by decide +kernel
theorem dL_law_485 : decode cL_law 485 = .ok (.iconst 0, 1) := by decide +kernel
theorem dL_law_486 : decode cL_law 486 = .ok (.ireturn, 1) := by decide +kernel
theorem dL_law_487 : decode cL_law 487 = .ok (.aload_n 1, 1) := by decide +kernel
theorem dL_law_488 : decode cL_law 488 = .ok (.aload_n 0, 1) := by decide +kernel
theorem dL_law_489 : decode cL_law 489 = .ok (.iload_n 3, 1) := by decide +kernel
theorem dL_law_490 : decode cL_law 490 = .ok (.iconst 1, 1) := by decide +kernel
theorem dL_law_491 : decode cL_law 491 = .ok (.iadd, 1) := by decide +kernel
theorem dL_law_492 : decode cL_law 492 = .ok (.iaload, 1) := by decide +kernel
theorem dL_law_493 : decode cL_law 493 = .ok (.aload_n 0, 1) := by decide +kernel
theorem dL_law_494 : decode cL_law 494 = .ok (.iload_n 3, 1) := by decide +kernel
theorem dL_law_495 : decode cL_law 495 = .ok (.iconst 2, 1) := by decide +kernel
theorem dL_law_496 : decode cL_law 496 = .ok (.iadd, 1) := by decide +kernel
theorem dL_law_497 : decode cL_law 497 = .ok (.iaload, 1) := by decide +kernel
theorem dL_law_498 : decode cL_law 498 = .ok (.aload_n 0, 1) := by decide +kernel
theorem dL_law_499 : decode cL_law 499 = .ok (.iload_n 3, 1) := by decide +kernel
theorem dL_law_500 : decode cL_law 500 = .ok (.iconst 3, 1) := by decide +kernel
theorem dL_law_501 : decode cL_law 501 = .ok (.iadd, 1) := by decide +kernel
theorem dL_law_502 : decode cL_law 502 = .ok (.iaload, 1) := by decide +kernel
theorem dL_law_503 : decode cL_law 503 = .ok (.invokevirtual 69, 3) := by decide +kernel
theorem dL_law_506 : decode cL_law 506 = .ok (.aload_n 2, 1) := by decide +kernel
theorem dL_law_507 : decode cL_law 507 = .ok (.aload_n 0, 1) := by decide +kernel
theorem dL_law_508 : decode cL_law 508 = .ok (.iload_n 3, 1) := by decide +kernel
theorem dL_law_509 : decode cL_law 509 = .ok (.iconst 1, 1) := by decide +kernel
theorem dL_law_510 : decode cL_law 510 = .ok (.iadd, 1) := by decide +kernel
theorem dL_law_511 : decode cL_law 511 = .ok (.iaload, 1) := by decide +kernel
theorem dL_law_512 : decode cL_law 512 = .ok (.aload_n 0, 1) := by decide +kernel
theorem dL_law_513 : decode cL_law 513 = .ok (.iload_n 3, 1) := by decide +kernel
theorem dL_law_514 : decode cL_law 514 = .ok (.iconst 2, 1) := by decide +kernel
theorem dL_law_515 : decode cL_law 515 = .ok (.iadd, 1) := by decide +kernel
theorem dL_law_516 : decode cL_law 516 = .ok (.iaload, 1) := by decide +kernel
theorem dL_law_517 : decode cL_law 517 = .ok (.aload_n 0, 1) := by decide +kernel
theorem dL_law_518 : decode cL_law 518 = .ok (.iload_n 3, 1) := by decide +kernel
theorem dL_law_519 : decode cL_law 519 = .ok (.iconst 3, 1) := by decide +kernel
theorem dL_law_520 : decode cL_law 520 = .ok (.iadd, 1) := by decide +kernel
theorem dL_law_521 : decode cL_law 521 = .ok (.iaload, 1) := by decide +kernel
theorem dL_law_522 : decode cL_law 522 = .ok (.invokevirtual 73, 3) := by decide +kernel
theorem dL_law_525 : decode cL_law 525 = .ok (.if_icmp .eq 209, 3) := by decide +kernel
theorem dL_law_528 : decode cL_law 528 = .ok (.iconst 0, 1) := by decide +kernel
theorem dL_law_529 : decode cL_law 529 = .ok (.ireturn, 1) := by decide +kernel
theorem dL_law_530 : decode cL_law 530 = .ok (.aload_n 1, 1) := by decide +kernel
theorem dL_law_531 : decode cL_law 531 = .ok (.aload_n 0, 1) := by decide +kernel
theorem dL_law_532 : decode cL_law 532 = .ok (.iload_n 3, 1) := by decide +kernel
theorem dL_law_533 : decode cL_law 533 = .ok (.iconst 1, 1) := by decide +kernel
theorem dL_law_534 : decode cL_law 534 = .ok (.iadd, 1) := by decide +kernel
theorem dL_law_535 : decode cL_law 535 = .ok (.iaload, 1) := by decide +kernel
theorem dL_law_536 : decode cL_law 536 = .ok (.invokevirtual 74, 3) := by decide +kernel
theorem dL_law_539 : decode cL_law 539 = .ok (.aload_n 2, 1) := by decide +kernel
theorem dL_law_540 : decode cL_law 540 = .ok (.aload_n 0, 1) := by decide +kernel
theorem dL_law_541 : decode cL_law 541 = .ok (.iload_n 3, 1) := by decide +kernel
theorem dL_law_542 : decode cL_law 542 = .ok (.iconst 1, 1) := by decide +kernel
theorem dL_law_543 : decode cL_law 543 = .ok (.iadd, 1) := by decide +kernel
theorem dL_law_544 : decode cL_law 544 = .ok (.iaload, 1) := by decide +kernel
theorem dL_law_545 : decode cL_law 545 = .ok (.invokevirtual 77, 3) := by decide +kernel
theorem dL_law_548 : decode cL_law 548 = .ok (.if_icmp .eq 186, 3) := by decide +kernel
theorem dL_law_551 : decode cL_law 551 = .ok (.iconst 0, 1) := by decide +kernel
theorem dL_law_552 : decode cL_law 552 = .ok (.ireturn, 1) := by decide +kernel
theorem dL_law_553 : decode cL_law 553 = .ok (.aload_n 1, 1) := by decide +kernel
theorem dL_law_554 : decode cL_law 554 = .ok (.aload_n 0, 1) := by decide +kernel
theorem dL_law_555 : decode cL_law 555 = .ok (.iload_n 3, 1) := by decide +kernel
theorem dL_law_556 : decode cL_law 556 = .ok (.iconst 1, 1) := by decide +kernel
theorem dL_law_557 : decode cL_law 557 = .ok (.iadd, 1) := by decide +kernel
theorem dL_law_558 : decode cL_law 558 = .ok (.iaload, 1) := by decide +kernel
theorem dL_law_559 : decode cL_law 559 = .ok (.aload_n 0, 1) := by decide +kernel
theorem dL_law_560 : decode cL_law 560 = .ok (.iload_n 3, 1) := by decide +kernel
theorem dL_law_561 : decode cL_law 561 = .ok (.iconst 2, 1) := by decide +kernel
theorem dL_law_562 : decode cL_law 562 = .ok (.iadd, 1) := by decide +kernel
theorem dL_law_563 : decode cL_law 563 = .ok (.iaload, 1) := by decide +kernel
theorem dL_law_564 : decode cL_law 564 = .ok (.aload_n 0, 1) := by decide +kernel
theorem dL_law_565 : decode cL_law 565 = .ok (.iload_n 3, 1) := by decide +kernel
theorem dL_law_566 : decode cL_law 566 = .ok (.iconst 3, 1) := by decide +kernel
theorem dL_law_567 : decode cL_law 567 = .ok (.iadd, 1) := by decide +kernel
theorem dL_law_568 : decode cL_law 568 = .ok (.iaload, 1) := by decide +kernel
theorem dL_law_569 : decode cL_law 569 = .ok (.invokevirtual 78, 3) := by decide +kernel
theorem dL_law_572 : decode cL_law 572 = .ok (.aload_n 2, 1) := by decide +kernel
theorem dL_law_573 : decode cL_law 573 = .ok (.aload_n 0, 1) := by decide +kernel
theorem dL_law_574 : decode cL_law 574 = .ok (.iload_n 3, 1) := by decide +kernel
theorem dL_law_575 : decode cL_law 575 = .ok (.iconst 1, 1) := by decide +kernel
theorem dL_law_576 : decode cL_law 576 = .ok (.iadd, 1) := by decide +kernel
theorem dL_law_577 : decode cL_law 577 = .ok (.iaload, 1) := by decide +kernel
theorem dL_law_578 : decode cL_law 578 = .ok (.aload_n 0, 1) := by decide +kernel
theorem dL_law_579 : decode cL_law 579 = .ok (.iload_n 3, 1) := by decide +kernel
theorem dL_law_580 : decode cL_law 580 = .ok (.iconst 2, 1) := by decide +kernel
theorem dL_law_581 : decode cL_law 581 = .ok (.iadd, 1) := by decide +kernel
theorem dL_law_582 : decode cL_law 582 = .ok (.iaload, 1) := by decide +kernel
theorem dL_law_583 : decode cL_law 583 = .ok (.aload_n 0, 1) := by decide +kernel
theorem dL_law_584 : decode cL_law 584 = .ok (.iload_n 3, 1) := by decide +kernel
theorem dL_law_585 : decode cL_law 585 = .ok (.iconst 3, 1) := by decide +kernel
theorem dL_law_586 : decode cL_law 586 = .ok (.iadd, 1) := by decide +kernel
theorem dL_law_587 : decode cL_law 587 = .ok (.iaload, 1) := by decide +kernel
theorem dL_law_588 : decode cL_law 588 = .ok (.invokevirtual 81, 3) := by decide +kernel
theorem dL_law_591 : decode cL_law 591 = .ok (.if_icmp .eq 143, 3) := by decide +kernel
theorem dL_law_594 : decode cL_law 594 = .ok (.iconst 0, 1) := by decide +kernel
theorem dL_law_595 : decode cL_law 595 = .ok (.ireturn, 1) := by decide +kernel
theorem dL_law_596 : decode cL_law 596 = .ok (.aload_n 1, 1) := by decide +kernel
theorem dL_law_597 : decode cL_law 597 = .ok (.aload_n 0, 1) := by decide +kernel
theorem dL_law_598 : decode cL_law 598 = .ok (.iload_n 3, 1) := by decide +kernel
theorem dL_law_599 : decode cL_law 599 = .ok (.iconst 1, 1) := by decide +kernel
theorem dL_law_600 : decode cL_law 600 = .ok (.iadd, 1) := by decide +kernel
theorem dL_law_601 : decode cL_law 601 = .ok (.iaload, 1) := by decide +kernel
theorem dL_law_602 : decode cL_law 602 = .ok (.aload_n 0, 1) := by decide +kernel
theorem dL_law_603 : decode cL_law 603 = .ok (.iload_n 3, 1) := by decide +kernel
theorem dL_law_604 : decode cL_law 604 = .ok (.iconst 2, 1) := by decide +kernel
theorem dL_law_605 : decode cL_law 605 = .ok (.iadd, 1) := by decide +kernel
theorem dL_law_606 : decode cL_law 606 = .ok (.iaload, 1) := by decide +kernel
theorem dL_law_607 : decode cL_law 607 = .ok (.invokevirtual 82, 3) := by decide +kernel
theorem dL_law_610 : decode cL_law 610 = .ok (.aload_n 2, 1) := by decide +kernel
theorem dL_law_611 : decode cL_law 611 = .ok (.aload_n 0, 1) := by decide +kernel
theorem dL_law_612 : decode cL_law 612 = .ok (.iload_n 3, 1) := by decide +kernel
theorem dL_law_613 : decode cL_law 613 = .ok (.iconst 1, 1) := by decide +kernel
theorem dL_law_614 : decode cL_law 614 = .ok (.iadd, 1) := by decide +kernel
theorem dL_law_615 : decode cL_law 615 = .ok (.iaload, 1) := by decide +kernel
theorem dL_law_616 : decode cL_law 616 = .ok (.aload_n 0, 1) := by decide +kernel
theorem dL_law_617 : decode cL_law 617 = .ok (.iload_n 3, 1) := by decide +kernel
theorem dL_law_618 : decode cL_law 618 = .ok (.iconst 2, 1) := by decide +kernel
theorem dL_law_619 : decode cL_law 619 = .ok (.iadd, 1) := by decide +kernel
theorem dL_law_620 : decode cL_law 620 = .ok (.iaload, 1) := by decide +kernel
theorem dL_law_621 : decode cL_law 621 = .ok (.invokevirtual 85, 3) := by decide +kernel
theorem dL_law_624 : decode cL_law 624 = .ok (.if_icmp .eq 110, 3) := by decide +kernel
theorem dL_law_627 : decode cL_law 627 = .ok (.iconst 0, 1) := by decide +kernel
theorem dL_law_628 : decode cL_law 628 = .ok (.ireturn, 1) := by decide +kernel
theorem dL_law_629 : decode cL_law 629 = .ok (.aload_n 1, 1) := by decide +kernel
theorem dL_law_630 : decode cL_law 630 = .ok (.invokevirtual 86, 3) := by decide +kernel
theorem dL_law_633 : decode cL_law 633 = .ok (.aload_n 2, 1) := by decide +kernel
theorem dL_law_634 : decode cL_law 634 = .ok (.invokevirtual 89, 3) := by decide +kernel
theorem dL_law_637 : decode cL_law 637 = .ok (.if_icmp .eq 97, 3) := by decide +kernel
theorem dL_law_640 : decode cL_law 640 = .ok (.iconst 0, 1) := by decide +kernel
theorem dL_law_641 : decode cL_law 641 = .ok (.ireturn, 1) := by decide +kernel
theorem dL_law_642 : decode cL_law 642 = .ok (.aload_n 1, 1) := by decide +kernel
theorem dL_law_643 : decode cL_law 643 = .ok (.aload_n 0, 1) := by decide +kernel
theorem dL_law_644 : decode cL_law 644 = .ok (.iload_n 3, 1) := by decide +kernel
theorem dL_law_645 : decode cL_law 645 = .ok (.iconst 1, 1) := by decide +kernel
theorem dL_law_646 : decode cL_law 646 = .ok (.iadd, 1) := by decide +kernel
theorem dL_law_647 : decode cL_law 647 = .ok (.iaload, 1) := by decide +kernel
theorem dL_law_648 : decode cL_law 648 = .ok (.invokevirtual 90, 3) := by decide +kernel
theorem dL_law_651 : decode cL_law 651 = .ok (.aload_n 2, 1) := by decide +kernel
theorem dL_law_652 : decode cL_law 652 = .ok (.aload_n 0, 1) := by decide +kernel
theorem dL_law_653 : decode cL_law 653 = .ok (.iload_n 3, 1) := by decide +kernel
theorem dL_law_654 : decode cL_law 654 = .ok (.iconst 1, 1) := by decide +kernel
theorem dL_law_655 : decode cL_law 655 = .ok (.iadd, 1) := by decide +kernel
theorem dL_law_656 : decode cL_law 656 = .ok (.iaload, 1) := by decide +kernel
theorem dL_law_657 : decode cL_law 657 = .ok (.invokevirtual 93, 3) := by decide +kernel
theorem dL_law_660 : decode cL_law 660 = .ok (.if_icmp .eq 74, 3) := by decide +kernel
theorem dL_law_663 : decode cL_law 663 = .ok (.iconst 0, 1) := by decide +kernel
theorem dL_law_664 : decode cL_law 664 = .ok (.ireturn, 1) := by decide +kernel
theorem dL_law_665 : decode cL_law 665 = .ok (.aload_n 1, 1) := by decide +kernel
theorem dL_law_666 : decode cL_law 666 = .ok (.aload_n 0, 1) := by decide +kernel
theorem dL_law_667 : decode cL_law 667 = .ok (.iload_n 3, 1) := by decide +kernel
theorem dL_law_668 : decode cL_law 668 = .ok (.iconst 1, 1) := by decide +kernel
theorem dL_law_669 : decode cL_law 669 = .ok (.iadd, 1) := by decide +kernel
theorem dL_law_670 : decode cL_law 670 = .ok (.iaload, 1) := by decide +kernel
theorem dL_law_671 : decode cL_law 671 = .ok (.invokevirtual 94, 3) := by decide +kernel
theorem dL_law_674 : decode cL_law 674 = .ok (.aload_n 2, 1) := by decide +kernel
theorem dL_law_675 : decode cL_law 675 = .ok (.aload_n 0, 1) := by decide +kernel
theorem dL_law_676 : decode cL_law 676 = .ok (.iload_n 3, 1) := by decide +kernel
theorem dL_law_677 : decode cL_law 677 = .ok (.iconst 1, 1) := by decide +kernel
theorem dL_law_678 : decode cL_law 678 = .ok (.iadd, 1) := by decide +kernel
theorem dL_law_679 : decode cL_law 679 = .ok (.iaload, 1) := by decide +kernel
theorem dL_law_680 : decode cL_law 680 = .ok (.invokevirtual 97, 3) := by decide +kernel
theorem dL_law_683 : decode cL_law 683 = .ok (.if_icmp .eq 51, 3) := by decide +kernel
theorem dL_law_686 : decode cL_law 686 = .ok (.iconst 0, 1) := by decide +kernel
theorem dL_law_687 : decode cL_law 687 = .ok (.ireturn, 1) := by decide +kernel
theorem dL_law_688 : decode cL_law 688 = .ok (.aload_n 1, 1) := by decide +kernel
theorem dL_law_689 : decode cL_law 689 = .ok (.aload_n 0, 1) := by decide +kernel
theorem dL_law_690 : decode cL_law 690 = .ok (.iload_n 3, 1) := by decide +kernel
theorem dL_law_691 : decode cL_law 691 = .ok (.iconst 1, 1) := by decide +kernel
theorem dL_law_692 : decode cL_law 692 = .ok (.iadd, 1) := by decide +kernel
theorem dL_law_693 : decode cL_law 693 = .ok (.iaload, 1) := by decide +kernel
theorem dL_law_694 : decode cL_law 694 = .ok (.invokevirtual 98, 3) := by decide +kernel
theorem dL_law_697 : decode cL_law 697 = .ok (.aload_n 2, 1) := by decide +kernel
theorem dL_law_698 : decode cL_law 698 = .ok (.aload_n 0, 1) := by decide +kernel
theorem dL_law_699 : decode cL_law 699 = .ok (.iload_n 3, 1) := by decide +kernel
theorem dL_law_700 : decode cL_law 700 = .ok (.iconst 1, 1) := by decide +kernel
theorem dL_law_701 : decode cL_law 701 = .ok (.iadd, 1) := by decide +kernel
theorem dL_law_702 : decode cL_law 702 = .ok (.iaload, 1) := by decide +kernel
theorem dL_law_703 : decode cL_law 703 = .ok (.invokevirtual 101, 3) := by decide +kernel
theorem dL_law_706 : decode cL_law 706 = .ok (.if_icmp .eq 28, 3) := by decide +kernel
theorem dL_law_709 : decode cL_law 709 = .ok (.iconst 0, 1) := by decide +kernel
theorem dL_law_710 : decode cL_law 710 = .ok (.ireturn, 1) := by decide +kernel
theorem dL_law_711 : decode cL_law 711 = .ok (.aload_n 1, 1) := by decide +kernel
theorem dL_law_712 : decode cL_law 712 = .ok (.aload_n 0, 1) := by decide +kernel
theorem dL_law_713 : decode cL_law 713 = .ok (.iload_n 3, 1) := by decide +kernel
theorem dL_law_714 : decode cL_law 714 = .ok (.iconst 1, 1) := by decide +kernel
theorem dL_law_715 : decode cL_law 715 = .ok (.iadd, 1) := by decide +kernel
theorem dL_law_716 : decode cL_law 716 = .ok (.iaload, 1) := by decide +kernel
theorem dL_law_717 : decode cL_law 717 = .ok (.invokevirtual 102, 3) := by decide +kernel
theorem dL_law_720 : decode cL_law 720 = .ok (.aload_n 2, 1) := by decide +kernel
theorem dL_law_721 : decode cL_law 721 = .ok (.aload_n 0, 1) := by decide +kernel
theorem dL_law_722 : decode cL_law 722 = .ok (.iload_n 3, 1) := by decide +kernel
theorem dL_law_723 : decode cL_law 723 = .ok (.iconst 1, 1) := by decide +kernel
theorem dL_law_724 : decode cL_law 724 = .ok (.iadd, 1) := by decide +kernel
theorem dL_law_725 : decode cL_law 725 = .ok (.iaload, 1) := by decide +kernel
theorem dL_law_726 : decode cL_law 726 = .ok (.invokevirtual 105, 3) := by decide +kernel
theorem dL_law_729 : decode cL_law 729 = .ok (.if_icmp .eq 5, 3) := by decide +kernel
theorem dL_law_732 : decode cL_law 732 = .ok (.iconst 0, 1) := by decide +kernel
theorem dL_law_733 : decode cL_law 733 = .ok (.ireturn, 1) := by decide +kernel
theorem dL_law_734 : decode cL_law 734 = .ok (.iinc 3 7, 3) := by decide +kernel
theorem dL_law_737 : decode cL_law 737 = .ok (.goto (-719), 3) := by decide +kernel
theorem dL_law_740 : decode cL_law 740 = .ok (.iconst 1, 1) := by decide +kernel
theorem dL_law_741 : decode cL_law 741 = .ok (.ireturn, 1) := by decide +kernel
