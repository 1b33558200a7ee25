theorem dX2_init_0 : decode cX2_init 0 = .ok (.aload_n 0, 1) := by decide +kernel
theorem dX2_init_1 : decode cX2_init 1 = .ok (.invokespecial 1, 3) := by decide +kernel
theorem dX2_init_4 : decode cX2_init 4 = .ok (.aload_n 0, 1) := by decide +kernel
theorem dX2_init_5 : decode cX2_init 5 = .ok (.iconst 1, 1) := by decide +kernel
theorem dX2_init_6 : decode cX2_init 6 = .ok (.putfield 7, 3) := by decide +kernel
theorem dX2_init_9 : decode cX2_init 9 = .ok (.aload_n 0, 1) := by decide +kernel
theorem dX2_init_10 : decode cX2_init 10 = .ok (.iconst 4, 1) := by decide +kernel
theorem dX2_init_11 : decode cX2_init 11 = .ok (.newarray .int, 2) := by decide +kernel
theorem dX2_init_13 : decode cX2_init 13 = .ok (.putfield 13, 3) := by decide +kernel
theorem dX2_init_16 : decode cX2_init 16 = .ok (.aload_n 0, 1) := by decide +kernel
theorem dX2_init_17 : decode cX2_init 17 = .ok (.bipush 96, 2) := by decide +kernel
theorem dX2_init_19 : decode cX2_init 19 = .ok (.newarray .int, 2) := by decide +kernel
theorem dX2_init_21 : decode cX2_init 21 = .ok (.putfield 17, 3) := by decide +kernel
theorem dX2_init_24 : decode cX2_init 24 = .ok (.aload_n 0, 1) := by decide +kernel
theorem dX2_init_25 : decode cX2_init 25 = .ok (.bipush 96, 2) := by decide +kernel
theorem dX2_init_27 : decode cX2_init 27 = .ok (.newarray .int, 2) := by decide +kernel
theorem dX2_init_29 : decode cX2_init 29 = .ok (.putfield 20, 3) := by decide +kernel
theorem dX2_init_32 : decode cX2_init 32 = .ok (.aload_n 0, 1) := by decide +kernel
theorem dX2_init_33 : decode cX2_init 33 = .ok (.bipush 64, 2) := by decide +kernel
theorem dX2_init_35 : decode cX2_init 35 = .ok (.newarray .int, 2) := by decide +kernel
theorem dX2_init_37 : decode cX2_init 37 = .ok (.putfield 23, 3) := by decide +kernel
theorem dX2_init_40 : decode cX2_init 40 = .ok (.aload_n 0, 1) := by decide +kernel
theorem dX2_init_41 : decode cX2_init 41 = .ok (.bipush 64, 2) := by decide +kernel
theorem dX2_init_43 : decode cX2_init 43 = .ok (.newarray .int, 2) := by decide +kernel
theorem dX2_init_45 : decode cX2_init 45 = .ok (.putfield 26, 3) := by decide +kernel
theorem dX2_init_48 : decode cX2_init 48 = .ok (.return_, 1) := by decide +kernel
theorem dX2_states_0 : decode cX2_states 0 = .ok (.iconst 1, 1) := by decide +kernel
theorem dX2_states_1 : decode cX2_states 1 = .ok (.aload_n 0, 1) := by decide +kernel
theorem dX2_states_2 : decode cX2_states 2 = .ok (.getfield 7, 3) := by decide +kernel
theorem dX2_states_5 : decode cX2_states 5 = .ok (.ishl, 1) := by decide +kernel
theorem dX2_states_6 : decode cX2_states 6 = .ok (.ireturn, 1) := by decide +kernel
theorem dX2_isState_0 : decode cX2_isState 0 = .ok (.iload_n 1, 1) := by decide +kernel
theorem dX2_isState_1 : decode cX2_isState 1 = .ok (.ifCond .lt 15, 3) := by decide +kernel
theorem dX2_isState_4 : decode cX2_isState 4 = .ok (.iload_n 1, 1) := by decide +kernel
theorem dX2_isState_5 : decode cX2_isState 5 = .ok (.aload_n 0, 1) := by decide +kernel
theorem dX2_isState_6 : decode cX2_isState 6 = .ok (.invokevirtual 29, 3) := by decide +kernel
theorem dX2_isState_9 : decode cX2_isState 9 = .ok (.if_icmp .ge 7, 3) := by decide +kernel
theorem dX2_isState_12 : decode cX2_isState 12 = .ok (.iconst 1, 1) := by decide +kernel
theorem dX2_isState_13 : decode cX2_isState 13 = .ok (.goto 4, 3) := by decide +kernel
theorem dX2_isState_16 : decode cX2_isState 16 = .ok (.iconst 0, 1) := by decide +kernel
theorem dX2_isState_17 : decode cX2_isState 17 = .ok (.ireturn, 1) := by decide +kernel
theorem dX2_isList_0 : decode cX2_isList 0 = .ok (.iload_n 0, 1) := by decide +kernel
theorem dX2_isList_1 : decode cX2_isList 1 = .ok (.ifCond .lt 12, 3) := by decide +kernel
theorem dX2_isList_4 : decode cX2_isList 4 = .ok (.iload_n 0, 1) := by decide +kernel
theorem dX2_isList_5 : decode cX2_isList 5 = .ok (.iconst 4, 1) := by decide +kernel
theorem dX2_isList_6 : decode cX2_isList 6 = .ok (.if_icmp .ge 7, 3) := by decide +kernel
theorem dX2_isList_9 : decode cX2_isList 9 = .ok (.iconst 1, 1) := by decide +kernel
theorem dX2_isList_10 : decode cX2_isList 10 = .ok (.goto 4, 3) := by decide +kernel
theorem dX2_isList_13 : decode cX2_isList 13 = .ok (.iconst 0, 1) := by decide +kernel
theorem dX2_isList_14 : decode cX2_isList 14 = .ok (.ireturn, 1) := by decide +kernel
theorem dX2_begin_0 : decode cX2_begin 0 = .ok (.iload_n 1, 1) := by decide +kernel
theorem dX2_begin_1 : decode cX2_begin 1 = .ok (.iconst 1, 1) := by decide +kernel
theorem dX2_begin_2 : decode cX2_begin 2 = .ok (.if_icmp .lt 9, 3) := by decide +kernel
theorem dX2_begin_5 : decode cX2_begin 5 = .ok (.iload_n 1, 1) := by decide +kernel
theorem dX2_begin_6 : decode cX2_begin 6 = .ok (.bipush 6, 2) := by decide +kernel
theorem dX2_begin_8 : decode cX2_begin 8 = .ok (.if_icmp .le 5, 3) := by decide +kernel
theorem dX2_begin_11 : decode cX2_begin 11 = .ok (.iconst 0, 1) := by decide +kernel
theorem dX2_begin_12 : decode cX2_begin 12 = .ok (.ireturn, 1) := by decide +kernel
theorem dX2_begin_13 : decode cX2_begin 13 = .ok (.aload_n 0, 1) := by decide +kernel
theorem dX2_begin_14 : decode cX2_begin 14 = .ok (.iload_n 1, 1) := by decide +kernel
theorem dX2_begin_15 : decode cX2_begin 15 = .ok (.putfield 7, 3) := by decide +kernel
theorem dX2_begin_18 : decode cX2_begin 18 = .ok (.iconst 0, 1) := by decide +kernel
theorem dX2_begin_19 : decode cX2_begin 19 = .ok (.istore_n 2, 1) := by decide +kernel
theorem dX2_begin_20 : decode cX2_begin 20 = .ok (.iload_n 2, 1) := by decide +kernel
theorem dX2_begin_21 : decode cX2_begin 21 = .ok (.iconst 4, 1) := by decide +kernel
theorem dX2_begin_22 : decode cX2_begin 22 = .ok (.if_icmp .ge 16, 3) := by decide +kernel
theorem dX2_begin_25 : decode cX2_begin 25 = .ok (.aload_n 0, 1) := by decide +kernel
theorem dX2_begin_26 : decode cX2_begin 26 = .ok (.getfield 13, 3) := by decide +kernel
theorem dX2_begin_29 : decode cX2_begin 29 = .ok (.iload_n 2, 1) := by decide +kernel
theorem dX2_begin_30 : decode cX2_begin 30 = .ok (.iconst 0, 1) := by decide +kernel
theorem dX2_begin_31 : decode cX2_begin 31 = .ok (.iastore, 1) := by decide +kernel
theorem dX2_begin_32 : decode cX2_begin 32 = .ok (.iinc 2 1, 3) := by decide +kernel
theorem dX2_begin_35 : decode cX2_begin 35 = .ok (.goto (-15), 3) := by decide +kernel
theorem dX2_begin_38 : decode cX2_begin 38 = .ok (.aload_n 0, 1) := by decide +kernel
theorem dX2_begin_39 : decode cX2_begin 39 = .ok (.iconst 0, 1) := by decide +kernel
theorem dX2_begin_40 : decode cX2_begin 40 = .ok (.putfield 33, 3) := by decide +kernel
theorem dX2_begin_43 : decode cX2_begin 43 = .ok (.iconst 1, 1) := by decide +kernel
theorem dX2_begin_44 : decode cX2_begin 44 = .ok (.ireturn, 1) := by decide +kernel
theorem dX2_clause_0 : decode cX2_clause 0 = .ok (.iload_n 1, 1) := by decide +kernel
theorem dX2_clause_1 : decode cX2_clause 1 = .ok (.invokestatic 36, 3) := by decide +kernel
theorem dX2_clause_4 : decode cX2_clause 4 = .ok (.ifCond .eq 14, 3) := by decide +kernel
theorem dX2_clause_7 : decode cX2_clause 7 = .ok (.aload_n 0, 1) := by decide +kernel
theorem dX2_clause_8 : decode cX2_clause 8 = .ok (.getfield 13, 3) := by decide +kernel
theorem dX2_clause_11 : decode cX2_clause 11 = .ok (.iload_n 1, 1) := by decide +kernel
theorem dX2_clause_12 : decode cX2_clause 12 = .ok (.iaload, 1) := by decide +kernel
theorem dX2_clause_13 : decode cX2_clause 13 = .ok (.bipush 24, 2) := by decide +kernel
theorem dX2_clause_15 : decode cX2_clause 15 = .ok (.if_icmp .ne 5, 3) := by decide +kernel
theorem dX2_clause_18 : decode cX2_clause 18 = .ok (.iconst (-1), 1) := by decide +kernel
theorem dX2_clause_19 : decode cX2_clause 19 = .ok (.ireturn, 1) := by decide +kernel
theorem dX2_clause_20 : decode cX2_clause 20 = .ok (.iload_n 1, 1) := by decide +kernel
theorem dX2_clause_21 : decode cX2_clause 21 = .ok (.iconst 1, 1) := by decide +kernel
theorem dX2_clause_22 : decode cX2_clause 22 = .ok (.if_icmp .ne 14, 3) := by decide +kernel
theorem dX2_clause_25 : decode cX2_clause 25 = .ok (.iconst 1, 1) := by decide +kernel
theorem dX2_clause_26 : decode cX2_clause 26 = .ok (.iconst 2, 1) := by decide +kernel
theorem dX2_clause_27 : decode cX2_clause 27 = .ok (.aload_n 0, 1) := by decide +kernel
theorem dX2_clause_28 : decode cX2_clause 28 = .ok (.getfield 7, 3) := by decide +kernel
theorem dX2_clause_31 : decode cX2_clause 31 = .ok (.imul, 1) := by decide +kernel
theorem dX2_clause_32 : decode cX2_clause 32 = .ok (.ishl, 1) := by decide +kernel
theorem dX2_clause_33 : decode cX2_clause 33 = .ok (.goto 9, 3) := by decide +kernel
theorem dX2_clause_36 : decode cX2_clause 36 = .ok (.iconst 1, 1) := by decide +kernel
theorem dX2_clause_37 : decode cX2_clause 37 = .ok (.aload_n 0, 1) := by decide +kernel
theorem dX2_clause_38 : decode cX2_clause 38 = .ok (.getfield 7, 3) := by decide +kernel
theorem dX2_clause_41 : decode cX2_clause 41 = .ok (.ishl, 1) := by decide +kernel
theorem dX2_clause_42 : decode cX2_clause 42 = .ok (.istore 4, 2) := by decide +kernel
theorem dX2_clause_44 : decode cX2_clause 44 = .ok (.iload_n 2, 1) := by decide +kernel
theorem dX2_clause_45 : decode cX2_clause 45 = .ok (.ifCond .lt 19, 3) := by decide +kernel
theorem dX2_clause_48 : decode cX2_clause 48 = .ok (.iload_n 3, 1) := by decide +kernel
theorem dX2_clause_49 : decode cX2_clause 49 = .ok (.ifCond .lt 15, 3) := by decide +kernel
theorem dX2_clause_52 : decode cX2_clause 52 = .ok (.iload_n 2, 1) := by decide +kernel
theorem dX2_clause_53 : decode cX2_clause 53 = .ok (.iload 4, 2) := by decide +kernel
theorem dX2_clause_55 : decode cX2_clause 55 = .ok (.if_icmp .ge 9, 3) := by decide +kernel
theorem dX2_clause_58 : decode cX2_clause 58 = .ok (.iload_n 3, 1) := by decide +kernel
theorem dX2_clause_59 : decode cX2_clause 59 = .ok (.iload 4, 2) := by decide +kernel
theorem dX2_clause_61 : decode cX2_clause 61 = .ok (.if_icmp .lt 5, 3) := by decide +kernel
theorem dX2_clause_64 : decode cX2_clause 64 = .ok (.iconst (-1), 1) := by decide +kernel
theorem dX2_clause_65 : decode cX2_clause 65 = .ok (.ireturn, 1) := by decide +kernel
theorem dX2_clause_66 : decode cX2_clause 66 = .ok (.aload_n 0, 1) := by decide +kernel
theorem dX2_clause_67 : decode cX2_clause 67 = .ok (.getfield 13, 3) := by decide +kernel
theorem dX2_clause_70 : decode cX2_clause 70 = .ok (.iload_n 1, 1) := by decide +kernel
theorem dX2_clause_71 : decode cX2_clause 71 = .ok (.iaload, 1) := by decide +kernel
theorem dX2_clause_72 : decode cX2_clause 72 = .ok (.istore 5, 2) := by decide +kernel
theorem dX2_clause_74 : decode cX2_clause 74 = .ok (.aload_n 0, 1) := by decide +kernel
theorem dX2_clause_75 : decode cX2_clause 75 = .ok (.getfield 17, 3) := by decide +kernel
theorem dX2_clause_78 : decode cX2_clause 78 = .ok (.bipush 24, 2) := by decide +kernel
theorem dX2_clause_80 : decode cX2_clause 80 = .ok (.iload_n 1, 1) := by decide +kernel
theorem dX2_clause_81 : decode cX2_clause 81 = .ok (.imul, 1) := by decide +kernel
theorem dX2_clause_82 : decode cX2_clause 82 = .ok (.iload 5, 2) := by decide +kernel
theorem dX2_clause_84 : decode cX2_clause 84 = .ok (.iadd, 1) := by decide +kernel
theorem dX2_clause_85 : decode cX2_clause 85 = .ok (.iload_n 2, 1) := by decide +kernel
theorem dX2_clause_86 : decode cX2_clause 86 = .ok (.iastore, 1) := by decide +kernel
theorem dX2_clause_87 : decode cX2_clause 87 = .ok (.aload_n 0, 1) := by decide +kernel
theorem dX2_clause_88 : decode cX2_clause 88 = .ok (.getfield 20, 3) := by decide +kernel
theorem dX2_clause_91 : decode cX2_clause 91 = .ok (.bipush 24, 2) := by decide +kernel
theorem dX2_clause_93 : decode cX2_clause 93 = .ok (.iload_n 1, 1) := by decide +kernel
theorem dX2_clause_94 : decode cX2_clause 94 = .ok (.imul, 1) := by decide +kernel
theorem dX2_clause_95 : decode cX2_clause 95 = .ok (.iload 5, 2) := by decide +kernel
theorem dX2_clause_97 : decode cX2_clause 97 = .ok (.iadd, 1) := by decide +kernel
theorem dX2_clause_98 : decode cX2_clause 98 = .ok (.iload_n 3, 1) := by decide +kernel
theorem dX2_clause_99 : decode cX2_clause 99 = .ok (.iastore, 1) := by decide +kernel
theorem dX2_clause_100 : decode cX2_clause 100 = .ok (.aload_n 0, 1) := by decide +kernel
theorem dX2_clause_101 : decode cX2_clause 101 = .ok (.getfield 13, 3) := by decide +kernel
theorem dX2_clause_104 : decode cX2_clause 104 = .ok (.iload_n 1, 1) := by decide +kernel
theorem dX2_clause_105 : decode cX2_clause 105 = .ok (.iload 5, 2) := by decide +kernel
theorem dX2_clause_107 : decode cX2_clause 107 = .ok (.iconst 1, 1) := by decide +kernel
theorem dX2_clause_108 : decode cX2_clause 108 = .ok (.iadd, 1) := by decide +kernel
theorem dX2_clause_109 : decode cX2_clause 109 = .ok (.iastore, 1) := by decide +kernel
theorem dX2_clause_110 : decode cX2_clause 110 = .ok (.aload_n 0, 1) := by decide +kernel
theorem dX2_clause_111 : decode cX2_clause 111 = .ok (.iconst 0, 1) := by decide +kernel
theorem dX2_clause_112 : decode cX2_clause 112 = .ok (.putfield 33, 3) := by decide +kernel
theorem dX2_clause_115 : decode cX2_clause 115 = .ok (.iload 5, 2) := by decide +kernel
theorem dX2_clause_117 : decode cX2_clause 117 = .ok (.ireturn, 1) := by decide +kernel
theorem dX2_drop_0 : decode cX2_drop 0 = .ok (.iload_n 1, 1) := by decide +kernel
theorem dX2_drop_1 : decode cX2_drop 1 = .ok (.invokestatic 36, 3) := by decide +kernel
theorem dX2_drop_4 : decode cX2_drop 4 = .ok (.ifCond .eq 12, 3) := by decide +kernel
theorem dX2_drop_7 : decode cX2_drop 7 = .ok (.aload_n 0, 1) := by decide +kernel
theorem dX2_drop_8 : decode cX2_drop 8 = .ok (.getfield 13, 3) := by decide +kernel
theorem dX2_drop_11 : decode cX2_drop 11 = .ok (.iload_n 1, 1) := by decide +kernel
theorem dX2_drop_12 : decode cX2_drop 12 = .ok (.iaload, 1) := by decide +kernel
theorem dX2_drop_13 : decode cX2_drop 13 = .ok (.ifCond .ne 5, 3) := by decide +kernel
theorem dX2_drop_16 : decode cX2_drop 16 = .ok (.iconst (-1), 1) := by decide +kernel
theorem dX2_drop_17 : decode cX2_drop 17 = .ok (.ireturn, 1) := by decide +kernel
theorem dX2_drop_18 : decode cX2_drop 18 = .ok (.aload_n 0, 1) := by decide +kernel
theorem dX2_drop_19 : decode cX2_drop 19 = .ok (.getfield 13, 3) := by decide +kernel
theorem dX2_drop_22 : decode cX2_drop 22 = .ok (.iload_n 1, 1) := by decide +kernel
theorem dX2_drop_23 : decode cX2_drop 23 = .ok (.dup2, 1) := by decide +kernel
theorem dX2_drop_24 : decode cX2_drop 24 = .ok (.iaload, 1) := by decide +kernel
theorem dX2_drop_25 : decode cX2_drop 25 = .ok (.iconst 1, 1) := by decide +kernel
theorem dX2_drop_26 : decode cX2_drop 26 = .ok (.isub, 1) := by decide +kernel
theorem dX2_drop_27 : decode cX2_drop 27 = .ok (.iastore, 1) := by decide +kernel
theorem dX2_drop_28 : decode cX2_drop 28 = .ok (.aload_n 0, 1) := by decide +kernel
theorem dX2_drop_29 : decode cX2_drop 29 = .ok (.iconst 0, 1) := by decide +kernel
theorem dX2_drop_30 : decode cX2_drop 30 = .ok (.putfield 33, 3) := by decide +kernel
theorem dX2_drop_33 : decode cX2_drop 33 = .ok (.aload_n 0, 1) := by decide +kernel
theorem dX2_drop_34 : decode cX2_drop 34 = .ok (.getfield 13, 3) := by decide +kernel
theorem dX2_drop_37 : decode cX2_drop 37 = .ok (.iload_n 1, 1) := by decide +kernel
theorem dX2_drop_38 : decode cX2_drop 38 = .ok (.iaload, 1) := by decide +kernel
theorem dX2_drop_39 : decode cX2_drop 39 = .ok (.ireturn, 1) := by decide +kernel
theorem dX2_switches_0 : decode cX2_switches 0 = .ok (.aload_n 0, 1) := by decide +kernel
theorem dX2_switches_1 : decode cX2_switches 1 = .ok (.getfield 7, 3) := by decide +kernel
theorem dX2_switches_4 : decode cX2_switches 4 = .ok (.ireturn, 1) := by decide +kernel
theorem dX2_count_0 : decode cX2_count 0 = .ok (.iload_n 1, 1) := by decide +kernel
theorem dX2_count_1 : decode cX2_count 1 = .ok (.invokestatic 36, 3) := by decide +kernel
theorem dX2_count_4 : decode cX2_count 4 = .ok (.ifCond .eq 12, 3) := by decide +kernel
theorem dX2_count_7 : decode cX2_count 7 = .ok (.aload_n 0, 1) := by decide +kernel
theorem dX2_count_8 : decode cX2_count 8 = .ok (.getfield 13, 3) := by decide +kernel
theorem dX2_count_11 : decode cX2_count 11 = .ok (.iload_n 1, 1) := by decide +kernel
theorem dX2_count_12 : decode cX2_count 12 = .ok (.iaload, 1) := by decide +kernel
theorem dX2_count_13 : decode cX2_count 13 = .ok (.goto 4, 3) := by decide +kernel
theorem dX2_count_16 : decode cX2_count 16 = .ok (.iconst (-1), 1) := by decide +kernel
theorem dX2_count_17 : decode cX2_count 17 = .ok (.ireturn, 1) := by decide +kernel
theorem dX2_isSo_0 : decode cX2_isSo 0 = .ok (.iconst 0, 1) := by decide +kernel
theorem dX2_isSo_1 : decode cX2_isSo 1 = .ok (.istore_n 3, 1) := by decide +kernel
theorem dX2_isSo_2 : decode cX2_isSo 2 = .ok (.iload_n 3, 1) := by decide +kernel
theorem dX2_isSo_3 : decode cX2_isSo 3 = .ok (.aload_n 0, 1) := by decide +kernel
theorem dX2_isSo_4 : decode cX2_isSo 4 = .ok (.getfield 13, 3) := by decide +kernel
theorem dX2_isSo_7 : decode cX2_isSo 7 = .ok (.iload_n 1, 1) := by decide +kernel
theorem dX2_isSo_8 : decode cX2_isSo 8 = .ok (.iaload, 1) := by decide +kernel
theorem dX2_isSo_9 : decode cX2_isSo 9 = .ok (.if_icmp .ge 118, 3) := by decide +kernel
theorem dX2_isSo_12 : decode cX2_isSo 12 = .ok (.bipush 24, 2) := by decide +kernel
theorem dX2_isSo_14 : decode cX2_isSo 14 = .ok (.iload_n 1, 1) := by decide +kernel
theorem dX2_isSo_15 : decode cX2_isSo 15 = .ok (.imul, 1) := by decide +kernel
theorem dX2_isSo_16 : decode cX2_isSo 16 = .ok (.iload_n 3, 1) := by decide +kernel
theorem dX2_isSo_17 : decode cX2_isSo 17 = .ok (.iadd, 1) := by decide +kernel
theorem dX2_isSo_18 : decode cX2_isSo 18 = .ok (.istore 4, 2) := by decide +kernel
theorem dX2_isSo_20 : decode cX2_isSo 20 = .ok (.iconst 0, 1) := by decide +kernel
theorem dX2_isSo_21 : decode cX2_isSo 21 = .ok (.istore 5, 2) := by decide +kernel
theorem dX2_isSo_23 : decode cX2_isSo 23 = .ok (.iconst 0, 1) := by decide +kernel
theorem dX2_isSo_24 : decode cX2_isSo 24 = .ok (.istore 6, 2) := by decide +kernel
theorem dX2_isSo_26 : decode cX2_isSo 26 = .ok (.iload 6, 2) := by decide +kernel
theorem dX2_isSo_28 : decode cX2_isSo 28 = .ok (.iconst 2, 1) := by decide +kernel
theorem dX2_isSo_29 : decode cX2_isSo 29 = .ok (.aload_n 0, 1) := by decide +kernel
theorem dX2_isSo_30 : decode cX2_isSo 30 = .ok (.getfield 7, 3) := by decide +kernel
theorem dX2_isSo_33 : decode cX2_isSo 33 = .ok (.imul, 1) := by decide +kernel
theorem dX2_isSo_34 : decode cX2_isSo 34 = .ok (.if_icmp .ge 80, 3) := by decide +kernel
theorem dX2_isSo_37 : decode cX2_isSo 37 = .ok (.iload_n 2, 1) := by decide +kernel
theorem dX2_isSo_38 : decode cX2_isSo 38 = .ok (.iload 6, 2) := by decide +kernel
theorem dX2_isSo_40 : decode cX2_isSo 40 = .ok (.ishr, 1) := by decide +kernel
theorem dX2_isSo_41 : decode cX2_isSo 41 = .ok (.iconst 1, 1) := by decide +kernel
theorem dX2_isSo_42 : decode cX2_isSo 42 = .ok (.iand, 1) := by decide +kernel
theorem dX2_isSo_43 : decode cX2_isSo 43 = .ok (.iconst 1, 1) := by decide +kernel
theorem dX2_isSo_44 : decode cX2_isSo 44 = .ok (.if_icmp .ne 7, 3) := by decide +kernel
theorem dX2_isSo_47 : decode cX2_isSo 47 = .ok (.iconst 1, 1) := by decide +kernel
theorem dX2_isSo_48 : decode cX2_isSo 48 = .ok (.goto 4, 3) := by decide +kernel
theorem dX2_isSo_51 : decode cX2_isSo 51 = .ok (.iconst 0, 1) := by decide +kernel
theorem dX2_isSo_52 : decode cX2_isSo 52 = .ok (.istore 7, 2) := by decide +kernel
theorem dX2_isSo_54 : decode cX2_isSo 54 = .ok (.iload 5, 2) := by decide +kernel
theorem dX2_isSo_56 : decode cX2_isSo 56 = .ok (.ifCond .ne 45, 3) := by decide +kernel
theorem dX2_isSo_59 : decode cX2_isSo 59 = .ok (.aload_n 0, 1) := by decide +kernel
theorem dX2_isSo_60 : decode cX2_isSo 60 = .ok (.getfield 17, 3) := by decide +kernel
theorem dX2_isSo_63 : decode cX2_isSo 63 = .ok (.iload 4, 2) := by decide +kernel
theorem dX2_isSo_65 : decode cX2_isSo 65 = .ok (.iaload, 1) := by decide +kernel
theorem dX2_isSo_66 : decode cX2_isSo 66 = .ok (.iload 6, 2) := by decide +kernel
theorem dX2_isSo_68 : decode cX2_isSo 68 = .ok (.ishr, 1) := by decide +kernel
theorem dX2_isSo_69 : decode cX2_isSo 69 = .ok (.iconst 1, 1) := by decide +kernel
theorem dX2_isSo_70 : decode cX2_isSo 70 = .ok (.iand, 1) := by decide +kernel
theorem dX2_isSo_71 : decode cX2_isSo 71 = .ok (.iconst 1, 1) := by decide +kernel
theorem dX2_isSo_72 : decode cX2_isSo 72 = .ok (.if_icmp .ne 8, 3) := by decide +kernel
theorem dX2_isSo_75 : decode cX2_isSo 75 = .ok (.iload 7, 2) := by decide +kernel
theorem dX2_isSo_77 : decode cX2_isSo 77 = .ok (.ifCond .ne 24, 3) := by decide +kernel
theorem dX2_isSo_80 : decode cX2_isSo 80 = .ok (.aload_n 0, 1) := by decide +kernel
theorem dX2_isSo_81 : decode cX2_isSo 81 = .ok (.getfield 20, 3) := by decide +kernel
theorem dX2_isSo_84 : decode cX2_isSo 84 = .ok (.iload 4, 2) := by decide +kernel
theorem dX2_isSo_86 : decode cX2_isSo 86 = .ok (.iaload, 1) := by decide +kernel
theorem dX2_isSo_87 : decode cX2_isSo 87 = .ok (.iload 6, 2) := by decide +kernel
theorem dX2_isSo_89 : decode cX2_isSo 89 = .ok (.ishr, 1) := by decide +kernel
theorem dX2_isSo_90 : decode cX2_isSo 90 = .ok (.iconst 1, 1) := by decide +kernel
theorem dX2_isSo_91 : decode cX2_isSo 91 = .ok (.iand, 1) := by decide +kernel
theorem dX2_isSo_92 : decode cX2_isSo 92 = .ok (.iconst 1, 1) := by decide +kernel
theorem dX2_isSo_93 : decode cX2_isSo 93 = .ok (.if_icmp .ne 12, 3) := by decide +kernel
theorem dX2_isSo_96 : decode cX2_isSo 96 = .ok (.iload 7, 2) := by decide +kernel
theorem dX2_isSo_98 : decode cX2_isSo 98 = .ok (.ifCond .ne 7, 3) := by decide +kernel
theorem dX2_isSo_101 : decode cX2_isSo 101 = .ok (.iconst 1, 1) := by decide +kernel
theorem dX2_isSo_102 : decode cX2_isSo 102 = .ok (.goto 4, 3) := by decide +kernel
theorem dX2_isSo_105 : decode cX2_isSo 105 = .ok (.iconst 0, 1) := by decide +kernel
theorem dX2_isSo_106 : decode cX2_isSo 106 = .ok (.istore 5, 2) := by decide +kernel
theorem dX2_isSo_108 : decode cX2_isSo 108 = .ok (.iinc 6 1, 3) := by decide +kernel
theorem dX2_isSo_111 : decode cX2_isSo 111 = .ok (.goto (-85), 3) := by decide +kernel
theorem dX2_isSo_114 : decode cX2_isSo 114 = .ok (.iload 5, 2) := by decide +kernel
theorem dX2_isSo_116 : decode cX2_isSo 116 = .ok (.ifCond .ne 5, 3) := by decide +kernel
theorem dX2_isSo_119 : decode cX2_isSo 119 = .ok (.iconst 0, 1) := by decide +kernel
theorem dX2_isSo_120 : decode cX2_isSo 120 = .ok (.ireturn, 1) := by decide +kernel
theorem dX2_isSo_121 : decode cX2_isSo 121 = .ok (.iinc 3 1, 3) := by decide +kernel
theorem dX2_isSo_124 : decode cX2_isSo 124 = .ok (.goto (-122), 3) := by decide +kernel
theorem dX2_isSo_127 : decode cX2_isSo 127 = .ok (.iconst 1, 1) := by decide +kernel
theorem dX2_isSo_128 : decode cX2_isSo 128 = .ok (.ireturn, 1) := by decide +kernel
theorem dX2_leads_0 : decode cX2_leads 0 = .ok (.aload_n 0, 1) := by decide +kernel
theorem dX2_leads_1 : decode cX2_leads 1 = .ok (.iconst 1, 1) := by decide +kernel
theorem dX2_leads_2 : decode cX2_leads 2 = .ok (.iload_n 1, 1) := by decide +kernel
theorem dX2_leads_3 : decode cX2_leads 3 = .ok (.iload_n 2, 1) := by decide +kernel
theorem dX2_leads_4 : decode cX2_leads 4 = .ok (.aload_n 0, 1) := by decide +kernel
theorem dX2_leads_5 : decode cX2_leads 5 = .ok (.getfield 7, 3) := by decide +kernel
theorem dX2_leads_8 : decode cX2_leads 8 = .ok (.ishl, 1) := by decide +kernel
theorem dX2_leads_9 : decode cX2_leads 9 = .ok (.ior, 1) := by decide +kernel
theorem dX2_leads_10 : decode cX2_leads 10 = .ok (.invokevirtual 40, 3) := by decide +kernel
theorem dX2_leads_13 : decode cX2_leads 13 = .ok (.ireturn, 1) := by decide +kernel
theorem dX2_holds_0 : decode cX2_holds 0 = .ok (.iload_n 1, 1) := by decide +kernel
theorem dX2_holds_1 : decode cX2_holds 1 = .ok (.invokestatic 36, 3) := by decide +kernel
theorem dX2_holds_4 : decode cX2_holds 4 = .ok (.ifCond .eq 24, 3) := by decide +kernel
theorem dX2_holds_7 : decode cX2_holds 7 = .ok (.aload_n 0, 1) := by decide +kernel
theorem dX2_holds_8 : decode cX2_holds 8 = .ok (.iload_n 2, 1) := by decide +kernel
theorem dX2_holds_9 : decode cX2_holds 9 = .ok (.invokevirtual 44, 3) := by decide +kernel
theorem dX2_holds_12 : decode cX2_holds 12 = .ok (.ifCond .eq 16, 3) := by decide +kernel
theorem dX2_holds_15 : decode cX2_holds 15 = .ok (.iload_n 1, 1) := by decide +kernel
theorem dX2_holds_16 : decode cX2_holds 16 = .ok (.iconst 1, 1) := by decide +kernel
theorem dX2_holds_17 : decode cX2_holds 17 = .ok (.if_icmp .ne 13, 3) := by decide +kernel
theorem dX2_holds_20 : decode cX2_holds 20 = .ok (.aload_n 0, 1) := by decide +kernel
theorem dX2_holds_21 : decode cX2_holds 21 = .ok (.iload_n 3, 1) := by decide +kernel
theorem dX2_holds_22 : decode cX2_holds 22 = .ok (.invokevirtual 44, 3) := by decide +kernel
theorem dX2_holds_25 : decode cX2_holds 25 = .ok (.ifCond .ne 5, 3) := by decide +kernel
theorem dX2_holds_28 : decode cX2_holds 28 = .ok (.iconst 0, 1) := by decide +kernel
theorem dX2_holds_29 : decode cX2_holds 29 = .ok (.ireturn, 1) := by decide +kernel
theorem dX2_holds_30 : decode cX2_holds 30 = .ok (.iload_n 1, 1) := by decide +kernel
theorem dX2_holds_31 : decode cX2_holds 31 = .ok (.iconst 1, 1) := by decide +kernel
theorem dX2_holds_32 : decode cX2_holds 32 = .ok (.if_icmp .ne 12, 3) := by decide +kernel
theorem dX2_holds_35 : decode cX2_holds 35 = .ok (.aload_n 0, 1) := by decide +kernel
theorem dX2_holds_36 : decode cX2_holds 36 = .ok (.iload_n 2, 1) := by decide +kernel
theorem dX2_holds_37 : decode cX2_holds 37 = .ok (.iload_n 3, 1) := by decide +kernel
theorem dX2_holds_38 : decode cX2_holds 38 = .ok (.invokevirtual 47, 3) := by decide +kernel
theorem dX2_holds_41 : decode cX2_holds 41 = .ok (.goto 9, 3) := by decide +kernel
theorem dX2_holds_44 : decode cX2_holds 44 = .ok (.aload_n 0, 1) := by decide +kernel
theorem dX2_holds_45 : decode cX2_holds 45 = .ok (.iload_n 1, 1) := by decide +kernel
theorem dX2_holds_46 : decode cX2_holds 46 = .ok (.iload_n 2, 1) := by decide +kernel
theorem dX2_holds_47 : decode cX2_holds 47 = .ok (.invokevirtual 40, 3) := by decide +kernel
theorem dX2_holds_50 : decode cX2_holds 50 = .ok (.ireturn, 1) := by decide +kernel
theorem dX2_explore_0 : decode cX2_explore 0 = .ok (.iconst 0, 1) := by decide +kernel
theorem dX2_explore_1 : decode cX2_explore 1 = .ok (.istore_n 1, 1) := by decide +kernel
theorem dX2_explore_2 : decode cX2_explore 2 = .ok (.iload_n 1, 1) := by decide +kernel
theorem dX2_explore_3 : decode cX2_explore 3 = .ok (.aload_n 0, 1) := by decide +kernel
theorem dX2_explore_4 : decode cX2_explore 4 = .ok (.invokevirtual 29, 3) := by decide +kernel
theorem dX2_explore_7 : decode cX2_explore 7 = .ok (.if_icmp .ge 29, 3) := by decide +kernel
theorem dX2_explore_10 : decode cX2_explore 10 = .ok (.aload_n 0, 1) := by decide +kernel
theorem dX2_explore_11 : decode cX2_explore 11 = .ok (.getfield 26, 3) := by decide +kernel
theorem dX2_explore_14 : decode cX2_explore 14 = .ok (.iload_n 1, 1) := by decide +kernel
theorem dX2_explore_15 : decode cX2_explore 15 = .ok (.aload_n 0, 1) := by decide +kernel
theorem dX2_explore_16 : decode cX2_explore 16 = .ok (.iconst 0, 1) := by decide +kernel
theorem dX2_explore_17 : decode cX2_explore 17 = .ok (.iload_n 1, 1) := by decide +kernel
theorem dX2_explore_18 : decode cX2_explore 18 = .ok (.invokevirtual 40, 3) := by decide +kernel
theorem dX2_explore_21 : decode cX2_explore 21 = .ok (.ifCond .eq 7, 3) := by decide +kernel
theorem dX2_explore_24 : decode cX2_explore 24 = .ok (.iconst 0, 1) := by decide +kernel
theorem dX2_explore_25 : decode cX2_explore 25 = .ok (.goto 4, 3) := by decide +kernel
theorem dX2_explore_28 : decode cX2_explore 28 = .ok (.iconst (-1), 1) := by decide +kernel
theorem dX2_explore_29 : decode cX2_explore 29 = .ok (.iastore, 1) := by decide +kernel
theorem dX2_explore_30 : decode cX2_explore 30 = .ok (.iinc 1 1, 3) := by decide +kernel
theorem dX2_explore_33 : decode cX2_explore 33 = .ok (.goto (-31), 3) := by decide +kernel
theorem dX2_explore_36 : decode cX2_explore 36 = .ok (.iconst 1, 1) := by decide +kernel
theorem dX2_explore_37 : decode cX2_explore 37 = .ok (.istore_n 1, 1) := by decide +kernel
theorem dX2_explore_38 : decode cX2_explore 38 = .ok (.iconst 0, 1) := by decide +kernel
theorem dX2_explore_39 : decode cX2_explore 39 = .ok (.istore_n 2, 1) := by decide +kernel
theorem dX2_explore_40 : decode cX2_explore 40 = .ok (.iload_n 1, 1) := by decide +kernel
theorem dX2_explore_41 : decode cX2_explore 41 = .ok (.ifCond .eq 87, 3) := by decide +kernel
theorem dX2_explore_44 : decode cX2_explore 44 = .ok (.iconst 0, 1) := by decide +kernel
theorem dX2_explore_45 : decode cX2_explore 45 = .ok (.istore_n 1, 1) := by decide +kernel
theorem dX2_explore_46 : decode cX2_explore 46 = .ok (.iconst 0, 1) := by decide +kernel
theorem dX2_explore_47 : decode cX2_explore 47 = .ok (.istore_n 3, 1) := by decide +kernel
theorem dX2_explore_48 : decode cX2_explore 48 = .ok (.iload_n 3, 1) := by decide +kernel
theorem dX2_explore_49 : decode cX2_explore 49 = .ok (.aload_n 0, 1) := by decide +kernel
theorem dX2_explore_50 : decode cX2_explore 50 = .ok (.invokevirtual 29, 3) := by decide +kernel
theorem dX2_explore_53 : decode cX2_explore 53 = .ok (.if_icmp .ge 69, 3) := by decide +kernel
theorem dX2_explore_56 : decode cX2_explore 56 = .ok (.iconst 0, 1) := by decide +kernel
theorem dX2_explore_57 : decode cX2_explore 57 = .ok (.istore 4, 2) := by decide +kernel
theorem dX2_explore_59 : decode cX2_explore 59 = .ok (.iload 4, 2) := by decide +kernel
theorem dX2_explore_61 : decode cX2_explore 61 = .ok (.aload_n 0, 1) := by decide +kernel
theorem dX2_explore_62 : decode cX2_explore 62 = .ok (.invokevirtual 29, 3) := by decide +kernel
theorem dX2_explore_65 : decode cX2_explore 65 = .ok (.if_icmp .ge 51, 3) := by decide +kernel
theorem dX2_explore_68 : decode cX2_explore 68 = .ok (.aload_n 0, 1) := by decide +kernel
theorem dX2_explore_69 : decode cX2_explore 69 = .ok (.getfield 26, 3) := by decide +kernel
theorem dX2_explore_72 : decode cX2_explore 72 = .ok (.iload_n 3, 1) := by decide +kernel
theorem dX2_explore_73 : decode cX2_explore 73 = .ok (.iaload, 1) := by decide +kernel
theorem dX2_explore_74 : decode cX2_explore 74 = .ok (.iload_n 2, 1) := by decide +kernel
theorem dX2_explore_75 : decode cX2_explore 75 = .ok (.if_icmp .ne 41, 3) := by decide +kernel
theorem dX2_explore_78 : decode cX2_explore 78 = .ok (.aload_n 0, 1) := by decide +kernel
theorem dX2_explore_79 : decode cX2_explore 79 = .ok (.getfield 26, 3) := by decide +kernel
theorem dX2_explore_82 : decode cX2_explore 82 = .ok (.iload 4, 2) := by decide +kernel
theorem dX2_explore_84 : decode cX2_explore 84 = .ok (.iaload, 1) := by decide +kernel
theorem dX2_explore_85 : decode cX2_explore 85 = .ok (.ifCond .ge 25, 3) := by decide +kernel
theorem dX2_explore_88 : decode cX2_explore 88 = .ok (.aload_n 0, 1) := by decide +kernel
theorem dX2_explore_89 : decode cX2_explore 89 = .ok (.iload_n 3, 1) := by decide +kernel
theorem dX2_explore_90 : decode cX2_explore 90 = .ok (.iload 4, 2) := by decide +kernel
theorem dX2_explore_92 : decode cX2_explore 92 = .ok (.invokevirtual 47, 3) := by decide +kernel
theorem dX2_explore_95 : decode cX2_explore 95 = .ok (.ifCond .eq 15, 3) := by decide +kernel
theorem dX2_explore_98 : decode cX2_explore 98 = .ok (.aload_n 0, 1) := by decide +kernel
theorem dX2_explore_99 : decode cX2_explore 99 = .ok (.getfield 26, 3) := by decide +kernel
theorem dX2_explore_102 : decode cX2_explore 102 = .ok (.iload 4, 2) := by decide +kernel
theorem dX2_explore_104 : decode cX2_explore 104 = .ok (.iload_n 2, 1) := by decide +kernel
theorem dX2_explore_105 : decode cX2_explore 105 = .ok (.iconst 1, 1) := by decide +kernel
theorem dX2_explore_106 : decode cX2_explore 106 = .ok (.iadd, 1) := by decide +kernel
theorem dX2_explore_107 : decode cX2_explore 107 = .ok (.iastore, 1) := by decide +kernel
theorem dX2_explore_108 : decode cX2_explore 108 = .ok (.iconst 1, 1) := by decide +kernel
theorem dX2_explore_109 : decode cX2_explore 109 = .ok (.istore_n 1, 1) := by decide +kernel
theorem dX2_explore_110 : decode cX2_explore 110 = .ok (.iinc 4 1, 3) := by decide +kernel
theorem dX2_explore_113 : decode cX2_explore 113 = .ok (.goto (-54), 3) := by decide +kernel
theorem dX2_explore_116 : decode cX2_explore 116 = .ok (.iinc 3 1, 3) := by decide +kernel
theorem dX2_explore_119 : decode cX2_explore 119 = .ok (.goto (-71), 3) := by decide +kernel
theorem dX2_explore_122 : decode cX2_explore 122 = .ok (.iinc 2 1, 3) := by decide +kernel
theorem dX2_explore_125 : decode cX2_explore 125 = .ok (.goto (-85), 3) := by decide +kernel
theorem dX2_explore_128 : decode cX2_explore 128 = .ok (.return_, 1) := by decide +kernel
theorem dX2_steps_0 : decode cX2_steps 0 = .ok (.aload_n 0, 1) := by decide +kernel
theorem dX2_steps_1 : decode cX2_steps 1 = .ok (.invokevirtual 50, 3) := by decide +kernel
theorem dX2_steps_4 : decode cX2_steps 4 = .ok (.iconst (-1), 1) := by decide +kernel
theorem dX2_steps_5 : decode cX2_steps 5 = .ok (.istore_n 1, 1) := by decide +kernel
theorem dX2_steps_6 : decode cX2_steps 6 = .ok (.iconst 0, 1) := by decide +kernel
theorem dX2_steps_7 : decode cX2_steps 7 = .ok (.istore_n 2, 1) := by decide +kernel
theorem dX2_steps_8 : decode cX2_steps 8 = .ok (.iload_n 2, 1) := by decide +kernel
theorem dX2_steps_9 : decode cX2_steps 9 = .ok (.aload_n 0, 1) := by decide +kernel
theorem dX2_steps_10 : decode cX2_steps 10 = .ok (.invokevirtual 29, 3) := by decide +kernel
theorem dX2_steps_13 : decode cX2_steps 13 = .ok (.if_icmp .ge 48, 3) := by decide +kernel
theorem dX2_steps_16 : decode cX2_steps 16 = .ok (.aload_n 0, 1) := by decide +kernel
theorem dX2_steps_17 : decode cX2_steps 17 = .ok (.getfield 26, 3) := by decide +kernel
theorem dX2_steps_20 : decode cX2_steps 20 = .ok (.iload_n 2, 1) := by decide +kernel
theorem dX2_steps_21 : decode cX2_steps 21 = .ok (.iaload, 1) := by decide +kernel
theorem dX2_steps_22 : decode cX2_steps 22 = .ok (.ifCond .lt 33, 3) := by decide +kernel
theorem dX2_steps_25 : decode cX2_steps 25 = .ok (.iload_n 1, 1) := by decide +kernel
theorem dX2_steps_26 : decode cX2_steps 26 = .ok (.ifCond .lt 13, 3) := by decide +kernel
theorem dX2_steps_29 : decode cX2_steps 29 = .ok (.aload_n 0, 1) := by decide +kernel
theorem dX2_steps_30 : decode cX2_steps 30 = .ok (.getfield 26, 3) := by decide +kernel
theorem dX2_steps_33 : decode cX2_steps 33 = .ok (.iload_n 2, 1) := by decide +kernel
theorem dX2_steps_34 : decode cX2_steps 34 = .ok (.iaload, 1) := by decide +kernel
theorem dX2_steps_35 : decode cX2_steps 35 = .ok (.iload_n 1, 1) := by decide +kernel
theorem dX2_steps_36 : decode cX2_steps 36 = .ok (.if_icmp .ge 19, 3) := by decide +kernel
theorem dX2_steps_39 : decode cX2_steps 39 = .ok (.aload_n 0, 1) := by decide +kernel
theorem dX2_steps_40 : decode cX2_steps 40 = .ok (.iconst 2, 1) := by decide +kernel
theorem dX2_steps_41 : decode cX2_steps 41 = .ok (.iload_n 2, 1) := by decide +kernel
theorem dX2_steps_42 : decode cX2_steps 42 = .ok (.invokevirtual 40, 3) := by decide +kernel
theorem dX2_steps_45 : decode cX2_steps 45 = .ok (.ifCond .eq 10, 3) := by decide +kernel
theorem dX2_steps_48 : decode cX2_steps 48 = .ok (.aload_n 0, 1) := by decide +kernel
theorem dX2_steps_49 : decode cX2_steps 49 = .ok (.getfield 26, 3) := by decide +kernel
theorem dX2_steps_52 : decode cX2_steps 52 = .ok (.iload_n 2, 1) := by decide +kernel
theorem dX2_steps_53 : decode cX2_steps 53 = .ok (.iaload, 1) := by decide +kernel
theorem dX2_steps_54 : decode cX2_steps 54 = .ok (.istore_n 1, 1) := by decide +kernel
theorem dX2_steps_55 : decode cX2_steps 55 = .ok (.iinc 2 1, 3) := by decide +kernel
theorem dX2_steps_58 : decode cX2_steps 58 = .ok (.goto (-50), 3) := by decide +kernel
theorem dX2_steps_61 : decode cX2_steps 61 = .ok (.iload_n 1, 1) := by decide +kernel
theorem dX2_steps_62 : decode cX2_steps 62 = .ok (.ireturn, 1) := by decide +kernel
theorem dX2_safe_0 : decode cX2_safe 0 = .ok (.aload_n 0, 1) := by decide +kernel
theorem dX2_safe_1 : decode cX2_safe 1 = .ok (.invokevirtual 53, 3) := by decide +kernel
theorem dX2_safe_4 : decode cX2_safe 4 = .ok (.ifCond .ge 7, 3) := by decide +kernel
theorem dX2_safe_7 : decode cX2_safe 7 = .ok (.iconst 1, 1) := by decide +kernel
theorem dX2_safe_8 : decode cX2_safe 8 = .ok (.goto 4, 3) := by decide +kernel
theorem dX2_safe_11 : decode cX2_safe 11 = .ok (.iconst 0, 1) := by decide +kernel
theorem dX2_safe_12 : decode cX2_safe 12 = .ok (.ireturn, 1) := by decide +kernel
theorem dX2_depth_0 : decode cX2_depth 0 = .ok (.aload_n 0, 1) := by decide +kernel
theorem dX2_depth_1 : decode cX2_depth 1 = .ok (.iload_n 1, 1) := by decide +kernel
theorem dX2_depth_2 : decode cX2_depth 2 = .ok (.invokevirtual 44, 3) := by decide +kernel
theorem dX2_depth_5 : decode cX2_depth 5 = .ok (.ifCond .ne 5, 3) := by decide +kernel
theorem dX2_depth_8 : decode cX2_depth 8 = .ok (.iconst (-1), 1) := by decide +kernel
theorem dX2_depth_9 : decode cX2_depth 9 = .ok (.ireturn, 1) := by decide +kernel
theorem dX2_depth_10 : decode cX2_depth 10 = .ok (.aload_n 0, 1) := by decide +kernel
theorem dX2_depth_11 : decode cX2_depth 11 = .ok (.invokevirtual 50, 3) := by decide +kernel
theorem dX2_depth_14 : decode cX2_depth 14 = .ok (.aload_n 0, 1) := by decide +kernel
theorem dX2_depth_15 : decode cX2_depth 15 = .ok (.getfield 26, 3) := by decide +kernel
theorem dX2_depth_18 : decode cX2_depth 18 = .ok (.iload_n 1, 1) := by decide +kernel
theorem dX2_depth_19 : decode cX2_depth 19 = .ok (.iaload, 1) := by decide +kernel
theorem dX2_depth_20 : decode cX2_depth 20 = .ok (.ireturn, 1) := by decide +kernel
theorem dX2_reached_0 : decode cX2_reached 0 = .ok (.aload_n 0, 1) := by decide +kernel
theorem dX2_reached_1 : decode cX2_reached 1 = .ok (.invokevirtual 50, 3) := by decide +kernel
theorem dX2_reached_4 : decode cX2_reached 4 = .ok (.iconst 0, 1) := by decide +kernel
theorem dX2_reached_5 : decode cX2_reached 5 = .ok (.istore_n 1, 1) := by decide +kernel
theorem dX2_reached_6 : decode cX2_reached 6 = .ok (.iconst 0, 1) := by decide +kernel
theorem dX2_reached_7 : decode cX2_reached 7 = .ok (.istore_n 2, 1) := by decide +kernel
theorem dX2_reached_8 : decode cX2_reached 8 = .ok (.iload_n 2, 1) := by decide +kernel
theorem dX2_reached_9 : decode cX2_reached 9 = .ok (.aload_n 0, 1) := by decide +kernel
theorem dX2_reached_10 : decode cX2_reached 10 = .ok (.invokevirtual 29, 3) := by decide +kernel
theorem dX2_reached_13 : decode cX2_reached 13 = .ok (.if_icmp .ge 26, 3) := by decide +kernel
theorem dX2_reached_16 : decode cX2_reached 16 = .ok (.aload_n 0, 1) := by decide +kernel
theorem dX2_reached_17 : decode cX2_reached 17 = .ok (.getfield 26, 3) := by decide +kernel
theorem dX2_reached_20 : decode cX2_reached 20 = .ok (.iload_n 2, 1) := by decide +kernel
theorem dX2_reached_21 : decode cX2_reached 21 = .ok (.iaload, 1) := by decide +kernel
theorem dX2_reached_22 : decode cX2_reached 22 = .ok (.ifCond .lt 9, 3) := by decide +kernel
theorem dX2_reached_25 : decode cX2_reached 25 = .ok (.iload_n 1, 1) := by decide +kernel
theorem dX2_reached_26 : decode cX2_reached 26 = .ok (.iconst 1, 1) := by decide +kernel
theorem dX2_reached_27 : decode cX2_reached 27 = .ok (.iadd, 1) := by decide +kernel
theorem dX2_reached_28 : decode cX2_reached 28 = .ok (.goto 4, 3) := by decide +kernel
theorem dX2_reached_31 : decode cX2_reached 31 = .ok (.iload_n 1, 1) := by decide +kernel
theorem dX2_reached_32 : decode cX2_reached 32 = .ok (.istore_n 1, 1) := by decide +kernel
theorem dX2_reached_33 : decode cX2_reached 33 = .ok (.iinc 2 1, 3) := by decide +kernel
theorem dX2_reached_36 : decode cX2_reached 36 = .ok (.goto (-28), 3) := by decide +kernel
theorem dX2_reached_39 : decode cX2_reached 39 = .ok (.iload_n 1, 1) := by decide +kernel
theorem dX2_reached_40 : decode cX2_reached 40 = .ok (.ireturn, 1) := by decide +kernel
theorem dX2_worst_0 : decode cX2_worst 0 = .ok (.aload_n 0, 1) := by decide +kernel
theorem dX2_worst_1 : decode cX2_worst 1 = .ok (.invokevirtual 50, 3) := by decide +kernel
theorem dX2_worst_4 : decode cX2_worst 4 = .ok (.iconst 0, 1) := by decide +kernel
theorem dX2_worst_5 : decode cX2_worst 5 = .ok (.istore_n 1, 1) := by decide +kernel
theorem dX2_worst_6 : decode cX2_worst 6 = .ok (.iload_n 1, 1) := by decide +kernel
theorem dX2_worst_7 : decode cX2_worst 7 = .ok (.aload_n 0, 1) := by decide +kernel
theorem dX2_worst_8 : decode cX2_worst 8 = .ok (.invokevirtual 29, 3) := by decide +kernel
theorem dX2_worst_11 : decode cX2_worst 11 = .ok (.if_icmp .ge 29, 3) := by decide +kernel
theorem dX2_worst_14 : decode cX2_worst 14 = .ok (.aload_n 0, 1) := by decide +kernel
theorem dX2_worst_15 : decode cX2_worst 15 = .ok (.getfield 26, 3) := by decide +kernel
theorem dX2_worst_18 : decode cX2_worst 18 = .ok (.iload_n 1, 1) := by decide +kernel
theorem dX2_worst_19 : decode cX2_worst 19 = .ok (.iaload, 1) := by decide +kernel
theorem dX2_worst_20 : decode cX2_worst 20 = .ok (.ifCond .lt 14, 3) := by decide +kernel
theorem dX2_worst_23 : decode cX2_worst 23 = .ok (.aload_n 0, 1) := by decide +kernel
theorem dX2_worst_24 : decode cX2_worst 24 = .ok (.iconst 2, 1) := by decide +kernel
theorem dX2_worst_25 : decode cX2_worst 25 = .ok (.iload_n 1, 1) := by decide +kernel
theorem dX2_worst_26 : decode cX2_worst 26 = .ok (.invokevirtual 40, 3) := by decide +kernel
theorem dX2_worst_29 : decode cX2_worst 29 = .ok (.ifCond .eq 5, 3) := by decide +kernel
theorem dX2_worst_32 : decode cX2_worst 32 = .ok (.iload_n 1, 1) := by decide +kernel
theorem dX2_worst_33 : decode cX2_worst 33 = .ok (.ireturn, 1) := by decide +kernel
theorem dX2_worst_34 : decode cX2_worst 34 = .ok (.iinc 1 1, 3) := by decide +kernel
theorem dX2_worst_37 : decode cX2_worst 37 = .ok (.goto (-31), 3) := by decide +kernel
theorem dX2_worst_40 : decode cX2_worst 40 = .ok (.iconst (-1), 1) := by decide +kernel
theorem dX2_worst_41 : decode cX2_worst 41 = .ok (.ireturn, 1) := by decide +kernel
theorem dX2_escapes_0 : decode cX2_escapes 0 = .ok (.iconst 0, 1) := by decide +kernel
theorem dX2_escapes_1 : decode cX2_escapes 1 = .ok (.istore_n 2, 1) := by decide +kernel
theorem dX2_escapes_2 : decode cX2_escapes 2 = .ok (.iconst 0, 1) := by decide +kernel
theorem dX2_escapes_3 : decode cX2_escapes 3 = .ok (.istore_n 3, 1) := by decide +kernel
theorem dX2_escapes_4 : decode cX2_escapes 4 = .ok (.iload_n 3, 1) := by decide +kernel
theorem dX2_escapes_5 : decode cX2_escapes 5 = .ok (.aload_n 0, 1) := by decide +kernel
theorem dX2_escapes_6 : decode cX2_escapes 6 = .ok (.invokevirtual 29, 3) := by decide +kernel
theorem dX2_escapes_9 : decode cX2_escapes 9 = .ok (.if_icmp .ge 37, 3) := by decide +kernel
theorem dX2_escapes_12 : decode cX2_escapes 12 = .ok (.iload_n 2, 1) := by decide +kernel
theorem dX2_escapes_13 : decode cX2_escapes 13 = .ok (.ifCond .ne 33, 3) := by decide +kernel
theorem dX2_escapes_16 : decode cX2_escapes 16 = .ok (.aload_n 0, 1) := by decide +kernel
theorem dX2_escapes_17 : decode cX2_escapes 17 = .ok (.iconst 3, 1) := by decide +kernel
theorem dX2_escapes_18 : decode cX2_escapes 18 = .ok (.iload_n 3, 1) := by decide +kernel
theorem dX2_escapes_19 : decode cX2_escapes 19 = .ok (.invokevirtual 40, 3) := by decide +kernel
theorem dX2_escapes_22 : decode cX2_escapes 22 = .ok (.ifCond .ne 16, 3) := by decide +kernel
theorem dX2_escapes_25 : decode cX2_escapes 25 = .ok (.aload_n 0, 1) := by decide +kernel
theorem dX2_escapes_26 : decode cX2_escapes 26 = .ok (.iload_n 1, 1) := by decide +kernel
theorem dX2_escapes_27 : decode cX2_escapes 27 = .ok (.iload_n 3, 1) := by decide +kernel
theorem dX2_escapes_28 : decode cX2_escapes 28 = .ok (.invokevirtual 47, 3) := by decide +kernel
theorem dX2_escapes_31 : decode cX2_escapes 31 = .ok (.ifCond .eq 7, 3) := by decide +kernel
theorem dX2_escapes_34 : decode cX2_escapes 34 = .ok (.iconst 1, 1) := by decide +kernel
theorem dX2_escapes_35 : decode cX2_escapes 35 = .ok (.goto 4, 3) := by decide +kernel
theorem dX2_escapes_38 : decode cX2_escapes 38 = .ok (.iconst 0, 1) := by decide +kernel
theorem dX2_escapes_39 : decode cX2_escapes 39 = .ok (.istore_n 2, 1) := by decide +kernel
theorem dX2_escapes_40 : decode cX2_escapes 40 = .ok (.iinc 3 1, 3) := by decide +kernel
theorem dX2_escapes_43 : decode cX2_escapes 43 = .ok (.goto (-39), 3) := by decide +kernel
theorem dX2_escapes_46 : decode cX2_escapes 46 = .ok (.iload_n 2, 1) := by decide +kernel
theorem dX2_escapes_47 : decode cX2_escapes 47 = .ok (.ireturn, 1) := by decide +kernel
theorem dX2_least_0 : decode cX2_least 0 = .ok (.iconst 0, 1) := by decide +kernel
theorem dX2_least_1 : decode cX2_least 1 = .ok (.istore_n 2, 1) := by decide +kernel
theorem dX2_least_2 : decode cX2_least 2 = .ok (.iload_n 2, 1) := by decide +kernel
theorem dX2_least_3 : decode cX2_least 3 = .ok (.aload_n 0, 1) := by decide +kernel
theorem dX2_least_4 : decode cX2_least 4 = .ok (.invokevirtual 29, 3) := by decide +kernel
theorem dX2_least_7 : decode cX2_least 7 = .ok (.if_icmp .ge 94, 3) := by decide +kernel
theorem dX2_least_10 : decode cX2_least 10 = .ok (.aload_n 0, 1) := by decide +kernel
theorem dX2_least_11 : decode cX2_least 11 = .ok (.iconst 3, 1) := by decide +kernel
theorem dX2_least_12 : decode cX2_least 12 = .ok (.iload_n 2, 1) := by decide +kernel
theorem dX2_least_13 : decode cX2_least 13 = .ok (.invokevirtual 40, 3) := by decide +kernel
theorem dX2_least_16 : decode cX2_least 16 = .ok (.istore_n 3, 1) := by decide +kernel
theorem dX2_least_17 : decode cX2_least 17 = .ok (.iload_n 1, 1) := by decide +kernel
theorem dX2_least_18 : decode cX2_least 18 = .ok (.iconst 1, 1) := by decide +kernel
theorem dX2_least_19 : decode cX2_least 19 = .ok (.if_icmp .ne 24, 3) := by decide +kernel
theorem dX2_least_22 : decode cX2_least 22 = .ok (.iload_n 3, 1) := by decide +kernel
theorem dX2_least_23 : decode cX2_least 23 = .ok (.ifCond .ne 16, 3) := by decide +kernel
theorem dX2_least_26 : decode cX2_least 26 = .ok (.aload_n 0, 1) := by decide +kernel
theorem dX2_least_27 : decode cX2_least 27 = .ok (.iconst 0, 1) := by decide +kernel
theorem dX2_least_28 : decode cX2_least 28 = .ok (.iload_n 2, 1) := by decide +kernel
theorem dX2_least_29 : decode cX2_least 29 = .ok (.invokevirtual 40, 3) := by decide +kernel
theorem dX2_least_32 : decode cX2_least 32 = .ok (.ifCond .eq 7, 3) := by decide +kernel
theorem dX2_least_35 : decode cX2_least 35 = .ok (.iconst 1, 1) := by decide +kernel
theorem dX2_least_36 : decode cX2_least 36 = .ok (.goto 50, 3) := by decide +kernel
theorem dX2_least_39 : decode cX2_least 39 = .ok (.iconst 0, 1) := by decide +kernel
theorem dX2_least_40 : decode cX2_least 40 = .ok (.goto 46, 3) := by decide +kernel
theorem dX2_least_43 : decode cX2_least 43 = .ok (.iload_n 1, 1) := by decide +kernel
theorem dX2_least_44 : decode cX2_least 44 = .ok (.iconst 2, 1) := by decide +kernel
theorem dX2_least_45 : decode cX2_least 45 = .ok (.if_icmp .ne 23, 3) := by decide +kernel
theorem dX2_least_48 : decode cX2_least 48 = .ok (.iload_n 3, 1) := by decide +kernel
theorem dX2_least_49 : decode cX2_least 49 = .ok (.ifCond .eq 15, 3) := by decide +kernel
theorem dX2_least_52 : decode cX2_least 52 = .ok (.aload_n 0, 1) := by decide +kernel
theorem dX2_least_53 : decode cX2_least 53 = .ok (.iload_n 2, 1) := by decide +kernel
theorem dX2_least_54 : decode cX2_least 54 = .ok (.invokevirtual 56, 3) := by decide +kernel
theorem dX2_least_57 : decode cX2_least 57 = .ok (.ifCond .eq 7, 3) := by decide +kernel
theorem dX2_least_60 : decode cX2_least 60 = .ok (.iconst 1, 1) := by decide +kernel
theorem dX2_least_61 : decode cX2_least 61 = .ok (.goto 25, 3) := by decide +kernel
theorem dX2_least_64 : decode cX2_least 64 = .ok (.iconst 0, 1) := by decide +kernel
theorem dX2_least_65 : decode cX2_least 65 = .ok (.goto 21, 3) := by decide +kernel
theorem dX2_least_68 : decode cX2_least 68 = .ok (.iload_n 3, 1) := by decide +kernel
theorem dX2_least_69 : decode cX2_least 69 = .ok (.ifCond .eq 16, 3) := by decide +kernel
theorem dX2_least_72 : decode cX2_least 72 = .ok (.aload_n 0, 1) := by decide +kernel
theorem dX2_least_73 : decode cX2_least 73 = .ok (.iconst 2, 1) := by decide +kernel
theorem dX2_least_74 : decode cX2_least 74 = .ok (.iload_n 2, 1) := by decide +kernel
theorem dX2_least_75 : decode cX2_least 75 = .ok (.invokevirtual 40, 3) := by decide +kernel
theorem dX2_least_78 : decode cX2_least 78 = .ok (.ifCond .eq 7, 3) := by decide +kernel
theorem dX2_least_81 : decode cX2_least 81 = .ok (.iconst 1, 1) := by decide +kernel
theorem dX2_least_82 : decode cX2_least 82 = .ok (.goto 4, 3) := by decide +kernel
theorem dX2_least_85 : decode cX2_least 85 = .ok (.iconst 0, 1) := by decide +kernel
theorem dX2_least_86 : decode cX2_least 86 = .ok (.istore 4, 2) := by decide +kernel
theorem dX2_least_88 : decode cX2_least 88 = .ok (.iload 4, 2) := by decide +kernel
theorem dX2_least_90 : decode cX2_least 90 = .ok (.ifCond .eq 5, 3) := by decide +kernel
theorem dX2_least_93 : decode cX2_least 93 = .ok (.iload_n 2, 1) := by decide +kernel
theorem dX2_least_94 : decode cX2_least 94 = .ok (.ireturn, 1) := by decide +kernel
theorem dX2_least_95 : decode cX2_least 95 = .ok (.iinc 2 1, 3) := by decide +kernel
theorem dX2_least_98 : decode cX2_least 98 = .ok (.goto (-96), 3) := by decide +kernel
theorem dX2_least_101 : decode cX2_least 101 = .ok (.iconst (-1), 1) := by decide +kernel
theorem dX2_least_102 : decode cX2_least 102 = .ok (.ireturn, 1) := by decide +kernel
theorem dX2_check_0 : decode cX2_check 0 = .ok (.iconst 1, 1) := by decide +kernel
theorem dX2_check_1 : decode cX2_check 1 = .ok (.istore_n 1, 1) := by decide +kernel
theorem dX2_check_2 : decode cX2_check 2 = .ok (.iload_n 1, 1) := by decide +kernel
theorem dX2_check_3 : decode cX2_check 3 = .ok (.iconst 3, 1) := by decide +kernel
theorem dX2_check_4 : decode cX2_check 4 = .ok (.if_icmp .gt 19, 3) := by decide +kernel
theorem dX2_check_7 : decode cX2_check 7 = .ok (.aload_n 0, 1) := by decide +kernel
theorem dX2_check_8 : decode cX2_check 8 = .ok (.iload_n 1, 1) := by decide +kernel
theorem dX2_check_9 : decode cX2_check 9 = .ok (.invokevirtual 59, 3) := by decide +kernel
theorem dX2_check_12 : decode cX2_check 12 = .ok (.ifCond .lt 5, 3) := by decide +kernel
theorem dX2_check_15 : decode cX2_check 15 = .ok (.iload_n 1, 1) := by decide +kernel
theorem dX2_check_16 : decode cX2_check 16 = .ok (.ireturn, 1) := by decide +kernel
theorem dX2_check_17 : decode cX2_check 17 = .ok (.iinc 1 1, 3) := by decide +kernel
theorem dX2_check_20 : decode cX2_check 20 = .ok (.goto (-18), 3) := by decide +kernel
theorem dX2_check_23 : decode cX2_check 23 = .ok (.iconst 0, 1) := by decide +kernel
theorem dX2_check_24 : decode cX2_check 24 = .ok (.ireturn, 1) := by decide +kernel
theorem dX2_flaw_0 : decode cX2_flaw 0 = .ok (.aload_n 0, 1) := by decide +kernel
theorem dX2_flaw_1 : decode cX2_flaw 1 = .ok (.invokevirtual 63, 3) := by decide +kernel
theorem dX2_flaw_4 : decode cX2_flaw 4 = .ok (.istore_n 1, 1) := by decide +kernel
theorem dX2_flaw_5 : decode cX2_flaw 5 = .ok (.iload_n 1, 1) := by decide +kernel
theorem dX2_flaw_6 : decode cX2_flaw 6 = .ok (.ifCond .ne 7, 3) := by decide +kernel
theorem dX2_flaw_9 : decode cX2_flaw 9 = .ok (.iconst (-1), 1) := by decide +kernel
theorem dX2_flaw_10 : decode cX2_flaw 10 = .ok (.goto 8, 3) := by decide +kernel
theorem dX2_flaw_13 : decode cX2_flaw 13 = .ok (.aload_n 0, 1) := by decide +kernel
theorem dX2_flaw_14 : decode cX2_flaw 14 = .ok (.iload_n 1, 1) := by decide +kernel
theorem dX2_flaw_15 : decode cX2_flaw 15 = .ok (.invokevirtual 59, 3) := by decide +kernel
theorem dX2_flaw_18 : decode cX2_flaw 18 = .ok (.ireturn, 1) := by decide +kernel
theorem dX2_walk_0 : decode cX2_walk 0 = .ok (.aload_n 0, 1) := by decide +kernel
theorem dX2_walk_1 : decode cX2_walk 1 = .ok (.getfield 33, 3) := by decide +kernel
theorem dX2_walk_4 : decode cX2_walk 4 = .ok (.bipush 64, 2) := by decide +kernel
theorem dX2_walk_6 : decode cX2_walk 6 = .ok (.if_icmp .eq 11, 3) := by decide +kernel
theorem dX2_walk_9 : decode cX2_walk 9 = .ok (.aload_n 0, 1) := by decide +kernel
theorem dX2_walk_10 : decode cX2_walk 10 = .ok (.iload_n 1, 1) := by decide +kernel
theorem dX2_walk_11 : decode cX2_walk 11 = .ok (.invokevirtual 44, 3) := by decide +kernel
theorem dX2_walk_14 : decode cX2_walk 14 = .ok (.ifCond .ne 5, 3) := by decide +kernel
theorem dX2_walk_17 : decode cX2_walk 17 = .ok (.iconst (-1), 1) := by decide +kernel
theorem dX2_walk_18 : decode cX2_walk 18 = .ok (.ireturn, 1) := by decide +kernel
theorem dX2_walk_19 : decode cX2_walk 19 = .ok (.aload_n 0, 1) := by decide +kernel
theorem dX2_walk_20 : decode cX2_walk 20 = .ok (.getfield 33, 3) := by decide +kernel
theorem dX2_walk_23 : decode cX2_walk 23 = .ok (.ifCond .ne 12, 3) := by decide +kernel
theorem dX2_walk_26 : decode cX2_walk 26 = .ok (.aload_n 0, 1) := by decide +kernel
theorem dX2_walk_27 : decode cX2_walk 27 = .ok (.iconst 0, 1) := by decide +kernel
theorem dX2_walk_28 : decode cX2_walk 28 = .ok (.iload_n 1, 1) := by decide +kernel
theorem dX2_walk_29 : decode cX2_walk 29 = .ok (.invokevirtual 40, 3) := by decide +kernel
theorem dX2_walk_32 : decode cX2_walk 32 = .ok (.goto 19, 3) := by decide +kernel
theorem dX2_walk_35 : decode cX2_walk 35 = .ok (.aload_n 0, 1) := by decide +kernel
theorem dX2_walk_36 : decode cX2_walk 36 = .ok (.aload_n 0, 1) := by decide +kernel
theorem dX2_walk_37 : decode cX2_walk 37 = .ok (.getfield 23, 3) := by decide +kernel
theorem dX2_walk_40 : decode cX2_walk 40 = .ok (.aload_n 0, 1) := by decide +kernel
theorem dX2_walk_41 : decode cX2_walk 41 = .ok (.getfield 33, 3) := by decide +kernel
theorem dX2_walk_44 : decode cX2_walk 44 = .ok (.iconst 1, 1) := by decide +kernel
theorem dX2_walk_45 : decode cX2_walk 45 = .ok (.isub, 1) := by decide +kernel
theorem dX2_walk_46 : decode cX2_walk 46 = .ok (.iaload, 1) := by decide +kernel
theorem dX2_walk_47 : decode cX2_walk 47 = .ok (.iload_n 1, 1) := by decide +kernel
theorem dX2_walk_48 : decode cX2_walk 48 = .ok (.invokevirtual 47, 3) := by decide +kernel
theorem dX2_walk_51 : decode cX2_walk 51 = .ok (.istore_n 2, 1) := by decide +kernel
theorem dX2_walk_52 : decode cX2_walk 52 = .ok (.iload_n 2, 1) := by decide +kernel
theorem dX2_walk_53 : decode cX2_walk 53 = .ok (.ifCond .ne 5, 3) := by decide +kernel
theorem dX2_walk_56 : decode cX2_walk 56 = .ok (.iconst (-1), 1) := by decide +kernel
theorem dX2_walk_57 : decode cX2_walk 57 = .ok (.ireturn, 1) := by decide +kernel
theorem dX2_walk_58 : decode cX2_walk 58 = .ok (.aload_n 0, 1) := by decide +kernel
theorem dX2_walk_59 : decode cX2_walk 59 = .ok (.getfield 23, 3) := by decide +kernel
theorem dX2_walk_62 : decode cX2_walk 62 = .ok (.aload_n 0, 1) := by decide +kernel
theorem dX2_walk_63 : decode cX2_walk 63 = .ok (.getfield 33, 3) := by decide +kernel
theorem dX2_walk_66 : decode cX2_walk 66 = .ok (.iload_n 1, 1) := by decide +kernel
theorem dX2_walk_67 : decode cX2_walk 67 = .ok (.iastore, 1) := by decide +kernel
theorem dX2_walk_68 : decode cX2_walk 68 = .ok (.aload_n 0, 1) := by decide +kernel
theorem dX2_walk_69 : decode cX2_walk 69 = .ok (.dup, 1) := by decide +kernel
theorem dX2_walk_70 : decode cX2_walk 70 = .ok (.getfield 33, 3) := by decide +kernel
theorem dX2_walk_73 : decode cX2_walk 73 = .ok (.iconst 1, 1) := by decide +kernel
theorem dX2_walk_74 : decode cX2_walk 74 = .ok (.iadd, 1) := by decide +kernel
theorem dX2_walk_75 : decode cX2_walk 75 = .ok (.putfield 33, 3) := by decide +kernel
theorem dX2_walk_78 : decode cX2_walk 78 = .ok (.aload_n 0, 1) := by decide +kernel
theorem dX2_walk_79 : decode cX2_walk 79 = .ok (.getfield 33, 3) := by decide +kernel
theorem dX2_walk_82 : decode cX2_walk 82 = .ok (.ireturn, 1) := by decide +kernel
theorem dX2_arrives_0 : decode cX2_arrives 0 = .ok (.aload_n 0, 1) := by decide +kernel
theorem dX2_arrives_1 : decode cX2_arrives 1 = .ok (.getfield 33, 3) := by decide +kernel
theorem dX2_arrives_4 : decode cX2_arrives 4 = .ok (.ifCond .le 26, 3) := by decide +kernel
theorem dX2_arrives_7 : decode cX2_arrives 7 = .ok (.aload_n 0, 1) := by decide +kernel
theorem dX2_arrives_8 : decode cX2_arrives 8 = .ok (.iconst 2, 1) := by decide +kernel
theorem dX2_arrives_9 : decode cX2_arrives 9 = .ok (.aload_n 0, 1) := by decide +kernel
theorem dX2_arrives_10 : decode cX2_arrives 10 = .ok (.getfield 23, 3) := by decide +kernel
theorem dX2_arrives_13 : decode cX2_arrives 13 = .ok (.aload_n 0, 1) := by decide +kernel
theorem dX2_arrives_14 : decode cX2_arrives 14 = .ok (.getfield 33, 3) := by decide +kernel
theorem dX2_arrives_17 : decode cX2_arrives 17 = .ok (.iconst 1, 1) := by decide +kernel
theorem dX2_arrives_18 : decode cX2_arrives 18 = .ok (.isub, 1) := by decide +kernel
theorem dX2_arrives_19 : decode cX2_arrives 19 = .ok (.iaload, 1) := by decide +kernel
theorem dX2_arrives_20 : decode cX2_arrives 20 = .ok (.invokevirtual 40, 3) := by decide +kernel
theorem dX2_arrives_23 : decode cX2_arrives 23 = .ok (.ifCond .eq 7, 3) := by decide +kernel
theorem dX2_arrives_26 : decode cX2_arrives 26 = .ok (.iconst 1, 1) := by decide +kernel
theorem dX2_arrives_27 : decode cX2_arrives 27 = .ok (.goto 4, 3) := by decide +kernel
theorem dX2_arrives_30 : decode cX2_arrives 30 = .ok (.iconst 0, 1) := by decide +kernel
theorem dX2_arrives_31 : decode cX2_arrives 31 = .ok (.ireturn, 1) := by decide +kernel
