theorem dX1_init_0 : decode cX1_init 0 = .ok (.aload_n 0, 1) := by decide +kernel
theorem dX1_init_1 : decode cX1_init 1 = .ok (.invokespecial 3, 3) := by decide +kernel
theorem dX1_init_4 : decode cX1_init 4 = .ok (.aload_n 0, 1) := by decide +kernel
theorem dX1_init_5 : decode cX1_init 5 = .ok (.iconst 4, 1) := by decide +kernel
theorem dX1_init_6 : decode cX1_init 6 = .ok (.anewarray 9, 3) := by decide +kernel
theorem dX1_init_9 : decode cX1_init 9 = .ok (.putfield 11, 3) := by decide +kernel
theorem dX1_init_12 : decode cX1_init 12 = .ok (.iconst 0, 1) := by decide +kernel
theorem dX1_init_13 : decode cX1_init 13 = .ok (.istore_n 1, 1) := by decide +kernel
theorem dX1_init_14 : decode cX1_init 14 = .ok (.iload_n 1, 1) := by decide +kernel
theorem dX1_init_15 : decode cX1_init 15 = .ok (.iconst 4, 1) := by decide +kernel
theorem dX1_init_16 : decode cX1_init 16 = .ok (.if_icmp .ge 22, 3) := by decide +kernel
theorem dX1_init_19 : decode cX1_init 19 = .ok (.aload_n 0, 1) := by decide +kernel
theorem dX1_init_20 : decode cX1_init 20 = .ok (.getfield 11, 3) := by decide +kernel
theorem dX1_init_23 : decode cX1_init 23 = .ok (.iload_n 1, 1) := by decide +kernel
theorem dX1_init_24 : decode cX1_init 24 = .ok (.new 9, 3) := by decide +kernel
theorem dX1_init_27 : decode cX1_init 27 = .ok (.dup, 1) := by decide +kernel
theorem dX1_init_28 : decode cX1_init 28 = .ok (.invokespecial 15, 3) := by decide +kernel
theorem dX1_init_31 : decode cX1_init 31 = .ok (.aastore, 1) := by decide +kernel
theorem dX1_init_32 : decode cX1_init 32 = .ok (.iinc 1 1, 3) := by decide +kernel
theorem dX1_init_35 : decode cX1_init 35 = .ok (.goto (-21), 3) := by decide +kernel
theorem dX1_init_38 : decode cX1_init 38 = .ok (.aload_n 0, 1) := by decide +kernel
theorem dX1_init_39 : decode cX1_init 39 = .ok (.bipush 64, 2) := by decide +kernel
theorem dX1_init_41 : decode cX1_init 41 = .ok (.newarray .int, 2) := by decide +kernel
theorem dX1_init_43 : decode cX1_init 43 = .ok (.putfield 16, 3) := by decide +kernel
theorem dX1_init_46 : decode cX1_init 46 = .ok (.aload_n 0, 1) := by decide +kernel
theorem dX1_init_47 : decode cX1_init 47 = .ok (.iconst 0, 1) := by decide +kernel
theorem dX1_init_48 : decode cX1_init 48 = .ok (.putfield 20, 3) := by decide +kernel
theorem dX1_init_51 : decode cX1_init 51 = .ok (.aload_n 0, 1) := by decide +kernel
theorem dX1_init_52 : decode cX1_init 52 = .ok (.iconst 1, 1) := by decide +kernel
theorem dX1_init_53 : decode cX1_init 53 = .ok (.putfield 24, 3) := by decide +kernel
theorem dX1_init_56 : decode cX1_init 56 = .ok (.aload_n 0, 1) := by decide +kernel
theorem dX1_init_57 : decode cX1_init 57 = .ok (.iconst 0, 1) := by decide +kernel
theorem dX1_init_58 : decode cX1_init 58 = .ok (.putfield 28, 3) := by decide +kernel
theorem dX1_init_61 : decode cX1_init 61 = .ok (.aload_n 0, 1) := by decide +kernel
theorem dX1_init_62 : decode cX1_init 62 = .ok (.iconst 0, 1) := by decide +kernel
theorem dX1_init_63 : decode cX1_init 63 = .ok (.putfield 31, 3) := by decide +kernel
theorem dX1_init_66 : decode cX1_init 66 = .ok (.return_, 1) := by decide +kernel
theorem dX1_begin_0 : decode cX1_begin 0 = .ok (.iload_n 1, 1) := by decide +kernel
theorem dX1_begin_1 : decode cX1_begin 1 = .ok (.iconst 1, 1) := by decide +kernel
theorem dX1_begin_2 : decode cX1_begin 2 = .ok (.if_icmp .lt 9, 3) := by decide +kernel
theorem dX1_begin_5 : decode cX1_begin 5 = .ok (.iload_n 1, 1) := by decide +kernel
theorem dX1_begin_6 : decode cX1_begin 6 = .ok (.bipush 6, 2) := by decide +kernel
theorem dX1_begin_8 : decode cX1_begin 8 = .ok (.if_icmp .le 5, 3) := by decide +kernel
theorem dX1_begin_11 : decode cX1_begin 11 = .ok (.iconst 0, 1) := by decide +kernel
theorem dX1_begin_12 : decode cX1_begin 12 = .ok (.ireturn, 1) := by decide +kernel
theorem dX1_begin_13 : decode cX1_begin 13 = .ok (.aload_n 0, 1) := by decide +kernel
theorem dX1_begin_14 : decode cX1_begin 14 = .ok (.iload_n 1, 1) := by decide +kernel
theorem dX1_begin_15 : decode cX1_begin 15 = .ok (.putfield 24, 3) := by decide +kernel
theorem dX1_begin_18 : decode cX1_begin 18 = .ok (.iconst 0, 1) := by decide +kernel
theorem dX1_begin_19 : decode cX1_begin 19 = .ok (.istore_n 2, 1) := by decide +kernel
theorem dX1_begin_20 : decode cX1_begin 20 = .ok (.iload_n 2, 1) := by decide +kernel
theorem dX1_begin_21 : decode cX1_begin 21 = .ok (.iconst 4, 1) := by decide +kernel
theorem dX1_begin_22 : decode cX1_begin 22 = .ok (.if_icmp .ge 18, 3) := by decide +kernel
theorem dX1_begin_25 : decode cX1_begin 25 = .ok (.aload_n 0, 1) := by decide +kernel
theorem dX1_begin_26 : decode cX1_begin 26 = .ok (.getfield 11, 3) := by decide +kernel
theorem dX1_begin_29 : decode cX1_begin 29 = .ok (.iload_n 2, 1) := by decide +kernel
theorem dX1_begin_30 : decode cX1_begin 30 = .ok (.aaload, 1) := by decide +kernel
theorem dX1_begin_31 : decode cX1_begin 31 = .ok (.invokevirtual 34, 3) := by decide +kernel
theorem dX1_begin_34 : decode cX1_begin 34 = .ok (.iinc 2 1, 3) := by decide +kernel
theorem dX1_begin_37 : decode cX1_begin 37 = .ok (.goto (-17), 3) := by decide +kernel
theorem dX1_begin_40 : decode cX1_begin 40 = .ok (.aload_n 0, 1) := by decide +kernel
theorem dX1_begin_41 : decode cX1_begin 41 = .ok (.invokevirtual 37, 3) := by decide +kernel
theorem dX1_begin_44 : decode cX1_begin 44 = .ok (.iconst 1, 1) := by decide +kernel
theorem dX1_begin_45 : decode cX1_begin 45 = .ok (.ireturn, 1) := by decide +kernel
theorem dX1_clause_0 : decode cX1_clause 0 = .ok (.iload_n 1, 1) := by decide +kernel
theorem dX1_clause_1 : decode cX1_clause 1 = .ok (.invokestatic 40, 3) := by decide +kernel
theorem dX1_clause_4 : decode cX1_clause 4 = .ok (.ifCond .eq 33, 3) := by decide +kernel
theorem dX1_clause_7 : decode cX1_clause 7 = .ok (.aload_n 0, 1) := by decide +kernel
theorem dX1_clause_8 : decode cX1_clause 8 = .ok (.iload_n 1, 1) := by decide +kernel
theorem dX1_clause_9 : decode cX1_clause 9 = .ok (.iload_n 2, 1) := by decide +kernel
theorem dX1_clause_10 : decode cX1_clause 10 = .ok (.invokevirtual 44, 3) := by decide +kernel
theorem dX1_clause_13 : decode cX1_clause 13 = .ok (.ifCond .eq 24, 3) := by decide +kernel
theorem dX1_clause_16 : decode cX1_clause 16 = .ok (.aload_n 0, 1) := by decide +kernel
theorem dX1_clause_17 : decode cX1_clause 17 = .ok (.iload_n 1, 1) := by decide +kernel
theorem dX1_clause_18 : decode cX1_clause 18 = .ok (.iload_n 3, 1) := by decide +kernel
theorem dX1_clause_19 : decode cX1_clause 19 = .ok (.invokevirtual 44, 3) := by decide +kernel
theorem dX1_clause_22 : decode cX1_clause 22 = .ok (.ifCond .eq 15, 3) := by decide +kernel
theorem dX1_clause_25 : decode cX1_clause 25 = .ok (.aload_n 0, 1) := by decide +kernel
theorem dX1_clause_26 : decode cX1_clause 26 = .ok (.getfield 11, 3) := by decide +kernel
theorem dX1_clause_29 : decode cX1_clause 29 = .ok (.iload_n 1, 1) := by decide +kernel
theorem dX1_clause_30 : decode cX1_clause 30 = .ok (.aaload, 1) := by decide +kernel
theorem dX1_clause_31 : decode cX1_clause 31 = .ok (.invokevirtual 48, 3) := by decide +kernel
theorem dX1_clause_34 : decode cX1_clause 34 = .ok (.ifCond .eq 5, 3) := by decide +kernel
theorem dX1_clause_37 : decode cX1_clause 37 = .ok (.iconst (-1), 1) := by decide +kernel
theorem dX1_clause_38 : decode cX1_clause 38 = .ok (.ireturn, 1) := by decide +kernel
theorem dX1_clause_39 : decode cX1_clause 39 = .ok (.aload_n 0, 1) := by decide +kernel
theorem dX1_clause_40 : decode cX1_clause 40 = .ok (.getfield 11, 3) := by decide +kernel
theorem dX1_clause_43 : decode cX1_clause 43 = .ok (.iload_n 1, 1) := by decide +kernel
theorem dX1_clause_44 : decode cX1_clause 44 = .ok (.aaload, 1) := by decide +kernel
theorem dX1_clause_45 : decode cX1_clause 45 = .ok (.iload_n 2, 1) := by decide +kernel
theorem dX1_clause_46 : decode cX1_clause 46 = .ok (.iload_n 3, 1) := by decide +kernel
theorem dX1_clause_47 : decode cX1_clause 47 = .ok (.invokevirtual 52, 3) := by decide +kernel
theorem dX1_clause_50 : decode cX1_clause 50 = .ok (.aload_n 0, 1) := by decide +kernel
theorem dX1_clause_51 : decode cX1_clause 51 = .ok (.invokevirtual 37, 3) := by decide +kernel
theorem dX1_clause_54 : decode cX1_clause 54 = .ok (.aload_n 0, 1) := by decide +kernel
theorem dX1_clause_55 : decode cX1_clause 55 = .ok (.getfield 11, 3) := by decide +kernel
theorem dX1_clause_58 : decode cX1_clause 58 = .ok (.iload_n 1, 1) := by decide +kernel
theorem dX1_clause_59 : decode cX1_clause 59 = .ok (.aaload, 1) := by decide +kernel
theorem dX1_clause_60 : decode cX1_clause 60 = .ok (.getfield 56, 3) := by decide +kernel
theorem dX1_clause_63 : decode cX1_clause 63 = .ok (.iconst 1, 1) := by decide +kernel
theorem dX1_clause_64 : decode cX1_clause 64 = .ok (.isub, 1) := by decide +kernel
theorem dX1_clause_65 : decode cX1_clause 65 = .ok (.ireturn, 1) := by decide +kernel
theorem dX1_drop_0 : decode cX1_drop 0 = .ok (.iload_n 1, 1) := by decide +kernel
theorem dX1_drop_1 : decode cX1_drop 1 = .ok (.invokestatic 40, 3) := by decide +kernel
theorem dX1_drop_4 : decode cX1_drop 4 = .ok (.ifCond .eq 15, 3) := by decide +kernel
theorem dX1_drop_7 : decode cX1_drop 7 = .ok (.aload_n 0, 1) := by decide +kernel
theorem dX1_drop_8 : decode cX1_drop 8 = .ok (.getfield 11, 3) := by decide +kernel
theorem dX1_drop_11 : decode cX1_drop 11 = .ok (.iload_n 1, 1) := by decide +kernel
theorem dX1_drop_12 : decode cX1_drop 12 = .ok (.aaload, 1) := by decide +kernel
theorem dX1_drop_13 : decode cX1_drop 13 = .ok (.getfield 56, 3) := by decide +kernel
theorem dX1_drop_16 : decode cX1_drop 16 = .ok (.ifCond .ne 5, 3) := by decide +kernel
theorem dX1_drop_19 : decode cX1_drop 19 = .ok (.iconst (-1), 1) := by decide +kernel
theorem dX1_drop_20 : decode cX1_drop 20 = .ok (.ireturn, 1) := by decide +kernel
theorem dX1_drop_21 : decode cX1_drop 21 = .ok (.aload_n 0, 1) := by decide +kernel
theorem dX1_drop_22 : decode cX1_drop 22 = .ok (.getfield 11, 3) := by decide +kernel
theorem dX1_drop_25 : decode cX1_drop 25 = .ok (.iload_n 1, 1) := by decide +kernel
theorem dX1_drop_26 : decode cX1_drop 26 = .ok (.aaload, 1) := by decide +kernel
theorem dX1_drop_27 : decode cX1_drop 27 = .ok (.invokevirtual 59, 3) := by decide +kernel
theorem dX1_drop_30 : decode cX1_drop 30 = .ok (.aload_n 0, 1) := by decide +kernel
theorem dX1_drop_31 : decode cX1_drop 31 = .ok (.invokevirtual 37, 3) := by decide +kernel
theorem dX1_drop_34 : decode cX1_drop 34 = .ok (.aload_n 0, 1) := by decide +kernel
theorem dX1_drop_35 : decode cX1_drop 35 = .ok (.getfield 11, 3) := by decide +kernel
theorem dX1_drop_38 : decode cX1_drop 38 = .ok (.iload_n 1, 1) := by decide +kernel
theorem dX1_drop_39 : decode cX1_drop 39 = .ok (.aaload, 1) := by decide +kernel
theorem dX1_drop_40 : decode cX1_drop 40 = .ok (.getfield 56, 3) := by decide +kernel
theorem dX1_drop_43 : decode cX1_drop 43 = .ok (.ireturn, 1) := by decide +kernel
theorem dX1_switches_0 : decode cX1_switches 0 = .ok (.aload_n 0, 1) := by decide +kernel
theorem dX1_switches_1 : decode cX1_switches 1 = .ok (.getfield 24, 3) := by decide +kernel
theorem dX1_switches_4 : decode cX1_switches 4 = .ok (.ireturn, 1) := by decide +kernel
theorem dX1_count_0 : decode cX1_count 0 = .ok (.iload_n 1, 1) := by decide +kernel
theorem dX1_count_1 : decode cX1_count 1 = .ok (.invokestatic 40, 3) := by decide +kernel
theorem dX1_count_4 : decode cX1_count 4 = .ok (.ifCond .eq 15, 3) := by decide +kernel
theorem dX1_count_7 : decode cX1_count 7 = .ok (.aload_n 0, 1) := by decide +kernel
theorem dX1_count_8 : decode cX1_count 8 = .ok (.getfield 11, 3) := by decide +kernel
theorem dX1_count_11 : decode cX1_count 11 = .ok (.iload_n 1, 1) := by decide +kernel
theorem dX1_count_12 : decode cX1_count 12 = .ok (.aaload, 1) := by decide +kernel
theorem dX1_count_13 : decode cX1_count 13 = .ok (.getfield 56, 3) := by decide +kernel
theorem dX1_count_16 : decode cX1_count 16 = .ok (.goto 4, 3) := by decide +kernel
theorem dX1_count_19 : decode cX1_count 19 = .ok (.iconst (-1), 1) := by decide +kernel
theorem dX1_count_20 : decode cX1_count 20 = .ok (.ireturn, 1) := by decide +kernel
theorem dX1_holds_0 : decode cX1_holds 0 = .ok (.iload_n 1, 1) := by decide +kernel
theorem dX1_holds_1 : decode cX1_holds 1 = .ok (.invokestatic 40, 3) := by decide +kernel
theorem dX1_holds_4 : decode cX1_holds 4 = .ok (.ifCond .eq 11, 3) := by decide +kernel
theorem dX1_holds_7 : decode cX1_holds 7 = .ok (.aload_n 0, 1) := by decide +kernel
theorem dX1_holds_8 : decode cX1_holds 8 = .ok (.iload_n 2, 1) := by decide +kernel
theorem dX1_holds_9 : decode cX1_holds 9 = .ok (.invokevirtual 62, 3) := by decide +kernel
theorem dX1_holds_12 : decode cX1_holds 12 = .ok (.ifCond .ne 5, 3) := by decide +kernel
theorem dX1_holds_15 : decode cX1_holds 15 = .ok (.iconst 0, 1) := by decide +kernel
theorem dX1_holds_16 : decode cX1_holds 16 = .ok (.ireturn, 1) := by decide +kernel
theorem dX1_holds_17 : decode cX1_holds 17 = .ok (.iload_n 1, 1) := by decide +kernel
theorem dX1_holds_18 : decode cX1_holds 18 = .ok (.iconst 1, 1) := by decide +kernel
theorem dX1_holds_19 : decode cX1_holds 19 = .ok (.if_icmp .ne 26, 3) := by decide +kernel
theorem dX1_holds_22 : decode cX1_holds 22 = .ok (.aload_n 0, 1) := by decide +kernel
theorem dX1_holds_23 : decode cX1_holds 23 = .ok (.iload_n 3, 1) := by decide +kernel
theorem dX1_holds_24 : decode cX1_holds 24 = .ok (.invokevirtual 62, 3) := by decide +kernel
theorem dX1_holds_27 : decode cX1_holds 27 = .ok (.ifCond .eq 16, 3) := by decide +kernel
theorem dX1_holds_30 : decode cX1_holds 30 = .ok (.aload_n 0, 1) := by decide +kernel
theorem dX1_holds_31 : decode cX1_holds 31 = .ok (.iload_n 2, 1) := by decide +kernel
theorem dX1_holds_32 : decode cX1_holds 32 = .ok (.iload_n 3, 1) := by decide +kernel
theorem dX1_holds_33 : decode cX1_holds 33 = .ok (.invokevirtual 65, 3) := by decide +kernel
theorem dX1_holds_36 : decode cX1_holds 36 = .ok (.ifCond .eq 7, 3) := by decide +kernel
theorem dX1_holds_39 : decode cX1_holds 39 = .ok (.iconst 1, 1) := by decide +kernel
theorem dX1_holds_40 : decode cX1_holds 40 = .ok (.goto 4, 3) := by decide +kernel
theorem dX1_holds_43 : decode cX1_holds 43 = .ok (.iconst 0, 1) := by decide +kernel
theorem dX1_holds_44 : decode cX1_holds 44 = .ok (.ireturn, 1) := by decide +kernel
theorem dX1_holds_45 : decode cX1_holds 45 = .ok (.aload_n 0, 1) := by decide +kernel
theorem dX1_holds_46 : decode cX1_holds 46 = .ok (.iload_n 1, 1) := by decide +kernel
theorem dX1_holds_47 : decode cX1_holds 47 = .ok (.iload_n 2, 1) := by decide +kernel
theorem dX1_holds_48 : decode cX1_holds 48 = .ok (.invokevirtual 68, 3) := by decide +kernel
theorem dX1_holds_51 : decode cX1_holds 51 = .ok (.ireturn, 1) := by decide +kernel
theorem dX1_safe_0 : decode cX1_safe 0 = .ok (.aload_n 0, 1) := by decide +kernel
theorem dX1_safe_1 : decode cX1_safe 1 = .ok (.invokevirtual 71, 3) := by decide +kernel
theorem dX1_safe_4 : decode cX1_safe 4 = .ok (.iconst (-1), 1) := by decide +kernel
theorem dX1_safe_5 : decode cX1_safe 5 = .ok (.if_icmp .ne 7, 3) := by decide +kernel
theorem dX1_safe_8 : decode cX1_safe 8 = .ok (.iconst 1, 1) := by decide +kernel
theorem dX1_safe_9 : decode cX1_safe 9 = .ok (.goto 4, 3) := by decide +kernel
theorem dX1_safe_12 : decode cX1_safe 12 = .ok (.iconst 0, 1) := by decide +kernel
theorem dX1_safe_13 : decode cX1_safe 13 = .ok (.ireturn, 1) := by decide +kernel
theorem dX1_steps_0 : decode cX1_steps 0 = .ok (.aload_n 0, 1) := by decide +kernel
theorem dX1_steps_1 : decode cX1_steps 1 = .ok (.invokevirtual 75, 3) := by decide +kernel
theorem dX1_steps_4 : decode cX1_steps 4 = .ok (.iconst (-1), 1) := by decide +kernel
theorem dX1_steps_5 : decode cX1_steps 5 = .ok (.istore_n 1, 1) := by decide +kernel
theorem dX1_steps_6 : decode cX1_steps 6 = .ok (.iconst 0, 1) := by decide +kernel
theorem dX1_steps_7 : decode cX1_steps 7 = .ok (.istore_n 2, 1) := by decide +kernel
theorem dX1_steps_8 : decode cX1_steps 8 = .ok (.iload_n 2, 1) := by decide +kernel
theorem dX1_steps_9 : decode cX1_steps 9 = .ok (.aload_n 0, 1) := by decide +kernel
theorem dX1_steps_10 : decode cX1_steps 10 = .ok (.invokevirtual 78, 3) := by decide +kernel
theorem dX1_steps_13 : decode cX1_steps 13 = .ok (.if_icmp .ge 39, 3) := by decide +kernel
theorem dX1_steps_16 : decode cX1_steps 16 = .ok (.aload_n 0, 1) := by decide +kernel
theorem dX1_steps_17 : decode cX1_steps 17 = .ok (.iload_n 2, 1) := by decide +kernel
theorem dX1_steps_18 : decode cX1_steps 18 = .ok (.invokevirtual 81, 3) := by decide +kernel
theorem dX1_steps_21 : decode cX1_steps 21 = .ok (.ifCond .eq 25, 3) := by decide +kernel
theorem dX1_steps_24 : decode cX1_steps 24 = .ok (.iload_n 1, 1) := by decide +kernel
theorem dX1_steps_25 : decode cX1_steps 25 = .ok (.iconst (-1), 1) := by decide +kernel
theorem dX1_steps_26 : decode cX1_steps 26 = .ok (.if_icmp .eq 13, 3) := by decide +kernel
theorem dX1_steps_29 : decode cX1_steps 29 = .ok (.aload_n 0, 1) := by decide +kernel
theorem dX1_steps_30 : decode cX1_steps 30 = .ok (.getfield 16, 3) := by decide +kernel
theorem dX1_steps_33 : decode cX1_steps 33 = .ok (.iload_n 2, 1) := by decide +kernel
theorem dX1_steps_34 : decode cX1_steps 34 = .ok (.iaload, 1) := by decide +kernel
theorem dX1_steps_35 : decode cX1_steps 35 = .ok (.iload_n 1, 1) := by decide +kernel
theorem dX1_steps_36 : decode cX1_steps 36 = .ok (.if_icmp .ge 10, 3) := by decide +kernel
theorem dX1_steps_39 : decode cX1_steps 39 = .ok (.aload_n 0, 1) := by decide +kernel
theorem dX1_steps_40 : decode cX1_steps 40 = .ok (.getfield 16, 3) := by decide +kernel
theorem dX1_steps_43 : decode cX1_steps 43 = .ok (.iload_n 2, 1) := by decide +kernel
theorem dX1_steps_44 : decode cX1_steps 44 = .ok (.iaload, 1) := by decide +kernel
theorem dX1_steps_45 : decode cX1_steps 45 = .ok (.istore_n 1, 1) := by decide +kernel
theorem dX1_steps_46 : decode cX1_steps 46 = .ok (.iinc 2 1, 3) := by decide +kernel
theorem dX1_steps_49 : decode cX1_steps 49 = .ok (.goto (-41), 3) := by decide +kernel
theorem dX1_steps_52 : decode cX1_steps 52 = .ok (.iload_n 1, 1) := by decide +kernel
theorem dX1_steps_53 : decode cX1_steps 53 = .ok (.ireturn, 1) := by decide +kernel
theorem dX1_depth_0 : decode cX1_depth 0 = .ok (.aload_n 0, 1) := by decide +kernel
theorem dX1_depth_1 : decode cX1_depth 1 = .ok (.iload_n 1, 1) := by decide +kernel
theorem dX1_depth_2 : decode cX1_depth 2 = .ok (.invokevirtual 62, 3) := by decide +kernel
theorem dX1_depth_5 : decode cX1_depth 5 = .ok (.ifCond .ne 5, 3) := by decide +kernel
theorem dX1_depth_8 : decode cX1_depth 8 = .ok (.iconst (-1), 1) := by decide +kernel
theorem dX1_depth_9 : decode cX1_depth 9 = .ok (.ireturn, 1) := by decide +kernel
theorem dX1_depth_10 : decode cX1_depth 10 = .ok (.aload_n 0, 1) := by decide +kernel
theorem dX1_depth_11 : decode cX1_depth 11 = .ok (.invokevirtual 75, 3) := by decide +kernel
theorem dX1_depth_14 : decode cX1_depth 14 = .ok (.aload_n 0, 1) := by decide +kernel
theorem dX1_depth_15 : decode cX1_depth 15 = .ok (.getfield 16, 3) := by decide +kernel
theorem dX1_depth_18 : decode cX1_depth 18 = .ok (.iload_n 1, 1) := by decide +kernel
theorem dX1_depth_19 : decode cX1_depth 19 = .ok (.iaload, 1) := by decide +kernel
theorem dX1_depth_20 : decode cX1_depth 20 = .ok (.ireturn, 1) := by decide +kernel
theorem dX1_reached_0 : decode cX1_reached 0 = .ok (.aload_n 0, 1) := by decide +kernel
theorem dX1_reached_1 : decode cX1_reached 1 = .ok (.invokevirtual 75, 3) := by decide +kernel
theorem dX1_reached_4 : decode cX1_reached 4 = .ok (.iconst 0, 1) := by decide +kernel
theorem dX1_reached_5 : decode cX1_reached 5 = .ok (.istore_n 1, 1) := by decide +kernel
theorem dX1_reached_6 : decode cX1_reached 6 = .ok (.iconst 0, 1) := by decide +kernel
theorem dX1_reached_7 : decode cX1_reached 7 = .ok (.istore_n 2, 1) := by decide +kernel
theorem dX1_reached_8 : decode cX1_reached 8 = .ok (.iload_n 2, 1) := by decide +kernel
theorem dX1_reached_9 : decode cX1_reached 9 = .ok (.aload_n 0, 1) := by decide +kernel
theorem dX1_reached_10 : decode cX1_reached 10 = .ok (.invokevirtual 78, 3) := by decide +kernel
theorem dX1_reached_13 : decode cX1_reached 13 = .ok (.if_icmp .ge 22, 3) := by decide +kernel
theorem dX1_reached_16 : decode cX1_reached 16 = .ok (.aload_n 0, 1) := by decide +kernel
theorem dX1_reached_17 : decode cX1_reached 17 = .ok (.getfield 16, 3) := by decide +kernel
theorem dX1_reached_20 : decode cX1_reached 20 = .ok (.iload_n 2, 1) := by decide +kernel
theorem dX1_reached_21 : decode cX1_reached 21 = .ok (.iaload, 1) := by decide +kernel
theorem dX1_reached_22 : decode cX1_reached 22 = .ok (.iconst (-1), 1) := by decide +kernel
theorem dX1_reached_23 : decode cX1_reached 23 = .ok (.if_icmp .eq 6, 3) := by decide +kernel
theorem dX1_reached_26 : decode cX1_reached 26 = .ok (.iinc 1 1, 3) := by decide +kernel
theorem dX1_reached_29 : decode cX1_reached 29 = .ok (.iinc 2 1, 3) := by decide +kernel
theorem dX1_reached_32 : decode cX1_reached 32 = .ok (.goto (-24), 3) := by decide +kernel
theorem dX1_reached_35 : decode cX1_reached 35 = .ok (.iload_n 1, 1) := by decide +kernel
theorem dX1_reached_36 : decode cX1_reached 36 = .ok (.ireturn, 1) := by decide +kernel
theorem dX1_worst_0 : decode cX1_worst 0 = .ok (.aload_n 0, 1) := by decide +kernel
theorem dX1_worst_1 : decode cX1_worst 1 = .ok (.invokevirtual 75, 3) := by decide +kernel
theorem dX1_worst_4 : decode cX1_worst 4 = .ok (.iconst 0, 1) := by decide +kernel
theorem dX1_worst_5 : decode cX1_worst 5 = .ok (.istore_n 1, 1) := by decide +kernel
theorem dX1_worst_6 : decode cX1_worst 6 = .ok (.iload_n 1, 1) := by decide +kernel
theorem dX1_worst_7 : decode cX1_worst 7 = .ok (.aload_n 0, 1) := by decide +kernel
theorem dX1_worst_8 : decode cX1_worst 8 = .ok (.invokevirtual 78, 3) := by decide +kernel
theorem dX1_worst_11 : decode cX1_worst 11 = .ok (.if_icmp .ge 19, 3) := by decide +kernel
theorem dX1_worst_14 : decode cX1_worst 14 = .ok (.aload_n 0, 1) := by decide +kernel
theorem dX1_worst_15 : decode cX1_worst 15 = .ok (.iload_n 1, 1) := by decide +kernel
theorem dX1_worst_16 : decode cX1_worst 16 = .ok (.invokevirtual 81, 3) := by decide +kernel
theorem dX1_worst_19 : decode cX1_worst 19 = .ok (.ifCond .eq 5, 3) := by decide +kernel
theorem dX1_worst_22 : decode cX1_worst 22 = .ok (.iload_n 1, 1) := by decide +kernel
theorem dX1_worst_23 : decode cX1_worst 23 = .ok (.ireturn, 1) := by decide +kernel
theorem dX1_worst_24 : decode cX1_worst 24 = .ok (.iinc 1 1, 3) := by decide +kernel
theorem dX1_worst_27 : decode cX1_worst 27 = .ok (.goto (-21), 3) := by decide +kernel
theorem dX1_worst_30 : decode cX1_worst 30 = .ok (.iconst (-1), 1) := by decide +kernel
theorem dX1_worst_31 : decode cX1_worst 31 = .ok (.ireturn, 1) := by decide +kernel
theorem dX1_check_0 : decode cX1_check 0 = .ok (.iconst 1, 1) := by decide +kernel
theorem dX1_check_1 : decode cX1_check 1 = .ok (.istore_n 1, 1) := by decide +kernel
theorem dX1_check_2 : decode cX1_check 2 = .ok (.iload_n 1, 1) := by decide +kernel
theorem dX1_check_3 : decode cX1_check 3 = .ok (.iconst 3, 1) := by decide +kernel
theorem dX1_check_4 : decode cX1_check 4 = .ok (.if_icmp .gt 20, 3) := by decide +kernel
theorem dX1_check_7 : decode cX1_check 7 = .ok (.aload_n 0, 1) := by decide +kernel
theorem dX1_check_8 : decode cX1_check 8 = .ok (.iload_n 1, 1) := by decide +kernel
theorem dX1_check_9 : decode cX1_check 9 = .ok (.invokevirtual 84, 3) := by decide +kernel
theorem dX1_check_12 : decode cX1_check 12 = .ok (.iconst (-1), 1) := by decide +kernel
theorem dX1_check_13 : decode cX1_check 13 = .ok (.if_icmp .eq 5, 3) := by decide +kernel
theorem dX1_check_16 : decode cX1_check 16 = .ok (.iload_n 1, 1) := by decide +kernel
theorem dX1_check_17 : decode cX1_check 17 = .ok (.ireturn, 1) := by decide +kernel
theorem dX1_check_18 : decode cX1_check 18 = .ok (.iinc 1 1, 3) := by decide +kernel
theorem dX1_check_21 : decode cX1_check 21 = .ok (.goto (-19), 3) := by decide +kernel
theorem dX1_check_24 : decode cX1_check 24 = .ok (.iconst 0, 1) := by decide +kernel
theorem dX1_check_25 : decode cX1_check 25 = .ok (.ireturn, 1) := by decide +kernel
theorem dX1_flaw_0 : decode cX1_flaw 0 = .ok (.aload_n 0, 1) := by decide +kernel
theorem dX1_flaw_1 : decode cX1_flaw 1 = .ok (.invokevirtual 88, 3) := by decide +kernel
theorem dX1_flaw_4 : decode cX1_flaw 4 = .ok (.istore_n 1, 1) := by decide +kernel
theorem dX1_flaw_5 : decode cX1_flaw 5 = .ok (.iload_n 1, 1) := by decide +kernel
theorem dX1_flaw_6 : decode cX1_flaw 6 = .ok (.ifCond .ne 7, 3) := by decide +kernel
theorem dX1_flaw_9 : decode cX1_flaw 9 = .ok (.iconst (-1), 1) := by decide +kernel
theorem dX1_flaw_10 : decode cX1_flaw 10 = .ok (.goto 8, 3) := by decide +kernel
theorem dX1_flaw_13 : decode cX1_flaw 13 = .ok (.aload_n 0, 1) := by decide +kernel
theorem dX1_flaw_14 : decode cX1_flaw 14 = .ok (.iload_n 1, 1) := by decide +kernel
theorem dX1_flaw_15 : decode cX1_flaw 15 = .ok (.invokevirtual 84, 3) := by decide +kernel
theorem dX1_flaw_18 : decode cX1_flaw 18 = .ok (.ireturn, 1) := by decide +kernel
theorem dX1_walk_0 : decode cX1_walk 0 = .ok (.aload_n 0, 1) := by decide +kernel
theorem dX1_walk_1 : decode cX1_walk 1 = .ok (.iload_n 1, 1) := by decide +kernel
theorem dX1_walk_2 : decode cX1_walk 2 = .ok (.invokevirtual 62, 3) := by decide +kernel
theorem dX1_walk_5 : decode cX1_walk 5 = .ok (.ifCond .eq 12, 3) := by decide +kernel
theorem dX1_walk_8 : decode cX1_walk 8 = .ok (.aload_n 0, 1) := by decide +kernel
theorem dX1_walk_9 : decode cX1_walk 9 = .ok (.getfield 28, 3) := by decide +kernel
theorem dX1_walk_12 : decode cX1_walk 12 = .ok (.bipush 64, 2) := by decide +kernel
theorem dX1_walk_14 : decode cX1_walk 14 = .ok (.if_icmp .lt 5, 3) := by decide +kernel
theorem dX1_walk_17 : decode cX1_walk 17 = .ok (.iconst (-1), 1) := by decide +kernel
theorem dX1_walk_18 : decode cX1_walk 18 = .ok (.ireturn, 1) := by decide +kernel
theorem dX1_walk_19 : decode cX1_walk 19 = .ok (.aload_n 0, 1) := by decide +kernel
theorem dX1_walk_20 : decode cX1_walk 20 = .ok (.getfield 28, 3) := by decide +kernel
theorem dX1_walk_23 : decode cX1_walk 23 = .ok (.ifCond .ne 12, 3) := by decide +kernel
theorem dX1_walk_26 : decode cX1_walk 26 = .ok (.aload_n 0, 1) := by decide +kernel
theorem dX1_walk_27 : decode cX1_walk 27 = .ok (.iconst 0, 1) := by decide +kernel
theorem dX1_walk_28 : decode cX1_walk 28 = .ok (.iload_n 1, 1) := by decide +kernel
theorem dX1_walk_29 : decode cX1_walk 29 = .ok (.invokevirtual 68, 3) := by decide +kernel
theorem dX1_walk_32 : decode cX1_walk 32 = .ok (.goto 12, 3) := by decide +kernel
theorem dX1_walk_35 : decode cX1_walk 35 = .ok (.aload_n 0, 1) := by decide +kernel
theorem dX1_walk_36 : decode cX1_walk 36 = .ok (.aload_n 0, 1) := by decide +kernel
theorem dX1_walk_37 : decode cX1_walk 37 = .ok (.getfield 31, 3) := by decide +kernel
theorem dX1_walk_40 : decode cX1_walk 40 = .ok (.iload_n 1, 1) := by decide +kernel
theorem dX1_walk_41 : decode cX1_walk 41 = .ok (.invokevirtual 65, 3) := by decide +kernel
theorem dX1_walk_44 : decode cX1_walk 44 = .ok (.istore_n 2, 1) := by decide +kernel
theorem dX1_walk_45 : decode cX1_walk 45 = .ok (.iload_n 2, 1) := by decide +kernel
theorem dX1_walk_46 : decode cX1_walk 46 = .ok (.ifCond .ne 5, 3) := by decide +kernel
theorem dX1_walk_49 : decode cX1_walk 49 = .ok (.iconst (-1), 1) := by decide +kernel
theorem dX1_walk_50 : decode cX1_walk 50 = .ok (.ireturn, 1) := by decide +kernel
theorem dX1_walk_51 : decode cX1_walk 51 = .ok (.aload_n 0, 1) := by decide +kernel
theorem dX1_walk_52 : decode cX1_walk 52 = .ok (.iload_n 1, 1) := by decide +kernel
theorem dX1_walk_53 : decode cX1_walk 53 = .ok (.putfield 31, 3) := by decide +kernel
theorem dX1_walk_56 : decode cX1_walk 56 = .ok (.aload_n 0, 1) := by decide +kernel
theorem dX1_walk_57 : decode cX1_walk 57 = .ok (.dup, 1) := by decide +kernel
theorem dX1_walk_58 : decode cX1_walk 58 = .ok (.getfield 28, 3) := by decide +kernel
theorem dX1_walk_61 : decode cX1_walk 61 = .ok (.iconst 1, 1) := by decide +kernel
theorem dX1_walk_62 : decode cX1_walk 62 = .ok (.iadd, 1) := by decide +kernel
theorem dX1_walk_63 : decode cX1_walk 63 = .ok (.putfield 28, 3) := by decide +kernel
theorem dX1_walk_66 : decode cX1_walk 66 = .ok (.aload_n 0, 1) := by decide +kernel
theorem dX1_walk_67 : decode cX1_walk 67 = .ok (.getfield 28, 3) := by decide +kernel
theorem dX1_walk_70 : decode cX1_walk 70 = .ok (.ireturn, 1) := by decide +kernel
theorem dX1_arrives_0 : decode cX1_arrives 0 = .ok (.aload_n 0, 1) := by decide +kernel
theorem dX1_arrives_1 : decode cX1_arrives 1 = .ok (.getfield 28, 3) := by decide +kernel
theorem dX1_arrives_4 : decode cX1_arrives 4 = .ok (.ifCond .le 19, 3) := by decide +kernel
theorem dX1_arrives_7 : decode cX1_arrives 7 = .ok (.aload_n 0, 1) := by decide +kernel
theorem dX1_arrives_8 : decode cX1_arrives 8 = .ok (.iconst 2, 1) := by decide +kernel
theorem dX1_arrives_9 : decode cX1_arrives 9 = .ok (.aload_n 0, 1) := by decide +kernel
theorem dX1_arrives_10 : decode cX1_arrives 10 = .ok (.getfield 31, 3) := by decide +kernel
theorem dX1_arrives_13 : decode cX1_arrives 13 = .ok (.invokevirtual 68, 3) := by decide +kernel
theorem dX1_arrives_16 : decode cX1_arrives 16 = .ok (.ifCond .eq 7, 3) := by decide +kernel
theorem dX1_arrives_19 : decode cX1_arrives 19 = .ok (.iconst 1, 1) := by decide +kernel
theorem dX1_arrives_20 : decode cX1_arrives 20 = .ok (.goto 4, 3) := by decide +kernel
theorem dX1_arrives_23 : decode cX1_arrives 23 = .ok (.iconst 0, 1) := by decide +kernel
theorem dX1_arrives_24 : decode cX1_arrives 24 = .ok (.ireturn, 1) := by decide +kernel
theorem dX1_stateCount_0 : decode cX1_stateCount 0 = .ok (.iconst 1, 1) := by decide +kernel
theorem dX1_stateCount_1 : decode cX1_stateCount 1 = .ok (.aload_n 0, 1) := by decide +kernel
theorem dX1_stateCount_2 : decode cX1_stateCount 2 = .ok (.getfield 24, 3) := by decide +kernel
theorem dX1_stateCount_5 : decode cX1_stateCount 5 = .ok (.ishl, 1) := by decide +kernel
theorem dX1_stateCount_6 : decode cX1_stateCount 6 = .ok (.ireturn, 1) := by decide +kernel
theorem dX1_isState_0 : decode cX1_isState 0 = .ok (.iload_n 1, 1) := by decide +kernel
theorem dX1_isState_1 : decode cX1_isState 1 = .ok (.ifCond .lt 15, 3) := by decide +kernel
theorem dX1_isState_4 : decode cX1_isState 4 = .ok (.iload_n 1, 1) := by decide +kernel
theorem dX1_isState_5 : decode cX1_isState 5 = .ok (.aload_n 0, 1) := by decide +kernel
theorem dX1_isState_6 : decode cX1_isState 6 = .ok (.invokevirtual 78, 3) := by decide +kernel
theorem dX1_isState_9 : decode cX1_isState 9 = .ok (.if_icmp .ge 7, 3) := by decide +kernel
theorem dX1_isState_12 : decode cX1_isState 12 = .ok (.iconst 1, 1) := by decide +kernel
theorem dX1_isState_13 : decode cX1_isState 13 = .ok (.goto 4, 3) := by decide +kernel
theorem dX1_isState_16 : decode cX1_isState 16 = .ok (.iconst 0, 1) := by decide +kernel
theorem dX1_isState_17 : decode cX1_isState 17 = .ok (.ireturn, 1) := by decide +kernel
theorem dX1_isList_0 : decode cX1_isList 0 = .ok (.iload_n 0, 1) := by decide +kernel
theorem dX1_isList_1 : decode cX1_isList 1 = .ok (.ifCond .lt 12, 3) := by decide +kernel
theorem dX1_isList_4 : decode cX1_isList 4 = .ok (.iload_n 0, 1) := by decide +kernel
theorem dX1_isList_5 : decode cX1_isList 5 = .ok (.iconst 4, 1) := by decide +kernel
theorem dX1_isList_6 : decode cX1_isList 6 = .ok (.if_icmp .ge 7, 3) := by decide +kernel
theorem dX1_isList_9 : decode cX1_isList 9 = .ok (.iconst 1, 1) := by decide +kernel
theorem dX1_isList_10 : decode cX1_isList 10 = .ok (.goto 4, 3) := by decide +kernel
theorem dX1_isList_13 : decode cX1_isList 13 = .ok (.iconst 0, 1) := by decide +kernel
theorem dX1_isList_14 : decode cX1_isList 14 = .ok (.ireturn, 1) := by decide +kernel
theorem dX1_isSetOf_0 : decode cX1_isSetOf 0 = .ok (.iload_n 1, 1) := by decide +kernel
theorem dX1_isSetOf_1 : decode cX1_isSetOf 1 = .ok (.iconst 1, 1) := by decide +kernel
theorem dX1_isSetOf_2 : decode cX1_isSetOf 2 = .ok (.if_icmp .ne 12, 3) := by decide +kernel
theorem dX1_isSetOf_5 : decode cX1_isSetOf 5 = .ok (.iconst 2, 1) := by decide +kernel
theorem dX1_isSetOf_6 : decode cX1_isSetOf 6 = .ok (.aload_n 0, 1) := by decide +kernel
theorem dX1_isSetOf_7 : decode cX1_isSetOf 7 = .ok (.getfield 24, 3) := by decide +kernel
theorem dX1_isSetOf_10 : decode cX1_isSetOf 10 = .ok (.imul, 1) := by decide +kernel
theorem dX1_isSetOf_11 : decode cX1_isSetOf 11 = .ok (.goto 7, 3) := by decide +kernel
theorem dX1_isSetOf_14 : decode cX1_isSetOf 14 = .ok (.aload_n 0, 1) := by decide +kernel
theorem dX1_isSetOf_15 : decode cX1_isSetOf 15 = .ok (.getfield 24, 3) := by decide +kernel
theorem dX1_isSetOf_18 : decode cX1_isSetOf 18 = .ok (.istore_n 3, 1) := by decide +kernel
theorem dX1_isSetOf_19 : decode cX1_isSetOf 19 = .ok (.iload_n 2, 1) := by decide +kernel
theorem dX1_isSetOf_20 : decode cX1_isSetOf 20 = .ok (.ifCond .lt 14, 3) := by decide +kernel
theorem dX1_isSetOf_23 : decode cX1_isSetOf 23 = .ok (.iload_n 2, 1) := by decide +kernel
theorem dX1_isSetOf_24 : decode cX1_isSetOf 24 = .ok (.iconst 1, 1) := by decide +kernel
theorem dX1_isSetOf_25 : decode cX1_isSetOf 25 = .ok (.iload_n 3, 1) := by decide +kernel
theorem dX1_isSetOf_26 : decode cX1_isSetOf 26 = .ok (.ishl, 1) := by decide +kernel
theorem dX1_isSetOf_27 : decode cX1_isSetOf 27 = .ok (.if_icmp .ge 7, 3) := by decide +kernel
theorem dX1_isSetOf_30 : decode cX1_isSetOf 30 = .ok (.iconst 1, 1) := by decide +kernel
theorem dX1_isSetOf_31 : decode cX1_isSetOf 31 = .ok (.goto 4, 3) := by decide +kernel
theorem dX1_isSetOf_34 : decode cX1_isSetOf 34 = .ok (.iconst 0, 1) := by decide +kernel
theorem dX1_isSetOf_35 : decode cX1_isSetOf 35 = .ok (.ireturn, 1) := by decide +kernel
theorem dX1_isIn_0 : decode cX1_isIn 0 = .ok (.aload_n 0, 1) := by decide +kernel
theorem dX1_isIn_1 : decode cX1_isIn 1 = .ok (.getfield 11, 3) := by decide +kernel
theorem dX1_isIn_4 : decode cX1_isIn 4 = .ok (.iload_n 1, 1) := by decide +kernel
theorem dX1_isIn_5 : decode cX1_isIn 5 = .ok (.aaload, 1) := by decide +kernel
theorem dX1_isIn_6 : decode cX1_isIn 6 = .ok (.iload_n 2, 1) := by decide +kernel
theorem dX1_isIn_7 : decode cX1_isIn 7 = .ok (.invokevirtual 91, 3) := by decide +kernel
theorem dX1_isIn_10 : decode cX1_isIn 10 = .ok (.ireturn, 1) := by decide +kernel
theorem dX1_canGo_0 : decode cX1_canGo 0 = .ok (.aload_n 0, 1) := by decide +kernel
theorem dX1_canGo_1 : decode cX1_canGo 1 = .ok (.getfield 11, 3) := by decide +kernel
theorem dX1_canGo_4 : decode cX1_canGo 4 = .ok (.iconst 1, 1) := by decide +kernel
theorem dX1_canGo_5 : decode cX1_canGo 5 = .ok (.aaload, 1) := by decide +kernel
theorem dX1_canGo_6 : decode cX1_canGo 6 = .ok (.iload_n 1, 1) := by decide +kernel
theorem dX1_canGo_7 : decode cX1_canGo 7 = .ok (.iload_n 2, 1) := by decide +kernel
theorem dX1_canGo_8 : decode cX1_canGo 8 = .ok (.aload_n 0, 1) := by decide +kernel
theorem dX1_canGo_9 : decode cX1_canGo 9 = .ok (.getfield 24, 3) := by decide +kernel
theorem dX1_canGo_12 : decode cX1_canGo 12 = .ok (.ishl, 1) := by decide +kernel
theorem dX1_canGo_13 : decode cX1_canGo 13 = .ok (.ior, 1) := by decide +kernel
theorem dX1_canGo_14 : decode cX1_canGo 14 = .ok (.invokevirtual 91, 3) := by decide +kernel
theorem dX1_canGo_17 : decode cX1_canGo 17 = .ok (.ireturn, 1) := by decide +kernel
theorem dX1_isReachedBad_0 : decode cX1_isReachedBad 0 = .ok (.aload_n 0, 1) := by decide +kernel
theorem dX1_isReachedBad_1 : decode cX1_isReachedBad 1 = .ok (.getfield 16, 3) := by decide +kernel
theorem dX1_isReachedBad_4 : decode cX1_isReachedBad 4 = .ok (.iload_n 1, 1) := by decide +kernel
theorem dX1_isReachedBad_5 : decode cX1_isReachedBad 5 = .ok (.iaload, 1) := by decide +kernel
theorem dX1_isReachedBad_6 : decode cX1_isReachedBad 6 = .ok (.iconst (-1), 1) := by decide +kernel
theorem dX1_isReachedBad_7 : decode cX1_isReachedBad 7 = .ok (.if_icmp .eq 16, 3) := by decide +kernel
theorem dX1_isReachedBad_10 : decode cX1_isReachedBad 10 = .ok (.aload_n 0, 1) := by decide +kernel
theorem dX1_isReachedBad_11 : decode cX1_isReachedBad 11 = .ok (.iconst 2, 1) := by decide +kernel
theorem dX1_isReachedBad_12 : decode cX1_isReachedBad 12 = .ok (.iload_n 1, 1) := by decide +kernel
theorem dX1_isReachedBad_13 : decode cX1_isReachedBad 13 = .ok (.invokevirtual 68, 3) := by decide +kernel
theorem dX1_isReachedBad_16 : decode cX1_isReachedBad 16 = .ok (.ifCond .eq 7, 3) := by decide +kernel
theorem dX1_isReachedBad_19 : decode cX1_isReachedBad 19 = .ok (.iconst 1, 1) := by decide +kernel
theorem dX1_isReachedBad_20 : decode cX1_isReachedBad 20 = .ok (.goto 4, 3) := by decide +kernel
theorem dX1_isReachedBad_23 : decode cX1_isReachedBad 23 = .ok (.iconst 0, 1) := by decide +kernel
theorem dX1_isReachedBad_24 : decode cX1_isReachedBad 24 = .ok (.ireturn, 1) := by decide +kernel
theorem dX1_forgetWhatFollowed_0 : decode cX1_forgetWhatFollowed 0 = .ok (.aload_n 0, 1) := by decide +kernel
theorem dX1_forgetWhatFollowed_1 : decode cX1_forgetWhatFollowed 1 = .ok (.iconst 0, 1) := by decide +kernel
theorem dX1_forgetWhatFollowed_2 : decode cX1_forgetWhatFollowed 2 = .ok (.putfield 28, 3) := by decide +kernel
theorem dX1_forgetWhatFollowed_5 : decode cX1_forgetWhatFollowed 5 = .ok (.aload_n 0, 1) := by decide +kernel
theorem dX1_forgetWhatFollowed_6 : decode cX1_forgetWhatFollowed 6 = .ok (.iconst 0, 1) := by decide +kernel
theorem dX1_forgetWhatFollowed_7 : decode cX1_forgetWhatFollowed 7 = .ok (.putfield 20, 3) := by decide +kernel
theorem dX1_forgetWhatFollowed_10 : decode cX1_forgetWhatFollowed 10 = .ok (.return_, 1) := by decide +kernel
theorem dX1_findDepths_0 : decode cX1_findDepths 0 = .ok (.aload_n 0, 1) := by decide +kernel
theorem dX1_findDepths_1 : decode cX1_findDepths 1 = .ok (.getfield 20, 3) := by decide +kernel
theorem dX1_findDepths_4 : decode cX1_findDepths 4 = .ok (.ifCond .eq 4, 3) := by decide +kernel
theorem dX1_findDepths_7 : decode cX1_findDepths 7 = .ok (.return_, 1) := by decide +kernel
theorem dX1_findDepths_8 : decode cX1_findDepths 8 = .ok (.iconst 0, 1) := by decide +kernel
theorem dX1_findDepths_9 : decode cX1_findDepths 9 = .ok (.istore_n 1, 1) := by decide +kernel
theorem dX1_findDepths_10 : decode cX1_findDepths 10 = .ok (.iload_n 1, 1) := by decide +kernel
theorem dX1_findDepths_11 : decode cX1_findDepths 11 = .ok (.aload_n 0, 1) := by decide +kernel
theorem dX1_findDepths_12 : decode cX1_findDepths 12 = .ok (.invokevirtual 78, 3) := by decide +kernel
theorem dX1_findDepths_15 : decode cX1_findDepths 15 = .ok (.if_icmp .ge 29, 3) := by decide +kernel
theorem dX1_findDepths_18 : decode cX1_findDepths 18 = .ok (.aload_n 0, 1) := by decide +kernel
theorem dX1_findDepths_19 : decode cX1_findDepths 19 = .ok (.getfield 16, 3) := by decide +kernel
theorem dX1_findDepths_22 : decode cX1_findDepths 22 = .ok (.iload_n 1, 1) := by decide +kernel
theorem dX1_findDepths_23 : decode cX1_findDepths 23 = .ok (.aload_n 0, 1) := by decide +kernel
theorem dX1_findDepths_24 : decode cX1_findDepths 24 = .ok (.iconst 0, 1) := by decide +kernel
theorem dX1_findDepths_25 : decode cX1_findDepths 25 = .ok (.iload_n 1, 1) := by decide +kernel
theorem dX1_findDepths_26 : decode cX1_findDepths 26 = .ok (.invokevirtual 68, 3) := by decide +kernel
theorem dX1_findDepths_29 : decode cX1_findDepths 29 = .ok (.ifCond .eq 7, 3) := by decide +kernel
theorem dX1_findDepths_32 : decode cX1_findDepths 32 = .ok (.iconst 0, 1) := by decide +kernel
theorem dX1_findDepths_33 : decode cX1_findDepths 33 = .ok (.goto 4, 3) := by decide +kernel
theorem dX1_findDepths_36 : decode cX1_findDepths 36 = .ok (.iconst (-1), 1) := by decide +kernel
theorem dX1_findDepths_37 : decode cX1_findDepths 37 = .ok (.iastore, 1) := by decide +kernel
theorem dX1_findDepths_38 : decode cX1_findDepths 38 = .ok (.iinc 1 1, 3) := by decide +kernel
theorem dX1_findDepths_41 : decode cX1_findDepths 41 = .ok (.goto (-31), 3) := by decide +kernel
theorem dX1_findDepths_44 : decode cX1_findDepths 44 = .ok (.iconst 0, 1) := by decide +kernel
theorem dX1_findDepths_45 : decode cX1_findDepths 45 = .ok (.istore_n 1, 1) := by decide +kernel
theorem dX1_findDepths_46 : decode cX1_findDepths 46 = .ok (.iload_n 1, 1) := by decide +kernel
theorem dX1_findDepths_47 : decode cX1_findDepths 47 = .ok (.aload_n 0, 1) := by decide +kernel
theorem dX1_findDepths_48 : decode cX1_findDepths 48 = .ok (.invokevirtual 78, 3) := by decide +kernel
theorem dX1_findDepths_51 : decode cX1_findDepths 51 = .ok (.if_icmp .ge 14, 3) := by decide +kernel
theorem dX1_findDepths_54 : decode cX1_findDepths 54 = .ok (.aload_n 0, 1) := by decide +kernel
theorem dX1_findDepths_55 : decode cX1_findDepths 55 = .ok (.iload_n 1, 1) := by decide +kernel
theorem dX1_findDepths_56 : decode cX1_findDepths 56 = .ok (.invokevirtual 94, 3) := by decide +kernel
theorem dX1_findDepths_59 : decode cX1_findDepths 59 = .ok (.iinc 1 1, 3) := by decide +kernel
theorem dX1_findDepths_62 : decode cX1_findDepths 62 = .ok (.goto (-16), 3) := by decide +kernel
theorem dX1_findDepths_65 : decode cX1_findDepths 65 = .ok (.aload_n 0, 1) := by decide +kernel
theorem dX1_findDepths_66 : decode cX1_findDepths 66 = .ok (.iconst 1, 1) := by decide +kernel
theorem dX1_findDepths_67 : decode cX1_findDepths 67 = .ok (.putfield 20, 3) := by decide +kernel
theorem dX1_findDepths_70 : decode cX1_findDepths 70 = .ok (.return_, 1) := by decide +kernel
theorem dX1_goOnFrom_0 : decode cX1_goOnFrom 0 = .ok (.iconst 0, 1) := by decide +kernel
theorem dX1_goOnFrom_1 : decode cX1_goOnFrom 1 = .ok (.istore_n 2, 1) := by decide +kernel
theorem dX1_goOnFrom_2 : decode cX1_goOnFrom 2 = .ok (.iload_n 2, 1) := by decide +kernel
theorem dX1_goOnFrom_3 : decode cX1_goOnFrom 3 = .ok (.aload_n 0, 1) := by decide +kernel
theorem dX1_goOnFrom_4 : decode cX1_goOnFrom 4 = .ok (.invokevirtual 78, 3) := by decide +kernel
theorem dX1_goOnFrom_7 : decode cX1_goOnFrom 7 = .ok (.if_icmp .ge 24, 3) := by decide +kernel
theorem dX1_goOnFrom_10 : decode cX1_goOnFrom 10 = .ok (.aload_n 0, 1) := by decide +kernel
theorem dX1_goOnFrom_11 : decode cX1_goOnFrom 11 = .ok (.getfield 16, 3) := by decide +kernel
theorem dX1_goOnFrom_14 : decode cX1_goOnFrom 14 = .ok (.iload_n 2, 1) := by decide +kernel
theorem dX1_goOnFrom_15 : decode cX1_goOnFrom 15 = .ok (.iaload, 1) := by decide +kernel
theorem dX1_goOnFrom_16 : decode cX1_goOnFrom 16 = .ok (.iload_n 1, 1) := by decide +kernel
theorem dX1_goOnFrom_17 : decode cX1_goOnFrom 17 = .ok (.if_icmp .ne 8, 3) := by decide +kernel
theorem dX1_goOnFrom_20 : decode cX1_goOnFrom 20 = .ok (.aload_n 0, 1) := by decide +kernel
theorem dX1_goOnFrom_21 : decode cX1_goOnFrom 21 = .ok (.iload_n 2, 1) := by decide +kernel
theorem dX1_goOnFrom_22 : decode cX1_goOnFrom 22 = .ok (.invokevirtual 98, 3) := by decide +kernel
theorem dX1_goOnFrom_25 : decode cX1_goOnFrom 25 = .ok (.iinc 2 1, 3) := by decide +kernel
theorem dX1_goOnFrom_28 : decode cX1_goOnFrom 28 = .ok (.goto (-26), 3) := by decide +kernel
theorem dX1_goOnFrom_31 : decode cX1_goOnFrom 31 = .ok (.return_, 1) := by decide +kernel
theorem dX1_goOnFromState_0 : decode cX1_goOnFromState 0 = .ok (.iconst 0, 1) := by decide +kernel
theorem dX1_goOnFromState_1 : decode cX1_goOnFromState 1 = .ok (.istore_n 2, 1) := by decide +kernel
theorem dX1_goOnFromState_2 : decode cX1_goOnFromState 2 = .ok (.iload_n 2, 1) := by decide +kernel
theorem dX1_goOnFromState_3 : decode cX1_goOnFromState 3 = .ok (.aload_n 0, 1) := by decide +kernel
theorem dX1_goOnFromState_4 : decode cX1_goOnFromState 4 = .ok (.invokevirtual 78, 3) := by decide +kernel
theorem dX1_goOnFromState_7 : decode cX1_goOnFromState 7 = .ok (.if_icmp .ge 42, 3) := by decide +kernel
theorem dX1_goOnFromState_10 : decode cX1_goOnFromState 10 = .ok (.aload_n 0, 1) := by decide +kernel
theorem dX1_goOnFromState_11 : decode cX1_goOnFromState 11 = .ok (.getfield 16, 3) := by decide +kernel
theorem dX1_goOnFromState_14 : decode cX1_goOnFromState 14 = .ok (.iload_n 2, 1) := by decide +kernel
theorem dX1_goOnFromState_15 : decode cX1_goOnFromState 15 = .ok (.iaload, 1) := by decide +kernel
theorem dX1_goOnFromState_16 : decode cX1_goOnFromState 16 = .ok (.iconst (-1), 1) := by decide +kernel
theorem dX1_goOnFromState_17 : decode cX1_goOnFromState 17 = .ok (.if_icmp .ne 26, 3) := by decide +kernel
theorem dX1_goOnFromState_20 : decode cX1_goOnFromState 20 = .ok (.aload_n 0, 1) := by decide +kernel
theorem dX1_goOnFromState_21 : decode cX1_goOnFromState 21 = .ok (.iload_n 1, 1) := by decide +kernel
theorem dX1_goOnFromState_22 : decode cX1_goOnFromState 22 = .ok (.iload_n 2, 1) := by decide +kernel
theorem dX1_goOnFromState_23 : decode cX1_goOnFromState 23 = .ok (.invokevirtual 65, 3) := by decide +kernel
theorem dX1_goOnFromState_26 : decode cX1_goOnFromState 26 = .ok (.ifCond .eq 17, 3) := by decide +kernel
theorem dX1_goOnFromState_29 : decode cX1_goOnFromState 29 = .ok (.aload_n 0, 1) := by decide +kernel
theorem dX1_goOnFromState_30 : decode cX1_goOnFromState 30 = .ok (.getfield 16, 3) := by decide +kernel
theorem dX1_goOnFromState_33 : decode cX1_goOnFromState 33 = .ok (.iload_n 2, 1) := by decide +kernel
theorem dX1_goOnFromState_34 : decode cX1_goOnFromState 34 = .ok (.aload_n 0, 1) := by decide +kernel
theorem dX1_goOnFromState_35 : decode cX1_goOnFromState 35 = .ok (.getfield 16, 3) := by decide +kernel
theorem dX1_goOnFromState_38 : decode cX1_goOnFromState 38 = .ok (.iload_n 1, 1) := by decide +kernel
theorem dX1_goOnFromState_39 : decode cX1_goOnFromState 39 = .ok (.iaload, 1) := by decide +kernel
theorem dX1_goOnFromState_40 : decode cX1_goOnFromState 40 = .ok (.iconst 1, 1) := by decide +kernel
theorem dX1_goOnFromState_41 : decode cX1_goOnFromState 41 = .ok (.iadd, 1) := by decide +kernel
theorem dX1_goOnFromState_42 : decode cX1_goOnFromState 42 = .ok (.iastore, 1) := by decide +kernel
theorem dX1_goOnFromState_43 : decode cX1_goOnFromState 43 = .ok (.iinc 2 1, 3) := by decide +kernel
theorem dX1_goOnFromState_46 : decode cX1_goOnFromState 46 = .ok (.goto (-44), 3) := by decide +kernel
theorem dX1_goOnFromState_49 : decode cX1_goOnFromState 49 = .ok (.return_, 1) := by decide +kernel
theorem dX1_leastBreaking_0 : decode cX1_leastBreaking 0 = .ok (.iconst 0, 1) := by decide +kernel
theorem dX1_leastBreaking_1 : decode cX1_leastBreaking 1 = .ok (.istore_n 2, 1) := by decide +kernel
theorem dX1_leastBreaking_2 : decode cX1_leastBreaking 2 = .ok (.iload_n 2, 1) := by decide +kernel
theorem dX1_leastBreaking_3 : decode cX1_leastBreaking 3 = .ok (.aload_n 0, 1) := by decide +kernel
theorem dX1_leastBreaking_4 : decode cX1_leastBreaking 4 = .ok (.invokevirtual 78, 3) := by decide +kernel
theorem dX1_leastBreaking_7 : decode cX1_leastBreaking 7 = .ok (.if_icmp .ge 20, 3) := by decide +kernel
theorem dX1_leastBreaking_10 : decode cX1_leastBreaking 10 = .ok (.aload_n 0, 1) := by decide +kernel
theorem dX1_leastBreaking_11 : decode cX1_leastBreaking 11 = .ok (.iload_n 1, 1) := by decide +kernel
theorem dX1_leastBreaking_12 : decode cX1_leastBreaking 12 = .ok (.iload_n 2, 1) := by decide +kernel
theorem dX1_leastBreaking_13 : decode cX1_leastBreaking 13 = .ok (.invokevirtual 101, 3) := by decide +kernel
theorem dX1_leastBreaking_16 : decode cX1_leastBreaking 16 = .ok (.ifCond .eq 5, 3) := by decide +kernel
theorem dX1_leastBreaking_19 : decode cX1_leastBreaking 19 = .ok (.iload_n 2, 1) := by decide +kernel
theorem dX1_leastBreaking_20 : decode cX1_leastBreaking 20 = .ok (.ireturn, 1) := by decide +kernel
theorem dX1_leastBreaking_21 : decode cX1_leastBreaking 21 = .ok (.iinc 2 1, 3) := by decide +kernel
theorem dX1_leastBreaking_24 : decode cX1_leastBreaking 24 = .ok (.goto (-22), 3) := by decide +kernel
theorem dX1_leastBreaking_27 : decode cX1_leastBreaking 27 = .ok (.iconst (-1), 1) := by decide +kernel
theorem dX1_leastBreaking_28 : decode cX1_leastBreaking 28 = .ok (.ireturn, 1) := by decide +kernel
theorem dX1_breaks_0 : decode cX1_breaks 0 = .ok (.iload_n 1, 1) := by decide +kernel
theorem dX1_breaks_1 : decode cX1_breaks 1 = .ok (.tableswitch 98 1 3 #[27, 51, 74], 27) := by decide +kernel
theorem dX1_breaks_28 : decode cX1_breaks 28 = .ok (.aload_n 0, 1) := by decide +kernel
theorem dX1_breaks_29 : decode cX1_breaks 29 = .ok (.iconst 0, 1) := by decide +kernel
theorem dX1_breaks_30 : decode cX1_breaks 30 = .ok (.iload_n 2, 1) := by decide +kernel
theorem dX1_breaks_31 : decode cX1_breaks 31 = .ok (.invokevirtual 68, 3) := by decide +kernel
theorem dX1_breaks_34 : decode cX1_breaks 34 = .ok (.ifCond .eq 16, 3) := by decide +kernel
theorem dX1_breaks_37 : decode cX1_breaks 37 = .ok (.aload_n 0, 1) := by decide +kernel
theorem dX1_breaks_38 : decode cX1_breaks 38 = .ok (.iconst 3, 1) := by decide +kernel
theorem dX1_breaks_39 : decode cX1_breaks 39 = .ok (.iload_n 2, 1) := by decide +kernel
theorem dX1_breaks_40 : decode cX1_breaks 40 = .ok (.invokevirtual 68, 3) := by decide +kernel
theorem dX1_breaks_43 : decode cX1_breaks 43 = .ok (.ifCond .ne 7, 3) := by decide +kernel
theorem dX1_breaks_46 : decode cX1_breaks 46 = .ok (.iconst 1, 1) := by decide +kernel
theorem dX1_breaks_47 : decode cX1_breaks 47 = .ok (.goto 4, 3) := by decide +kernel
theorem dX1_breaks_50 : decode cX1_breaks 50 = .ok (.iconst 0, 1) := by decide +kernel
theorem dX1_breaks_51 : decode cX1_breaks 51 = .ok (.ireturn, 1) := by decide +kernel
theorem dX1_breaks_52 : decode cX1_breaks 52 = .ok (.aload_n 0, 1) := by decide +kernel
theorem dX1_breaks_53 : decode cX1_breaks 53 = .ok (.iconst 3, 1) := by decide +kernel
theorem dX1_breaks_54 : decode cX1_breaks 54 = .ok (.iload_n 2, 1) := by decide +kernel
theorem dX1_breaks_55 : decode cX1_breaks 55 = .ok (.invokevirtual 68, 3) := by decide +kernel
theorem dX1_breaks_58 : decode cX1_breaks 58 = .ok (.ifCond .eq 15, 3) := by decide +kernel
theorem dX1_breaks_61 : decode cX1_breaks 61 = .ok (.aload_n 0, 1) := by decide +kernel
theorem dX1_breaks_62 : decode cX1_breaks 62 = .ok (.iload_n 2, 1) := by decide +kernel
theorem dX1_breaks_63 : decode cX1_breaks 63 = .ok (.invokevirtual 104, 3) := by decide +kernel
theorem dX1_breaks_66 : decode cX1_breaks 66 = .ok (.ifCond .eq 7, 3) := by decide +kernel
theorem dX1_breaks_69 : decode cX1_breaks 69 = .ok (.iconst 1, 1) := by decide +kernel
theorem dX1_breaks_70 : decode cX1_breaks 70 = .ok (.goto 4, 3) := by decide +kernel
theorem dX1_breaks_73 : decode cX1_breaks 73 = .ok (.iconst 0, 1) := by decide +kernel
theorem dX1_breaks_74 : decode cX1_breaks 74 = .ok (.ireturn, 1) := by decide +kernel
theorem dX1_breaks_75 : decode cX1_breaks 75 = .ok (.aload_n 0, 1) := by decide +kernel
theorem dX1_breaks_76 : decode cX1_breaks 76 = .ok (.iconst 3, 1) := by decide +kernel
theorem dX1_breaks_77 : decode cX1_breaks 77 = .ok (.iload_n 2, 1) := by decide +kernel
theorem dX1_breaks_78 : decode cX1_breaks 78 = .ok (.invokevirtual 68, 3) := by decide +kernel
theorem dX1_breaks_81 : decode cX1_breaks 81 = .ok (.ifCond .eq 16, 3) := by decide +kernel
theorem dX1_breaks_84 : decode cX1_breaks 84 = .ok (.aload_n 0, 1) := by decide +kernel
theorem dX1_breaks_85 : decode cX1_breaks 85 = .ok (.iconst 2, 1) := by decide +kernel
theorem dX1_breaks_86 : decode cX1_breaks 86 = .ok (.iload_n 2, 1) := by decide +kernel
theorem dX1_breaks_87 : decode cX1_breaks 87 = .ok (.invokevirtual 68, 3) := by decide +kernel
theorem dX1_breaks_90 : decode cX1_breaks 90 = .ok (.ifCond .eq 7, 3) := by decide +kernel
theorem dX1_breaks_93 : decode cX1_breaks 93 = .ok (.iconst 1, 1) := by decide +kernel
theorem dX1_breaks_94 : decode cX1_breaks 94 = .ok (.goto 4, 3) := by decide +kernel
theorem dX1_breaks_97 : decode cX1_breaks 97 = .ok (.iconst 0, 1) := by decide +kernel
theorem dX1_breaks_98 : decode cX1_breaks 98 = .ok (.ireturn, 1) := by decide +kernel
theorem dX1_breaks_99 : decode cX1_breaks 99 = .ok (.iconst 0, 1) := by decide +kernel
theorem dX1_breaks_100 : decode cX1_breaks 100 = .ok (.ireturn, 1) := by decide +kernel
theorem dX1_canLeaveClaim_0 : decode cX1_canLeaveClaim 0 = .ok (.iconst 0, 1) := by decide +kernel
theorem dX1_canLeaveClaim_1 : decode cX1_canLeaveClaim 1 = .ok (.istore_n 2, 1) := by decide +kernel
theorem dX1_canLeaveClaim_2 : decode cX1_canLeaveClaim 2 = .ok (.iload_n 2, 1) := by decide +kernel
theorem dX1_canLeaveClaim_3 : decode cX1_canLeaveClaim 3 = .ok (.aload_n 0, 1) := by decide +kernel
theorem dX1_canLeaveClaim_4 : decode cX1_canLeaveClaim 4 = .ok (.invokevirtual 78, 3) := by decide +kernel
theorem dX1_canLeaveClaim_7 : decode cX1_canLeaveClaim 7 = .ok (.if_icmp .ge 29, 3) := by decide +kernel
theorem dX1_canLeaveClaim_10 : decode cX1_canLeaveClaim 10 = .ok (.aload_n 0, 1) := by decide +kernel
theorem dX1_canLeaveClaim_11 : decode cX1_canLeaveClaim 11 = .ok (.iconst 3, 1) := by decide +kernel
theorem dX1_canLeaveClaim_12 : decode cX1_canLeaveClaim 12 = .ok (.iload_n 2, 1) := by decide +kernel
theorem dX1_canLeaveClaim_13 : decode cX1_canLeaveClaim 13 = .ok (.invokevirtual 68, 3) := by decide +kernel
theorem dX1_canLeaveClaim_16 : decode cX1_canLeaveClaim 16 = .ok (.ifCond .ne 14, 3) := by decide +kernel
theorem dX1_canLeaveClaim_19 : decode cX1_canLeaveClaim 19 = .ok (.aload_n 0, 1) := by decide +kernel
theorem dX1_canLeaveClaim_20 : decode cX1_canLeaveClaim 20 = .ok (.iload_n 1, 1) := by decide +kernel
theorem dX1_canLeaveClaim_21 : decode cX1_canLeaveClaim 21 = .ok (.iload_n 2, 1) := by decide +kernel
theorem dX1_canLeaveClaim_22 : decode cX1_canLeaveClaim 22 = .ok (.invokevirtual 65, 3) := by decide +kernel
theorem dX1_canLeaveClaim_25 : decode cX1_canLeaveClaim 25 = .ok (.ifCond .eq 5, 3) := by decide +kernel
theorem dX1_canLeaveClaim_28 : decode cX1_canLeaveClaim 28 = .ok (.iconst 1, 1) := by decide +kernel
theorem dX1_canLeaveClaim_29 : decode cX1_canLeaveClaim 29 = .ok (.ireturn, 1) := by decide +kernel
theorem dX1_canLeaveClaim_30 : decode cX1_canLeaveClaim 30 = .ok (.iinc 2 1, 3) := by decide +kernel
theorem dX1_canLeaveClaim_33 : decode cX1_canLeaveClaim 33 = .ok (.goto (-31), 3) := by decide +kernel
theorem dX1_canLeaveClaim_36 : decode cX1_canLeaveClaim 36 = .ok (.iconst 0, 1) := by decide +kernel
theorem dX1_canLeaveClaim_37 : decode cX1_canLeaveClaim 37 = .ok (.ireturn, 1) := by decide +kernel
theorem dX0_init_0 : decode cX0_init 0 = .ok (.aload_n 0, 1) := by decide +kernel
theorem dX0_init_1 : decode cX0_init 1 = .ok (.invokespecial 1, 3) := by decide +kernel
theorem dX0_init_4 : decode cX0_init 4 = .ok (.aload_n 0, 1) := by decide +kernel
theorem dX0_init_5 : decode cX0_init 5 = .ok (.bipush 24, 2) := by decide +kernel
theorem dX0_init_7 : decode cX0_init 7 = .ok (.newarray .int, 2) := by decide +kernel
theorem dX0_init_9 : decode cX0_init 9 = .ok (.putfield 9, 3) := by decide +kernel
theorem dX0_init_12 : decode cX0_init 12 = .ok (.aload_n 0, 1) := by decide +kernel
theorem dX0_init_13 : decode cX0_init 13 = .ok (.bipush 24, 2) := by decide +kernel
theorem dX0_init_15 : decode cX0_init 15 = .ok (.newarray .int, 2) := by decide +kernel
theorem dX0_init_17 : decode cX0_init 17 = .ok (.putfield 13, 3) := by decide +kernel
theorem dX0_init_20 : decode cX0_init 20 = .ok (.aload_n 0, 1) := by decide +kernel
theorem dX0_init_21 : decode cX0_init 21 = .ok (.iconst 0, 1) := by decide +kernel
theorem dX0_init_22 : decode cX0_init 22 = .ok (.putfield 16, 3) := by decide +kernel
theorem dX0_init_25 : decode cX0_init 25 = .ok (.return_, 1) := by decide +kernel
theorem dX0_isFull_0 : decode cX0_isFull 0 = .ok (.aload_n 0, 1) := by decide +kernel
theorem dX0_isFull_1 : decode cX0_isFull 1 = .ok (.getfield 16, 3) := by decide +kernel
theorem dX0_isFull_4 : decode cX0_isFull 4 = .ok (.bipush 24, 2) := by decide +kernel
theorem dX0_isFull_6 : decode cX0_isFull 6 = .ok (.if_icmp .lt 7, 3) := by decide +kernel
theorem dX0_isFull_9 : decode cX0_isFull 9 = .ok (.iconst 1, 1) := by decide +kernel
theorem dX0_isFull_10 : decode cX0_isFull 10 = .ok (.goto 4, 3) := by decide +kernel
theorem dX0_isFull_13 : decode cX0_isFull 13 = .ok (.iconst 0, 1) := by decide +kernel
theorem dX0_isFull_14 : decode cX0_isFull 14 = .ok (.ireturn, 1) := by decide +kernel
theorem dX0_add_0 : decode cX0_add 0 = .ok (.aload_n 0, 1) := by decide +kernel
theorem dX0_add_1 : decode cX0_add 1 = .ok (.invokevirtual 20, 3) := by decide +kernel
theorem dX0_add_4 : decode cX0_add 4 = .ok (.ifCond .eq 4, 3) := by decide +kernel
theorem dX0_add_7 : decode cX0_add 7 = .ok (.return_, 1) := by decide +kernel
theorem dX0_add_8 : decode cX0_add 8 = .ok (.aload_n 0, 1) := by decide +kernel
theorem dX0_add_9 : decode cX0_add 9 = .ok (.getfield 9, 3) := by decide +kernel
theorem dX0_add_12 : decode cX0_add 12 = .ok (.aload_n 0, 1) := by decide +kernel
theorem dX0_add_13 : decode cX0_add 13 = .ok (.getfield 16, 3) := by decide +kernel
theorem dX0_add_16 : decode cX0_add 16 = .ok (.iload_n 1, 1) := by decide +kernel
theorem dX0_add_17 : decode cX0_add 17 = .ok (.iastore, 1) := by decide +kernel
theorem dX0_add_18 : decode cX0_add 18 = .ok (.aload_n 0, 1) := by decide +kernel
theorem dX0_add_19 : decode cX0_add 19 = .ok (.getfield 13, 3) := by decide +kernel
theorem dX0_add_22 : decode cX0_add 22 = .ok (.aload_n 0, 1) := by decide +kernel
theorem dX0_add_23 : decode cX0_add 23 = .ok (.getfield 16, 3) := by decide +kernel
theorem dX0_add_26 : decode cX0_add 26 = .ok (.iload_n 2, 1) := by decide +kernel
theorem dX0_add_27 : decode cX0_add 27 = .ok (.iastore, 1) := by decide +kernel
theorem dX0_add_28 : decode cX0_add 28 = .ok (.aload_n 0, 1) := by decide +kernel
theorem dX0_add_29 : decode cX0_add 29 = .ok (.dup, 1) := by decide +kernel
theorem dX0_add_30 : decode cX0_add 30 = .ok (.getfield 16, 3) := by decide +kernel
theorem dX0_add_33 : decode cX0_add 33 = .ok (.iconst 1, 1) := by decide +kernel
theorem dX0_add_34 : decode cX0_add 34 = .ok (.iadd, 1) := by decide +kernel
theorem dX0_add_35 : decode cX0_add 35 = .ok (.putfield 16, 3) := by decide +kernel
theorem dX0_add_38 : decode cX0_add 38 = .ok (.return_, 1) := by decide +kernel
theorem dX0_removeLast_0 : decode cX0_removeLast 0 = .ok (.aload_n 0, 1) := by decide +kernel
theorem dX0_removeLast_1 : decode cX0_removeLast 1 = .ok (.getfield 16, 3) := by decide +kernel
theorem dX0_removeLast_4 : decode cX0_removeLast 4 = .ok (.ifCond .le 13, 3) := by decide +kernel
theorem dX0_removeLast_7 : decode cX0_removeLast 7 = .ok (.aload_n 0, 1) := by decide +kernel
theorem dX0_removeLast_8 : decode cX0_removeLast 8 = .ok (.dup, 1) := by decide +kernel
theorem dX0_removeLast_9 : decode cX0_removeLast 9 = .ok (.getfield 16, 3) := by decide +kernel
theorem dX0_removeLast_12 : decode cX0_removeLast 12 = .ok (.iconst 1, 1) := by decide +kernel
theorem dX0_removeLast_13 : decode cX0_removeLast 13 = .ok (.isub, 1) := by decide +kernel
theorem dX0_removeLast_14 : decode cX0_removeLast 14 = .ok (.putfield 16, 3) := by decide +kernel
theorem dX0_removeLast_17 : decode cX0_removeLast 17 = .ok (.return_, 1) := by decide +kernel
theorem dX0_removeAll_0 : decode cX0_removeAll 0 = .ok (.aload_n 0, 1) := by decide +kernel
theorem dX0_removeAll_1 : decode cX0_removeAll 1 = .ok (.iconst 0, 1) := by decide +kernel
theorem dX0_removeAll_2 : decode cX0_removeAll 2 = .ok (.putfield 16, 3) := by decide +kernel
theorem dX0_removeAll_5 : decode cX0_removeAll 5 = .ok (.return_, 1) := by decide +kernel
theorem dX0_allHold_0 : decode cX0_allHold 0 = .ok (.iconst 0, 1) := by decide +kernel
theorem dX0_allHold_1 : decode cX0_allHold 1 = .ok (.istore_n 2, 1) := by decide +kernel
theorem dX0_allHold_2 : decode cX0_allHold 2 = .ok (.iload_n 2, 1) := by decide +kernel
theorem dX0_allHold_3 : decode cX0_allHold 3 = .ok (.aload_n 0, 1) := by decide +kernel
theorem dX0_allHold_4 : decode cX0_allHold 4 = .ok (.getfield 16, 3) := by decide +kernel
theorem dX0_allHold_7 : decode cX0_allHold 7 = .ok (.if_icmp .ge 35, 3) := by decide +kernel
theorem dX0_allHold_10 : decode cX0_allHold 10 = .ok (.aload_n 0, 1) := by decide +kernel
theorem dX0_allHold_11 : decode cX0_allHold 11 = .ok (.getfield 9, 3) := by decide +kernel
theorem dX0_allHold_14 : decode cX0_allHold 14 = .ok (.iload_n 2, 1) := by decide +kernel
theorem dX0_allHold_15 : decode cX0_allHold 15 = .ok (.iaload, 1) := by decide +kernel
theorem dX0_allHold_16 : decode cX0_allHold 16 = .ok (.iload_n 1, 1) := by decide +kernel
theorem dX0_allHold_17 : decode cX0_allHold 17 = .ok (.iand, 1) := by decide +kernel
theorem dX0_allHold_18 : decode cX0_allHold 18 = .ok (.ifCond .ne 18, 3) := by decide +kernel
theorem dX0_allHold_21 : decode cX0_allHold 21 = .ok (.aload_n 0, 1) := by decide +kernel
theorem dX0_allHold_22 : decode cX0_allHold 22 = .ok (.getfield 13, 3) := by decide +kernel
theorem dX0_allHold_25 : decode cX0_allHold 25 = .ok (.iload_n 2, 1) := by decide +kernel
theorem dX0_allHold_26 : decode cX0_allHold 26 = .ok (.iaload, 1) := by decide +kernel
theorem dX0_allHold_27 : decode cX0_allHold 27 = .ok (.iload_n 1, 1) := by decide +kernel
theorem dX0_allHold_28 : decode cX0_allHold 28 = .ok (.iconst (-1), 1) := by decide +kernel
theorem dX0_allHold_29 : decode cX0_allHold 29 = .ok (.ixor, 1) := by decide +kernel
theorem dX0_allHold_30 : decode cX0_allHold 30 = .ok (.iand, 1) := by decide +kernel
theorem dX0_allHold_31 : decode cX0_allHold 31 = .ok (.ifCond .ne 5, 3) := by decide +kernel
theorem dX0_allHold_34 : decode cX0_allHold 34 = .ok (.iconst 0, 1) := by decide +kernel
theorem dX0_allHold_35 : decode cX0_allHold 35 = .ok (.ireturn, 1) := by decide +kernel
theorem dX0_allHold_36 : decode cX0_allHold 36 = .ok (.iinc 2 1, 3) := by decide +kernel
theorem dX0_allHold_39 : decode cX0_allHold 39 = .ok (.goto (-37), 3) := by decide +kernel
theorem dX0_allHold_42 : decode cX0_allHold 42 = .ok (.iconst 1, 1) := by decide +kernel
theorem dX0_allHold_43 : decode cX0_allHold 43 = .ok (.ireturn, 1) := by decide +kernel
