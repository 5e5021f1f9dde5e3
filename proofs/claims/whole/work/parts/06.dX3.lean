theorem dX3_init_0 : decode cX3_init 0 = .ok (.aload_n 0, 1) := by decide +kernel
theorem dX3_init_1 : decode cX3_init 1 = .ok (.invokespecial 1, 3) := by decide +kernel
theorem dX3_init_4 : decode cX3_init 4 = .ok (.aload_n 0, 1) := by decide +kernel
theorem dX3_init_5 : decode cX3_init 5 = .ok (.new 7, 3) := by decide +kernel
theorem dX3_init_8 : decode cX3_init 8 = .ok (.dup, 1) := by decide +kernel
theorem dX3_init_9 : decode cX3_init 9 = .ok (.invokespecial 9, 3) := by decide +kernel
theorem dX3_init_12 : decode cX3_init 12 = .ok (.putfield 10, 3) := by decide +kernel
theorem dX3_init_15 : decode cX3_init 15 = .ok (.aload_n 0, 1) := by decide +kernel
theorem dX3_init_16 : decode cX3_init 16 = .ok (.new 16, 3) := by decide +kernel
theorem dX3_init_19 : decode cX3_init 19 = .ok (.dup, 1) := by decide +kernel
theorem dX3_init_20 : decode cX3_init 20 = .ok (.aload_n 0, 1) := by decide +kernel
theorem dX3_init_21 : decode cX3_init 21 = .ok (.getfield 10, 3) := by decide +kernel
theorem dX3_init_24 : decode cX3_init 24 = .ok (.invokespecial 18, 3) := by decide +kernel
theorem dX3_init_27 : decode cX3_init 27 = .ok (.putfield 21, 3) := by decide +kernel
theorem dX3_init_30 : decode cX3_init 30 = .ok (.aload_n 0, 1) := by decide +kernel
theorem dX3_init_31 : decode cX3_init 31 = .ok (.new 25, 3) := by decide +kernel
theorem dX3_init_34 : decode cX3_init 34 = .ok (.dup, 1) := by decide +kernel
theorem dX3_init_35 : decode cX3_init 35 = .ok (.aload_n 0, 1) := by decide +kernel
theorem dX3_init_36 : decode cX3_init 36 = .ok (.getfield 10, 3) := by decide +kernel
theorem dX3_init_39 : decode cX3_init 39 = .ok (.invokespecial 27, 3) := by decide +kernel
theorem dX3_init_42 : decode cX3_init 42 = .ok (.putfield 28, 3) := by decide +kernel
theorem dX3_init_45 : decode cX3_init 45 = .ok (.aload_n 0, 1) := by decide +kernel
theorem dX3_init_46 : decode cX3_init 46 = .ok (.new 25, 3) := by decide +kernel
theorem dX3_init_49 : decode cX3_init 49 = .ok (.dup, 1) := by decide +kernel
theorem dX3_init_50 : decode cX3_init 50 = .ok (.aload_n 0, 1) := by decide +kernel
theorem dX3_init_51 : decode cX3_init 51 = .ok (.getfield 10, 3) := by decide +kernel
theorem dX3_init_54 : decode cX3_init 54 = .ok (.invokespecial 27, 3) := by decide +kernel
theorem dX3_init_57 : decode cX3_init 57 = .ok (.putfield 32, 3) := by decide +kernel
theorem dX3_init_60 : decode cX3_init 60 = .ok (.aload_n 0, 1) := by decide +kernel
theorem dX3_init_61 : decode cX3_init 61 = .ok (.bipush 6, 2) := by decide +kernel
theorem dX3_init_63 : decode cX3_init 63 = .ok (.newarray .int, 2) := by decide +kernel
theorem dX3_init_65 : decode cX3_init 65 = .ok (.putfield 35, 3) := by decide +kernel
theorem dX3_init_68 : decode cX3_init 68 = .ok (.return_, 1) := by decide +kernel
theorem dX3_point_0 : decode cX3_point 0 = .ok (.iload_n 1, 1) := by decide +kernel
theorem dX3_point_1 : decode cX3_point 1 = .ok (.iload_n 2, 1) := by decide +kernel
theorem dX3_point_2 : decode cX3_point 2 = .ok (.invokestatic 39, 3) := by decide +kernel
theorem dX3_point_5 : decode cX3_point 5 = .ok (.istore_n 3, 1) := by decide +kernel
theorem dX3_point_6 : decode cX3_point 6 = .ok (.iload_n 3, 1) := by decide +kernel
theorem dX3_point_7 : decode cX3_point 7 = .ok (.ifCond .ne 16, 3) := by decide +kernel
theorem dX3_point_10 : decode cX3_point 10 = .ok (.aload_n 0, 1) := by decide +kernel
theorem dX3_point_11 : decode cX3_point 11 = .ok (.getfield 10, 3) := by decide +kernel
theorem dX3_point_14 : decode cX3_point 14 = .ok (.invokevirtual 43, 3) := by decide +kernel
theorem dX3_point_17 : decode cX3_point 17 = .ok (.ifCond .eq 6, 3) := by decide +kernel
theorem dX3_point_20 : decode cX3_point 20 = .ok (.bipush (-6), 2) := by decide +kernel
theorem dX3_point_22 : decode cX3_point 22 = .ok (.istore_n 3, 1) := by decide +kernel
theorem dX3_point_23 : decode cX3_point 23 = .ok (.iload_n 3, 1) := by decide +kernel
theorem dX3_point_24 : decode cX3_point 24 = .ok (.ifCond .ne 18, 3) := by decide +kernel
theorem dX3_point_27 : decode cX3_point 27 = .ok (.aload_n 0, 1) := by decide +kernel
theorem dX3_point_28 : decode cX3_point 28 = .ok (.getfield 10, 3) := by decide +kernel
theorem dX3_point_31 : decode cX3_point 31 = .ok (.iload_n 1, 1) := by decide +kernel
theorem dX3_point_32 : decode cX3_point 32 = .ok (.iload_n 2, 1) := by decide +kernel
theorem dX3_point_33 : decode cX3_point 33 = .ok (.invokevirtual 47, 3) := by decide +kernel
theorem dX3_point_36 : decode cX3_point 36 = .ok (.ifCond .lt 6, 3) := by decide +kernel
theorem dX3_point_39 : decode cX3_point 39 = .ok (.bipush (-5), 2) := by decide +kernel
theorem dX3_point_41 : decode cX3_point 41 = .ok (.istore_n 3, 1) := by decide +kernel
theorem dX3_point_42 : decode cX3_point 42 = .ok (.iload_n 3, 1) := by decide +kernel
theorem dX3_point_43 : decode cX3_point 43 = .ok (.ifCond .eq 9, 3) := by decide +kernel
theorem dX3_point_46 : decode cX3_point 46 = .ok (.aload_n 0, 1) := by decide +kernel
theorem dX3_point_47 : decode cX3_point 47 = .ok (.iload_n 3, 1) := by decide +kernel
theorem dX3_point_48 : decode cX3_point 48 = .ok (.invokevirtual 50, 3) := by decide +kernel
theorem dX3_point_51 : decode cX3_point 51 = .ok (.ireturn, 1) := by decide +kernel
theorem dX3_point_52 : decode cX3_point 52 = .ok (.aload_n 0, 1) := by decide +kernel
theorem dX3_point_53 : decode cX3_point 53 = .ok (.getfield 10, 3) := by decide +kernel
theorem dX3_point_56 : decode cX3_point 56 = .ok (.iload_n 1, 1) := by decide +kernel
theorem dX3_point_57 : decode cX3_point 57 = .ok (.iload_n 2, 1) := by decide +kernel
theorem dX3_point_58 : decode cX3_point 58 = .ok (.invokevirtual 54, 3) := by decide +kernel
theorem dX3_point_61 : decode cX3_point 61 = .ok (.istore 4, 2) := by decide +kernel
theorem dX3_point_63 : decode cX3_point 63 = .ok (.aload_n 0, 1) := by decide +kernel
theorem dX3_point_64 : decode cX3_point 64 = .ok (.invokevirtual 57, 3) := by decide +kernel
theorem dX3_point_67 : decode cX3_point 67 = .ok (.iload 4, 2) := by decide +kernel
theorem dX3_point_69 : decode cX3_point 69 = .ok (.ireturn, 1) := by decide +kernel
theorem dX3_drop_0 : decode cX3_drop 0 = .ok (.aload_n 0, 1) := by decide +kernel
theorem dX3_drop_1 : decode cX3_drop 1 = .ok (.getfield 10, 3) := by decide +kernel
theorem dX3_drop_4 : decode cX3_drop 4 = .ok (.iload_n 1, 1) := by decide +kernel
theorem dX3_drop_5 : decode cX3_drop 5 = .ok (.invokevirtual 60, 3) := by decide +kernel
theorem dX3_drop_8 : decode cX3_drop 8 = .ok (.ifCond .ne 9, 3) := by decide +kernel
theorem dX3_drop_11 : decode cX3_drop 11 = .ok (.aload_n 0, 1) := by decide +kernel
theorem dX3_drop_12 : decode cX3_drop 12 = .ok (.iconst (-1), 1) := by decide +kernel
theorem dX3_drop_13 : decode cX3_drop 13 = .ok (.invokevirtual 50, 3) := by decide +kernel
theorem dX3_drop_16 : decode cX3_drop 16 = .ok (.ireturn, 1) := by decide +kernel
theorem dX3_drop_17 : decode cX3_drop 17 = .ok (.aload_n 0, 1) := by decide +kernel
theorem dX3_drop_18 : decode cX3_drop 18 = .ok (.getfield 10, 3) := by decide +kernel
theorem dX3_drop_21 : decode cX3_drop 21 = .ok (.iload_n 1, 1) := by decide +kernel
theorem dX3_drop_22 : decode cX3_drop 22 = .ok (.invokevirtual 64, 3) := by decide +kernel
theorem dX3_drop_25 : decode cX3_drop 25 = .ok (.aload_n 0, 1) := by decide +kernel
theorem dX3_drop_26 : decode cX3_drop 26 = .ok (.invokevirtual 57, 3) := by decide +kernel
theorem dX3_drop_29 : decode cX3_drop 29 = .ok (.iconst 1, 1) := by decide +kernel
theorem dX3_drop_30 : decode cX3_drop 30 = .ok (.ireturn, 1) := by decide +kernel
theorem dX3_move_0 : decode cX3_move 0 = .ok (.aload_n 0, 1) := by decide +kernel
theorem dX3_move_1 : decode cX3_move 1 = .ok (.getfield 10, 3) := by decide +kernel
theorem dX3_move_4 : decode cX3_move 4 = .ok (.iload_n 1, 1) := by decide +kernel
theorem dX3_move_5 : decode cX3_move 5 = .ok (.invokevirtual 60, 3) := by decide +kernel
theorem dX3_move_8 : decode cX3_move 8 = .ok (.ifCond .ne 9, 3) := by decide +kernel
theorem dX3_move_11 : decode cX3_move 11 = .ok (.aload_n 0, 1) := by decide +kernel
theorem dX3_move_12 : decode cX3_move 12 = .ok (.iconst (-1), 1) := by decide +kernel
theorem dX3_move_13 : decode cX3_move 13 = .ok (.invokevirtual 50, 3) := by decide +kernel
theorem dX3_move_16 : decode cX3_move 16 = .ok (.ireturn, 1) := by decide +kernel
theorem dX3_move_17 : decode cX3_move 17 = .ok (.iload_n 2, 1) := by decide +kernel
theorem dX3_move_18 : decode cX3_move 18 = .ok (.iload_n 3, 1) := by decide +kernel
theorem dX3_move_19 : decode cX3_move 19 = .ok (.invokestatic 39, 3) := by decide +kernel
theorem dX3_move_22 : decode cX3_move 22 = .ok (.istore 4, 2) := by decide +kernel
theorem dX3_move_24 : decode cX3_move 24 = .ok (.iload 4, 2) := by decide +kernel
theorem dX3_move_26 : decode cX3_move 26 = .ok (.ifCond .ne 29, 3) := by decide +kernel
theorem dX3_move_29 : decode cX3_move 29 = .ok (.aload_n 0, 1) := by decide +kernel
theorem dX3_move_30 : decode cX3_move 30 = .ok (.getfield 10, 3) := by decide +kernel
theorem dX3_move_33 : decode cX3_move 33 = .ok (.iload_n 2, 1) := by decide +kernel
theorem dX3_move_34 : decode cX3_move 34 = .ok (.iload_n 3, 1) := by decide +kernel
theorem dX3_move_35 : decode cX3_move 35 = .ok (.invokevirtual 47, 3) := by decide +kernel
theorem dX3_move_38 : decode cX3_move 38 = .ok (.istore 5, 2) := by decide +kernel
theorem dX3_move_40 : decode cX3_move 40 = .ok (.iload 5, 2) := by decide +kernel
theorem dX3_move_42 : decode cX3_move 42 = .ok (.ifCond .lt 13, 3) := by decide +kernel
theorem dX3_move_45 : decode cX3_move 45 = .ok (.iload 5, 2) := by decide +kernel
theorem dX3_move_47 : decode cX3_move 47 = .ok (.iload_n 1, 1) := by decide +kernel
theorem dX3_move_48 : decode cX3_move 48 = .ok (.if_icmp .eq 7, 3) := by decide +kernel
theorem dX3_move_51 : decode cX3_move 51 = .ok (.bipush (-5), 2) := by decide +kernel
theorem dX3_move_53 : decode cX3_move 53 = .ok (.istore 4, 2) := by decide +kernel
theorem dX3_move_55 : decode cX3_move 55 = .ok (.iload 4, 2) := by decide +kernel
theorem dX3_move_57 : decode cX3_move 57 = .ok (.ifCond .eq 10, 3) := by decide +kernel
theorem dX3_move_60 : decode cX3_move 60 = .ok (.aload_n 0, 1) := by decide +kernel
theorem dX3_move_61 : decode cX3_move 61 = .ok (.iload 4, 2) := by decide +kernel
theorem dX3_move_63 : decode cX3_move 63 = .ok (.invokevirtual 50, 3) := by decide +kernel
theorem dX3_move_66 : decode cX3_move 66 = .ok (.ireturn, 1) := by decide +kernel
theorem dX3_move_67 : decode cX3_move 67 = .ok (.aload_n 0, 1) := by decide +kernel
theorem dX3_move_68 : decode cX3_move 68 = .ok (.getfield 10, 3) := by decide +kernel
theorem dX3_move_71 : decode cX3_move 71 = .ok (.iload_n 1, 1) := by decide +kernel
theorem dX3_move_72 : decode cX3_move 72 = .ok (.invokevirtual 64, 3) := by decide +kernel
theorem dX3_move_75 : decode cX3_move 75 = .ok (.aload_n 0, 1) := by decide +kernel
theorem dX3_move_76 : decode cX3_move 76 = .ok (.getfield 10, 3) := by decide +kernel
theorem dX3_move_79 : decode cX3_move 79 = .ok (.iload_n 1, 1) := by decide +kernel
theorem dX3_move_80 : decode cX3_move 80 = .ok (.iload_n 2, 1) := by decide +kernel
theorem dX3_move_81 : decode cX3_move 81 = .ok (.iload_n 3, 1) := by decide +kernel
theorem dX3_move_82 : decode cX3_move 82 = .ok (.invokevirtual 68, 3) := by decide +kernel
theorem dX3_move_85 : decode cX3_move 85 = .ok (.aload_n 0, 1) := by decide +kernel
theorem dX3_move_86 : decode cX3_move 86 = .ok (.invokevirtual 57, 3) := by decide +kernel
theorem dX3_move_89 : decode cX3_move 89 = .ok (.iconst 1, 1) := by decide +kernel
theorem dX3_move_90 : decode cX3_move 90 = .ok (.ireturn, 1) := by decide +kernel
theorem dX3_pointOf_0 : decode cX3_pointOf 0 = .ok (.aload_n 0, 1) := by decide +kernel
theorem dX3_pointOf_1 : decode cX3_pointOf 1 = .ok (.getfield 10, 3) := by decide +kernel
theorem dX3_pointOf_4 : decode cX3_pointOf 4 = .ok (.iload_n 1, 1) := by decide +kernel
theorem dX3_pointOf_5 : decode cX3_pointOf 5 = .ok (.invokevirtual 60, 3) := by decide +kernel
theorem dX3_pointOf_8 : decode cX3_pointOf 8 = .ok (.ifCond .ne 9, 3) := by decide +kernel
theorem dX3_pointOf_11 : decode cX3_pointOf 11 = .ok (.aload_n 0, 1) := by decide +kernel
theorem dX3_pointOf_12 : decode cX3_pointOf 12 = .ok (.iconst (-1), 1) := by decide +kernel
theorem dX3_pointOf_13 : decode cX3_pointOf 13 = .ok (.invokevirtual 72, 3) := by decide +kernel
theorem dX3_pointOf_16 : decode cX3_pointOf 16 = .ok (.ireturn, 1) := by decide +kernel
theorem dX3_pointOf_17 : decode cX3_pointOf 17 = .ok (.iload_n 2, 1) := by decide +kernel
theorem dX3_pointOf_18 : decode cX3_pointOf 18 = .ok (.tableswitch 83 0 3 #[30, 40, 50, 59], 30) := by decide +kernel
theorem dX3_pointOf_48 : decode cX3_pointOf 48 = .ok (.aload_n 0, 1) := by decide +kernel
theorem dX3_pointOf_49 : decode cX3_pointOf 49 = .ok (.getfield 10, 3) := by decide +kernel
theorem dX3_pointOf_52 : decode cX3_pointOf 52 = .ok (.getfield 75, 3) := by decide +kernel
theorem dX3_pointOf_55 : decode cX3_pointOf 55 = .ok (.iload_n 1, 1) := by decide +kernel
theorem dX3_pointOf_56 : decode cX3_pointOf 56 = .ok (.iaload, 1) := by decide +kernel
theorem dX3_pointOf_57 : decode cX3_pointOf 57 = .ok (.ireturn, 1) := by decide +kernel
theorem dX3_pointOf_58 : decode cX3_pointOf 58 = .ok (.aload_n 0, 1) := by decide +kernel
theorem dX3_pointOf_59 : decode cX3_pointOf 59 = .ok (.getfield 10, 3) := by decide +kernel
theorem dX3_pointOf_62 : decode cX3_pointOf 62 = .ok (.getfield 78, 3) := by decide +kernel
theorem dX3_pointOf_65 : decode cX3_pointOf 65 = .ok (.iload_n 1, 1) := by decide +kernel
theorem dX3_pointOf_66 : decode cX3_pointOf 66 = .ok (.iaload, 1) := by decide +kernel
theorem dX3_pointOf_67 : decode cX3_pointOf 67 = .ok (.ireturn, 1) := by decide +kernel
theorem dX3_pointOf_68 : decode cX3_pointOf 68 = .ok (.aload_n 0, 1) := by decide +kernel
theorem dX3_pointOf_69 : decode cX3_pointOf 69 = .ok (.invokevirtual 81, 3) := by decide +kernel
theorem dX3_pointOf_72 : decode cX3_pointOf 72 = .ok (.iload_n 1, 1) := by decide +kernel
theorem dX3_pointOf_73 : decode cX3_pointOf 73 = .ok (.invokevirtual 85, 3) := by decide +kernel
theorem dX3_pointOf_76 : decode cX3_pointOf 76 = .ok (.ireturn, 1) := by decide +kernel
theorem dX3_pointOf_77 : decode cX3_pointOf 77 = .ok (.aload_n 0, 1) := by decide +kernel
theorem dX3_pointOf_78 : decode cX3_pointOf 78 = .ok (.getfield 21, 3) := by decide +kernel
theorem dX3_pointOf_81 : decode cX3_pointOf 81 = .ok (.invokevirtual 88, 3) := by decide +kernel
theorem dX3_pointOf_84 : decode cX3_pointOf 84 = .ok (.aload_n 0, 1) := by decide +kernel
theorem dX3_pointOf_85 : decode cX3_pointOf 85 = .ok (.getfield 21, 3) := by decide +kernel
theorem dX3_pointOf_88 : decode cX3_pointOf 88 = .ok (.iload_n 1, 1) := by decide +kernel
theorem dX3_pointOf_89 : decode cX3_pointOf 89 = .ok (.invokevirtual 91, 3) := by decide +kernel
theorem dX3_pointOf_92 : decode cX3_pointOf 92 = .ok (.ifCond .eq 7, 3) := by decide +kernel
theorem dX3_pointOf_95 : decode cX3_pointOf 95 = .ok (.iconst 1, 1) := by decide +kernel
theorem dX3_pointOf_96 : decode cX3_pointOf 96 = .ok (.goto 4, 3) := by decide +kernel
theorem dX3_pointOf_99 : decode cX3_pointOf 99 = .ok (.iconst 0, 1) := by decide +kernel
theorem dX3_pointOf_100 : decode cX3_pointOf 100 = .ok (.ireturn, 1) := by decide +kernel
theorem dX3_pointOf_101 : decode cX3_pointOf 101 = .ok (.aload_n 0, 1) := by decide +kernel
theorem dX3_pointOf_102 : decode cX3_pointOf 102 = .ok (.bipush (-2), 2) := by decide +kernel
theorem dX3_pointOf_104 : decode cX3_pointOf 104 = .ok (.invokevirtual 72, 3) := by decide +kernel
theorem dX3_pointOf_107 : decode cX3_pointOf 107 = .ok (.ireturn, 1) := by decide +kernel
theorem dX3_turn_0 : decode cX3_turn 0 = .ok (.aload_n 0, 1) := by decide +kernel
theorem dX3_turn_1 : decode cX3_turn 1 = .ok (.getfield 10, 3) := by decide +kernel
theorem dX3_turn_4 : decode cX3_turn 4 = .ok (.iload_n 1, 1) := by decide +kernel
theorem dX3_turn_5 : decode cX3_turn 5 = .ok (.invokevirtual 60, 3) := by decide +kernel
theorem dX3_turn_8 : decode cX3_turn 8 = .ok (.ifCond .eq 25, 3) := by decide +kernel
theorem dX3_turn_11 : decode cX3_turn 11 = .ok (.aload_n 0, 1) := by decide +kernel
theorem dX3_turn_12 : decode cX3_turn 12 = .ok (.getfield 10, 3) := by decide +kernel
theorem dX3_turn_15 : decode cX3_turn 15 = .ok (.iload_n 2, 1) := by decide +kernel
theorem dX3_turn_16 : decode cX3_turn 16 = .ok (.invokevirtual 60, 3) := by decide +kernel
theorem dX3_turn_19 : decode cX3_turn 19 = .ok (.ifCond .eq 14, 3) := by decide +kernel
theorem dX3_turn_22 : decode cX3_turn 22 = .ok (.aload_n 0, 1) := by decide +kernel
theorem dX3_turn_23 : decode cX3_turn 23 = .ok (.getfield 10, 3) := by decide +kernel
theorem dX3_turn_26 : decode cX3_turn 26 = .ok (.iload_n 3, 1) := by decide +kernel
theorem dX3_turn_27 : decode cX3_turn 27 = .ok (.invokevirtual 60, 3) := by decide +kernel
theorem dX3_turn_30 : decode cX3_turn 30 = .ok (.ifCond .ne 9, 3) := by decide +kernel
theorem dX3_turn_33 : decode cX3_turn 33 = .ok (.aload_n 0, 1) := by decide +kernel
theorem dX3_turn_34 : decode cX3_turn 34 = .ok (.iconst (-1), 1) := by decide +kernel
theorem dX3_turn_35 : decode cX3_turn 35 = .ok (.invokevirtual 72, 3) := by decide +kernel
theorem dX3_turn_38 : decode cX3_turn 38 = .ok (.ireturn, 1) := by decide +kernel
theorem dX3_turn_39 : decode cX3_turn 39 = .ok (.aload_n 0, 1) := by decide +kernel
theorem dX3_turn_40 : decode cX3_turn 40 = .ok (.getfield 10, 3) := by decide +kernel
theorem dX3_turn_43 : decode cX3_turn 43 = .ok (.iload_n 1, 1) := by decide +kernel
theorem dX3_turn_44 : decode cX3_turn 44 = .ok (.iload_n 2, 1) := by decide +kernel
theorem dX3_turn_45 : decode cX3_turn 45 = .ok (.iload_n 3, 1) := by decide +kernel
theorem dX3_turn_46 : decode cX3_turn 46 = .ok (.invokevirtual 94, 3) := by decide +kernel
theorem dX3_turn_49 : decode cX3_turn 49 = .ok (.invokestatic 98, 3) := by decide +kernel
theorem dX3_turn_52 : decode cX3_turn 52 = .ok (.ireturn, 1) := by decide +kernel
theorem dX3_round_0 : decode cX3_round 0 = .ok (.aload_n 0, 1) := by decide +kernel
theorem dX3_round_1 : decode cX3_round 1 = .ok (.iload_n 1, 1) := by decide +kernel
theorem dX3_round_2 : decode cX3_round 2 = .ok (.iload_n 2, 1) := by decide +kernel
theorem dX3_round_3 : decode cX3_round 3 = .ok (.iload_n 3, 1) := by decide +kernel
theorem dX3_round_4 : decode cX3_round 4 = .ok (.iload 4, 2) := by decide +kernel
theorem dX3_round_6 : decode cX3_round 6 = .ok (.invokevirtual 102, 3) := by decide +kernel
theorem dX3_round_9 : decode cX3_round 9 = .ok (.ifCond .ne 9, 3) := by decide +kernel
theorem dX3_round_12 : decode cX3_round 12 = .ok (.aload_n 0, 1) := by decide +kernel
theorem dX3_round_13 : decode cX3_round 13 = .ok (.iconst (-1), 1) := by decide +kernel
theorem dX3_round_14 : decode cX3_round 14 = .ok (.invokevirtual 72, 3) := by decide +kernel
theorem dX3_round_17 : decode cX3_round 17 = .ok (.ireturn, 1) := by decide +kernel
theorem dX3_round_18 : decode cX3_round 18 = .ok (.aload_n 0, 1) := by decide +kernel
theorem dX3_round_19 : decode cX3_round 19 = .ok (.getfield 10, 3) := by decide +kernel
theorem dX3_round_22 : decode cX3_round 22 = .ok (.iload_n 1, 1) := by decide +kernel
theorem dX3_round_23 : decode cX3_round 23 = .ok (.iload_n 2, 1) := by decide +kernel
theorem dX3_round_24 : decode cX3_round 24 = .ok (.iload_n 3, 1) := by decide +kernel
theorem dX3_round_25 : decode cX3_round 25 = .ok (.invokevirtual 94, 3) := by decide +kernel
theorem dX3_round_28 : decode cX3_round 28 = .ok (.lconst 0, 1) := by decide +kernel
theorem dX3_round_29 : decode cX3_round 29 = .ok (.lcmp, 1) := by decide +kernel
theorem dX3_round_30 : decode cX3_round 30 = .ok (.ifCond .ne 10, 3) := by decide +kernel
theorem dX3_round_33 : decode cX3_round 33 = .ok (.aload_n 0, 1) := by decide +kernel
theorem dX3_round_34 : decode cX3_round 34 = .ok (.bipush (-3), 2) := by decide +kernel
theorem dX3_round_36 : decode cX3_round 36 = .ok (.invokevirtual 72, 3) := by decide +kernel
theorem dX3_round_39 : decode cX3_round 39 = .ok (.ireturn, 1) := by decide +kernel
theorem dX3_round_40 : decode cX3_round 40 = .ok (.aload_n 0, 1) := by decide +kernel
theorem dX3_round_41 : decode cX3_round 41 = .ok (.getfield 10, 3) := by decide +kernel
theorem dX3_round_44 : decode cX3_round 44 = .ok (.iload_n 1, 1) := by decide +kernel
theorem dX3_round_45 : decode cX3_round 45 = .ok (.iload_n 2, 1) := by decide +kernel
theorem dX3_round_46 : decode cX3_round 46 = .ok (.iload_n 3, 1) := by decide +kernel
theorem dX3_round_47 : decode cX3_round 47 = .ok (.iload 4, 2) := by decide +kernel
theorem dX3_round_49 : decode cX3_round 49 = .ok (.invokevirtual 106, 3) := by decide +kernel
theorem dX3_round_52 : decode cX3_round 52 = .ok (.invokestatic 98, 3) := by decide +kernel
theorem dX3_round_55 : decode cX3_round 55 = .ok (.ireturn, 1) := by decide +kernel
theorem dX3_hull_0 : decode cX3_hull 0 = .ok (.aload_n 0, 1) := by decide +kernel
theorem dX3_hull_1 : decode cX3_hull 1 = .ok (.getfield 21, 3) := by decide +kernel
theorem dX3_hull_4 : decode cX3_hull 4 = .ok (.invokevirtual 88, 3) := by decide +kernel
theorem dX3_hull_7 : decode cX3_hull 7 = .ok (.aload_n 0, 1) := by decide +kernel
theorem dX3_hull_8 : decode cX3_hull 8 = .ok (.getfield 21, 3) := by decide +kernel
theorem dX3_hull_11 : decode cX3_hull 11 = .ok (.getfield 110, 3) := by decide +kernel
theorem dX3_hull_14 : decode cX3_hull 14 = .ok (.ireturn, 1) := by decide +kernel
theorem dX3_corner_0 : decode cX3_corner 0 = .ok (.aload_n 0, 1) := by decide +kernel
theorem dX3_corner_1 : decode cX3_corner 1 = .ok (.getfield 21, 3) := by decide +kernel
theorem dX3_corner_4 : decode cX3_corner 4 = .ok (.invokevirtual 88, 3) := by decide +kernel
theorem dX3_corner_7 : decode cX3_corner 7 = .ok (.iload_n 1, 1) := by decide +kernel
theorem dX3_corner_8 : decode cX3_corner 8 = .ok (.ifCond .lt 26, 3) := by decide +kernel
theorem dX3_corner_11 : decode cX3_corner 11 = .ok (.iload_n 1, 1) := by decide +kernel
theorem dX3_corner_12 : decode cX3_corner 12 = .ok (.aload_n 0, 1) := by decide +kernel
theorem dX3_corner_13 : decode cX3_corner 13 = .ok (.getfield 21, 3) := by decide +kernel
theorem dX3_corner_16 : decode cX3_corner 16 = .ok (.getfield 110, 3) := by decide +kernel
theorem dX3_corner_19 : decode cX3_corner 19 = .ok (.if_icmp .ge 15, 3) := by decide +kernel
theorem dX3_corner_22 : decode cX3_corner 22 = .ok (.aload_n 0, 1) := by decide +kernel
theorem dX3_corner_23 : decode cX3_corner 23 = .ok (.getfield 21, 3) := by decide +kernel
theorem dX3_corner_26 : decode cX3_corner 26 = .ok (.getfield 114, 3) := by decide +kernel
theorem dX3_corner_29 : decode cX3_corner 29 = .ok (.iload_n 1, 1) := by decide +kernel
theorem dX3_corner_30 : decode cX3_corner 30 = .ok (.iaload, 1) := by decide +kernel
theorem dX3_corner_31 : decode cX3_corner 31 = .ok (.goto 5, 3) := by decide +kernel
theorem dX3_corner_34 : decode cX3_corner 34 = .ok (.bipush (-9), 2) := by decide +kernel
theorem dX3_corner_36 : decode cX3_corner 36 = .ok (.ireturn, 1) := by decide +kernel
theorem dX3_area_0 : decode cX3_area 0 = .ok (.aload_n 0, 1) := by decide +kernel
theorem dX3_area_1 : decode cX3_area 1 = .ok (.getfield 21, 3) := by decide +kernel
theorem dX3_area_4 : decode cX3_area 4 = .ok (.invokevirtual 88, 3) := by decide +kernel
theorem dX3_area_7 : decode cX3_area 7 = .ok (.aload_n 0, 1) := by decide +kernel
theorem dX3_area_8 : decode cX3_area 8 = .ok (.getfield 21, 3) := by decide +kernel
theorem dX3_area_11 : decode cX3_area 11 = .ok (.invokevirtual 117, 3) := by decide +kernel
theorem dX3_area_14 : decode cX3_area 14 = .ok (.lreturn, 1) := by decide +kernel
theorem dX3_triangles_0 : decode cX3_triangles 0 = .ok (.aload_n 0, 1) := by decide +kernel
theorem dX3_triangles_1 : decode cX3_triangles 1 = .ok (.invokevirtual 81, 3) := by decide +kernel
theorem dX3_triangles_4 : decode cX3_triangles 4 = .ok (.getfield 121, 3) := by decide +kernel
theorem dX3_triangles_7 : decode cX3_triangles 7 = .ok (.ireturn, 1) := by decide +kernel
theorem dX3_triangle_0 : decode cX3_triangle 0 = .ok (.aload_n 0, 1) := by decide +kernel
theorem dX3_triangle_1 : decode cX3_triangle 1 = .ok (.invokevirtual 81, 3) := by decide +kernel
theorem dX3_triangle_4 : decode cX3_triangle 4 = .ok (.astore_n 3, 1) := by decide +kernel
theorem dX3_triangle_5 : decode cX3_triangle 5 = .ok (.aload_n 3, 1) := by decide +kernel
theorem dX3_triangle_6 : decode cX3_triangle 6 = .ok (.iload_n 1, 1) := by decide +kernel
theorem dX3_triangle_7 : decode cX3_triangle 7 = .ok (.invokevirtual 122, 3) := by decide +kernel
theorem dX3_triangle_10 : decode cX3_triangle 10 = .ok (.ifCond .ne 9, 3) := by decide +kernel
theorem dX3_triangle_13 : decode cX3_triangle 13 = .ok (.aload_n 0, 1) := by decide +kernel
theorem dX3_triangle_14 : decode cX3_triangle 14 = .ok (.iconst (-1), 1) := by decide +kernel
theorem dX3_triangle_15 : decode cX3_triangle 15 = .ok (.invokevirtual 72, 3) := by decide +kernel
theorem dX3_triangle_18 : decode cX3_triangle 18 = .ok (.ireturn, 1) := by decide +kernel
theorem dX3_triangle_19 : decode cX3_triangle 19 = .ok (.iload_n 2, 1) := by decide +kernel
theorem dX3_triangle_20 : decode cX3_triangle 20 = .ok (.ifCond .lt 8, 3) := by decide +kernel
theorem dX3_triangle_23 : decode cX3_triangle 23 = .ok (.iload_n 2, 1) := by decide +kernel
theorem dX3_triangle_24 : decode cX3_triangle 24 = .ok (.iconst 5, 1) := by decide +kernel
theorem dX3_triangle_25 : decode cX3_triangle 25 = .ok (.if_icmp .le 10, 3) := by decide +kernel
theorem dX3_triangle_28 : decode cX3_triangle 28 = .ok (.aload_n 0, 1) := by decide +kernel
theorem dX3_triangle_29 : decode cX3_triangle 29 = .ok (.bipush (-2), 2) := by decide +kernel
theorem dX3_triangle_31 : decode cX3_triangle 31 = .ok (.invokevirtual 72, 3) := by decide +kernel
theorem dX3_triangle_34 : decode cX3_triangle 34 = .ok (.ireturn, 1) := by decide +kernel
theorem dX3_triangle_35 : decode cX3_triangle 35 = .ok (.iload_n 2, 1) := by decide +kernel
theorem dX3_triangle_36 : decode cX3_triangle 36 = .ok (.iconst 3, 1) := by decide +kernel
theorem dX3_triangle_37 : decode cX3_triangle 37 = .ok (.if_icmp .ge 10, 3) := by decide +kernel
theorem dX3_triangle_40 : decode cX3_triangle 40 = .ok (.aload_n 3, 1) := by decide +kernel
theorem dX3_triangle_41 : decode cX3_triangle 41 = .ok (.iload_n 1, 1) := by decide +kernel
theorem dX3_triangle_42 : decode cX3_triangle 42 = .ok (.iload_n 2, 1) := by decide +kernel
theorem dX3_triangle_43 : decode cX3_triangle 43 = .ok (.invokevirtual 125, 3) := by decide +kernel
theorem dX3_triangle_46 : decode cX3_triangle 46 = .ok (.ireturn, 1) := by decide +kernel
theorem dX3_triangle_47 : decode cX3_triangle 47 = .ok (.aload_n 3, 1) := by decide +kernel
theorem dX3_triangle_48 : decode cX3_triangle 48 = .ok (.iload_n 1, 1) := by decide +kernel
theorem dX3_triangle_49 : decode cX3_triangle 49 = .ok (.iload_n 2, 1) := by decide +kernel
theorem dX3_triangle_50 : decode cX3_triangle 50 = .ok (.iconst 3, 1) := by decide +kernel
theorem dX3_triangle_51 : decode cX3_triangle 51 = .ok (.isub, 1) := by decide +kernel
theorem dX3_triangle_52 : decode cX3_triangle 52 = .ok (.invokevirtual 128, 3) := by decide +kernel
theorem dX3_triangle_55 : decode cX3_triangle 55 = .ok (.istore 4, 2) := by decide +kernel
theorem dX3_triangle_57 : decode cX3_triangle 57 = .ok (.iload 4, 2) := by decide +kernel
theorem dX3_triangle_59 : decode cX3_triangle 59 = .ok (.ifCond .ge 8, 3) := by decide +kernel
theorem dX3_triangle_62 : decode cX3_triangle 62 = .ok (.bipush (-9), 2) := by decide +kernel
theorem dX3_triangle_64 : decode cX3_triangle 64 = .ok (.goto 5, 3) := by decide +kernel
theorem dX3_triangle_67 : decode cX3_triangle 67 = .ok (.iload 4, 2) := by decide +kernel
theorem dX3_triangle_69 : decode cX3_triangle 69 = .ok (.ireturn, 1) := by decide +kernel
theorem dX3_ring_0 : decode cX3_ring 0 = .ok (.aload_n 0, 1) := by decide +kernel
theorem dX3_ring_1 : decode cX3_ring 1 = .ok (.invokevirtual 81, 3) := by decide +kernel
theorem dX3_ring_4 : decode cX3_ring 4 = .ok (.astore_n 2, 1) := by decide +kernel
theorem dX3_ring_5 : decode cX3_ring 5 = .ok (.aload_n 2, 1) := by decide +kernel
theorem dX3_ring_6 : decode cX3_ring 6 = .ok (.iload_n 1, 1) := by decide +kernel
theorem dX3_ring_7 : decode cX3_ring 7 = .ok (.invokevirtual 122, 3) := by decide +kernel
theorem dX3_ring_10 : decode cX3_ring 10 = .ok (.ifCond .ne 9, 3) := by decide +kernel
theorem dX3_ring_13 : decode cX3_ring 13 = .ok (.aload_n 0, 1) := by decide +kernel
theorem dX3_ring_14 : decode cX3_ring 14 = .ok (.iconst (-1), 1) := by decide +kernel
theorem dX3_ring_15 : decode cX3_ring 15 = .ok (.invokevirtual 50, 3) := by decide +kernel
theorem dX3_ring_18 : decode cX3_ring 18 = .ok (.ireturn, 1) := by decide +kernel
theorem dX3_ring_19 : decode cX3_ring 19 = .ok (.aload_n 2, 1) := by decide +kernel
theorem dX3_ring_20 : decode cX3_ring 20 = .ok (.iload_n 1, 1) := by decide +kernel
theorem dX3_ring_21 : decode cX3_ring 21 = .ok (.iconst 0, 1) := by decide +kernel
theorem dX3_ring_22 : decode cX3_ring 22 = .ok (.invokevirtual 125, 3) := by decide +kernel
theorem dX3_ring_25 : decode cX3_ring 25 = .ok (.istore_n 3, 1) := by decide +kernel
theorem dX3_ring_26 : decode cX3_ring 26 = .ok (.aload_n 2, 1) := by decide +kernel
theorem dX3_ring_27 : decode cX3_ring 27 = .ok (.iload_n 1, 1) := by decide +kernel
theorem dX3_ring_28 : decode cX3_ring 28 = .ok (.iconst 1, 1) := by decide +kernel
theorem dX3_ring_29 : decode cX3_ring 29 = .ok (.invokevirtual 125, 3) := by decide +kernel
theorem dX3_ring_32 : decode cX3_ring 32 = .ok (.istore 4, 2) := by decide +kernel
theorem dX3_ring_34 : decode cX3_ring 34 = .ok (.aload_n 2, 1) := by decide +kernel
theorem dX3_ring_35 : decode cX3_ring 35 = .ok (.iload_n 1, 1) := by decide +kernel
theorem dX3_ring_36 : decode cX3_ring 36 = .ok (.iconst 2, 1) := by decide +kernel
theorem dX3_ring_37 : decode cX3_ring 37 = .ok (.invokevirtual 125, 3) := by decide +kernel
theorem dX3_ring_40 : decode cX3_ring 40 = .ok (.istore 5, 2) := by decide +kernel
theorem dX3_ring_42 : decode cX3_ring 42 = .ok (.iconst 0, 1) := by decide +kernel
theorem dX3_ring_43 : decode cX3_ring 43 = .ok (.istore 6, 2) := by decide +kernel
theorem dX3_ring_45 : decode cX3_ring 45 = .ok (.iconst 0, 1) := by decide +kernel
theorem dX3_ring_46 : decode cX3_ring 46 = .ok (.istore 7, 2) := by decide +kernel
theorem dX3_ring_48 : decode cX3_ring 48 = .ok (.iload 7, 2) := by decide +kernel
theorem dX3_ring_50 : decode cX3_ring 50 = .ok (.aload_n 0, 1) := by decide +kernel
theorem dX3_ring_51 : decode cX3_ring 51 = .ok (.getfield 10, 3) := by decide +kernel
theorem dX3_ring_54 : decode cX3_ring 54 = .ok (.getfield 131, 3) := by decide +kernel
theorem dX3_ring_57 : decode cX3_ring 57 = .ok (.if_icmp .ge 39, 3) := by decide +kernel
theorem dX3_ring_60 : decode cX3_ring 60 = .ok (.aload_n 0, 1) := by decide +kernel
theorem dX3_ring_61 : decode cX3_ring 61 = .ok (.getfield 10, 3) := by decide +kernel
theorem dX3_ring_64 : decode cX3_ring 64 = .ok (.iload_n 3, 1) := by decide +kernel
theorem dX3_ring_65 : decode cX3_ring 65 = .ok (.iload 4, 2) := by decide +kernel
theorem dX3_ring_67 : decode cX3_ring 67 = .ok (.iload 5, 2) := by decide +kernel
theorem dX3_ring_69 : decode cX3_ring 69 = .ok (.aload_n 0, 1) := by decide +kernel
theorem dX3_ring_70 : decode cX3_ring 70 = .ok (.getfield 10, 3) := by decide +kernel
theorem dX3_ring_73 : decode cX3_ring 73 = .ok (.getfield 134, 3) := by decide +kernel
theorem dX3_ring_76 : decode cX3_ring 76 = .ok (.iload 7, 2) := by decide +kernel
theorem dX3_ring_78 : decode cX3_ring 78 = .ok (.iaload, 1) := by decide +kernel
theorem dX3_ring_79 : decode cX3_ring 79 = .ok (.invokevirtual 106, 3) := by decide +kernel
theorem dX3_ring_82 : decode cX3_ring 82 = .ok (.lconst 0, 1) := by decide +kernel
theorem dX3_ring_83 : decode cX3_ring 83 = .ok (.lcmp, 1) := by decide +kernel
theorem dX3_ring_84 : decode cX3_ring 84 = .ok (.ifCond .ne 6, 3) := by decide +kernel
theorem dX3_ring_87 : decode cX3_ring 87 = .ok (.iinc 6 1, 3) := by decide +kernel
theorem dX3_ring_90 : decode cX3_ring 90 = .ok (.iinc 7 1, 3) := by decide +kernel
theorem dX3_ring_93 : decode cX3_ring 93 = .ok (.goto (-45), 3) := by decide +kernel
theorem dX3_ring_96 : decode cX3_ring 96 = .ok (.iload 6, 2) := by decide +kernel
theorem dX3_ring_98 : decode cX3_ring 98 = .ok (.ireturn, 1) := by decide +kernel
theorem dX3_edge_0 : decode cX3_edge 0 = .ok (.aload_n 0, 1) := by decide +kernel
theorem dX3_edge_1 : decode cX3_edge 1 = .ok (.iload_n 1, 1) := by decide +kernel
theorem dX3_edge_2 : decode cX3_edge 2 = .ok (.iload_n 2, 1) := by decide +kernel
theorem dX3_edge_3 : decode cX3_edge 3 = .ok (.invokevirtual 137, 3) := by decide +kernel
theorem dX3_edge_6 : decode cX3_edge 6 = .ok (.ifCond .ne 9, 3) := by decide +kernel
theorem dX3_edge_9 : decode cX3_edge 9 = .ok (.aload_n 0, 1) := by decide +kernel
theorem dX3_edge_10 : decode cX3_edge 10 = .ok (.iconst (-1), 1) := by decide +kernel
theorem dX3_edge_11 : decode cX3_edge 11 = .ok (.invokevirtual 50, 3) := by decide +kernel
theorem dX3_edge_14 : decode cX3_edge 14 = .ok (.ireturn, 1) := by decide +kernel
theorem dX3_edge_15 : decode cX3_edge 15 = .ok (.aload_n 0, 1) := by decide +kernel
theorem dX3_edge_16 : decode cX3_edge 16 = .ok (.invokevirtual 81, 3) := by decide +kernel
theorem dX3_edge_19 : decode cX3_edge 19 = .ok (.iload_n 1, 1) := by decide +kernel
theorem dX3_edge_20 : decode cX3_edge 20 = .ok (.iload_n 2, 1) := by decide +kernel
theorem dX3_edge_21 : decode cX3_edge 21 = .ok (.invokevirtual 141, 3) := by decide +kernel
theorem dX3_edge_24 : decode cX3_edge 24 = .ok (.ifCond .eq 7, 3) := by decide +kernel
theorem dX3_edge_27 : decode cX3_edge 27 = .ok (.iconst 1, 1) := by decide +kernel
theorem dX3_edge_28 : decode cX3_edge 28 = .ok (.goto 4, 3) := by decide +kernel
theorem dX3_edge_31 : decode cX3_edge 31 = .ok (.iconst 0, 1) := by decide +kernel
theorem dX3_edge_32 : decode cX3_edge 32 = .ok (.ireturn, 1) := by decide +kernel
theorem dX3_where_0 : decode cX3_where 0 = .ok (.iload_n 1, 1) := by decide +kernel
theorem dX3_where_1 : decode cX3_where 1 = .ok (.iload_n 2, 1) := by decide +kernel
theorem dX3_where_2 : decode cX3_where 2 = .ok (.invokestatic 39, 3) := by decide +kernel
theorem dX3_where_5 : decode cX3_where 5 = .ok (.istore_n 3, 1) := by decide +kernel
theorem dX3_where_6 : decode cX3_where 6 = .ok (.iload_n 3, 1) := by decide +kernel
theorem dX3_where_7 : decode cX3_where 7 = .ok (.ifCond .eq 9, 3) := by decide +kernel
theorem dX3_where_10 : decode cX3_where 10 = .ok (.aload_n 0, 1) := by decide +kernel
theorem dX3_where_11 : decode cX3_where 11 = .ok (.iload_n 3, 1) := by decide +kernel
theorem dX3_where_12 : decode cX3_where 12 = .ok (.invokevirtual 72, 3) := by decide +kernel
theorem dX3_where_15 : decode cX3_where 15 = .ok (.ireturn, 1) := by decide +kernel
theorem dX3_where_16 : decode cX3_where 16 = .ok (.aload_n 0, 1) := by decide +kernel
theorem dX3_where_17 : decode cX3_where 17 = .ok (.invokevirtual 81, 3) := by decide +kernel
theorem dX3_where_20 : decode cX3_where 20 = .ok (.astore 4, 2) := by decide +kernel
theorem dX3_where_22 : decode cX3_where 22 = .ok (.iconst 0, 1) := by decide +kernel
theorem dX3_where_23 : decode cX3_where 23 = .ok (.istore 5, 2) := by decide +kernel
theorem dX3_where_25 : decode cX3_where 25 = .ok (.iload 5, 2) := by decide +kernel
theorem dX3_where_27 : decode cX3_where 27 = .ok (.aload 4, 2) := by decide +kernel
theorem dX3_where_29 : decode cX3_where 29 = .ok (.getfield 121, 3) := by decide +kernel
theorem dX3_where_32 : decode cX3_where 32 = .ok (.if_icmp .ge 24, 3) := by decide +kernel
theorem dX3_where_35 : decode cX3_where 35 = .ok (.aload 4, 2) := by decide +kernel
theorem dX3_where_37 : decode cX3_where 37 = .ok (.iload 5, 2) := by decide +kernel
theorem dX3_where_39 : decode cX3_where 39 = .ok (.iload_n 1, 1) := by decide +kernel
theorem dX3_where_40 : decode cX3_where 40 = .ok (.iload_n 2, 1) := by decide +kernel
theorem dX3_where_41 : decode cX3_where 41 = .ok (.invokevirtual 144, 3) := by decide +kernel
theorem dX3_where_44 : decode cX3_where 44 = .ok (.ifCond .eq 6, 3) := by decide +kernel
theorem dX3_where_47 : decode cX3_where 47 = .ok (.iload 5, 2) := by decide +kernel
theorem dX3_where_49 : decode cX3_where 49 = .ok (.ireturn, 1) := by decide +kernel
theorem dX3_where_50 : decode cX3_where 50 = .ok (.iinc 5 1, 3) := by decide +kernel
theorem dX3_where_53 : decode cX3_where 53 = .ok (.goto (-28), 3) := by decide +kernel
theorem dX3_where_56 : decode cX3_where 56 = .ok (.bipush (-9), 2) := by decide +kernel
theorem dX3_where_58 : decode cX3_where 58 = .ok (.ireturn, 1) := by decide +kernel
theorem dX3_nearest_0 : decode cX3_nearest 0 = .ok (.iload_n 1, 1) := by decide +kernel
theorem dX3_nearest_1 : decode cX3_nearest 1 = .ok (.iload_n 2, 1) := by decide +kernel
theorem dX3_nearest_2 : decode cX3_nearest 2 = .ok (.invokestatic 39, 3) := by decide +kernel
theorem dX3_nearest_5 : decode cX3_nearest 5 = .ok (.istore_n 3, 1) := by decide +kernel
theorem dX3_nearest_6 : decode cX3_nearest 6 = .ok (.iload_n 3, 1) := by decide +kernel
theorem dX3_nearest_7 : decode cX3_nearest 7 = .ok (.ifCond .eq 9, 3) := by decide +kernel
theorem dX3_nearest_10 : decode cX3_nearest 10 = .ok (.aload_n 0, 1) := by decide +kernel
theorem dX3_nearest_11 : decode cX3_nearest 11 = .ok (.iload_n 3, 1) := by decide +kernel
theorem dX3_nearest_12 : decode cX3_nearest 12 = .ok (.invokevirtual 72, 3) := by decide +kernel
theorem dX3_nearest_15 : decode cX3_nearest 15 = .ok (.ireturn, 1) := by decide +kernel
theorem dX3_nearest_16 : decode cX3_nearest 16 = .ok (.bipush (-9), 2) := by decide +kernel
theorem dX3_nearest_18 : decode cX3_nearest 18 = .ok (.istore 4, 2) := by decide +kernel
theorem dX3_nearest_20 : decode cX3_nearest 20 = .ok (.lconst 0, 1) := by decide +kernel
theorem dX3_nearest_21 : decode cX3_nearest 21 = .ok (.lstore 5, 2) := by decide +kernel
theorem dX3_nearest_23 : decode cX3_nearest 23 = .ok (.iconst 0, 1) := by decide +kernel
theorem dX3_nearest_24 : decode cX3_nearest 24 = .ok (.istore 7, 2) := by decide +kernel
theorem dX3_nearest_26 : decode cX3_nearest 26 = .ok (.iload 7, 2) := by decide +kernel
theorem dX3_nearest_28 : decode cX3_nearest 28 = .ok (.aload_n 0, 1) := by decide +kernel
theorem dX3_nearest_29 : decode cX3_nearest 29 = .ok (.getfield 10, 3) := by decide +kernel
theorem dX3_nearest_32 : decode cX3_nearest 32 = .ok (.getfield 148, 3) := by decide +kernel
theorem dX3_nearest_35 : decode cX3_nearest 35 = .ok (.if_icmp .ge 62, 3) := by decide +kernel
theorem dX3_nearest_38 : decode cX3_nearest 38 = .ok (.aload_n 0, 1) := by decide +kernel
theorem dX3_nearest_39 : decode cX3_nearest 39 = .ok (.getfield 10, 3) := by decide +kernel
theorem dX3_nearest_42 : decode cX3_nearest 42 = .ok (.iload 7, 2) := by decide +kernel
theorem dX3_nearest_44 : decode cX3_nearest 44 = .ok (.invokevirtual 60, 3) := by decide +kernel
theorem dX3_nearest_47 : decode cX3_nearest 47 = .ok (.ifCond .eq 44, 3) := by decide +kernel
theorem dX3_nearest_50 : decode cX3_nearest 50 = .ok (.iload 4, 2) := by decide +kernel
theorem dX3_nearest_52 : decode cX3_nearest 52 = .ok (.bipush (-9), 2) := by decide +kernel
theorem dX3_nearest_54 : decode cX3_nearest 54 = .ok (.if_icmp .eq 20, 3) := by decide +kernel
theorem dX3_nearest_57 : decode cX3_nearest 57 = .ok (.aload_n 0, 1) := by decide +kernel
theorem dX3_nearest_58 : decode cX3_nearest 58 = .ok (.getfield 10, 3) := by decide +kernel
theorem dX3_nearest_61 : decode cX3_nearest 61 = .ok (.iload 7, 2) := by decide +kernel
theorem dX3_nearest_63 : decode cX3_nearest 63 = .ok (.iload_n 1, 1) := by decide +kernel
theorem dX3_nearest_64 : decode cX3_nearest 64 = .ok (.iload_n 2, 1) := by decide +kernel
theorem dX3_nearest_65 : decode cX3_nearest 65 = .ok (.invokevirtual 151, 3) := by decide +kernel
theorem dX3_nearest_68 : decode cX3_nearest 68 = .ok (.lload 5, 2) := by decide +kernel
theorem dX3_nearest_70 : decode cX3_nearest 70 = .ok (.lcmp, 1) := by decide +kernel
theorem dX3_nearest_71 : decode cX3_nearest 71 = .ok (.ifCond .ge 20, 3) := by decide +kernel
theorem dX3_nearest_74 : decode cX3_nearest 74 = .ok (.aload_n 0, 1) := by decide +kernel
theorem dX3_nearest_75 : decode cX3_nearest 75 = .ok (.getfield 10, 3) := by decide +kernel
theorem dX3_nearest_78 : decode cX3_nearest 78 = .ok (.iload 7, 2) := by decide +kernel
theorem dX3_nearest_80 : decode cX3_nearest 80 = .ok (.iload_n 1, 1) := by decide +kernel
theorem dX3_nearest_81 : decode cX3_nearest 81 = .ok (.iload_n 2, 1) := by decide +kernel
theorem dX3_nearest_82 : decode cX3_nearest 82 = .ok (.invokevirtual 151, 3) := by decide +kernel
theorem dX3_nearest_85 : decode cX3_nearest 85 = .ok (.lstore 5, 2) := by decide +kernel
theorem dX3_nearest_87 : decode cX3_nearest 87 = .ok (.iload 7, 2) := by decide +kernel
theorem dX3_nearest_89 : decode cX3_nearest 89 = .ok (.istore 4, 2) := by decide +kernel
theorem dX3_nearest_91 : decode cX3_nearest 91 = .ok (.iinc 7 1, 3) := by decide +kernel
theorem dX3_nearest_94 : decode cX3_nearest 94 = .ok (.goto (-68), 3) := by decide +kernel
theorem dX3_nearest_97 : decode cX3_nearest 97 = .ok (.iload 4, 2) := by decide +kernel
theorem dX3_nearest_99 : decode cX3_nearest 99 = .ok (.ireturn, 1) := by decide +kernel
theorem dX3_cross_0 : decode cX3_cross 0 = .ok (.aload_n 0, 1) := by decide +kernel
theorem dX3_cross_1 : decode cX3_cross 1 = .ok (.iload_n 1, 1) := by decide +kernel
theorem dX3_cross_2 : decode cX3_cross 2 = .ok (.iload_n 2, 1) := by decide +kernel
theorem dX3_cross_3 : decode cX3_cross 3 = .ok (.invokevirtual 137, 3) := by decide +kernel
theorem dX3_cross_6 : decode cX3_cross 6 = .ok (.ifCond .eq 13, 3) := by decide +kernel
theorem dX3_cross_9 : decode cX3_cross 9 = .ok (.aload_n 0, 1) := by decide +kernel
theorem dX3_cross_10 : decode cX3_cross 10 = .ok (.iload_n 3, 1) := by decide +kernel
theorem dX3_cross_11 : decode cX3_cross 11 = .ok (.iload 4, 2) := by decide +kernel
theorem dX3_cross_13 : decode cX3_cross 13 = .ok (.invokevirtual 137, 3) := by decide +kernel
theorem dX3_cross_16 : decode cX3_cross 16 = .ok (.ifCond .ne 9, 3) := by decide +kernel
theorem dX3_cross_19 : decode cX3_cross 19 = .ok (.aload_n 0, 1) := by decide +kernel
theorem dX3_cross_20 : decode cX3_cross 20 = .ok (.iconst (-1), 1) := by decide +kernel
theorem dX3_cross_21 : decode cX3_cross 21 = .ok (.invokevirtual 50, 3) := by decide +kernel
theorem dX3_cross_24 : decode cX3_cross 24 = .ok (.ireturn, 1) := by decide +kernel
theorem dX3_cross_25 : decode cX3_cross 25 = .ok (.aload_n 0, 1) := by decide +kernel
theorem dX3_cross_26 : decode cX3_cross 26 = .ok (.getfield 10, 3) := by decide +kernel
theorem dX3_cross_29 : decode cX3_cross 29 = .ok (.iload_n 1, 1) := by decide +kernel
theorem dX3_cross_30 : decode cX3_cross 30 = .ok (.iload_n 2, 1) := by decide +kernel
theorem dX3_cross_31 : decode cX3_cross 31 = .ok (.iload_n 3, 1) := by decide +kernel
theorem dX3_cross_32 : decode cX3_cross 32 = .ok (.iload 4, 2) := by decide +kernel
theorem dX3_cross_34 : decode cX3_cross 34 = .ok (.invokevirtual 154, 3) := by decide +kernel
theorem dX3_cross_37 : decode cX3_cross 37 = .ok (.ifCond .eq 20, 3) := by decide +kernel
theorem dX3_cross_40 : decode cX3_cross 40 = .ok (.aload_n 0, 1) := by decide +kernel
theorem dX3_cross_41 : decode cX3_cross 41 = .ok (.getfield 10, 3) := by decide +kernel
theorem dX3_cross_44 : decode cX3_cross 44 = .ok (.iload_n 3, 1) := by decide +kernel
theorem dX3_cross_45 : decode cX3_cross 45 = .ok (.iload 4, 2) := by decide +kernel
theorem dX3_cross_47 : decode cX3_cross 47 = .ok (.iload_n 1, 1) := by decide +kernel
theorem dX3_cross_48 : decode cX3_cross 48 = .ok (.iload_n 2, 1) := by decide +kernel
theorem dX3_cross_49 : decode cX3_cross 49 = .ok (.invokevirtual 154, 3) := by decide +kernel
theorem dX3_cross_52 : decode cX3_cross 52 = .ok (.ifCond .eq 5, 3) := by decide +kernel
theorem dX3_cross_55 : decode cX3_cross 55 = .ok (.iconst 2, 1) := by decide +kernel
theorem dX3_cross_56 : decode cX3_cross 56 = .ok (.ireturn, 1) := by decide +kernel
theorem dX3_cross_57 : decode cX3_cross 57 = .ok (.aload_n 0, 1) := by decide +kernel
theorem dX3_cross_58 : decode cX3_cross 58 = .ok (.getfield 10, 3) := by decide +kernel
theorem dX3_cross_61 : decode cX3_cross 61 = .ok (.iload_n 1, 1) := by decide +kernel
theorem dX3_cross_62 : decode cX3_cross 62 = .ok (.iload_n 2, 1) := by decide +kernel
theorem dX3_cross_63 : decode cX3_cross 63 = .ok (.iload_n 3, 1) := by decide +kernel
theorem dX3_cross_64 : decode cX3_cross 64 = .ok (.invokevirtual 157, 3) := by decide +kernel
theorem dX3_cross_67 : decode cX3_cross 67 = .ok (.ifCond .ne 45, 3) := by decide +kernel
theorem dX3_cross_70 : decode cX3_cross 70 = .ok (.aload_n 0, 1) := by decide +kernel
theorem dX3_cross_71 : decode cX3_cross 71 = .ok (.getfield 10, 3) := by decide +kernel
theorem dX3_cross_74 : decode cX3_cross 74 = .ok (.iload_n 1, 1) := by decide +kernel
theorem dX3_cross_75 : decode cX3_cross 75 = .ok (.iload_n 2, 1) := by decide +kernel
theorem dX3_cross_76 : decode cX3_cross 76 = .ok (.iload 4, 2) := by decide +kernel
theorem dX3_cross_78 : decode cX3_cross 78 = .ok (.invokevirtual 157, 3) := by decide +kernel
theorem dX3_cross_81 : decode cX3_cross 81 = .ok (.ifCond .ne 31, 3) := by decide +kernel
theorem dX3_cross_84 : decode cX3_cross 84 = .ok (.aload_n 0, 1) := by decide +kernel
theorem dX3_cross_85 : decode cX3_cross 85 = .ok (.getfield 10, 3) := by decide +kernel
theorem dX3_cross_88 : decode cX3_cross 88 = .ok (.iload_n 3, 1) := by decide +kernel
theorem dX3_cross_89 : decode cX3_cross 89 = .ok (.iload 4, 2) := by decide +kernel
theorem dX3_cross_91 : decode cX3_cross 91 = .ok (.iload_n 1, 1) := by decide +kernel
theorem dX3_cross_92 : decode cX3_cross 92 = .ok (.invokevirtual 157, 3) := by decide +kernel
theorem dX3_cross_95 : decode cX3_cross 95 = .ok (.ifCond .ne 17, 3) := by decide +kernel
theorem dX3_cross_98 : decode cX3_cross 98 = .ok (.aload_n 0, 1) := by decide +kernel
theorem dX3_cross_99 : decode cX3_cross 99 = .ok (.getfield 10, 3) := by decide +kernel
theorem dX3_cross_102 : decode cX3_cross 102 = .ok (.iload_n 3, 1) := by decide +kernel
theorem dX3_cross_103 : decode cX3_cross 103 = .ok (.iload 4, 2) := by decide +kernel
theorem dX3_cross_105 : decode cX3_cross 105 = .ok (.iload_n 2, 1) := by decide +kernel
theorem dX3_cross_106 : decode cX3_cross 106 = .ok (.invokevirtual 157, 3) := by decide +kernel
theorem dX3_cross_109 : decode cX3_cross 109 = .ok (.ifCond .eq 7, 3) := by decide +kernel
theorem dX3_cross_112 : decode cX3_cross 112 = .ok (.iconst 1, 1) := by decide +kernel
theorem dX3_cross_113 : decode cX3_cross 113 = .ok (.goto 4, 3) := by decide +kernel
theorem dX3_cross_116 : decode cX3_cross 116 = .ok (.iconst 0, 1) := by decide +kernel
theorem dX3_cross_117 : decode cX3_cross 117 = .ok (.istore 5, 2) := by decide +kernel
theorem dX3_cross_119 : decode cX3_cross 119 = .ok (.iload 5, 2) := by decide +kernel
theorem dX3_cross_121 : decode cX3_cross 121 = .ok (.ifCond .eq 7, 3) := by decide +kernel
theorem dX3_cross_124 : decode cX3_cross 124 = .ok (.iconst 1, 1) := by decide +kernel
theorem dX3_cross_125 : decode cX3_cross 125 = .ok (.goto 4, 3) := by decide +kernel
theorem dX3_cross_128 : decode cX3_cross 128 = .ok (.iconst 0, 1) := by decide +kernel
theorem dX3_cross_129 : decode cX3_cross 129 = .ok (.ireturn, 1) := by decide +kernel
theorem dX3_around_0 : decode cX3_around 0 = .ok (.aload_n 0, 1) := by decide +kernel
theorem dX3_around_1 : decode cX3_around 1 = .ok (.getfield 10, 3) := by decide +kernel
theorem dX3_around_4 : decode cX3_around 4 = .ok (.iload_n 1, 1) := by decide +kernel
theorem dX3_around_5 : decode cX3_around 5 = .ok (.invokevirtual 60, 3) := by decide +kernel
theorem dX3_around_8 : decode cX3_around 8 = .ok (.ifCond .ne 9, 3) := by decide +kernel
theorem dX3_around_11 : decode cX3_around 11 = .ok (.aload_n 0, 1) := by decide +kernel
theorem dX3_around_12 : decode cX3_around 12 = .ok (.iconst (-1), 1) := by decide +kernel
theorem dX3_around_13 : decode cX3_around 13 = .ok (.invokevirtual 50, 3) := by decide +kernel
theorem dX3_around_16 : decode cX3_around 16 = .ok (.ireturn, 1) := by decide +kernel
theorem dX3_around_17 : decode cX3_around 17 = .ok (.iconst 0, 1) := by decide +kernel
theorem dX3_around_18 : decode cX3_around 18 = .ok (.istore_n 3, 1) := by decide +kernel
theorem dX3_around_19 : decode cX3_around 19 = .ok (.iload_n 3, 1) := by decide +kernel
theorem dX3_around_20 : decode cX3_around 20 = .ok (.aload_n 0, 1) := by decide +kernel
theorem dX3_around_21 : decode cX3_around 21 = .ok (.getfield 10, 3) := by decide +kernel
theorem dX3_around_24 : decode cX3_around 24 = .ok (.getfield 148, 3) := by decide +kernel
theorem dX3_around_27 : decode cX3_around 27 = .ok (.if_icmp .ge 40, 3) := by decide +kernel
theorem dX3_around_30 : decode cX3_around 30 = .ok (.iload_n 3, 1) := by decide +kernel
theorem dX3_around_31 : decode cX3_around 31 = .ok (.iload_n 1, 1) := by decide +kernel
theorem dX3_around_32 : decode cX3_around 32 = .ok (.if_icmp .eq 29, 3) := by decide +kernel
theorem dX3_around_35 : decode cX3_around 35 = .ok (.aload_n 0, 1) := by decide +kernel
theorem dX3_around_36 : decode cX3_around 36 = .ok (.getfield 10, 3) := by decide +kernel
theorem dX3_around_39 : decode cX3_around 39 = .ok (.iload_n 3, 1) := by decide +kernel
theorem dX3_around_40 : decode cX3_around 40 = .ok (.invokevirtual 60, 3) := by decide +kernel
theorem dX3_around_43 : decode cX3_around 43 = .ok (.ifCond .eq 18, 3) := by decide +kernel
theorem dX3_around_46 : decode cX3_around 46 = .ok (.aload_n 0, 1) := by decide +kernel
theorem dX3_around_47 : decode cX3_around 47 = .ok (.getfield 10, 3) := by decide +kernel
theorem dX3_around_50 : decode cX3_around 50 = .ok (.iload_n 1, 1) := by decide +kernel
theorem dX3_around_51 : decode cX3_around 51 = .ok (.iload_n 3, 1) := by decide +kernel
theorem dX3_around_52 : decode cX3_around 52 = .ok (.invokevirtual 160, 3) := by decide +kernel
theorem dX3_around_55 : decode cX3_around 55 = .ok (.iload_n 2, 1) := by decide +kernel
theorem dX3_around_56 : decode cX3_around 56 = .ok (.if_icmp .ne 5, 3) := by decide +kernel
theorem dX3_around_59 : decode cX3_around 59 = .ok (.iload_n 3, 1) := by decide +kernel
theorem dX3_around_60 : decode cX3_around 60 = .ok (.ireturn, 1) := by decide +kernel
theorem dX3_around_61 : decode cX3_around 61 = .ok (.iinc 3 1, 3) := by decide +kernel
theorem dX3_around_64 : decode cX3_around 64 = .ok (.goto (-45), 3) := by decide +kernel
theorem dX3_around_67 : decode cX3_around 67 = .ok (.bipush (-9), 2) := by decide +kernel
theorem dX3_around_69 : decode cX3_around 69 = .ok (.ireturn, 1) := by decide +kernel
theorem dX3_begin_0 : decode cX3_begin 0 = .ok (.aload_n 0, 1) := by decide +kernel
theorem dX3_begin_1 : decode cX3_begin 1 = .ok (.getfield 10, 3) := by decide +kernel
theorem dX3_begin_4 : decode cX3_begin 4 = .ok (.invokevirtual 163, 3) := by decide +kernel
theorem dX3_begin_7 : decode cX3_begin 7 = .ok (.ifCond .eq 10, 3) := by decide +kernel
theorem dX3_begin_10 : decode cX3_begin 10 = .ok (.aload_n 0, 1) := by decide +kernel
theorem dX3_begin_11 : decode cX3_begin 11 = .ok (.bipush (-3), 2) := by decide +kernel
theorem dX3_begin_13 : decode cX3_begin 13 = .ok (.invokevirtual 50, 3) := by decide +kernel
theorem dX3_begin_16 : decode cX3_begin 16 = .ok (.ireturn, 1) := by decide +kernel
theorem dX3_begin_17 : decode cX3_begin 17 = .ok (.aload_n 0, 1) := by decide +kernel
theorem dX3_begin_18 : decode cX3_begin 18 = .ok (.getfield 32, 3) := by decide +kernel
theorem dX3_begin_21 : decode cX3_begin 21 = .ok (.invokevirtual 166, 3) := by decide +kernel
theorem dX3_begin_24 : decode cX3_begin 24 = .ok (.aload_n 0, 1) := by decide +kernel
theorem dX3_begin_25 : decode cX3_begin 25 = .ok (.iconst 1, 1) := by decide +kernel
theorem dX3_begin_26 : decode cX3_begin 26 = .ok (.putfield 169, 3) := by decide +kernel
theorem dX3_begin_29 : decode cX3_begin 29 = .ok (.aload_n 0, 1) := by decide +kernel
theorem dX3_begin_30 : decode cX3_begin 30 = .ok (.iconst 0, 1) := by decide +kernel
theorem dX3_begin_31 : decode cX3_begin 31 = .ok (.putfield 173, 3) := by decide +kernel
theorem dX3_begin_34 : decode cX3_begin 34 = .ok (.aload_n 0, 1) := by decide +kernel
theorem dX3_begin_35 : decode cX3_begin 35 = .ok (.getfield 32, 3) := by decide +kernel
theorem dX3_begin_38 : decode cX3_begin 38 = .ok (.getfield 121, 3) := by decide +kernel
theorem dX3_begin_41 : decode cX3_begin 41 = .ok (.ireturn, 1) := by decide +kernel
theorem dX3_held_0 : decode cX3_held 0 = .ok (.aload_n 0, 1) := by decide +kernel
theorem dX3_held_1 : decode cX3_held 1 = .ok (.invokevirtual 176, 3) := by decide +kernel
theorem dX3_held_4 : decode cX3_held 4 = .ok (.ifCond .ne 10, 3) := by decide +kernel
theorem dX3_held_7 : decode cX3_held 7 = .ok (.aload_n 0, 1) := by decide +kernel
theorem dX3_held_8 : decode cX3_held 8 = .ok (.bipush (-3), 2) := by decide +kernel
theorem dX3_held_10 : decode cX3_held 10 = .ok (.invokevirtual 50, 3) := by decide +kernel
theorem dX3_held_13 : decode cX3_held 13 = .ok (.ireturn, 1) := by decide +kernel
theorem dX3_held_14 : decode cX3_held 14 = .ok (.aload_n 0, 1) := by decide +kernel
theorem dX3_held_15 : decode cX3_held 15 = .ok (.getfield 32, 3) := by decide +kernel
theorem dX3_held_18 : decode cX3_held 18 = .ok (.iload_n 1, 1) := by decide +kernel
theorem dX3_held_19 : decode cX3_held 19 = .ok (.invokevirtual 122, 3) := by decide +kernel
theorem dX3_held_22 : decode cX3_held 22 = .ok (.ifCond .ne 9, 3) := by decide +kernel
theorem dX3_held_25 : decode cX3_held 25 = .ok (.aload_n 0, 1) := by decide +kernel
theorem dX3_held_26 : decode cX3_held 26 = .ok (.iconst (-1), 1) := by decide +kernel
theorem dX3_held_27 : decode cX3_held 27 = .ok (.invokevirtual 50, 3) := by decide +kernel
theorem dX3_held_30 : decode cX3_held 30 = .ok (.ireturn, 1) := by decide +kernel
theorem dX3_held_31 : decode cX3_held 31 = .ok (.iload_n 2, 1) := by decide +kernel
theorem dX3_held_32 : decode cX3_held 32 = .ok (.ifCond .lt 8, 3) := by decide +kernel
theorem dX3_held_35 : decode cX3_held 35 = .ok (.iload_n 2, 1) := by decide +kernel
theorem dX3_held_36 : decode cX3_held 36 = .ok (.iconst 2, 1) := by decide +kernel
theorem dX3_held_37 : decode cX3_held 37 = .ok (.if_icmp .le 10, 3) := by decide +kernel
theorem dX3_held_40 : decode cX3_held 40 = .ok (.aload_n 0, 1) := by decide +kernel
theorem dX3_held_41 : decode cX3_held 41 = .ok (.bipush (-2), 2) := by decide +kernel
theorem dX3_held_43 : decode cX3_held 43 = .ok (.invokevirtual 50, 3) := by decide +kernel
theorem dX3_held_46 : decode cX3_held 46 = .ok (.ireturn, 1) := by decide +kernel
theorem dX3_held_47 : decode cX3_held 47 = .ok (.aload_n 0, 1) := by decide +kernel
theorem dX3_held_48 : decode cX3_held 48 = .ok (.getfield 32, 3) := by decide +kernel
theorem dX3_held_51 : decode cX3_held 51 = .ok (.iload_n 1, 1) := by decide +kernel
theorem dX3_held_52 : decode cX3_held 52 = .ok (.iload_n 2, 1) := by decide +kernel
theorem dX3_held_53 : decode cX3_held 53 = .ok (.invokevirtual 125, 3) := by decide +kernel
theorem dX3_held_56 : decode cX3_held 56 = .ok (.ireturn, 1) := by decide +kernel
theorem dX3_bad_0 : decode cX3_bad 0 = .ok (.aload_n 0, 1) := by decide +kernel
theorem dX3_bad_1 : decode cX3_bad 1 = .ok (.iload_n 1, 1) := by decide +kernel
theorem dX3_bad_2 : decode cX3_bad 2 = .ok (.iload_n 2, 1) := by decide +kernel
theorem dX3_bad_3 : decode cX3_bad 3 = .ok (.invokevirtual 179, 3) := by decide +kernel
theorem dX3_bad_6 : decode cX3_bad 6 = .ok (.istore_n 3, 1) := by decide +kernel
theorem dX3_bad_7 : decode cX3_bad 7 = .ok (.iload_n 3, 1) := by decide +kernel
theorem dX3_bad_8 : decode cX3_bad 8 = .ok (.ifCond .eq 9, 3) := by decide +kernel
theorem dX3_bad_11 : decode cX3_bad 11 = .ok (.aload_n 0, 1) := by decide +kernel
theorem dX3_bad_12 : decode cX3_bad 12 = .ok (.iload_n 3, 1) := by decide +kernel
theorem dX3_bad_13 : decode cX3_bad 13 = .ok (.invokevirtual 50, 3) := by decide +kernel
theorem dX3_bad_16 : decode cX3_bad 16 = .ok (.ireturn, 1) := by decide +kernel
theorem dX3_bad_17 : decode cX3_bad 17 = .ok (.aload_n 0, 1) := by decide +kernel
theorem dX3_bad_18 : decode cX3_bad 18 = .ok (.getfield 32, 3) := by decide +kernel
theorem dX3_bad_21 : decode cX3_bad 21 = .ok (.iload_n 1, 1) := by decide +kernel
theorem dX3_bad_22 : decode cX3_bad 22 = .ok (.iload_n 2, 1) := by decide +kernel
theorem dX3_bad_23 : decode cX3_bad 23 = .ok (.invokevirtual 182, 3) := by decide +kernel
theorem dX3_bad_26 : decode cX3_bad 26 = .ok (.ifCond .eq 5, 3) := by decide +kernel
theorem dX3_bad_29 : decode cX3_bad 29 = .ok (.iconst 2, 1) := by decide +kernel
theorem dX3_bad_30 : decode cX3_bad 30 = .ok (.ireturn, 1) := by decide +kernel
theorem dX3_bad_31 : decode cX3_bad 31 = .ok (.aload_n 0, 1) := by decide +kernel
theorem dX3_bad_32 : decode cX3_bad 32 = .ok (.getfield 32, 3) := by decide +kernel
theorem dX3_bad_35 : decode cX3_bad 35 = .ok (.iload_n 1, 1) := by decide +kernel
theorem dX3_bad_36 : decode cX3_bad 36 = .ok (.iload_n 2, 1) := by decide +kernel
theorem dX3_bad_37 : decode cX3_bad 37 = .ok (.invokevirtual 185, 3) := by decide +kernel
theorem dX3_bad_40 : decode cX3_bad 40 = .ok (.ifCond .eq 7, 3) := by decide +kernel
theorem dX3_bad_43 : decode cX3_bad 43 = .ok (.iconst 1, 1) := by decide +kernel
theorem dX3_bad_44 : decode cX3_bad 44 = .ok (.goto 4, 3) := by decide +kernel
theorem dX3_bad_47 : decode cX3_bad 47 = .ok (.iconst 0, 1) := by decide +kernel
theorem dX3_bad_48 : decode cX3_bad 48 = .ok (.ireturn, 1) := by decide +kernel
theorem dX3_flip_0 : decode cX3_flip 0 = .ok (.aload_n 0, 1) := by decide +kernel
theorem dX3_flip_1 : decode cX3_flip 1 = .ok (.iload_n 1, 1) := by decide +kernel
theorem dX3_flip_2 : decode cX3_flip 2 = .ok (.iload_n 2, 1) := by decide +kernel
theorem dX3_flip_3 : decode cX3_flip 3 = .ok (.invokevirtual 179, 3) := by decide +kernel
theorem dX3_flip_6 : decode cX3_flip 6 = .ok (.istore_n 3, 1) := by decide +kernel
theorem dX3_flip_7 : decode cX3_flip 7 = .ok (.iload_n 3, 1) := by decide +kernel
theorem dX3_flip_8 : decode cX3_flip 8 = .ok (.ifCond .ne 18, 3) := by decide +kernel
theorem dX3_flip_11 : decode cX3_flip 11 = .ok (.aload_n 0, 1) := by decide +kernel
theorem dX3_flip_12 : decode cX3_flip 12 = .ok (.getfield 32, 3) := by decide +kernel
theorem dX3_flip_15 : decode cX3_flip 15 = .ok (.iload_n 1, 1) := by decide +kernel
theorem dX3_flip_16 : decode cX3_flip 16 = .ok (.iload_n 2, 1) := by decide +kernel
theorem dX3_flip_17 : decode cX3_flip 17 = .ok (.invokevirtual 185, 3) := by decide +kernel
theorem dX3_flip_20 : decode cX3_flip 20 = .ok (.ifCond .ne 6, 3) := by decide +kernel
theorem dX3_flip_23 : decode cX3_flip 23 = .ok (.bipush (-3), 2) := by decide +kernel
theorem dX3_flip_25 : decode cX3_flip 25 = .ok (.istore_n 3, 1) := by decide +kernel
theorem dX3_flip_26 : decode cX3_flip 26 = .ok (.iload_n 3, 1) := by decide +kernel
theorem dX3_flip_27 : decode cX3_flip 27 = .ok (.ifCond .eq 9, 3) := by decide +kernel
theorem dX3_flip_30 : decode cX3_flip 30 = .ok (.aload_n 0, 1) := by decide +kernel
theorem dX3_flip_31 : decode cX3_flip 31 = .ok (.iload_n 3, 1) := by decide +kernel
theorem dX3_flip_32 : decode cX3_flip 32 = .ok (.invokevirtual 50, 3) := by decide +kernel
theorem dX3_flip_35 : decode cX3_flip 35 = .ok (.ireturn, 1) := by decide +kernel
theorem dX3_flip_36 : decode cX3_flip 36 = .ok (.aload_n 0, 1) := by decide +kernel
theorem dX3_flip_37 : decode cX3_flip 37 = .ok (.getfield 32, 3) := by decide +kernel
theorem dX3_flip_40 : decode cX3_flip 40 = .ok (.iload_n 1, 1) := by decide +kernel
theorem dX3_flip_41 : decode cX3_flip 41 = .ok (.iload_n 2, 1) := by decide +kernel
theorem dX3_flip_42 : decode cX3_flip 42 = .ok (.invokevirtual 188, 3) := by decide +kernel
theorem dX3_flip_45 : decode cX3_flip 45 = .ok (.aload_n 0, 1) := by decide +kernel
theorem dX3_flip_46 : decode cX3_flip 46 = .ok (.dup, 1) := by decide +kernel
theorem dX3_flip_47 : decode cX3_flip 47 = .ok (.getfield 192, 3) := by decide +kernel
theorem dX3_flip_50 : decode cX3_flip 50 = .ok (.iconst 1, 1) := by decide +kernel
theorem dX3_flip_51 : decode cX3_flip 51 = .ok (.iadd, 1) := by decide +kernel
theorem dX3_flip_52 : decode cX3_flip 52 = .ok (.putfield 192, 3) := by decide +kernel
theorem dX3_flip_55 : decode cX3_flip 55 = .ok (.iconst 1, 1) := by decide +kernel
theorem dX3_flip_56 : decode cX3_flip 56 = .ok (.ireturn, 1) := by decide +kernel
theorem dX3_settle_0 : decode cX3_settle 0 = .ok (.aload_n 0, 1) := by decide +kernel
theorem dX3_settle_1 : decode cX3_settle 1 = .ok (.invokevirtual 176, 3) := by decide +kernel
theorem dX3_settle_4 : decode cX3_settle 4 = .ok (.ifCond .ne 10, 3) := by decide +kernel
theorem dX3_settle_7 : decode cX3_settle 7 = .ok (.aload_n 0, 1) := by decide +kernel
theorem dX3_settle_8 : decode cX3_settle 8 = .ok (.bipush (-3), 2) := by decide +kernel
theorem dX3_settle_10 : decode cX3_settle 10 = .ok (.invokevirtual 50, 3) := by decide +kernel
theorem dX3_settle_13 : decode cX3_settle 13 = .ok (.ireturn, 1) := by decide +kernel
theorem dX3_settle_14 : decode cX3_settle 14 = .ok (.iload_n 1, 1) := by decide +kernel
theorem dX3_settle_15 : decode cX3_settle 15 = .ok (.ifCond .ge 10, 3) := by decide +kernel
theorem dX3_settle_18 : decode cX3_settle 18 = .ok (.aload_n 0, 1) := by decide +kernel
theorem dX3_settle_19 : decode cX3_settle 19 = .ok (.bipush (-4), 2) := by decide +kernel
theorem dX3_settle_21 : decode cX3_settle 21 = .ok (.invokevirtual 50, 3) := by decide +kernel
theorem dX3_settle_24 : decode cX3_settle 24 = .ok (.ireturn, 1) := by decide +kernel
theorem dX3_settle_25 : decode cX3_settle 25 = .ok (.iload_n 1, 1) := by decide +kernel
theorem dX3_settle_26 : decode cX3_settle 26 = .ok (.sipush 10000, 3) := by decide +kernel
theorem dX3_settle_29 : decode cX3_settle 29 = .ok (.if_icmp .le 10, 3) := by decide +kernel
theorem dX3_settle_32 : decode cX3_settle 32 = .ok (.aload_n 0, 1) := by decide +kernel
theorem dX3_settle_33 : decode cX3_settle 33 = .ok (.bipush (-6), 2) := by decide +kernel
theorem dX3_settle_35 : decode cX3_settle 35 = .ok (.invokevirtual 50, 3) := by decide +kernel
theorem dX3_settle_38 : decode cX3_settle 38 = .ok (.ireturn, 1) := by decide +kernel
theorem dX3_settle_39 : decode cX3_settle 39 = .ok (.aload_n 0, 1) := by decide +kernel
theorem dX3_settle_40 : decode cX3_settle 40 = .ok (.getfield 32, 3) := by decide +kernel
theorem dX3_settle_43 : decode cX3_settle 43 = .ok (.iload_n 1, 1) := by decide +kernel
theorem dX3_settle_44 : decode cX3_settle 44 = .ok (.invokevirtual 195, 3) := by decide +kernel
theorem dX3_settle_47 : decode cX3_settle 47 = .ok (.istore_n 2, 1) := by decide +kernel
theorem dX3_settle_48 : decode cX3_settle 48 = .ok (.aload_n 0, 1) := by decide +kernel
theorem dX3_settle_49 : decode cX3_settle 49 = .ok (.dup, 1) := by decide +kernel
theorem dX3_settle_50 : decode cX3_settle 50 = .ok (.getfield 192, 3) := by decide +kernel
theorem dX3_settle_53 : decode cX3_settle 53 = .ok (.iload_n 2, 1) := by decide +kernel
theorem dX3_settle_54 : decode cX3_settle 54 = .ok (.iadd, 1) := by decide +kernel
theorem dX3_settle_55 : decode cX3_settle 55 = .ok (.putfield 192, 3) := by decide +kernel
theorem dX3_settle_58 : decode cX3_settle 58 = .ok (.iload_n 2, 1) := by decide +kernel
theorem dX3_settle_59 : decode cX3_settle 59 = .ok (.ireturn, 1) := by decide +kernel
theorem dX3_alike_0 : decode cX3_alike 0 = .ok (.aload_n 0, 1) := by decide +kernel
theorem dX3_alike_1 : decode cX3_alike 1 = .ok (.invokevirtual 176, 3) := by decide +kernel
theorem dX3_alike_4 : decode cX3_alike 4 = .ok (.ifCond .ne 10, 3) := by decide +kernel
theorem dX3_alike_7 : decode cX3_alike 7 = .ok (.aload_n 0, 1) := by decide +kernel
theorem dX3_alike_8 : decode cX3_alike 8 = .ok (.bipush (-3), 2) := by decide +kernel
theorem dX3_alike_10 : decode cX3_alike 10 = .ok (.invokevirtual 50, 3) := by decide +kernel
theorem dX3_alike_13 : decode cX3_alike 13 = .ok (.ireturn, 1) := by decide +kernel
theorem dX3_alike_14 : decode cX3_alike 14 = .ok (.aload_n 0, 1) := by decide +kernel
theorem dX3_alike_15 : decode cX3_alike 15 = .ok (.invokevirtual 81, 3) := by decide +kernel
theorem dX3_alike_18 : decode cX3_alike 18 = .ok (.astore_n 1, 1) := by decide +kernel
theorem dX3_alike_19 : decode cX3_alike 19 = .ok (.iconst 0, 1) := by decide +kernel
theorem dX3_alike_20 : decode cX3_alike 20 = .ok (.istore_n 2, 1) := by decide +kernel
theorem dX3_alike_21 : decode cX3_alike 21 = .ok (.iconst 0, 1) := by decide +kernel
theorem dX3_alike_22 : decode cX3_alike 22 = .ok (.istore_n 3, 1) := by decide +kernel
theorem dX3_alike_23 : decode cX3_alike 23 = .ok (.iload_n 3, 1) := by decide +kernel
theorem dX3_alike_24 : decode cX3_alike 24 = .ok (.aload_n 0, 1) := by decide +kernel
theorem dX3_alike_25 : decode cX3_alike 25 = .ok (.getfield 32, 3) := by decide +kernel
theorem dX3_alike_28 : decode cX3_alike 28 = .ok (.getfield 121, 3) := by decide +kernel
theorem dX3_alike_31 : decode cX3_alike 31 = .ok (.if_icmp .ge 28, 3) := by decide +kernel
theorem dX3_alike_34 : decode cX3_alike 34 = .ok (.aload_n 1, 1) := by decide +kernel
theorem dX3_alike_35 : decode cX3_alike 35 = .ok (.aload_n 0, 1) := by decide +kernel
theorem dX3_alike_36 : decode cX3_alike 36 = .ok (.getfield 32, 3) := by decide +kernel
theorem dX3_alike_39 : decode cX3_alike 39 = .ok (.getfield 198, 3) := by decide +kernel
theorem dX3_alike_42 : decode cX3_alike 42 = .ok (.iload_n 3, 1) := by decide +kernel
theorem dX3_alike_43 : decode cX3_alike 43 = .ok (.iaload, 1) := by decide +kernel
theorem dX3_alike_44 : decode cX3_alike 44 = .ok (.invokevirtual 201, 3) := by decide +kernel
theorem dX3_alike_47 : decode cX3_alike 47 = .ok (.ifCond .lt 6, 3) := by decide +kernel
theorem dX3_alike_50 : decode cX3_alike 50 = .ok (.iinc 2 1, 3) := by decide +kernel
theorem dX3_alike_53 : decode cX3_alike 53 = .ok (.iinc 3 1, 3) := by decide +kernel
theorem dX3_alike_56 : decode cX3_alike 56 = .ok (.goto (-33), 3) := by decide +kernel
theorem dX3_alike_59 : decode cX3_alike 59 = .ok (.iload_n 2, 1) := by decide +kernel
theorem dX3_alike_60 : decode cX3_alike 60 = .ok (.ireturn, 1) := by decide +kernel
theorem dX3_bads_0 : decode cX3_bads 0 = .ok (.aload_n 0, 1) := by decide +kernel
theorem dX3_bads_1 : decode cX3_bads 1 = .ok (.invokevirtual 176, 3) := by decide +kernel
theorem dX3_bads_4 : decode cX3_bads 4 = .ok (.ifCond .eq 13, 3) := by decide +kernel
theorem dX3_bads_7 : decode cX3_bads 7 = .ok (.aload_n 0, 1) := by decide +kernel
theorem dX3_bads_8 : decode cX3_bads 8 = .ok (.getfield 32, 3) := by decide +kernel
theorem dX3_bads_11 : decode cX3_bads 11 = .ok (.invokevirtual 204, 3) := by decide +kernel
theorem dX3_bads_14 : decode cX3_bads 14 = .ok (.goto 9, 3) := by decide +kernel
theorem dX3_bads_17 : decode cX3_bads 17 = .ok (.aload_n 0, 1) := by decide +kernel
theorem dX3_bads_18 : decode cX3_bads 18 = .ok (.bipush (-3), 2) := by decide +kernel
theorem dX3_bads_20 : decode cX3_bads 20 = .ok (.invokevirtual 50, 3) := by decide +kernel
theorem dX3_bads_23 : decode cX3_bads 23 = .ok (.ireturn, 1) := by decide +kernel
theorem dX3_count_0 : decode cX3_count 0 = .ok (.iload_n 1, 1) := by decide +kernel
theorem dX3_count_1 : decode cX3_count 1 = .ok (.bipush 11, 2) := by decide +kernel
theorem dX3_count_3 : decode cX3_count 3 = .ok (.if_icmp .lt 19, 3) := by decide +kernel
theorem dX3_count_6 : decode cX3_count 6 = .ok (.iload_n 1, 1) := by decide +kernel
theorem dX3_count_7 : decode cX3_count 7 = .ok (.bipush 17, 2) := by decide +kernel
theorem dX3_count_9 : decode cX3_count 9 = .ok (.if_icmp .ge 13, 3) := by decide +kernel
theorem dX3_count_12 : decode cX3_count 12 = .ok (.aload_n 0, 1) := by decide +kernel
theorem dX3_count_13 : decode cX3_count 13 = .ok (.getfield 35, 3) := by decide +kernel
theorem dX3_count_16 : decode cX3_count 16 = .ok (.iload_n 1, 1) := by decide +kernel
theorem dX3_count_17 : decode cX3_count 17 = .ok (.bipush 11, 2) := by decide +kernel
theorem dX3_count_19 : decode cX3_count 19 = .ok (.isub, 1) := by decide +kernel
theorem dX3_count_20 : decode cX3_count 20 = .ok (.iaload, 1) := by decide +kernel
theorem dX3_count_21 : decode cX3_count 21 = .ok (.ireturn, 1) := by decide +kernel
theorem dX3_count_22 : decode cX3_count 22 = .ok (.iload_n 1, 1) := by decide +kernel
theorem dX3_count_23 : decode cX3_count 23 = .ok (.tableswitch 112 0 6 #[41, 49, 57, 73, 86, 99, 107], 41) := by decide +kernel
theorem dX3_count_64 : decode cX3_count 64 = .ok (.aload_n 0, 1) := by decide +kernel
theorem dX3_count_65 : decode cX3_count 65 = .ok (.getfield 10, 3) := by decide +kernel
theorem dX3_count_68 : decode cX3_count 68 = .ok (.getfield 148, 3) := by decide +kernel
theorem dX3_count_71 : decode cX3_count 71 = .ok (.ireturn, 1) := by decide +kernel
theorem dX3_count_72 : decode cX3_count 72 = .ok (.aload_n 0, 1) := by decide +kernel
theorem dX3_count_73 : decode cX3_count 73 = .ok (.getfield 10, 3) := by decide +kernel
theorem dX3_count_76 : decode cX3_count 76 = .ok (.getfield 131, 3) := by decide +kernel
theorem dX3_count_79 : decode cX3_count 79 = .ok (.ireturn, 1) := by decide +kernel
theorem dX3_count_80 : decode cX3_count 80 = .ok (.aload_n 0, 1) := by decide +kernel
theorem dX3_count_81 : decode cX3_count 81 = .ok (.getfield 10, 3) := by decide +kernel
theorem dX3_count_84 : decode cX3_count 84 = .ok (.invokevirtual 163, 3) := by decide +kernel
theorem dX3_count_87 : decode cX3_count 87 = .ok (.ifCond .eq 7, 3) := by decide +kernel
theorem dX3_count_90 : decode cX3_count 90 = .ok (.iconst 1, 1) := by decide +kernel
theorem dX3_count_91 : decode cX3_count 91 = .ok (.goto 4, 3) := by decide +kernel
theorem dX3_count_94 : decode cX3_count 94 = .ok (.iconst 0, 1) := by decide +kernel
theorem dX3_count_95 : decode cX3_count 95 = .ok (.ireturn, 1) := by decide +kernel
theorem dX3_count_96 : decode cX3_count 96 = .ok (.aload_n 0, 1) := by decide +kernel
theorem dX3_count_97 : decode cX3_count 97 = .ok (.getfield 169, 3) := by decide +kernel
theorem dX3_count_100 : decode cX3_count 100 = .ok (.ifCond .eq 7, 3) := by decide +kernel
theorem dX3_count_103 : decode cX3_count 103 = .ok (.iconst 1, 1) := by decide +kernel
theorem dX3_count_104 : decode cX3_count 104 = .ok (.goto 4, 3) := by decide +kernel
theorem dX3_count_107 : decode cX3_count 107 = .ok (.iconst 0, 1) := by decide +kernel
theorem dX3_count_108 : decode cX3_count 108 = .ok (.ireturn, 1) := by decide +kernel
theorem dX3_count_109 : decode cX3_count 109 = .ok (.aload_n 0, 1) := by decide +kernel
theorem dX3_count_110 : decode cX3_count 110 = .ok (.getfield 173, 3) := by decide +kernel
theorem dX3_count_113 : decode cX3_count 113 = .ok (.ifCond .eq 7, 3) := by decide +kernel
theorem dX3_count_116 : decode cX3_count 116 = .ok (.iconst 1, 1) := by decide +kernel
theorem dX3_count_117 : decode cX3_count 117 = .ok (.goto 4, 3) := by decide +kernel
theorem dX3_count_120 : decode cX3_count 120 = .ok (.iconst 0, 1) := by decide +kernel
theorem dX3_count_121 : decode cX3_count 121 = .ok (.ireturn, 1) := by decide +kernel
theorem dX3_count_122 : decode cX3_count 122 = .ok (.aload_n 0, 1) := by decide +kernel
theorem dX3_count_123 : decode cX3_count 123 = .ok (.getfield 32, 3) := by decide +kernel
theorem dX3_count_126 : decode cX3_count 126 = .ok (.getfield 121, 3) := by decide +kernel
theorem dX3_count_129 : decode cX3_count 129 = .ok (.ireturn, 1) := by decide +kernel
theorem dX3_count_130 : decode cX3_count 130 = .ok (.aload_n 0, 1) := by decide +kernel
theorem dX3_count_131 : decode cX3_count 131 = .ok (.getfield 192, 3) := by decide +kernel
theorem dX3_count_134 : decode cX3_count 134 = .ok (.ireturn, 1) := by decide +kernel
theorem dX3_count_135 : decode cX3_count 135 = .ok (.bipush (-9), 2) := by decide +kernel
theorem dX3_count_137 : decode cX3_count 137 = .ok (.ireturn, 1) := by decide +kernel
theorem dX3_pointsChanged_0 : decode cX3_pointsChanged 0 = .ok (.aload_n 0, 1) := by decide +kernel
theorem dX3_pointsChanged_1 : decode cX3_pointsChanged 1 = .ok (.iconst 0, 1) := by decide +kernel
theorem dX3_pointsChanged_2 : decode cX3_pointsChanged 2 = .ok (.putfield 208, 3) := by decide +kernel
theorem dX3_pointsChanged_5 : decode cX3_pointsChanged 5 = .ok (.aload_n 0, 1) := by decide +kernel
theorem dX3_pointsChanged_6 : decode cX3_pointsChanged 6 = .ok (.aload_n 0, 1) := by decide +kernel
theorem dX3_pointsChanged_7 : decode cX3_pointsChanged 7 = .ok (.getfield 169, 3) := by decide +kernel
theorem dX3_pointsChanged_10 : decode cX3_pointsChanged 10 = .ok (.putfield 173, 3) := by decide +kernel
theorem dX3_pointsChanged_13 : decode cX3_pointsChanged 13 = .ok (.return_, 1) := by decide +kernel
theorem dX3_theDrawing_0 : decode cX3_theDrawing 0 = .ok (.aload_n 0, 1) := by decide +kernel
theorem dX3_theDrawing_1 : decode cX3_theDrawing 1 = .ok (.getfield 208, 3) := by decide +kernel
theorem dX3_theDrawing_4 : decode cX3_theDrawing 4 = .ok (.ifCond .ne 26, 3) := by decide +kernel
theorem dX3_theDrawing_7 : decode cX3_theDrawing 7 = .ok (.aload_n 0, 1) := by decide +kernel
theorem dX3_theDrawing_8 : decode cX3_theDrawing 8 = .ok (.getfield 28, 3) := by decide +kernel
theorem dX3_theDrawing_11 : decode cX3_theDrawing 11 = .ok (.invokevirtual 166, 3) := by decide +kernel
theorem dX3_theDrawing_14 : decode cX3_theDrawing 14 = .ok (.aload_n 0, 1) := by decide +kernel
theorem dX3_theDrawing_15 : decode cX3_theDrawing 15 = .ok (.getfield 28, 3) := by decide +kernel
theorem dX3_theDrawing_18 : decode cX3_theDrawing 18 = .ok (.sipush 10000, 3) := by decide +kernel
theorem dX3_theDrawing_21 : decode cX3_theDrawing 21 = .ok (.invokevirtual 195, 3) := by decide +kernel
theorem dX3_theDrawing_24 : decode cX3_theDrawing 24 = .ok (.pop, 1) := by decide +kernel
theorem dX3_theDrawing_25 : decode cX3_theDrawing 25 = .ok (.aload_n 0, 1) := by decide +kernel
theorem dX3_theDrawing_26 : decode cX3_theDrawing 26 = .ok (.iconst 1, 1) := by decide +kernel
theorem dX3_theDrawing_27 : decode cX3_theDrawing 27 = .ok (.putfield 208, 3) := by decide +kernel
theorem dX3_theDrawing_30 : decode cX3_theDrawing 30 = .ok (.aload_n 0, 1) := by decide +kernel
theorem dX3_theDrawing_31 : decode cX3_theDrawing 31 = .ok (.getfield 28, 3) := by decide +kernel
theorem dX3_theDrawing_34 : decode cX3_theDrawing 34 = .ok (.areturn, 1) := by decide +kernel
theorem dX3_isHandReady_0 : decode cX3_isHandReady 0 = .ok (.aload_n 0, 1) := by decide +kernel
theorem dX3_isHandReady_1 : decode cX3_isHandReady 1 = .ok (.getfield 169, 3) := by decide +kernel
theorem dX3_isHandReady_4 : decode cX3_isHandReady 4 = .ok (.ifCond .eq 14, 3) := by decide +kernel
theorem dX3_isHandReady_7 : decode cX3_isHandReady 7 = .ok (.aload_n 0, 1) := by decide +kernel
theorem dX3_isHandReady_8 : decode cX3_isHandReady 8 = .ok (.getfield 173, 3) := by decide +kernel
theorem dX3_isHandReady_11 : decode cX3_isHandReady 11 = .ok (.ifCond .ne 7, 3) := by decide +kernel
theorem dX3_isHandReady_14 : decode cX3_isHandReady 14 = .ok (.iconst 1, 1) := by decide +kernel
theorem dX3_isHandReady_15 : decode cX3_isHandReady 15 = .ok (.goto 4, 3) := by decide +kernel
theorem dX3_isHandReady_18 : decode cX3_isHandReady 18 = .ok (.iconst 0, 1) := by decide +kernel
theorem dX3_isHandReady_19 : decode cX3_isHandReady 19 = .ok (.ireturn, 1) := by decide +kernel
theorem dX3_faultOfHandEdge_0 : decode cX3_faultOfHandEdge 0 = .ok (.aload_n 0, 1) := by decide +kernel
theorem dX3_faultOfHandEdge_1 : decode cX3_faultOfHandEdge 1 = .ok (.invokevirtual 176, 3) := by decide +kernel
theorem dX3_faultOfHandEdge_4 : decode cX3_faultOfHandEdge 4 = .ok (.ifCond .ne 6, 3) := by decide +kernel
theorem dX3_faultOfHandEdge_7 : decode cX3_faultOfHandEdge 7 = .ok (.bipush (-3), 2) := by decide +kernel
theorem dX3_faultOfHandEdge_9 : decode cX3_faultOfHandEdge 9 = .ok (.ireturn, 1) := by decide +kernel
theorem dX3_faultOfHandEdge_10 : decode cX3_faultOfHandEdge 10 = .ok (.aload_n 0, 1) := by decide +kernel
theorem dX3_faultOfHandEdge_11 : decode cX3_faultOfHandEdge 11 = .ok (.iload_n 1, 1) := by decide +kernel
theorem dX3_faultOfHandEdge_12 : decode cX3_faultOfHandEdge 12 = .ok (.iload_n 2, 1) := by decide +kernel
theorem dX3_faultOfHandEdge_13 : decode cX3_faultOfHandEdge 13 = .ok (.invokevirtual 137, 3) := by decide +kernel
theorem dX3_faultOfHandEdge_16 : decode cX3_faultOfHandEdge 16 = .ok (.ifCond .eq 19, 3) := by decide +kernel
theorem dX3_faultOfHandEdge_19 : decode cX3_faultOfHandEdge 19 = .ok (.aload_n 0, 1) := by decide +kernel
theorem dX3_faultOfHandEdge_20 : decode cX3_faultOfHandEdge 20 = .ok (.getfield 32, 3) := by decide +kernel
theorem dX3_faultOfHandEdge_23 : decode cX3_faultOfHandEdge 23 = .ok (.iload_n 1, 1) := by decide +kernel
theorem dX3_faultOfHandEdge_24 : decode cX3_faultOfHandEdge 24 = .ok (.iload_n 2, 1) := by decide +kernel
theorem dX3_faultOfHandEdge_25 : decode cX3_faultOfHandEdge 25 = .ok (.invokevirtual 141, 3) := by decide +kernel
theorem dX3_faultOfHandEdge_28 : decode cX3_faultOfHandEdge 28 = .ok (.ifCond .eq 7, 3) := by decide +kernel
theorem dX3_faultOfHandEdge_31 : decode cX3_faultOfHandEdge 31 = .ok (.iconst 0, 1) := by decide +kernel
theorem dX3_faultOfHandEdge_32 : decode cX3_faultOfHandEdge 32 = .ok (.goto 4, 3) := by decide +kernel
theorem dX3_faultOfHandEdge_35 : decode cX3_faultOfHandEdge 35 = .ok (.iconst (-1), 1) := by decide +kernel
theorem dX3_faultOfHandEdge_36 : decode cX3_faultOfHandEdge 36 = .ok (.ireturn, 1) := by decide +kernel
theorem dX3_faultOfPlace_0 : decode cX3_faultOfPlace 0 = .ok (.iload_n 0, 1) := by decide +kernel
theorem dX3_faultOfPlace_1 : decode cX3_faultOfPlace 1 = .ok (.sipush (-10000), 3) := by decide +kernel
theorem dX3_faultOfPlace_4 : decode cX3_faultOfPlace 4 = .ok (.if_icmp .lt 10, 3) := by decide +kernel
theorem dX3_faultOfPlace_7 : decode cX3_faultOfPlace 7 = .ok (.iload_n 1, 1) := by decide +kernel
theorem dX3_faultOfPlace_8 : decode cX3_faultOfPlace 8 = .ok (.sipush (-10000), 3) := by decide +kernel
theorem dX3_faultOfPlace_11 : decode cX3_faultOfPlace 11 = .ok (.if_icmp .ge 6, 3) := by decide +kernel
theorem dX3_faultOfPlace_14 : decode cX3_faultOfPlace 14 = .ok (.bipush (-4), 2) := by decide +kernel
theorem dX3_faultOfPlace_16 : decode cX3_faultOfPlace 16 = .ok (.ireturn, 1) := by decide +kernel
theorem dX3_faultOfPlace_17 : decode cX3_faultOfPlace 17 = .ok (.iload_n 0, 1) := by decide +kernel
theorem dX3_faultOfPlace_18 : decode cX3_faultOfPlace 18 = .ok (.sipush 10000, 3) := by decide +kernel
theorem dX3_faultOfPlace_21 : decode cX3_faultOfPlace 21 = .ok (.if_icmp .gt 10, 3) := by decide +kernel
theorem dX3_faultOfPlace_24 : decode cX3_faultOfPlace 24 = .ok (.iload_n 1, 1) := by decide +kernel
theorem dX3_faultOfPlace_25 : decode cX3_faultOfPlace 25 = .ok (.sipush 10000, 3) := by decide +kernel
theorem dX3_faultOfPlace_28 : decode cX3_faultOfPlace 28 = .ok (.if_icmp .le 8, 3) := by decide +kernel
theorem dX3_faultOfPlace_31 : decode cX3_faultOfPlace 31 = .ok (.bipush (-6), 2) := by decide +kernel
theorem dX3_faultOfPlace_33 : decode cX3_faultOfPlace 33 = .ok (.goto 4, 3) := by decide +kernel
theorem dX3_faultOfPlace_36 : decode cX3_faultOfPlace 36 = .ok (.iconst 0, 1) := by decide +kernel
theorem dX3_faultOfPlace_37 : decode cX3_faultOfPlace 37 = .ok (.ireturn, 1) := by decide +kernel
theorem dX3_areTwoPoints_0 : decode cX3_areTwoPoints 0 = .ok (.iload_n 1, 1) := by decide +kernel
theorem dX3_areTwoPoints_1 : decode cX3_areTwoPoints 1 = .ok (.iload_n 2, 1) := by decide +kernel
theorem dX3_areTwoPoints_2 : decode cX3_areTwoPoints 2 = .ok (.if_icmp .eq 29, 3) := by decide +kernel
theorem dX3_areTwoPoints_5 : decode cX3_areTwoPoints 5 = .ok (.aload_n 0, 1) := by decide +kernel
theorem dX3_areTwoPoints_6 : decode cX3_areTwoPoints 6 = .ok (.getfield 10, 3) := by decide +kernel
theorem dX3_areTwoPoints_9 : decode cX3_areTwoPoints 9 = .ok (.iload_n 1, 1) := by decide +kernel
theorem dX3_areTwoPoints_10 : decode cX3_areTwoPoints 10 = .ok (.invokevirtual 60, 3) := by decide +kernel
theorem dX3_areTwoPoints_13 : decode cX3_areTwoPoints 13 = .ok (.ifCond .eq 18, 3) := by decide +kernel
theorem dX3_areTwoPoints_16 : decode cX3_areTwoPoints 16 = .ok (.aload_n 0, 1) := by decide +kernel
theorem dX3_areTwoPoints_17 : decode cX3_areTwoPoints 17 = .ok (.getfield 10, 3) := by decide +kernel
theorem dX3_areTwoPoints_20 : decode cX3_areTwoPoints 20 = .ok (.iload_n 2, 1) := by decide +kernel
theorem dX3_areTwoPoints_21 : decode cX3_areTwoPoints 21 = .ok (.invokevirtual 60, 3) := by decide +kernel
theorem dX3_areTwoPoints_24 : decode cX3_areTwoPoints 24 = .ok (.ifCond .eq 7, 3) := by decide +kernel
theorem dX3_areTwoPoints_27 : decode cX3_areTwoPoints 27 = .ok (.iconst 1, 1) := by decide +kernel
theorem dX3_areTwoPoints_28 : decode cX3_areTwoPoints 28 = .ok (.goto 4, 3) := by decide +kernel
theorem dX3_areTwoPoints_31 : decode cX3_areTwoPoints 31 = .ok (.iconst 0, 1) := by decide +kernel
theorem dX3_areTwoPoints_32 : decode cX3_areTwoPoints 32 = .ok (.ireturn, 1) := by decide +kernel
theorem dX3_areAllThere_0 : decode cX3_areAllThere 0 = .ok (.aload_n 0, 1) := by decide +kernel
theorem dX3_areAllThere_1 : decode cX3_areAllThere 1 = .ok (.getfield 10, 3) := by decide +kernel
theorem dX3_areAllThere_4 : decode cX3_areAllThere 4 = .ok (.iload_n 1, 1) := by decide +kernel
theorem dX3_areAllThere_5 : decode cX3_areAllThere 5 = .ok (.invokevirtual 60, 3) := by decide +kernel
theorem dX3_areAllThere_8 : decode cX3_areAllThere 8 = .ok (.ifCond .eq 41, 3) := by decide +kernel
theorem dX3_areAllThere_11 : decode cX3_areAllThere 11 = .ok (.aload_n 0, 1) := by decide +kernel
theorem dX3_areAllThere_12 : decode cX3_areAllThere 12 = .ok (.getfield 10, 3) := by decide +kernel
theorem dX3_areAllThere_15 : decode cX3_areAllThere 15 = .ok (.iload_n 2, 1) := by decide +kernel
theorem dX3_areAllThere_16 : decode cX3_areAllThere 16 = .ok (.invokevirtual 60, 3) := by decide +kernel
theorem dX3_areAllThere_19 : decode cX3_areAllThere 19 = .ok (.ifCond .eq 30, 3) := by decide +kernel
theorem dX3_areAllThere_22 : decode cX3_areAllThere 22 = .ok (.aload_n 0, 1) := by decide +kernel
theorem dX3_areAllThere_23 : decode cX3_areAllThere 23 = .ok (.getfield 10, 3) := by decide +kernel
theorem dX3_areAllThere_26 : decode cX3_areAllThere 26 = .ok (.iload_n 3, 1) := by decide +kernel
theorem dX3_areAllThere_27 : decode cX3_areAllThere 27 = .ok (.invokevirtual 60, 3) := by decide +kernel
theorem dX3_areAllThere_30 : decode cX3_areAllThere 30 = .ok (.ifCond .eq 19, 3) := by decide +kernel
theorem dX3_areAllThere_33 : decode cX3_areAllThere 33 = .ok (.aload_n 0, 1) := by decide +kernel
theorem dX3_areAllThere_34 : decode cX3_areAllThere 34 = .ok (.getfield 10, 3) := by decide +kernel
theorem dX3_areAllThere_37 : decode cX3_areAllThere 37 = .ok (.iload 4, 2) := by decide +kernel
theorem dX3_areAllThere_39 : decode cX3_areAllThere 39 = .ok (.invokevirtual 60, 3) := by decide +kernel
theorem dX3_areAllThere_42 : decode cX3_areAllThere 42 = .ok (.ifCond .eq 7, 3) := by decide +kernel
theorem dX3_areAllThere_45 : decode cX3_areAllThere 45 = .ok (.iconst 1, 1) := by decide +kernel
theorem dX3_areAllThere_46 : decode cX3_areAllThere 46 = .ok (.goto 4, 3) := by decide +kernel
theorem dX3_areAllThere_49 : decode cX3_areAllThere 49 = .ok (.iconst 0, 1) := by decide +kernel
theorem dX3_areAllThere_50 : decode cX3_areAllThere 50 = .ok (.ireturn, 1) := by decide +kernel
theorem dX3_refuse_0 : decode cX3_refuse 0 = .ok (.iconst (-1), 1) := by decide +kernel
theorem dX3_refuse_1 : decode cX3_refuse 1 = .ok (.iload_n 1, 1) := by decide +kernel
theorem dX3_refuse_2 : decode cX3_refuse 2 = .ok (.isub, 1) := by decide +kernel
theorem dX3_refuse_3 : decode cX3_refuse 3 = .ok (.istore_n 2, 1) := by decide +kernel
theorem dX3_refuse_4 : decode cX3_refuse 4 = .ok (.iload_n 2, 1) := by decide +kernel
theorem dX3_refuse_5 : decode cX3_refuse 5 = .ok (.ifCond .lt 19, 3) := by decide +kernel
theorem dX3_refuse_8 : decode cX3_refuse 8 = .ok (.iload_n 2, 1) := by decide +kernel
theorem dX3_refuse_9 : decode cX3_refuse 9 = .ok (.bipush 6, 2) := by decide +kernel
theorem dX3_refuse_11 : decode cX3_refuse 11 = .ok (.if_icmp .ge 13, 3) := by decide +kernel
theorem dX3_refuse_14 : decode cX3_refuse 14 = .ok (.aload_n 0, 1) := by decide +kernel
theorem dX3_refuse_15 : decode cX3_refuse 15 = .ok (.getfield 35, 3) := by decide +kernel
theorem dX3_refuse_18 : decode cX3_refuse 18 = .ok (.iload_n 2, 1) := by decide +kernel
theorem dX3_refuse_19 : decode cX3_refuse 19 = .ok (.dup2, 1) := by decide +kernel
theorem dX3_refuse_20 : decode cX3_refuse 20 = .ok (.iaload, 1) := by decide +kernel
theorem dX3_refuse_21 : decode cX3_refuse 21 = .ok (.iconst 1, 1) := by decide +kernel
theorem dX3_refuse_22 : decode cX3_refuse 22 = .ok (.iadd, 1) := by decide +kernel
theorem dX3_refuse_23 : decode cX3_refuse 23 = .ok (.iastore, 1) := by decide +kernel
theorem dX3_refuse_24 : decode cX3_refuse 24 = .ok (.iload_n 1, 1) := by decide +kernel
theorem dX3_refuse_25 : decode cX3_refuse 25 = .ok (.ireturn, 1) := by decide +kernel
theorem dX3_refuseToldApart_0 : decode cX3_refuseToldApart 0 = .ok (.ldc 211, 2) := by decide +kernel
theorem dX3_refuseToldApart_2 : decode cX3_refuseToldApart 2 = .ok (.aload_n 0, 1) := by decide +kernel
theorem dX3_refuseToldApart_3 : decode cX3_refuseToldApart 3 = .ok (.iload_n 1, 1) := by decide +kernel
theorem dX3_refuseToldApart_4 : decode cX3_refuseToldApart 4 = .ok (.invokevirtual 50, 3) := by decide +kernel
theorem dX3_refuseToldApart_7 : decode cX3_refuseToldApart 7 = .ok (.isub, 1) := by decide +kernel
theorem dX3_refuseToldApart_8 : decode cX3_refuseToldApart 8 = .ok (.ireturn, 1) := by decide +kernel
theorem dX3_signOf_0 : decode cX3_signOf 0 = .ok (.lload_n 0, 1) := by decide +kernel
theorem dX3_signOf_1 : decode cX3_signOf 1 = .ok (.lconst 0, 1) := by decide +kernel
theorem dX3_signOf_2 : decode cX3_signOf 2 = .ok (.lcmp, 1) := by decide +kernel
theorem dX3_signOf_3 : decode cX3_signOf 3 = .ok (.ifCond .ne 5, 3) := by decide +kernel
theorem dX3_signOf_6 : decode cX3_signOf 6 = .ok (.iconst 0, 1) := by decide +kernel
theorem dX3_signOf_7 : decode cX3_signOf 7 = .ok (.ireturn, 1) := by decide +kernel
theorem dX3_signOf_8 : decode cX3_signOf 8 = .ok (.lload_n 0, 1) := by decide +kernel
theorem dX3_signOf_9 : decode cX3_signOf 9 = .ok (.lconst 0, 1) := by decide +kernel
theorem dX3_signOf_10 : decode cX3_signOf 10 = .ok (.lcmp, 1) := by decide +kernel
theorem dX3_signOf_11 : decode cX3_signOf 11 = .ok (.ifCond .le 7, 3) := by decide +kernel
theorem dX3_signOf_14 : decode cX3_signOf 14 = .ok (.iconst 1, 1) := by decide +kernel
theorem dX3_signOf_15 : decode cX3_signOf 15 = .ok (.goto 4, 3) := by decide +kernel
theorem dX3_signOf_18 : decode cX3_signOf 18 = .ok (.iconst (-1), 1) := by decide +kernel
theorem dX3_signOf_19 : decode cX3_signOf 19 = .ok (.ireturn, 1) := by decide +kernel
