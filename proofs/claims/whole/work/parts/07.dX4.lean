theorem dX4_init_0 : decode cX4_init 0 = .ok (.aload_n 0, 1) := by decide +kernel
theorem dX4_init_1 : decode cX4_init 1 = .ok (.invokespecial 1, 3) := by decide +kernel
theorem dX4_init_4 : decode cX4_init 4 = .ok (.aload_n 0, 1) := by decide +kernel
theorem dX4_init_5 : decode cX4_init 5 = .ok (.bipush 7, 2) := by decide +kernel
theorem dX4_init_7 : decode cX4_init 7 = .ok (.newarray .int, 2) := by decide +kernel
theorem dX4_init_9 : decode cX4_init 9 = .ok (.putfield 7, 3) := by decide +kernel
theorem dX4_init_12 : decode cX4_init 12 = .ok (.aload_n 0, 1) := by decide +kernel
theorem dX4_init_13 : decode cX4_init 13 = .ok (.bipush 40, 2) := by decide +kernel
theorem dX4_init_15 : decode cX4_init 15 = .ok (.newarray .int, 2) := by decide +kernel
theorem dX4_init_17 : decode cX4_init 17 = .ok (.putfield 13, 3) := by decide +kernel
theorem dX4_init_20 : decode cX4_init 20 = .ok (.aload_n 0, 1) := by decide +kernel
theorem dX4_init_21 : decode cX4_init 21 = .ok (.bipush 40, 2) := by decide +kernel
theorem dX4_init_23 : decode cX4_init 23 = .ok (.newarray .int, 2) := by decide +kernel
theorem dX4_init_25 : decode cX4_init 25 = .ok (.putfield 16, 3) := by decide +kernel
theorem dX4_init_28 : decode cX4_init 28 = .ok (.aload_n 0, 1) := by decide +kernel
theorem dX4_init_29 : decode cX4_init 29 = .ok (.bipush 40, 2) := by decide +kernel
theorem dX4_init_31 : decode cX4_init 31 = .ok (.newarray .boolean, 2) := by decide +kernel
theorem dX4_init_33 : decode cX4_init 33 = .ok (.putfield 19, 3) := by decide +kernel
theorem dX4_init_36 : decode cX4_init 36 = .ok (.aload_n 0, 1) := by decide +kernel
theorem dX4_init_37 : decode cX4_init 37 = .ok (.bipush 41, 2) := by decide +kernel
theorem dX4_init_39 : decode cX4_init 39 = .ok (.newarray .int, 2) := by decide +kernel
theorem dX4_init_41 : decode cX4_init 41 = .ok (.putfield 23, 3) := by decide +kernel
theorem dX4_init_44 : decode cX4_init 44 = .ok (.aload_n 0, 1) := by decide +kernel
theorem dX4_init_45 : decode cX4_init 45 = .ok (.bipush 120, 2) := by decide +kernel
theorem dX4_init_47 : decode cX4_init 47 = .ok (.newarray .int, 2) := by decide +kernel
theorem dX4_init_49 : decode cX4_init 49 = .ok (.putfield 26, 3) := by decide +kernel
theorem dX4_init_52 : decode cX4_init 52 = .ok (.aload_n 0, 1) := by decide +kernel
theorem dX4_init_53 : decode cX4_init 53 = .ok (.bipush 120, 2) := by decide +kernel
theorem dX4_init_55 : decode cX4_init 55 = .ok (.newarray .int, 2) := by decide +kernel
theorem dX4_init_57 : decode cX4_init 57 = .ok (.putfield 29, 3) := by decide +kernel
theorem dX4_init_60 : decode cX4_init 60 = .ok (.aload_n 0, 1) := by decide +kernel
theorem dX4_init_61 : decode cX4_init 61 = .ok (.bipush 120, 2) := by decide +kernel
theorem dX4_init_63 : decode cX4_init 63 = .ok (.newarray .int, 2) := by decide +kernel
theorem dX4_init_65 : decode cX4_init 65 = .ok (.putfield 32, 3) := by decide +kernel
theorem dX4_init_68 : decode cX4_init 68 = .ok (.aload_n 0, 1) := by decide +kernel
theorem dX4_init_69 : decode cX4_init 69 = .ok (.bipush 120, 2) := by decide +kernel
theorem dX4_init_71 : decode cX4_init 71 = .ok (.newarray .int, 2) := by decide +kernel
theorem dX4_init_73 : decode cX4_init 73 = .ok (.putfield 35, 3) := by decide +kernel
theorem dX4_init_76 : decode cX4_init 76 = .ok (.aload_n 0, 1) := by decide +kernel
theorem dX4_init_77 : decode cX4_init 77 = .ok (.bipush 120, 2) := by decide +kernel
theorem dX4_init_79 : decode cX4_init 79 = .ok (.newarray .int, 2) := by decide +kernel
theorem dX4_init_81 : decode cX4_init 81 = .ok (.putfield 38, 3) := by decide +kernel
theorem dX4_init_84 : decode cX4_init 84 = .ok (.aload_n 0, 1) := by decide +kernel
theorem dX4_init_85 : decode cX4_init 85 = .ok (.bipush 120, 2) := by decide +kernel
theorem dX4_init_87 : decode cX4_init 87 = .ok (.newarray .int, 2) := by decide +kernel
theorem dX4_init_89 : decode cX4_init 89 = .ok (.putfield 41, 3) := by decide +kernel
theorem dX4_init_92 : decode cX4_init 92 = .ok (.aload_n 0, 1) := by decide +kernel
theorem dX4_init_93 : decode cX4_init 93 = .ok (.bipush 40, 2) := by decide +kernel
theorem dX4_init_95 : decode cX4_init 95 = .ok (.newarray .int, 2) := by decide +kernel
theorem dX4_init_97 : decode cX4_init 97 = .ok (.putfield 44, 3) := by decide +kernel
theorem dX4_init_100 : decode cX4_init 100 = .ok (.aload_n 0, 1) := by decide +kernel
theorem dX4_init_101 : decode cX4_init 101 = .ok (.bipush 80, 2) := by decide +kernel
theorem dX4_init_103 : decode cX4_init 103 = .ok (.newarray .int, 2) := by decide +kernel
theorem dX4_init_105 : decode cX4_init 105 = .ok (.putfield 47, 3) := by decide +kernel
theorem dX4_init_108 : decode cX4_init 108 = .ok (.aload_n 0, 1) := by decide +kernel
theorem dX4_init_109 : decode cX4_init 109 = .ok (.bipush 80, 2) := by decide +kernel
theorem dX4_init_111 : decode cX4_init 111 = .ok (.newarray .int, 2) := by decide +kernel
theorem dX4_init_113 : decode cX4_init 113 = .ok (.putfield 50, 3) := by decide +kernel
theorem dX4_init_116 : decode cX4_init 116 = .ok (.return_, 1) := by decide +kernel
theorem dX4_refuse_0 : decode cX4_refuse 0 = .ok (.aload_n 0, 1) := by decide +kernel
theorem dX4_refuse_1 : decode cX4_refuse 1 = .ok (.getfield 7, 3) := by decide +kernel
theorem dX4_refuse_4 : decode cX4_refuse 4 = .ok (.iload_n 1, 1) := by decide +kernel
theorem dX4_refuse_5 : decode cX4_refuse 5 = .ok (.ineg, 1) := by decide +kernel
theorem dX4_refuse_6 : decode cX4_refuse 6 = .ok (.dup2, 1) := by decide +kernel
theorem dX4_refuse_7 : decode cX4_refuse 7 = .ok (.iaload, 1) := by decide +kernel
theorem dX4_refuse_8 : decode cX4_refuse 8 = .ok (.iconst 1, 1) := by decide +kernel
theorem dX4_refuse_9 : decode cX4_refuse 9 = .ok (.iadd, 1) := by decide +kernel
theorem dX4_refuse_10 : decode cX4_refuse 10 = .ok (.iastore, 1) := by decide +kernel
theorem dX4_refuse_11 : decode cX4_refuse 11 = .ok (.iload_n 1, 1) := by decide +kernel
theorem dX4_refuse_12 : decode cX4_refuse 12 = .ok (.ireturn, 1) := by decide +kernel
theorem dX4_refuseFar_0 : decode cX4_refuseFar 0 = .ok (.ldc 53, 2) := by decide +kernel
theorem dX4_refuseFar_2 : decode cX4_refuseFar 2 = .ok (.aload_n 0, 1) := by decide +kernel
theorem dX4_refuseFar_3 : decode cX4_refuseFar 3 = .ok (.iload_n 1, 1) := by decide +kernel
theorem dX4_refuseFar_4 : decode cX4_refuseFar 4 = .ok (.invokevirtual 54, 3) := by decide +kernel
theorem dX4_refuseFar_7 : decode cX4_refuseFar 7 = .ok (.isub, 1) := by decide +kernel
theorem dX4_refuseFar_8 : decode cX4_refuseFar 8 = .ok (.ireturn, 1) := by decide +kernel
theorem dX4_isPoint_0 : decode cX4_isPoint 0 = .ok (.iload_n 1, 1) := by decide +kernel
theorem dX4_isPoint_1 : decode cX4_isPoint 1 = .ok (.ifCond .lt 24, 3) := by decide +kernel
theorem dX4_isPoint_4 : decode cX4_isPoint 4 = .ok (.iload_n 1, 1) := by decide +kernel
theorem dX4_isPoint_5 : decode cX4_isPoint 5 = .ok (.aload_n 0, 1) := by decide +kernel
theorem dX4_isPoint_6 : decode cX4_isPoint 6 = .ok (.getfield 58, 3) := by decide +kernel
theorem dX4_isPoint_9 : decode cX4_isPoint 9 = .ok (.if_icmp .ge 16, 3) := by decide +kernel
theorem dX4_isPoint_12 : decode cX4_isPoint 12 = .ok (.aload_n 0, 1) := by decide +kernel
theorem dX4_isPoint_13 : decode cX4_isPoint 13 = .ok (.getfield 19, 3) := by decide +kernel
theorem dX4_isPoint_16 : decode cX4_isPoint 16 = .ok (.iload_n 1, 1) := by decide +kernel
theorem dX4_isPoint_17 : decode cX4_isPoint 17 = .ok (.baload, 1) := by decide +kernel
theorem dX4_isPoint_18 : decode cX4_isPoint 18 = .ok (.ifCond .eq 7, 3) := by decide +kernel
theorem dX4_isPoint_21 : decode cX4_isPoint 21 = .ok (.iconst 1, 1) := by decide +kernel
theorem dX4_isPoint_22 : decode cX4_isPoint 22 = .ok (.goto 4, 3) := by decide +kernel
theorem dX4_isPoint_25 : decode cX4_isPoint 25 = .ok (.iconst 0, 1) := by decide +kernel
theorem dX4_isPoint_26 : decode cX4_isPoint 26 = .ok (.ireturn, 1) := by decide +kernel
theorem dX4_wrongPlace_0 : decode cX4_wrongPlace 0 = .ok (.iload_n 1, 1) := by decide +kernel
theorem dX4_wrongPlace_1 : decode cX4_wrongPlace 1 = .ok (.sipush (-10000), 3) := by decide +kernel
theorem dX4_wrongPlace_4 : decode cX4_wrongPlace 4 = .ok (.if_icmp .lt 10, 3) := by decide +kernel
theorem dX4_wrongPlace_7 : decode cX4_wrongPlace 7 = .ok (.iload_n 2, 1) := by decide +kernel
theorem dX4_wrongPlace_8 : decode cX4_wrongPlace 8 = .ok (.sipush (-10000), 3) := by decide +kernel
theorem dX4_wrongPlace_11 : decode cX4_wrongPlace 11 = .ok (.if_icmp .ge 8, 3) := by decide +kernel
theorem dX4_wrongPlace_14 : decode cX4_wrongPlace 14 = .ok (.bipush (-4), 2) := by decide +kernel
theorem dX4_wrongPlace_16 : decode cX4_wrongPlace 16 = .ok (.goto 23, 3) := by decide +kernel
theorem dX4_wrongPlace_19 : decode cX4_wrongPlace 19 = .ok (.iload_n 1, 1) := by decide +kernel
theorem dX4_wrongPlace_20 : decode cX4_wrongPlace 20 = .ok (.sipush 10000, 3) := by decide +kernel
theorem dX4_wrongPlace_23 : decode cX4_wrongPlace 23 = .ok (.if_icmp .gt 10, 3) := by decide +kernel
theorem dX4_wrongPlace_26 : decode cX4_wrongPlace 26 = .ok (.iload_n 2, 1) := by decide +kernel
theorem dX4_wrongPlace_27 : decode cX4_wrongPlace 27 = .ok (.sipush 10000, 3) := by decide +kernel
theorem dX4_wrongPlace_30 : decode cX4_wrongPlace 30 = .ok (.if_icmp .le 8, 3) := by decide +kernel
theorem dX4_wrongPlace_33 : decode cX4_wrongPlace 33 = .ok (.bipush (-6), 2) := by decide +kernel
theorem dX4_wrongPlace_35 : decode cX4_wrongPlace 35 = .ok (.goto 4, 3) := by decide +kernel
theorem dX4_wrongPlace_38 : decode cX4_wrongPlace 38 = .ok (.iconst 0, 1) := by decide +kernel
theorem dX4_wrongPlace_39 : decode cX4_wrongPlace 39 = .ok (.ireturn, 1) := by decide +kernel
theorem dX4_at_0 : decode cX4_at 0 = .ok (.iconst 0, 1) := by decide +kernel
theorem dX4_at_1 : decode cX4_at 1 = .ok (.istore_n 3, 1) := by decide +kernel
theorem dX4_at_2 : decode cX4_at 2 = .ok (.iload_n 3, 1) := by decide +kernel
theorem dX4_at_3 : decode cX4_at 3 = .ok (.aload_n 0, 1) := by decide +kernel
theorem dX4_at_4 : decode cX4_at 4 = .ok (.getfield 58, 3) := by decide +kernel
theorem dX4_at_7 : decode cX4_at 7 = .ok (.if_icmp .ge 40, 3) := by decide +kernel
theorem dX4_at_10 : decode cX4_at 10 = .ok (.aload_n 0, 1) := by decide +kernel
theorem dX4_at_11 : decode cX4_at 11 = .ok (.getfield 19, 3) := by decide +kernel
theorem dX4_at_14 : decode cX4_at 14 = .ok (.iload_n 3, 1) := by decide +kernel
theorem dX4_at_15 : decode cX4_at 15 = .ok (.baload, 1) := by decide +kernel
theorem dX4_at_16 : decode cX4_at 16 = .ok (.ifCond .eq 25, 3) := by decide +kernel
theorem dX4_at_19 : decode cX4_at 19 = .ok (.aload_n 0, 1) := by decide +kernel
theorem dX4_at_20 : decode cX4_at 20 = .ok (.getfield 13, 3) := by decide +kernel
theorem dX4_at_23 : decode cX4_at 23 = .ok (.iload_n 3, 1) := by decide +kernel
theorem dX4_at_24 : decode cX4_at 24 = .ok (.iaload, 1) := by decide +kernel
theorem dX4_at_25 : decode cX4_at 25 = .ok (.iload_n 1, 1) := by decide +kernel
theorem dX4_at_26 : decode cX4_at 26 = .ok (.if_icmp .ne 15, 3) := by decide +kernel
theorem dX4_at_29 : decode cX4_at 29 = .ok (.aload_n 0, 1) := by decide +kernel
theorem dX4_at_30 : decode cX4_at 30 = .ok (.getfield 16, 3) := by decide +kernel
theorem dX4_at_33 : decode cX4_at 33 = .ok (.iload_n 3, 1) := by decide +kernel
theorem dX4_at_34 : decode cX4_at 34 = .ok (.iaload, 1) := by decide +kernel
theorem dX4_at_35 : decode cX4_at 35 = .ok (.iload_n 2, 1) := by decide +kernel
theorem dX4_at_36 : decode cX4_at 36 = .ok (.if_icmp .ne 5, 3) := by decide +kernel
theorem dX4_at_39 : decode cX4_at 39 = .ok (.iload_n 3, 1) := by decide +kernel
theorem dX4_at_40 : decode cX4_at 40 = .ok (.ireturn, 1) := by decide +kernel
theorem dX4_at_41 : decode cX4_at 41 = .ok (.iinc 3 1, 3) := by decide +kernel
theorem dX4_at_44 : decode cX4_at 44 = .ok (.goto (-42), 3) := by decide +kernel
theorem dX4_at_47 : decode cX4_at 47 = .ok (.iconst (-1), 1) := by decide +kernel
theorem dX4_at_48 : decode cX4_at 48 = .ok (.ireturn, 1) := by decide +kernel
theorem dX4_changes_0 : decode cX4_changes 0 = .ok (.aload_n 0, 1) := by decide +kernel
theorem dX4_changes_1 : decode cX4_changes 1 = .ok (.iconst 0, 1) := by decide +kernel
theorem dX4_changes_2 : decode cX4_changes 2 = .ok (.putfield 62, 3) := by decide +kernel
theorem dX4_changes_5 : decode cX4_changes 5 = .ok (.aload_n 0, 1) := by decide +kernel
theorem dX4_changes_6 : decode cX4_changes 6 = .ok (.iconst 1, 1) := by decide +kernel
theorem dX4_changes_7 : decode cX4_changes 7 = .ok (.putfield 66, 3) := by decide +kernel
theorem dX4_changes_10 : decode cX4_changes 10 = .ok (.return_, 1) := by decide +kernel
theorem dX4_point_0 : decode cX4_point 0 = .ok (.aload_n 0, 1) := by decide +kernel
theorem dX4_point_1 : decode cX4_point 1 = .ok (.iload_n 1, 1) := by decide +kernel
theorem dX4_point_2 : decode cX4_point 2 = .ok (.iload_n 2, 1) := by decide +kernel
theorem dX4_point_3 : decode cX4_point 3 = .ok (.invokevirtual 69, 3) := by decide +kernel
theorem dX4_point_6 : decode cX4_point 6 = .ok (.istore_n 3, 1) := by decide +kernel
theorem dX4_point_7 : decode cX4_point 7 = .ok (.iload_n 3, 1) := by decide +kernel
theorem dX4_point_8 : decode cX4_point 8 = .ok (.ifCond .eq 9, 3) := by decide +kernel
theorem dX4_point_11 : decode cX4_point 11 = .ok (.aload_n 0, 1) := by decide +kernel
theorem dX4_point_12 : decode cX4_point 12 = .ok (.iload_n 3, 1) := by decide +kernel
theorem dX4_point_13 : decode cX4_point 13 = .ok (.invokevirtual 54, 3) := by decide +kernel
theorem dX4_point_16 : decode cX4_point 16 = .ok (.ireturn, 1) := by decide +kernel
theorem dX4_point_17 : decode cX4_point 17 = .ok (.aload_n 0, 1) := by decide +kernel
theorem dX4_point_18 : decode cX4_point 18 = .ok (.getfield 58, 3) := by decide +kernel
theorem dX4_point_21 : decode cX4_point 21 = .ok (.bipush 40, 2) := by decide +kernel
theorem dX4_point_23 : decode cX4_point 23 = .ok (.if_icmp .ne 10, 3) := by decide +kernel
theorem dX4_point_26 : decode cX4_point 26 = .ok (.aload_n 0, 1) := by decide +kernel
theorem dX4_point_27 : decode cX4_point 27 = .ok (.bipush (-6), 2) := by decide +kernel
theorem dX4_point_29 : decode cX4_point 29 = .ok (.invokevirtual 54, 3) := by decide +kernel
theorem dX4_point_32 : decode cX4_point 32 = .ok (.ireturn, 1) := by decide +kernel
theorem dX4_point_33 : decode cX4_point 33 = .ok (.aload_n 0, 1) := by decide +kernel
theorem dX4_point_34 : decode cX4_point 34 = .ok (.iload_n 1, 1) := by decide +kernel
theorem dX4_point_35 : decode cX4_point 35 = .ok (.iload_n 2, 1) := by decide +kernel
theorem dX4_point_36 : decode cX4_point 36 = .ok (.invokevirtual 73, 3) := by decide +kernel
theorem dX4_point_39 : decode cX4_point 39 = .ok (.ifCond .lt 10, 3) := by decide +kernel
theorem dX4_point_42 : decode cX4_point 42 = .ok (.aload_n 0, 1) := by decide +kernel
theorem dX4_point_43 : decode cX4_point 43 = .ok (.bipush (-5), 2) := by decide +kernel
theorem dX4_point_45 : decode cX4_point 45 = .ok (.invokevirtual 54, 3) := by decide +kernel
theorem dX4_point_48 : decode cX4_point 48 = .ok (.ireturn, 1) := by decide +kernel
theorem dX4_point_49 : decode cX4_point 49 = .ok (.aload_n 0, 1) := by decide +kernel
theorem dX4_point_50 : decode cX4_point 50 = .ok (.getfield 13, 3) := by decide +kernel
theorem dX4_point_53 : decode cX4_point 53 = .ok (.aload_n 0, 1) := by decide +kernel
theorem dX4_point_54 : decode cX4_point 54 = .ok (.getfield 58, 3) := by decide +kernel
theorem dX4_point_57 : decode cX4_point 57 = .ok (.iload_n 1, 1) := by decide +kernel
theorem dX4_point_58 : decode cX4_point 58 = .ok (.iastore, 1) := by decide +kernel
theorem dX4_point_59 : decode cX4_point 59 = .ok (.aload_n 0, 1) := by decide +kernel
theorem dX4_point_60 : decode cX4_point 60 = .ok (.getfield 16, 3) := by decide +kernel
theorem dX4_point_63 : decode cX4_point 63 = .ok (.aload_n 0, 1) := by decide +kernel
theorem dX4_point_64 : decode cX4_point 64 = .ok (.getfield 58, 3) := by decide +kernel
theorem dX4_point_67 : decode cX4_point 67 = .ok (.iload_n 2, 1) := by decide +kernel
theorem dX4_point_68 : decode cX4_point 68 = .ok (.iastore, 1) := by decide +kernel
theorem dX4_point_69 : decode cX4_point 69 = .ok (.aload_n 0, 1) := by decide +kernel
theorem dX4_point_70 : decode cX4_point 70 = .ok (.getfield 19, 3) := by decide +kernel
theorem dX4_point_73 : decode cX4_point 73 = .ok (.aload_n 0, 1) := by decide +kernel
theorem dX4_point_74 : decode cX4_point 74 = .ok (.getfield 58, 3) := by decide +kernel
theorem dX4_point_77 : decode cX4_point 77 = .ok (.iconst 1, 1) := by decide +kernel
theorem dX4_point_78 : decode cX4_point 78 = .ok (.bastore, 1) := by decide +kernel
theorem dX4_point_79 : decode cX4_point 79 = .ok (.aload_n 0, 1) := by decide +kernel
theorem dX4_point_80 : decode cX4_point 80 = .ok (.dup, 1) := by decide +kernel
theorem dX4_point_81 : decode cX4_point 81 = .ok (.getfield 58, 3) := by decide +kernel
theorem dX4_point_84 : decode cX4_point 84 = .ok (.iconst 1, 1) := by decide +kernel
theorem dX4_point_85 : decode cX4_point 85 = .ok (.iadd, 1) := by decide +kernel
theorem dX4_point_86 : decode cX4_point 86 = .ok (.putfield 58, 3) := by decide +kernel
theorem dX4_point_89 : decode cX4_point 89 = .ok (.aload_n 0, 1) := by decide +kernel
theorem dX4_point_90 : decode cX4_point 90 = .ok (.invokevirtual 76, 3) := by decide +kernel
theorem dX4_point_93 : decode cX4_point 93 = .ok (.aload_n 0, 1) := by decide +kernel
theorem dX4_point_94 : decode cX4_point 94 = .ok (.getfield 58, 3) := by decide +kernel
theorem dX4_point_97 : decode cX4_point 97 = .ok (.iconst 1, 1) := by decide +kernel
theorem dX4_point_98 : decode cX4_point 98 = .ok (.isub, 1) := by decide +kernel
theorem dX4_point_99 : decode cX4_point 99 = .ok (.ireturn, 1) := by decide +kernel
theorem dX4_drop_0 : decode cX4_drop 0 = .ok (.aload_n 0, 1) := by decide +kernel
theorem dX4_drop_1 : decode cX4_drop 1 = .ok (.iload_n 1, 1) := by decide +kernel
theorem dX4_drop_2 : decode cX4_drop 2 = .ok (.invokevirtual 79, 3) := by decide +kernel
theorem dX4_drop_5 : decode cX4_drop 5 = .ok (.ifCond .ne 9, 3) := by decide +kernel
theorem dX4_drop_8 : decode cX4_drop 8 = .ok (.aload_n 0, 1) := by decide +kernel
theorem dX4_drop_9 : decode cX4_drop 9 = .ok (.iconst (-1), 1) := by decide +kernel
theorem dX4_drop_10 : decode cX4_drop 10 = .ok (.invokevirtual 54, 3) := by decide +kernel
theorem dX4_drop_13 : decode cX4_drop 13 = .ok (.ireturn, 1) := by decide +kernel
theorem dX4_drop_14 : decode cX4_drop 14 = .ok (.aload_n 0, 1) := by decide +kernel
theorem dX4_drop_15 : decode cX4_drop 15 = .ok (.getfield 19, 3) := by decide +kernel
theorem dX4_drop_18 : decode cX4_drop 18 = .ok (.iload_n 1, 1) := by decide +kernel
theorem dX4_drop_19 : decode cX4_drop 19 = .ok (.iconst 0, 1) := by decide +kernel
theorem dX4_drop_20 : decode cX4_drop 20 = .ok (.bastore, 1) := by decide +kernel
theorem dX4_drop_21 : decode cX4_drop 21 = .ok (.aload_n 0, 1) := by decide +kernel
theorem dX4_drop_22 : decode cX4_drop 22 = .ok (.invokevirtual 76, 3) := by decide +kernel
theorem dX4_drop_25 : decode cX4_drop 25 = .ok (.iconst 1, 1) := by decide +kernel
theorem dX4_drop_26 : decode cX4_drop 26 = .ok (.ireturn, 1) := by decide +kernel
theorem dX4_move_0 : decode cX4_move 0 = .ok (.aload_n 0, 1) := by decide +kernel
theorem dX4_move_1 : decode cX4_move 1 = .ok (.iload_n 1, 1) := by decide +kernel
theorem dX4_move_2 : decode cX4_move 2 = .ok (.invokevirtual 79, 3) := by decide +kernel
theorem dX4_move_5 : decode cX4_move 5 = .ok (.ifCond .ne 9, 3) := by decide +kernel
theorem dX4_move_8 : decode cX4_move 8 = .ok (.aload_n 0, 1) := by decide +kernel
theorem dX4_move_9 : decode cX4_move 9 = .ok (.iconst (-1), 1) := by decide +kernel
theorem dX4_move_10 : decode cX4_move 10 = .ok (.invokevirtual 54, 3) := by decide +kernel
theorem dX4_move_13 : decode cX4_move 13 = .ok (.ireturn, 1) := by decide +kernel
theorem dX4_move_14 : decode cX4_move 14 = .ok (.aload_n 0, 1) := by decide +kernel
theorem dX4_move_15 : decode cX4_move 15 = .ok (.iload_n 2, 1) := by decide +kernel
theorem dX4_move_16 : decode cX4_move 16 = .ok (.iload_n 3, 1) := by decide +kernel
theorem dX4_move_17 : decode cX4_move 17 = .ok (.invokevirtual 69, 3) := by decide +kernel
theorem dX4_move_20 : decode cX4_move 20 = .ok (.istore 4, 2) := by decide +kernel
theorem dX4_move_22 : decode cX4_move 22 = .ok (.iload 4, 2) := by decide +kernel
theorem dX4_move_24 : decode cX4_move 24 = .ok (.ifCond .eq 10, 3) := by decide +kernel
theorem dX4_move_27 : decode cX4_move 27 = .ok (.aload_n 0, 1) := by decide +kernel
theorem dX4_move_28 : decode cX4_move 28 = .ok (.iload 4, 2) := by decide +kernel
theorem dX4_move_30 : decode cX4_move 30 = .ok (.invokevirtual 54, 3) := by decide +kernel
theorem dX4_move_33 : decode cX4_move 33 = .ok (.ireturn, 1) := by decide +kernel
theorem dX4_move_34 : decode cX4_move 34 = .ok (.aload_n 0, 1) := by decide +kernel
theorem dX4_move_35 : decode cX4_move 35 = .ok (.iload_n 2, 1) := by decide +kernel
theorem dX4_move_36 : decode cX4_move 36 = .ok (.iload_n 3, 1) := by decide +kernel
theorem dX4_move_37 : decode cX4_move 37 = .ok (.invokevirtual 73, 3) := by decide +kernel
theorem dX4_move_40 : decode cX4_move 40 = .ok (.ifCond .lt 20, 3) := by decide +kernel
theorem dX4_move_43 : decode cX4_move 43 = .ok (.aload_n 0, 1) := by decide +kernel
theorem dX4_move_44 : decode cX4_move 44 = .ok (.iload_n 2, 1) := by decide +kernel
theorem dX4_move_45 : decode cX4_move 45 = .ok (.iload_n 3, 1) := by decide +kernel
theorem dX4_move_46 : decode cX4_move 46 = .ok (.invokevirtual 73, 3) := by decide +kernel
theorem dX4_move_49 : decode cX4_move 49 = .ok (.iload_n 1, 1) := by decide +kernel
theorem dX4_move_50 : decode cX4_move 50 = .ok (.if_icmp .eq 10, 3) := by decide +kernel
theorem dX4_move_53 : decode cX4_move 53 = .ok (.aload_n 0, 1) := by decide +kernel
theorem dX4_move_54 : decode cX4_move 54 = .ok (.bipush (-5), 2) := by decide +kernel
theorem dX4_move_56 : decode cX4_move 56 = .ok (.invokevirtual 54, 3) := by decide +kernel
theorem dX4_move_59 : decode cX4_move 59 = .ok (.ireturn, 1) := by decide +kernel
theorem dX4_move_60 : decode cX4_move 60 = .ok (.aload_n 0, 1) := by decide +kernel
theorem dX4_move_61 : decode cX4_move 61 = .ok (.getfield 13, 3) := by decide +kernel
theorem dX4_move_64 : decode cX4_move 64 = .ok (.iload_n 1, 1) := by decide +kernel
theorem dX4_move_65 : decode cX4_move 65 = .ok (.iload_n 2, 1) := by decide +kernel
theorem dX4_move_66 : decode cX4_move 66 = .ok (.iastore, 1) := by decide +kernel
theorem dX4_move_67 : decode cX4_move 67 = .ok (.aload_n 0, 1) := by decide +kernel
theorem dX4_move_68 : decode cX4_move 68 = .ok (.getfield 16, 3) := by decide +kernel
theorem dX4_move_71 : decode cX4_move 71 = .ok (.iload_n 1, 1) := by decide +kernel
theorem dX4_move_72 : decode cX4_move 72 = .ok (.iload_n 3, 1) := by decide +kernel
theorem dX4_move_73 : decode cX4_move 73 = .ok (.iastore, 1) := by decide +kernel
theorem dX4_move_74 : decode cX4_move 74 = .ok (.aload_n 0, 1) := by decide +kernel
theorem dX4_move_75 : decode cX4_move 75 = .ok (.invokevirtual 76, 3) := by decide +kernel
theorem dX4_move_78 : decode cX4_move 78 = .ok (.iconst 1, 1) := by decide +kernel
theorem dX4_move_79 : decode cX4_move 79 = .ok (.ireturn, 1) := by decide +kernel
theorem dX4_sign_0 : decode cX4_sign 0 = .ok (.lload_n 0, 1) := by decide +kernel
theorem dX4_sign_1 : decode cX4_sign 1 = .ok (.lconst 0, 1) := by decide +kernel
theorem dX4_sign_2 : decode cX4_sign 2 = .ok (.lcmp, 1) := by decide +kernel
theorem dX4_sign_3 : decode cX4_sign 3 = .ok (.ifCond .le 7, 3) := by decide +kernel
theorem dX4_sign_6 : decode cX4_sign 6 = .ok (.iconst 1, 1) := by decide +kernel
theorem dX4_sign_7 : decode cX4_sign 7 = .ok (.goto 14, 3) := by decide +kernel
theorem dX4_sign_10 : decode cX4_sign 10 = .ok (.lload_n 0, 1) := by decide +kernel
theorem dX4_sign_11 : decode cX4_sign 11 = .ok (.lconst 0, 1) := by decide +kernel
theorem dX4_sign_12 : decode cX4_sign 12 = .ok (.lcmp, 1) := by decide +kernel
theorem dX4_sign_13 : decode cX4_sign 13 = .ok (.ifCond .ge 7, 3) := by decide +kernel
theorem dX4_sign_16 : decode cX4_sign 16 = .ok (.iconst (-1), 1) := by decide +kernel
theorem dX4_sign_17 : decode cX4_sign 17 = .ok (.goto 4, 3) := by decide +kernel
theorem dX4_sign_20 : decode cX4_sign 20 = .ok (.iconst 0, 1) := by decide +kernel
theorem dX4_sign_21 : decode cX4_sign 21 = .ok (.ireturn, 1) := by decide +kernel
theorem dX4_turnOf_0 : decode cX4_turnOf 0 = .ok (.iload_n 2, 1) := by decide +kernel
theorem dX4_turnOf_1 : decode cX4_turnOf 1 = .ok (.iload_n 0, 1) := by decide +kernel
theorem dX4_turnOf_2 : decode cX4_turnOf 2 = .ok (.isub, 1) := by decide +kernel
theorem dX4_turnOf_3 : decode cX4_turnOf 3 = .ok (.i2l, 1) := by decide +kernel
theorem dX4_turnOf_4 : decode cX4_turnOf 4 = .ok (.iload 5, 2) := by decide +kernel
theorem dX4_turnOf_6 : decode cX4_turnOf 6 = .ok (.iload_n 1, 1) := by decide +kernel
theorem dX4_turnOf_7 : decode cX4_turnOf 7 = .ok (.isub, 1) := by decide +kernel
theorem dX4_turnOf_8 : decode cX4_turnOf 8 = .ok (.i2l, 1) := by decide +kernel
theorem dX4_turnOf_9 : decode cX4_turnOf 9 = .ok (.lmul, 1) := by decide +kernel
theorem dX4_turnOf_10 : decode cX4_turnOf 10 = .ok (.iload_n 3, 1) := by decide +kernel
theorem dX4_turnOf_11 : decode cX4_turnOf 11 = .ok (.iload_n 1, 1) := by decide +kernel
theorem dX4_turnOf_12 : decode cX4_turnOf 12 = .ok (.isub, 1) := by decide +kernel
theorem dX4_turnOf_13 : decode cX4_turnOf 13 = .ok (.i2l, 1) := by decide +kernel
theorem dX4_turnOf_14 : decode cX4_turnOf 14 = .ok (.iload 4, 2) := by decide +kernel
theorem dX4_turnOf_16 : decode cX4_turnOf 16 = .ok (.iload_n 0, 1) := by decide +kernel
theorem dX4_turnOf_17 : decode cX4_turnOf 17 = .ok (.isub, 1) := by decide +kernel
theorem dX4_turnOf_18 : decode cX4_turnOf 18 = .ok (.i2l, 1) := by decide +kernel
theorem dX4_turnOf_19 : decode cX4_turnOf 19 = .ok (.lmul, 1) := by decide +kernel
theorem dX4_turnOf_20 : decode cX4_turnOf 20 = .ok (.lsub, 1) := by decide +kernel
theorem dX4_turnOf_21 : decode cX4_turnOf 21 = .ok (.invokestatic 83, 3) := by decide +kernel
theorem dX4_turnOf_24 : decode cX4_turnOf 24 = .ok (.ireturn, 1) := by decide +kernel
theorem dX4_turns_0 : decode cX4_turns 0 = .ok (.aload_n 0, 1) := by decide +kernel
theorem dX4_turns_1 : decode cX4_turns 1 = .ok (.getfield 13, 3) := by decide +kernel
theorem dX4_turns_4 : decode cX4_turns 4 = .ok (.iload_n 1, 1) := by decide +kernel
theorem dX4_turns_5 : decode cX4_turns 5 = .ok (.iaload, 1) := by decide +kernel
theorem dX4_turns_6 : decode cX4_turns 6 = .ok (.aload_n 0, 1) := by decide +kernel
theorem dX4_turns_7 : decode cX4_turns 7 = .ok (.getfield 16, 3) := by decide +kernel
theorem dX4_turns_10 : decode cX4_turns 10 = .ok (.iload_n 1, 1) := by decide +kernel
theorem dX4_turns_11 : decode cX4_turns 11 = .ok (.iaload, 1) := by decide +kernel
theorem dX4_turns_12 : decode cX4_turns 12 = .ok (.aload_n 0, 1) := by decide +kernel
theorem dX4_turns_13 : decode cX4_turns 13 = .ok (.getfield 13, 3) := by decide +kernel
theorem dX4_turns_16 : decode cX4_turns 16 = .ok (.iload_n 2, 1) := by decide +kernel
theorem dX4_turns_17 : decode cX4_turns 17 = .ok (.iaload, 1) := by decide +kernel
theorem dX4_turns_18 : decode cX4_turns 18 = .ok (.aload_n 0, 1) := by decide +kernel
theorem dX4_turns_19 : decode cX4_turns 19 = .ok (.getfield 16, 3) := by decide +kernel
theorem dX4_turns_22 : decode cX4_turns 22 = .ok (.iload_n 2, 1) := by decide +kernel
theorem dX4_turns_23 : decode cX4_turns 23 = .ok (.iaload, 1) := by decide +kernel
theorem dX4_turns_24 : decode cX4_turns 24 = .ok (.aload_n 0, 1) := by decide +kernel
theorem dX4_turns_25 : decode cX4_turns 25 = .ok (.getfield 13, 3) := by decide +kernel
theorem dX4_turns_28 : decode cX4_turns 28 = .ok (.iload_n 3, 1) := by decide +kernel
theorem dX4_turns_29 : decode cX4_turns 29 = .ok (.iaload, 1) := by decide +kernel
theorem dX4_turns_30 : decode cX4_turns 30 = .ok (.aload_n 0, 1) := by decide +kernel
theorem dX4_turns_31 : decode cX4_turns 31 = .ok (.getfield 16, 3) := by decide +kernel
theorem dX4_turns_34 : decode cX4_turns 34 = .ok (.iload_n 3, 1) := by decide +kernel
theorem dX4_turns_35 : decode cX4_turns 35 = .ok (.iaload, 1) := by decide +kernel
theorem dX4_turns_36 : decode cX4_turns 36 = .ok (.invokestatic 87, 3) := by decide +kernel
theorem dX4_turns_39 : decode cX4_turns 39 = .ok (.ireturn, 1) := by decide +kernel
theorem dX4_within_0 : decode cX4_within 0 = .ok (.aload_n 0, 1) := by decide +kernel
theorem dX4_within_1 : decode cX4_within 1 = .ok (.getfield 13, 3) := by decide +kernel
theorem dX4_within_4 : decode cX4_within 4 = .ok (.iload_n 1, 1) := by decide +kernel
theorem dX4_within_5 : decode cX4_within 5 = .ok (.iaload, 1) := by decide +kernel
theorem dX4_within_6 : decode cX4_within 6 = .ok (.aload_n 0, 1) := by decide +kernel
theorem dX4_within_7 : decode cX4_within 7 = .ok (.getfield 13, 3) := by decide +kernel
theorem dX4_within_10 : decode cX4_within 10 = .ok (.iload 4, 2) := by decide +kernel
theorem dX4_within_12 : decode cX4_within 12 = .ok (.iaload, 1) := by decide +kernel
theorem dX4_within_13 : decode cX4_within 13 = .ok (.isub, 1) := by decide +kernel
theorem dX4_within_14 : decode cX4_within 14 = .ok (.i2l, 1) := by decide +kernel
theorem dX4_within_15 : decode cX4_within 15 = .ok (.lstore 5, 2) := by decide +kernel
theorem dX4_within_17 : decode cX4_within 17 = .ok (.aload_n 0, 1) := by decide +kernel
theorem dX4_within_18 : decode cX4_within 18 = .ok (.getfield 16, 3) := by decide +kernel
theorem dX4_within_21 : decode cX4_within 21 = .ok (.iload_n 1, 1) := by decide +kernel
theorem dX4_within_22 : decode cX4_within 22 = .ok (.iaload, 1) := by decide +kernel
theorem dX4_within_23 : decode cX4_within 23 = .ok (.aload_n 0, 1) := by decide +kernel
theorem dX4_within_24 : decode cX4_within 24 = .ok (.getfield 16, 3) := by decide +kernel
theorem dX4_within_27 : decode cX4_within 27 = .ok (.iload 4, 2) := by decide +kernel
theorem dX4_within_29 : decode cX4_within 29 = .ok (.iaload, 1) := by decide +kernel
theorem dX4_within_30 : decode cX4_within 30 = .ok (.isub, 1) := by decide +kernel
theorem dX4_within_31 : decode cX4_within 31 = .ok (.i2l, 1) := by decide +kernel
theorem dX4_within_32 : decode cX4_within 32 = .ok (.lstore 7, 2) := by decide +kernel
theorem dX4_within_34 : decode cX4_within 34 = .ok (.aload_n 0, 1) := by decide +kernel
theorem dX4_within_35 : decode cX4_within 35 = .ok (.getfield 13, 3) := by decide +kernel
theorem dX4_within_38 : decode cX4_within 38 = .ok (.iload_n 2, 1) := by decide +kernel
theorem dX4_within_39 : decode cX4_within 39 = .ok (.iaload, 1) := by decide +kernel
theorem dX4_within_40 : decode cX4_within 40 = .ok (.aload_n 0, 1) := by decide +kernel
theorem dX4_within_41 : decode cX4_within 41 = .ok (.getfield 13, 3) := by decide +kernel
theorem dX4_within_44 : decode cX4_within 44 = .ok (.iload 4, 2) := by decide +kernel
theorem dX4_within_46 : decode cX4_within 46 = .ok (.iaload, 1) := by decide +kernel
theorem dX4_within_47 : decode cX4_within 47 = .ok (.isub, 1) := by decide +kernel
theorem dX4_within_48 : decode cX4_within 48 = .ok (.i2l, 1) := by decide +kernel
theorem dX4_within_49 : decode cX4_within 49 = .ok (.lstore 9, 2) := by decide +kernel
theorem dX4_within_51 : decode cX4_within 51 = .ok (.aload_n 0, 1) := by decide +kernel
theorem dX4_within_52 : decode cX4_within 52 = .ok (.getfield 16, 3) := by decide +kernel
theorem dX4_within_55 : decode cX4_within 55 = .ok (.iload_n 2, 1) := by decide +kernel
theorem dX4_within_56 : decode cX4_within 56 = .ok (.iaload, 1) := by decide +kernel
theorem dX4_within_57 : decode cX4_within 57 = .ok (.aload_n 0, 1) := by decide +kernel
theorem dX4_within_58 : decode cX4_within 58 = .ok (.getfield 16, 3) := by decide +kernel
theorem dX4_within_61 : decode cX4_within 61 = .ok (.iload 4, 2) := by decide +kernel
theorem dX4_within_63 : decode cX4_within 63 = .ok (.iaload, 1) := by decide +kernel
theorem dX4_within_64 : decode cX4_within 64 = .ok (.isub, 1) := by decide +kernel
theorem dX4_within_65 : decode cX4_within 65 = .ok (.i2l, 1) := by decide +kernel
theorem dX4_within_66 : decode cX4_within 66 = .ok (.lstore 11, 2) := by decide +kernel
theorem dX4_within_68 : decode cX4_within 68 = .ok (.aload_n 0, 1) := by decide +kernel
theorem dX4_within_69 : decode cX4_within 69 = .ok (.getfield 13, 3) := by decide +kernel
theorem dX4_within_72 : decode cX4_within 72 = .ok (.iload_n 3, 1) := by decide +kernel
theorem dX4_within_73 : decode cX4_within 73 = .ok (.iaload, 1) := by decide +kernel
theorem dX4_within_74 : decode cX4_within 74 = .ok (.aload_n 0, 1) := by decide +kernel
theorem dX4_within_75 : decode cX4_within 75 = .ok (.getfield 13, 3) := by decide +kernel
theorem dX4_within_78 : decode cX4_within 78 = .ok (.iload 4, 2) := by decide +kernel
theorem dX4_within_80 : decode cX4_within 80 = .ok (.iaload, 1) := by decide +kernel
theorem dX4_within_81 : decode cX4_within 81 = .ok (.isub, 1) := by decide +kernel
theorem dX4_within_82 : decode cX4_within 82 = .ok (.i2l, 1) := by decide +kernel
theorem dX4_within_83 : decode cX4_within 83 = .ok (.lstore 13, 2) := by decide +kernel
theorem dX4_within_85 : decode cX4_within 85 = .ok (.aload_n 0, 1) := by decide +kernel
theorem dX4_within_86 : decode cX4_within 86 = .ok (.getfield 16, 3) := by decide +kernel
theorem dX4_within_89 : decode cX4_within 89 = .ok (.iload_n 3, 1) := by decide +kernel
theorem dX4_within_90 : decode cX4_within 90 = .ok (.iaload, 1) := by decide +kernel
theorem dX4_within_91 : decode cX4_within 91 = .ok (.aload_n 0, 1) := by decide +kernel
theorem dX4_within_92 : decode cX4_within 92 = .ok (.getfield 16, 3) := by decide +kernel
theorem dX4_within_95 : decode cX4_within 95 = .ok (.iload 4, 2) := by decide +kernel
theorem dX4_within_97 : decode cX4_within 97 = .ok (.iaload, 1) := by decide +kernel
theorem dX4_within_98 : decode cX4_within 98 = .ok (.isub, 1) := by decide +kernel
theorem dX4_within_99 : decode cX4_within 99 = .ok (.i2l, 1) := by decide +kernel
theorem dX4_within_100 : decode cX4_within 100 = .ok (.lstore 15, 2) := by decide +kernel
theorem dX4_within_102 : decode cX4_within 102 = .ok (.lload 5, 2) := by decide +kernel
theorem dX4_within_104 : decode cX4_within 104 = .ok (.lload 5, 2) := by decide +kernel
theorem dX4_within_106 : decode cX4_within 106 = .ok (.lmul, 1) := by decide +kernel
theorem dX4_within_107 : decode cX4_within 107 = .ok (.lload 7, 2) := by decide +kernel
theorem dX4_within_109 : decode cX4_within 109 = .ok (.lload 7, 2) := by decide +kernel
theorem dX4_within_111 : decode cX4_within 111 = .ok (.lmul, 1) := by decide +kernel
theorem dX4_within_112 : decode cX4_within 112 = .ok (.ladd, 1) := by decide +kernel
theorem dX4_within_113 : decode cX4_within 113 = .ok (.lload 9, 2) := by decide +kernel
theorem dX4_within_115 : decode cX4_within 115 = .ok (.lload 15, 2) := by decide +kernel
theorem dX4_within_117 : decode cX4_within 117 = .ok (.lmul, 1) := by decide +kernel
theorem dX4_within_118 : decode cX4_within 118 = .ok (.lload 13, 2) := by decide +kernel
theorem dX4_within_120 : decode cX4_within 120 = .ok (.lload 11, 2) := by decide +kernel
theorem dX4_within_122 : decode cX4_within 122 = .ok (.lmul, 1) := by decide +kernel
theorem dX4_within_123 : decode cX4_within 123 = .ok (.lsub, 1) := by decide +kernel
theorem dX4_within_124 : decode cX4_within 124 = .ok (.lmul, 1) := by decide +kernel
theorem dX4_within_125 : decode cX4_within 125 = .ok (.lload 9, 2) := by decide +kernel
theorem dX4_within_127 : decode cX4_within 127 = .ok (.lload 9, 2) := by decide +kernel
theorem dX4_within_129 : decode cX4_within 129 = .ok (.lmul, 1) := by decide +kernel
theorem dX4_within_130 : decode cX4_within 130 = .ok (.lload 11, 2) := by decide +kernel
theorem dX4_within_132 : decode cX4_within 132 = .ok (.lload 11, 2) := by decide +kernel
theorem dX4_within_134 : decode cX4_within 134 = .ok (.lmul, 1) := by decide +kernel
theorem dX4_within_135 : decode cX4_within 135 = .ok (.ladd, 1) := by decide +kernel
theorem dX4_within_136 : decode cX4_within 136 = .ok (.lload 5, 2) := by decide +kernel
theorem dX4_within_138 : decode cX4_within 138 = .ok (.lload 15, 2) := by decide +kernel
theorem dX4_within_140 : decode cX4_within 140 = .ok (.lmul, 1) := by decide +kernel
theorem dX4_within_141 : decode cX4_within 141 = .ok (.lload 13, 2) := by decide +kernel
theorem dX4_within_143 : decode cX4_within 143 = .ok (.lload 7, 2) := by decide +kernel
theorem dX4_within_145 : decode cX4_within 145 = .ok (.lmul, 1) := by decide +kernel
theorem dX4_within_146 : decode cX4_within 146 = .ok (.lsub, 1) := by decide +kernel
theorem dX4_within_147 : decode cX4_within 147 = .ok (.lmul, 1) := by decide +kernel
theorem dX4_within_148 : decode cX4_within 148 = .ok (.lsub, 1) := by decide +kernel
theorem dX4_within_149 : decode cX4_within 149 = .ok (.lload 13, 2) := by decide +kernel
theorem dX4_within_151 : decode cX4_within 151 = .ok (.lload 13, 2) := by decide +kernel
theorem dX4_within_153 : decode cX4_within 153 = .ok (.lmul, 1) := by decide +kernel
theorem dX4_within_154 : decode cX4_within 154 = .ok (.lload 15, 2) := by decide +kernel
theorem dX4_within_156 : decode cX4_within 156 = .ok (.lload 15, 2) := by decide +kernel
theorem dX4_within_158 : decode cX4_within 158 = .ok (.lmul, 1) := by decide +kernel
theorem dX4_within_159 : decode cX4_within 159 = .ok (.ladd, 1) := by decide +kernel
theorem dX4_within_160 : decode cX4_within 160 = .ok (.lload 5, 2) := by decide +kernel
theorem dX4_within_162 : decode cX4_within 162 = .ok (.lload 11, 2) := by decide +kernel
theorem dX4_within_164 : decode cX4_within 164 = .ok (.lmul, 1) := by decide +kernel
theorem dX4_within_165 : decode cX4_within 165 = .ok (.lload 9, 2) := by decide +kernel
theorem dX4_within_167 : decode cX4_within 167 = .ok (.lload 7, 2) := by decide +kernel
theorem dX4_within_169 : decode cX4_within 169 = .ok (.lmul, 1) := by decide +kernel
theorem dX4_within_170 : decode cX4_within 170 = .ok (.lsub, 1) := by decide +kernel
theorem dX4_within_171 : decode cX4_within 171 = .ok (.lmul, 1) := by decide +kernel
theorem dX4_within_172 : decode cX4_within 172 = .ok (.ladd, 1) := by decide +kernel
theorem dX4_within_173 : decode cX4_within 173 = .ok (.invokestatic 83, 3) := by decide +kernel
theorem dX4_within_176 : decode cX4_within 176 = .ok (.ireturn, 1) := by decide +kernel
theorem dX4_rounds_0 : decode cX4_rounds 0 = .ok (.aload_n 0, 1) := by decide +kernel
theorem dX4_rounds_1 : decode cX4_rounds 1 = .ok (.iload_n 1, 1) := by decide +kernel
theorem dX4_rounds_2 : decode cX4_rounds 2 = .ok (.iload_n 2, 1) := by decide +kernel
theorem dX4_rounds_3 : decode cX4_rounds 3 = .ok (.iload_n 3, 1) := by decide +kernel
theorem dX4_rounds_4 : decode cX4_rounds 4 = .ok (.iload 4, 2) := by decide +kernel
theorem dX4_rounds_6 : decode cX4_rounds 6 = .ok (.invokevirtual 91, 3) := by decide +kernel
theorem dX4_rounds_9 : decode cX4_rounds 9 = .ok (.aload_n 0, 1) := by decide +kernel
theorem dX4_rounds_10 : decode cX4_rounds 10 = .ok (.iload_n 1, 1) := by decide +kernel
theorem dX4_rounds_11 : decode cX4_rounds 11 = .ok (.iload_n 2, 1) := by decide +kernel
theorem dX4_rounds_12 : decode cX4_rounds 12 = .ok (.iload_n 3, 1) := by decide +kernel
theorem dX4_rounds_13 : decode cX4_rounds 13 = .ok (.invokevirtual 95, 3) := by decide +kernel
theorem dX4_rounds_16 : decode cX4_rounds 16 = .ok (.imul, 1) := by decide +kernel
theorem dX4_rounds_17 : decode cX4_rounds 17 = .ok (.ireturn, 1) := by decide +kernel
theorem dX4_turn_0 : decode cX4_turn 0 = .ok (.aload_n 0, 1) := by decide +kernel
theorem dX4_turn_1 : decode cX4_turn 1 = .ok (.iload_n 1, 1) := by decide +kernel
theorem dX4_turn_2 : decode cX4_turn 2 = .ok (.invokevirtual 79, 3) := by decide +kernel
theorem dX4_turn_5 : decode cX4_turn 5 = .ok (.ifCond .eq 29, 3) := by decide +kernel
theorem dX4_turn_8 : decode cX4_turn 8 = .ok (.aload_n 0, 1) := by decide +kernel
theorem dX4_turn_9 : decode cX4_turn 9 = .ok (.iload_n 2, 1) := by decide +kernel
theorem dX4_turn_10 : decode cX4_turn 10 = .ok (.invokevirtual 79, 3) := by decide +kernel
theorem dX4_turn_13 : decode cX4_turn 13 = .ok (.ifCond .eq 21, 3) := by decide +kernel
theorem dX4_turn_16 : decode cX4_turn 16 = .ok (.aload_n 0, 1) := by decide +kernel
theorem dX4_turn_17 : decode cX4_turn 17 = .ok (.iload_n 3, 1) := by decide +kernel
theorem dX4_turn_18 : decode cX4_turn 18 = .ok (.invokevirtual 79, 3) := by decide +kernel
theorem dX4_turn_21 : decode cX4_turn 21 = .ok (.ifCond .eq 13, 3) := by decide +kernel
theorem dX4_turn_24 : decode cX4_turn 24 = .ok (.aload_n 0, 1) := by decide +kernel
theorem dX4_turn_25 : decode cX4_turn 25 = .ok (.iload_n 1, 1) := by decide +kernel
theorem dX4_turn_26 : decode cX4_turn 26 = .ok (.iload_n 2, 1) := by decide +kernel
theorem dX4_turn_27 : decode cX4_turn 27 = .ok (.iload_n 3, 1) := by decide +kernel
theorem dX4_turn_28 : decode cX4_turn 28 = .ok (.invokevirtual 95, 3) := by decide +kernel
theorem dX4_turn_31 : decode cX4_turn 31 = .ok (.goto 8, 3) := by decide +kernel
theorem dX4_turn_34 : decode cX4_turn 34 = .ok (.aload_n 0, 1) := by decide +kernel
theorem dX4_turn_35 : decode cX4_turn 35 = .ok (.iconst (-1), 1) := by decide +kernel
theorem dX4_turn_36 : decode cX4_turn 36 = .ok (.invokevirtual 99, 3) := by decide +kernel
theorem dX4_turn_39 : decode cX4_turn 39 = .ok (.ireturn, 1) := by decide +kernel
theorem dX4_round_0 : decode cX4_round 0 = .ok (.aload_n 0, 1) := by decide +kernel
theorem dX4_round_1 : decode cX4_round 1 = .ok (.iload_n 1, 1) := by decide +kernel
theorem dX4_round_2 : decode cX4_round 2 = .ok (.invokevirtual 79, 3) := by decide +kernel
theorem dX4_round_5 : decode cX4_round 5 = .ok (.ifCond .eq 28, 3) := by decide +kernel
theorem dX4_round_8 : decode cX4_round 8 = .ok (.aload_n 0, 1) := by decide +kernel
theorem dX4_round_9 : decode cX4_round 9 = .ok (.iload_n 2, 1) := by decide +kernel
theorem dX4_round_10 : decode cX4_round 10 = .ok (.invokevirtual 79, 3) := by decide +kernel
theorem dX4_round_13 : decode cX4_round 13 = .ok (.ifCond .eq 20, 3) := by decide +kernel
theorem dX4_round_16 : decode cX4_round 16 = .ok (.aload_n 0, 1) := by decide +kernel
theorem dX4_round_17 : decode cX4_round 17 = .ok (.iload_n 3, 1) := by decide +kernel
theorem dX4_round_18 : decode cX4_round 18 = .ok (.invokevirtual 79, 3) := by decide +kernel
theorem dX4_round_21 : decode cX4_round 21 = .ok (.ifCond .eq 12, 3) := by decide +kernel
theorem dX4_round_24 : decode cX4_round 24 = .ok (.aload_n 0, 1) := by decide +kernel
theorem dX4_round_25 : decode cX4_round 25 = .ok (.iload 4, 2) := by decide +kernel
theorem dX4_round_27 : decode cX4_round 27 = .ok (.invokevirtual 79, 3) := by decide +kernel
theorem dX4_round_30 : decode cX4_round 30 = .ok (.ifCond .ne 9, 3) := by decide +kernel
theorem dX4_round_33 : decode cX4_round 33 = .ok (.aload_n 0, 1) := by decide +kernel
theorem dX4_round_34 : decode cX4_round 34 = .ok (.iconst (-1), 1) := by decide +kernel
theorem dX4_round_35 : decode cX4_round 35 = .ok (.invokevirtual 99, 3) := by decide +kernel
theorem dX4_round_38 : decode cX4_round 38 = .ok (.ireturn, 1) := by decide +kernel
theorem dX4_round_39 : decode cX4_round 39 = .ok (.aload_n 0, 1) := by decide +kernel
theorem dX4_round_40 : decode cX4_round 40 = .ok (.iload_n 1, 1) := by decide +kernel
theorem dX4_round_41 : decode cX4_round 41 = .ok (.iload_n 2, 1) := by decide +kernel
theorem dX4_round_42 : decode cX4_round 42 = .ok (.iload_n 3, 1) := by decide +kernel
theorem dX4_round_43 : decode cX4_round 43 = .ok (.invokevirtual 95, 3) := by decide +kernel
theorem dX4_round_46 : decode cX4_round 46 = .ok (.ifCond .ne 12, 3) := by decide +kernel
theorem dX4_round_49 : decode cX4_round 49 = .ok (.aload_n 0, 1) := by decide +kernel
theorem dX4_round_50 : decode cX4_round 50 = .ok (.bipush (-3), 2) := by decide +kernel
theorem dX4_round_52 : decode cX4_round 52 = .ok (.invokevirtual 99, 3) := by decide +kernel
theorem dX4_round_55 : decode cX4_round 55 = .ok (.goto 12, 3) := by decide +kernel
theorem dX4_round_58 : decode cX4_round 58 = .ok (.aload_n 0, 1) := by decide +kernel
theorem dX4_round_59 : decode cX4_round 59 = .ok (.iload_n 1, 1) := by decide +kernel
theorem dX4_round_60 : decode cX4_round 60 = .ok (.iload_n 2, 1) := by decide +kernel
theorem dX4_round_61 : decode cX4_round 61 = .ok (.iload_n 3, 1) := by decide +kernel
theorem dX4_round_62 : decode cX4_round 62 = .ok (.iload 4, 2) := by decide +kernel
theorem dX4_round_64 : decode cX4_round 64 = .ok (.invokevirtual 102, 3) := by decide +kernel
theorem dX4_round_67 : decode cX4_round 67 = .ok (.ireturn, 1) := by decide +kernel
theorem dX4_here_0 : decode cX4_here 0 = .ok (.iconst 0, 1) := by decide +kernel
theorem dX4_here_1 : decode cX4_here 1 = .ok (.istore_n 1, 1) := by decide +kernel
theorem dX4_here_2 : decode cX4_here 2 = .ok (.iconst 0, 1) := by decide +kernel
theorem dX4_here_3 : decode cX4_here 3 = .ok (.istore_n 2, 1) := by decide +kernel
theorem dX4_here_4 : decode cX4_here 4 = .ok (.iload_n 2, 1) := by decide +kernel
theorem dX4_here_5 : decode cX4_here 5 = .ok (.aload_n 0, 1) := by decide +kernel
theorem dX4_here_6 : decode cX4_here 6 = .ok (.getfield 58, 3) := by decide +kernel
theorem dX4_here_9 : decode cX4_here 9 = .ok (.if_icmp .ge 26, 3) := by decide +kernel
theorem dX4_here_12 : decode cX4_here 12 = .ok (.iload_n 1, 1) := by decide +kernel
theorem dX4_here_13 : decode cX4_here 13 = .ok (.aload_n 0, 1) := by decide +kernel
theorem dX4_here_14 : decode cX4_here 14 = .ok (.getfield 19, 3) := by decide +kernel
theorem dX4_here_17 : decode cX4_here 17 = .ok (.iload_n 2, 1) := by decide +kernel
theorem dX4_here_18 : decode cX4_here 18 = .ok (.baload, 1) := by decide +kernel
theorem dX4_here_19 : decode cX4_here 19 = .ok (.ifCond .eq 7, 3) := by decide +kernel
theorem dX4_here_22 : decode cX4_here 22 = .ok (.iconst 1, 1) := by decide +kernel
theorem dX4_here_23 : decode cX4_here 23 = .ok (.goto 4, 3) := by decide +kernel
theorem dX4_here_26 : decode cX4_here 26 = .ok (.iconst 0, 1) := by decide +kernel
theorem dX4_here_27 : decode cX4_here 27 = .ok (.iadd, 1) := by decide +kernel
theorem dX4_here_28 : decode cX4_here 28 = .ok (.istore_n 1, 1) := by decide +kernel
theorem dX4_here_29 : decode cX4_here 29 = .ok (.iinc 2 1, 3) := by decide +kernel
theorem dX4_here_32 : decode cX4_here 32 = .ok (.goto (-28), 3) := by decide +kernel
theorem dX4_here_35 : decode cX4_here 35 = .ok (.iload_n 1, 1) := by decide +kernel
theorem dX4_here_36 : decode cX4_here 36 = .ok (.ireturn, 1) := by decide +kernel
theorem dX4_isAhead_0 : decode cX4_isAhead 0 = .ok (.aload_n 0, 1) := by decide +kernel
theorem dX4_isAhead_1 : decode cX4_isAhead 1 = .ok (.getfield 13, 3) := by decide +kernel
theorem dX4_isAhead_4 : decode cX4_isAhead 4 = .ok (.iload_n 1, 1) := by decide +kernel
theorem dX4_isAhead_5 : decode cX4_isAhead 5 = .ok (.iaload, 1) := by decide +kernel
theorem dX4_isAhead_6 : decode cX4_isAhead 6 = .ok (.aload_n 0, 1) := by decide +kernel
theorem dX4_isAhead_7 : decode cX4_isAhead 7 = .ok (.getfield 13, 3) := by decide +kernel
theorem dX4_isAhead_10 : decode cX4_isAhead 10 = .ok (.iload_n 2, 1) := by decide +kernel
theorem dX4_isAhead_11 : decode cX4_isAhead 11 = .ok (.iaload, 1) := by decide +kernel
theorem dX4_isAhead_12 : decode cX4_isAhead 12 = .ok (.if_icmp .eq 26, 3) := by decide +kernel
theorem dX4_isAhead_15 : decode cX4_isAhead 15 = .ok (.aload_n 0, 1) := by decide +kernel
theorem dX4_isAhead_16 : decode cX4_isAhead 16 = .ok (.getfield 13, 3) := by decide +kernel
theorem dX4_isAhead_19 : decode cX4_isAhead 19 = .ok (.iload_n 1, 1) := by decide +kernel
theorem dX4_isAhead_20 : decode cX4_isAhead 20 = .ok (.iaload, 1) := by decide +kernel
theorem dX4_isAhead_21 : decode cX4_isAhead 21 = .ok (.aload_n 0, 1) := by decide +kernel
theorem dX4_isAhead_22 : decode cX4_isAhead 22 = .ok (.getfield 13, 3) := by decide +kernel
theorem dX4_isAhead_25 : decode cX4_isAhead 25 = .ok (.iload_n 2, 1) := by decide +kernel
theorem dX4_isAhead_26 : decode cX4_isAhead 26 = .ok (.iaload, 1) := by decide +kernel
theorem dX4_isAhead_27 : decode cX4_isAhead 27 = .ok (.if_icmp .ge 7, 3) := by decide +kernel
theorem dX4_isAhead_30 : decode cX4_isAhead 30 = .ok (.iconst 1, 1) := by decide +kernel
theorem dX4_isAhead_31 : decode cX4_isAhead 31 = .ok (.goto 27, 3) := by decide +kernel
theorem dX4_isAhead_34 : decode cX4_isAhead 34 = .ok (.iconst 0, 1) := by decide +kernel
theorem dX4_isAhead_35 : decode cX4_isAhead 35 = .ok (.goto 23, 3) := by decide +kernel
theorem dX4_isAhead_38 : decode cX4_isAhead 38 = .ok (.aload_n 0, 1) := by decide +kernel
theorem dX4_isAhead_39 : decode cX4_isAhead 39 = .ok (.getfield 16, 3) := by decide +kernel
theorem dX4_isAhead_42 : decode cX4_isAhead 42 = .ok (.iload_n 1, 1) := by decide +kernel
theorem dX4_isAhead_43 : decode cX4_isAhead 43 = .ok (.iaload, 1) := by decide +kernel
theorem dX4_isAhead_44 : decode cX4_isAhead 44 = .ok (.aload_n 0, 1) := by decide +kernel
theorem dX4_isAhead_45 : decode cX4_isAhead 45 = .ok (.getfield 16, 3) := by decide +kernel
theorem dX4_isAhead_48 : decode cX4_isAhead 48 = .ok (.iload_n 2, 1) := by decide +kernel
theorem dX4_isAhead_49 : decode cX4_isAhead 49 = .ok (.iaload, 1) := by decide +kernel
theorem dX4_isAhead_50 : decode cX4_isAhead 50 = .ok (.if_icmp .ge 7, 3) := by decide +kernel
theorem dX4_isAhead_53 : decode cX4_isAhead 53 = .ok (.iconst 1, 1) := by decide +kernel
theorem dX4_isAhead_54 : decode cX4_isAhead 54 = .ok (.goto 4, 3) := by decide +kernel
theorem dX4_isAhead_57 : decode cX4_isAhead 57 = .ok (.iconst 0, 1) := by decide +kernel
theorem dX4_isAhead_58 : decode cX4_isAhead 58 = .ok (.ireturn, 1) := by decide +kernel
theorem dX4_areFlat_0 : decode cX4_areFlat 0 = .ok (.iconst 0, 1) := by decide +kernel
theorem dX4_areFlat_1 : decode cX4_areFlat 1 = .ok (.istore_n 1, 1) := by decide +kernel
theorem dX4_areFlat_2 : decode cX4_areFlat 2 = .ok (.iload_n 1, 1) := by decide +kernel
theorem dX4_areFlat_3 : decode cX4_areFlat 3 = .ok (.aload_n 0, 1) := by decide +kernel
theorem dX4_areFlat_4 : decode cX4_areFlat 4 = .ok (.getfield 58, 3) := by decide +kernel
theorem dX4_areFlat_7 : decode cX4_areFlat 7 = .ok (.if_icmp .ge 84, 3) := by decide +kernel
theorem dX4_areFlat_10 : decode cX4_areFlat 10 = .ok (.iload_n 1, 1) := by decide +kernel
theorem dX4_areFlat_11 : decode cX4_areFlat 11 = .ok (.iconst 1, 1) := by decide +kernel
theorem dX4_areFlat_12 : decode cX4_areFlat 12 = .ok (.iadd, 1) := by decide +kernel
theorem dX4_areFlat_13 : decode cX4_areFlat 13 = .ok (.istore_n 2, 1) := by decide +kernel
theorem dX4_areFlat_14 : decode cX4_areFlat 14 = .ok (.iload_n 2, 1) := by decide +kernel
theorem dX4_areFlat_15 : decode cX4_areFlat 15 = .ok (.aload_n 0, 1) := by decide +kernel
theorem dX4_areFlat_16 : decode cX4_areFlat 16 = .ok (.getfield 58, 3) := by decide +kernel
theorem dX4_areFlat_19 : decode cX4_areFlat 19 = .ok (.if_icmp .ge 66, 3) := by decide +kernel
theorem dX4_areFlat_22 : decode cX4_areFlat 22 = .ok (.iload_n 2, 1) := by decide +kernel
theorem dX4_areFlat_23 : decode cX4_areFlat 23 = .ok (.iconst 1, 1) := by decide +kernel
theorem dX4_areFlat_24 : decode cX4_areFlat 24 = .ok (.iadd, 1) := by decide +kernel
theorem dX4_areFlat_25 : decode cX4_areFlat 25 = .ok (.istore_n 3, 1) := by decide +kernel
theorem dX4_areFlat_26 : decode cX4_areFlat 26 = .ok (.iload_n 3, 1) := by decide +kernel
theorem dX4_areFlat_27 : decode cX4_areFlat 27 = .ok (.aload_n 0, 1) := by decide +kernel
theorem dX4_areFlat_28 : decode cX4_areFlat 28 = .ok (.getfield 58, 3) := by decide +kernel
theorem dX4_areFlat_31 : decode cX4_areFlat 31 = .ok (.if_icmp .ge 48, 3) := by decide +kernel
theorem dX4_areFlat_34 : decode cX4_areFlat 34 = .ok (.aload_n 0, 1) := by decide +kernel
theorem dX4_areFlat_35 : decode cX4_areFlat 35 = .ok (.getfield 19, 3) := by decide +kernel
theorem dX4_areFlat_38 : decode cX4_areFlat 38 = .ok (.iload_n 1, 1) := by decide +kernel
theorem dX4_areFlat_39 : decode cX4_areFlat 39 = .ok (.baload, 1) := by decide +kernel
theorem dX4_areFlat_40 : decode cX4_areFlat 40 = .ok (.ifCond .eq 33, 3) := by decide +kernel
theorem dX4_areFlat_43 : decode cX4_areFlat 43 = .ok (.aload_n 0, 1) := by decide +kernel
theorem dX4_areFlat_44 : decode cX4_areFlat 44 = .ok (.getfield 19, 3) := by decide +kernel
theorem dX4_areFlat_47 : decode cX4_areFlat 47 = .ok (.iload_n 2, 1) := by decide +kernel
theorem dX4_areFlat_48 : decode cX4_areFlat 48 = .ok (.baload, 1) := by decide +kernel
theorem dX4_areFlat_49 : decode cX4_areFlat 49 = .ok (.ifCond .eq 24, 3) := by decide +kernel
theorem dX4_areFlat_52 : decode cX4_areFlat 52 = .ok (.aload_n 0, 1) := by decide +kernel
theorem dX4_areFlat_53 : decode cX4_areFlat 53 = .ok (.getfield 19, 3) := by decide +kernel
theorem dX4_areFlat_56 : decode cX4_areFlat 56 = .ok (.iload_n 3, 1) := by decide +kernel
theorem dX4_areFlat_57 : decode cX4_areFlat 57 = .ok (.baload, 1) := by decide +kernel
theorem dX4_areFlat_58 : decode cX4_areFlat 58 = .ok (.ifCond .eq 15, 3) := by decide +kernel
theorem dX4_areFlat_61 : decode cX4_areFlat 61 = .ok (.aload_n 0, 1) := by decide +kernel
theorem dX4_areFlat_62 : decode cX4_areFlat 62 = .ok (.iload_n 1, 1) := by decide +kernel
theorem dX4_areFlat_63 : decode cX4_areFlat 63 = .ok (.iload_n 2, 1) := by decide +kernel
theorem dX4_areFlat_64 : decode cX4_areFlat 64 = .ok (.iload_n 3, 1) := by decide +kernel
theorem dX4_areFlat_65 : decode cX4_areFlat 65 = .ok (.invokevirtual 95, 3) := by decide +kernel
theorem dX4_areFlat_68 : decode cX4_areFlat 68 = .ok (.ifCond .eq 5, 3) := by decide +kernel
theorem dX4_areFlat_71 : decode cX4_areFlat 71 = .ok (.iconst 0, 1) := by decide +kernel
theorem dX4_areFlat_72 : decode cX4_areFlat 72 = .ok (.ireturn, 1) := by decide +kernel
theorem dX4_areFlat_73 : decode cX4_areFlat 73 = .ok (.iinc 3 1, 3) := by decide +kernel
theorem dX4_areFlat_76 : decode cX4_areFlat 76 = .ok (.goto (-50), 3) := by decide +kernel
theorem dX4_areFlat_79 : decode cX4_areFlat 79 = .ok (.iinc 2 1, 3) := by decide +kernel
theorem dX4_areFlat_82 : decode cX4_areFlat 82 = .ok (.goto (-68), 3) := by decide +kernel
theorem dX4_areFlat_85 : decode cX4_areFlat 85 = .ok (.iinc 1 1, 3) := by decide +kernel
theorem dX4_areFlat_88 : decode cX4_areFlat 88 = .ok (.goto (-86), 3) := by decide +kernel
theorem dX4_areFlat_91 : decode cX4_areFlat 91 = .ok (.iconst 1, 1) := by decide +kernel
theorem dX4_areFlat_92 : decode cX4_areFlat 92 = .ok (.ireturn, 1) := by decide +kernel
theorem dX4_know_0 : decode cX4_know 0 = .ok (.aload_n 0, 1) := by decide +kernel
theorem dX4_know_1 : decode cX4_know 1 = .ok (.getfield 62, 3) := by decide +kernel
theorem dX4_know_4 : decode cX4_know 4 = .ok (.ifCond .eq 4, 3) := by decide +kernel
theorem dX4_know_7 : decode cX4_know 7 = .ok (.return_, 1) := by decide +kernel
theorem dX4_know_8 : decode cX4_know 8 = .ok (.aload_n 0, 1) := by decide +kernel
theorem dX4_know_9 : decode cX4_know 9 = .ok (.iconst 1, 1) := by decide +kernel
theorem dX4_know_10 : decode cX4_know 10 = .ok (.putfield 62, 3) := by decide +kernel
theorem dX4_know_13 : decode cX4_know 13 = .ok (.aload_n 0, 1) := by decide +kernel
theorem dX4_know_14 : decode cX4_know 14 = .ok (.aload_n 0, 1) := by decide +kernel
theorem dX4_know_15 : decode cX4_know 15 = .ok (.invokevirtual 105, 3) := by decide +kernel
theorem dX4_know_18 : decode cX4_know 18 = .ok (.putfield 109, 3) := by decide +kernel
theorem dX4_know_21 : decode cX4_know 21 = .ok (.aload_n 0, 1) := by decide +kernel
theorem dX4_know_22 : decode cX4_know 22 = .ok (.invokevirtual 112, 3) := by decide +kernel
theorem dX4_know_25 : decode cX4_know 25 = .ok (.aload_n 0, 1) := by decide +kernel
theorem dX4_know_26 : decode cX4_know 26 = .ok (.iconst 0, 1) := by decide +kernel
theorem dX4_know_27 : decode cX4_know 27 = .ok (.putfield 115, 3) := by decide +kernel
theorem dX4_know_30 : decode cX4_know 30 = .ok (.aload_n 0, 1) := by decide +kernel
theorem dX4_know_31 : decode cX4_know 31 = .ok (.getfield 109, 3) := by decide +kernel
theorem dX4_know_34 : decode cX4_know 34 = .ok (.ifCond .ne 7, 3) := by decide +kernel
theorem dX4_know_37 : decode cX4_know 37 = .ok (.aload_n 0, 1) := by decide +kernel
theorem dX4_know_38 : decode cX4_know 38 = .ok (.invokevirtual 118, 3) := by decide +kernel
theorem dX4_know_41 : decode cX4_know 41 = .ok (.return_, 1) := by decide +kernel
theorem dX4_findHull_0 : decode cX4_findHull 0 = .ok (.aload_n 0, 1) := by decide +kernel
theorem dX4_findHull_1 : decode cX4_findHull 1 = .ok (.iconst 0, 1) := by decide +kernel
theorem dX4_findHull_2 : decode cX4_findHull 2 = .ok (.putfield 121, 3) := by decide +kernel
theorem dX4_findHull_5 : decode cX4_findHull 5 = .ok (.iconst (-1), 1) := by decide +kernel
theorem dX4_findHull_6 : decode cX4_findHull 6 = .ok (.istore_n 1, 1) := by decide +kernel
theorem dX4_findHull_7 : decode cX4_findHull 7 = .ok (.iconst (-1), 1) := by decide +kernel
theorem dX4_findHull_8 : decode cX4_findHull 8 = .ok (.istore_n 2, 1) := by decide +kernel
theorem dX4_findHull_9 : decode cX4_findHull 9 = .ok (.iconst 0, 1) := by decide +kernel
theorem dX4_findHull_10 : decode cX4_findHull 10 = .ok (.istore_n 3, 1) := by decide +kernel
theorem dX4_findHull_11 : decode cX4_findHull 11 = .ok (.iload_n 3, 1) := by decide +kernel
theorem dX4_findHull_12 : decode cX4_findHull 12 = .ok (.aload_n 0, 1) := by decide +kernel
theorem dX4_findHull_13 : decode cX4_findHull 13 = .ok (.getfield 58, 3) := by decide +kernel
theorem dX4_findHull_16 : decode cX4_findHull 16 = .ok (.if_icmp .ge 51, 3) := by decide +kernel
theorem dX4_findHull_19 : decode cX4_findHull 19 = .ok (.aload_n 0, 1) := by decide +kernel
theorem dX4_findHull_20 : decode cX4_findHull 20 = .ok (.getfield 19, 3) := by decide +kernel
theorem dX4_findHull_23 : decode cX4_findHull 23 = .ok (.iload_n 3, 1) := by decide +kernel
theorem dX4_findHull_24 : decode cX4_findHull 24 = .ok (.baload, 1) := by decide +kernel
theorem dX4_findHull_25 : decode cX4_findHull 25 = .ok (.ifCond .ne 6, 3) := by decide +kernel
theorem dX4_findHull_28 : decode cX4_findHull 28 = .ok (.goto 33, 3) := by decide +kernel
theorem dX4_findHull_31 : decode cX4_findHull 31 = .ok (.iload_n 1, 1) := by decide +kernel
theorem dX4_findHull_32 : decode cX4_findHull 32 = .ok (.ifCond .lt 12, 3) := by decide +kernel
theorem dX4_findHull_35 : decode cX4_findHull 35 = .ok (.aload_n 0, 1) := by decide +kernel
theorem dX4_findHull_36 : decode cX4_findHull 36 = .ok (.iload_n 3, 1) := by decide +kernel
theorem dX4_findHull_37 : decode cX4_findHull 37 = .ok (.iload_n 1, 1) := by decide +kernel
theorem dX4_findHull_38 : decode cX4_findHull 38 = .ok (.invokevirtual 124, 3) := by decide +kernel
theorem dX4_findHull_41 : decode cX4_findHull 41 = .ok (.ifCond .eq 5, 3) := by decide +kernel
theorem dX4_findHull_44 : decode cX4_findHull 44 = .ok (.iload_n 3, 1) := by decide +kernel
theorem dX4_findHull_45 : decode cX4_findHull 45 = .ok (.istore_n 1, 1) := by decide +kernel
theorem dX4_findHull_46 : decode cX4_findHull 46 = .ok (.iload_n 2, 1) := by decide +kernel
theorem dX4_findHull_47 : decode cX4_findHull 47 = .ok (.ifCond .lt 12, 3) := by decide +kernel
theorem dX4_findHull_50 : decode cX4_findHull 50 = .ok (.aload_n 0, 1) := by decide +kernel
theorem dX4_findHull_51 : decode cX4_findHull 51 = .ok (.iload_n 2, 1) := by decide +kernel
theorem dX4_findHull_52 : decode cX4_findHull 52 = .ok (.iload_n 3, 1) := by decide +kernel
theorem dX4_findHull_53 : decode cX4_findHull 53 = .ok (.invokevirtual 124, 3) := by decide +kernel
theorem dX4_findHull_56 : decode cX4_findHull 56 = .ok (.ifCond .eq 5, 3) := by decide +kernel
theorem dX4_findHull_59 : decode cX4_findHull 59 = .ok (.iload_n 3, 1) := by decide +kernel
theorem dX4_findHull_60 : decode cX4_findHull 60 = .ok (.istore_n 2, 1) := by decide +kernel
theorem dX4_findHull_61 : decode cX4_findHull 61 = .ok (.iinc 3 1, 3) := by decide +kernel
theorem dX4_findHull_64 : decode cX4_findHull 64 = .ok (.goto (-53), 3) := by decide +kernel
theorem dX4_findHull_67 : decode cX4_findHull 67 = .ok (.iload_n 1, 1) := by decide +kernel
theorem dX4_findHull_68 : decode cX4_findHull 68 = .ok (.ifCond .ge 4, 3) := by decide +kernel
theorem dX4_findHull_71 : decode cX4_findHull 71 = .ok (.return_, 1) := by decide +kernel
theorem dX4_findHull_72 : decode cX4_findHull 72 = .ok (.aload_n 0, 1) := by decide +kernel
theorem dX4_findHull_73 : decode cX4_findHull 73 = .ok (.getfield 23, 3) := by decide +kernel
theorem dX4_findHull_76 : decode cX4_findHull 76 = .ok (.iconst 0, 1) := by decide +kernel
theorem dX4_findHull_77 : decode cX4_findHull 77 = .ok (.iload_n 1, 1) := by decide +kernel
theorem dX4_findHull_78 : decode cX4_findHull 78 = .ok (.iastore, 1) := by decide +kernel
theorem dX4_findHull_79 : decode cX4_findHull 79 = .ok (.aload_n 0, 1) := by decide +kernel
theorem dX4_findHull_80 : decode cX4_findHull 80 = .ok (.iconst 1, 1) := by decide +kernel
theorem dX4_findHull_81 : decode cX4_findHull 81 = .ok (.putfield 121, 3) := by decide +kernel
theorem dX4_findHull_84 : decode cX4_findHull 84 = .ok (.aload_n 0, 1) := by decide +kernel
theorem dX4_findHull_85 : decode cX4_findHull 85 = .ok (.getfield 109, 3) := by decide +kernel
theorem dX4_findHull_88 : decode cX4_findHull 88 = .ok (.ifCond .eq 25, 3) := by decide +kernel
theorem dX4_findHull_91 : decode cX4_findHull 91 = .ok (.aload_n 0, 1) := by decide +kernel
theorem dX4_findHull_92 : decode cX4_findHull 92 = .ok (.getfield 23, 3) := by decide +kernel
theorem dX4_findHull_95 : decode cX4_findHull 95 = .ok (.iconst 1, 1) := by decide +kernel
theorem dX4_findHull_96 : decode cX4_findHull 96 = .ok (.iload_n 2, 1) := by decide +kernel
theorem dX4_findHull_97 : decode cX4_findHull 97 = .ok (.iastore, 1) := by decide +kernel
theorem dX4_findHull_98 : decode cX4_findHull 98 = .ok (.aload_n 0, 1) := by decide +kernel
theorem dX4_findHull_99 : decode cX4_findHull 99 = .ok (.iload_n 1, 1) := by decide +kernel
theorem dX4_findHull_100 : decode cX4_findHull 100 = .ok (.iload_n 2, 1) := by decide +kernel
theorem dX4_findHull_101 : decode cX4_findHull 101 = .ok (.if_icmp .ne 7, 3) := by decide +kernel
theorem dX4_findHull_104 : decode cX4_findHull 104 = .ok (.iconst 1, 1) := by decide +kernel
theorem dX4_findHull_105 : decode cX4_findHull 105 = .ok (.goto 4, 3) := by decide +kernel
theorem dX4_findHull_108 : decode cX4_findHull 108 = .ok (.iconst 2, 1) := by decide +kernel
theorem dX4_findHull_109 : decode cX4_findHull 109 = .ok (.putfield 121, 3) := by decide +kernel
theorem dX4_findHull_112 : decode cX4_findHull 112 = .ok (.return_, 1) := by decide +kernel
theorem dX4_findHull_113 : decode cX4_findHull 113 = .ok (.aload_n 0, 1) := by decide +kernel
theorem dX4_findHull_114 : decode cX4_findHull 114 = .ok (.iload_n 1, 1) := by decide +kernel
theorem dX4_findHull_115 : decode cX4_findHull 115 = .ok (.invokevirtual 128, 3) := by decide +kernel
theorem dX4_findHull_118 : decode cX4_findHull 118 = .ok (.istore_n 3, 1) := by decide +kernel
theorem dX4_findHull_119 : decode cX4_findHull 119 = .ok (.iload_n 3, 1) := by decide +kernel
theorem dX4_findHull_120 : decode cX4_findHull 120 = .ok (.iload_n 1, 1) := by decide +kernel
theorem dX4_findHull_121 : decode cX4_findHull 121 = .ok (.if_icmp .eq 32, 3) := by decide +kernel
theorem dX4_findHull_124 : decode cX4_findHull 124 = .ok (.aload_n 0, 1) := by decide +kernel
theorem dX4_findHull_125 : decode cX4_findHull 125 = .ok (.getfield 23, 3) := by decide +kernel
theorem dX4_findHull_128 : decode cX4_findHull 128 = .ok (.aload_n 0, 1) := by decide +kernel
theorem dX4_findHull_129 : decode cX4_findHull 129 = .ok (.getfield 121, 3) := by decide +kernel
theorem dX4_findHull_132 : decode cX4_findHull 132 = .ok (.iload_n 3, 1) := by decide +kernel
theorem dX4_findHull_133 : decode cX4_findHull 133 = .ok (.iastore, 1) := by decide +kernel
theorem dX4_findHull_134 : decode cX4_findHull 134 = .ok (.aload_n 0, 1) := by decide +kernel
theorem dX4_findHull_135 : decode cX4_findHull 135 = .ok (.dup, 1) := by decide +kernel
theorem dX4_findHull_136 : decode cX4_findHull 136 = .ok (.getfield 121, 3) := by decide +kernel
theorem dX4_findHull_139 : decode cX4_findHull 139 = .ok (.iconst 1, 1) := by decide +kernel
theorem dX4_findHull_140 : decode cX4_findHull 140 = .ok (.iadd, 1) := by decide +kernel
theorem dX4_findHull_141 : decode cX4_findHull 141 = .ok (.putfield 121, 3) := by decide +kernel
theorem dX4_findHull_144 : decode cX4_findHull 144 = .ok (.aload_n 0, 1) := by decide +kernel
theorem dX4_findHull_145 : decode cX4_findHull 145 = .ok (.iload_n 3, 1) := by decide +kernel
theorem dX4_findHull_146 : decode cX4_findHull 146 = .ok (.invokevirtual 128, 3) := by decide +kernel
theorem dX4_findHull_149 : decode cX4_findHull 149 = .ok (.istore_n 3, 1) := by decide +kernel
theorem dX4_findHull_150 : decode cX4_findHull 150 = .ok (.goto (-31), 3) := by decide +kernel
theorem dX4_findHull_153 : decode cX4_findHull 153 = .ok (.return_, 1) := by decide +kernel
theorem dX4_nextCorner_0 : decode cX4_nextCorner 0 = .ok (.iconst (-1), 1) := by decide +kernel
theorem dX4_nextCorner_1 : decode cX4_nextCorner 1 = .ok (.istore_n 2, 1) := by decide +kernel
theorem dX4_nextCorner_2 : decode cX4_nextCorner 2 = .ok (.iconst 0, 1) := by decide +kernel
theorem dX4_nextCorner_3 : decode cX4_nextCorner 3 = .ok (.istore_n 3, 1) := by decide +kernel
theorem dX4_nextCorner_4 : decode cX4_nextCorner 4 = .ok (.iload_n 3, 1) := by decide +kernel
theorem dX4_nextCorner_5 : decode cX4_nextCorner 5 = .ok (.aload_n 0, 1) := by decide +kernel
theorem dX4_nextCorner_6 : decode cX4_nextCorner 6 = .ok (.getfield 58, 3) := by decide +kernel
theorem dX4_nextCorner_9 : decode cX4_nextCorner 9 = .ok (.if_icmp .ge 75, 3) := by decide +kernel
theorem dX4_nextCorner_12 : decode cX4_nextCorner 12 = .ok (.aload_n 0, 1) := by decide +kernel
theorem dX4_nextCorner_13 : decode cX4_nextCorner 13 = .ok (.getfield 19, 3) := by decide +kernel
theorem dX4_nextCorner_16 : decode cX4_nextCorner 16 = .ok (.iload_n 3, 1) := by decide +kernel
theorem dX4_nextCorner_17 : decode cX4_nextCorner 17 = .ok (.baload, 1) := by decide +kernel
theorem dX4_nextCorner_18 : decode cX4_nextCorner 18 = .ok (.ifCond .eq 60, 3) := by decide +kernel
theorem dX4_nextCorner_21 : decode cX4_nextCorner 21 = .ok (.iload_n 3, 1) := by decide +kernel
theorem dX4_nextCorner_22 : decode cX4_nextCorner 22 = .ok (.iload_n 1, 1) := by decide +kernel
theorem dX4_nextCorner_23 : decode cX4_nextCorner 23 = .ok (.if_icmp .ne 6, 3) := by decide +kernel
theorem dX4_nextCorner_26 : decode cX4_nextCorner 26 = .ok (.goto 52, 3) := by decide +kernel
theorem dX4_nextCorner_29 : decode cX4_nextCorner 29 = .ok (.iload_n 2, 1) := by decide +kernel
theorem dX4_nextCorner_30 : decode cX4_nextCorner 30 = .ok (.ifCond .ge 7, 3) := by decide +kernel
theorem dX4_nextCorner_33 : decode cX4_nextCorner 33 = .ok (.iconst (-1), 1) := by decide +kernel
theorem dX4_nextCorner_34 : decode cX4_nextCorner 34 = .ok (.goto 10, 3) := by decide +kernel
theorem dX4_nextCorner_37 : decode cX4_nextCorner 37 = .ok (.aload_n 0, 1) := by decide +kernel
theorem dX4_nextCorner_38 : decode cX4_nextCorner 38 = .ok (.iload_n 1, 1) := by decide +kernel
theorem dX4_nextCorner_39 : decode cX4_nextCorner 39 = .ok (.iload_n 2, 1) := by decide +kernel
theorem dX4_nextCorner_40 : decode cX4_nextCorner 40 = .ok (.iload_n 3, 1) := by decide +kernel
theorem dX4_nextCorner_41 : decode cX4_nextCorner 41 = .ok (.invokevirtual 95, 3) := by decide +kernel
theorem dX4_nextCorner_44 : decode cX4_nextCorner 44 = .ok (.istore 4, 2) := by decide +kernel
theorem dX4_nextCorner_46 : decode cX4_nextCorner 46 = .ok (.iload_n 2, 1) := by decide +kernel
theorem dX4_nextCorner_47 : decode cX4_nextCorner 47 = .ok (.ifCond .lt 29, 3) := by decide +kernel
theorem dX4_nextCorner_50 : decode cX4_nextCorner 50 = .ok (.iload 4, 2) := by decide +kernel
theorem dX4_nextCorner_52 : decode cX4_nextCorner 52 = .ok (.ifCond .lt 24, 3) := by decide +kernel
theorem dX4_nextCorner_55 : decode cX4_nextCorner 55 = .ok (.iload 4, 2) := by decide +kernel
theorem dX4_nextCorner_57 : decode cX4_nextCorner 57 = .ok (.ifCond .ne 21, 3) := by decide +kernel
theorem dX4_nextCorner_60 : decode cX4_nextCorner 60 = .ok (.aload_n 0, 1) := by decide +kernel
theorem dX4_nextCorner_61 : decode cX4_nextCorner 61 = .ok (.iload_n 1, 1) := by decide +kernel
theorem dX4_nextCorner_62 : decode cX4_nextCorner 62 = .ok (.iload_n 3, 1) := by decide +kernel
theorem dX4_nextCorner_63 : decode cX4_nextCorner 63 = .ok (.invokevirtual 131, 3) := by decide +kernel
theorem dX4_nextCorner_66 : decode cX4_nextCorner 66 = .ok (.aload_n 0, 1) := by decide +kernel
theorem dX4_nextCorner_67 : decode cX4_nextCorner 67 = .ok (.iload_n 1, 1) := by decide +kernel
theorem dX4_nextCorner_68 : decode cX4_nextCorner 68 = .ok (.iload_n 2, 1) := by decide +kernel
theorem dX4_nextCorner_69 : decode cX4_nextCorner 69 = .ok (.invokevirtual 131, 3) := by decide +kernel
theorem dX4_nextCorner_72 : decode cX4_nextCorner 72 = .ok (.lcmp, 1) := by decide +kernel
theorem dX4_nextCorner_73 : decode cX4_nextCorner 73 = .ok (.ifCond .le 5, 3) := by decide +kernel
theorem dX4_nextCorner_76 : decode cX4_nextCorner 76 = .ok (.iload_n 3, 1) := by decide +kernel
theorem dX4_nextCorner_77 : decode cX4_nextCorner 77 = .ok (.istore_n 2, 1) := by decide +kernel
theorem dX4_nextCorner_78 : decode cX4_nextCorner 78 = .ok (.iinc 3 1, 3) := by decide +kernel
theorem dX4_nextCorner_81 : decode cX4_nextCorner 81 = .ok (.goto (-77), 3) := by decide +kernel
theorem dX4_nextCorner_84 : decode cX4_nextCorner 84 = .ok (.iload_n 2, 1) := by decide +kernel
theorem dX4_nextCorner_85 : decode cX4_nextCorner 85 = .ok (.ireturn, 1) := by decide +kernel
theorem dX4_far_0 : decode cX4_far 0 = .ok (.aload_n 0, 1) := by decide +kernel
theorem dX4_far_1 : decode cX4_far 1 = .ok (.aload_n 0, 1) := by decide +kernel
theorem dX4_far_2 : decode cX4_far 2 = .ok (.getfield 13, 3) := by decide +kernel
theorem dX4_far_5 : decode cX4_far 5 = .ok (.iload_n 1, 1) := by decide +kernel
theorem dX4_far_6 : decode cX4_far 6 = .ok (.iaload, 1) := by decide +kernel
theorem dX4_far_7 : decode cX4_far 7 = .ok (.aload_n 0, 1) := by decide +kernel
theorem dX4_far_8 : decode cX4_far 8 = .ok (.getfield 16, 3) := by decide +kernel
theorem dX4_far_11 : decode cX4_far 11 = .ok (.iload_n 1, 1) := by decide +kernel
theorem dX4_far_12 : decode cX4_far 12 = .ok (.iaload, 1) := by decide +kernel
theorem dX4_far_13 : decode cX4_far 13 = .ok (.iload_n 2, 1) := by decide +kernel
theorem dX4_far_14 : decode cX4_far 14 = .ok (.invokevirtual 135, 3) := by decide +kernel
theorem dX4_far_17 : decode cX4_far 17 = .ok (.lreturn, 1) := by decide +kernel
theorem dX4_farOf_0 : decode cX4_farOf 0 = .ok (.aload_n 0, 1) := by decide +kernel
theorem dX4_farOf_1 : decode cX4_farOf 1 = .ok (.getfield 13, 3) := by decide +kernel
theorem dX4_farOf_4 : decode cX4_farOf 4 = .ok (.iload_n 3, 1) := by decide +kernel
theorem dX4_farOf_5 : decode cX4_farOf 5 = .ok (.iaload, 1) := by decide +kernel
theorem dX4_farOf_6 : decode cX4_farOf 6 = .ok (.iload_n 1, 1) := by decide +kernel
theorem dX4_farOf_7 : decode cX4_farOf 7 = .ok (.isub, 1) := by decide +kernel
theorem dX4_farOf_8 : decode cX4_farOf 8 = .ok (.i2l, 1) := by decide +kernel
theorem dX4_farOf_9 : decode cX4_farOf 9 = .ok (.aload_n 0, 1) := by decide +kernel
theorem dX4_farOf_10 : decode cX4_farOf 10 = .ok (.getfield 13, 3) := by decide +kernel
theorem dX4_farOf_13 : decode cX4_farOf 13 = .ok (.iload_n 3, 1) := by decide +kernel
theorem dX4_farOf_14 : decode cX4_farOf 14 = .ok (.iaload, 1) := by decide +kernel
theorem dX4_farOf_15 : decode cX4_farOf 15 = .ok (.iload_n 1, 1) := by decide +kernel
theorem dX4_farOf_16 : decode cX4_farOf 16 = .ok (.isub, 1) := by decide +kernel
theorem dX4_farOf_17 : decode cX4_farOf 17 = .ok (.i2l, 1) := by decide +kernel
theorem dX4_farOf_18 : decode cX4_farOf 18 = .ok (.lmul, 1) := by decide +kernel
theorem dX4_farOf_19 : decode cX4_farOf 19 = .ok (.aload_n 0, 1) := by decide +kernel
theorem dX4_farOf_20 : decode cX4_farOf 20 = .ok (.getfield 16, 3) := by decide +kernel
theorem dX4_farOf_23 : decode cX4_farOf 23 = .ok (.iload_n 3, 1) := by decide +kernel
theorem dX4_farOf_24 : decode cX4_farOf 24 = .ok (.iaload, 1) := by decide +kernel
theorem dX4_farOf_25 : decode cX4_farOf 25 = .ok (.iload_n 2, 1) := by decide +kernel
theorem dX4_farOf_26 : decode cX4_farOf 26 = .ok (.isub, 1) := by decide +kernel
theorem dX4_farOf_27 : decode cX4_farOf 27 = .ok (.i2l, 1) := by decide +kernel
theorem dX4_farOf_28 : decode cX4_farOf 28 = .ok (.aload_n 0, 1) := by decide +kernel
theorem dX4_farOf_29 : decode cX4_farOf 29 = .ok (.getfield 16, 3) := by decide +kernel
theorem dX4_farOf_32 : decode cX4_farOf 32 = .ok (.iload_n 3, 1) := by decide +kernel
theorem dX4_farOf_33 : decode cX4_farOf 33 = .ok (.iaload, 1) := by decide +kernel
theorem dX4_farOf_34 : decode cX4_farOf 34 = .ok (.iload_n 2, 1) := by decide +kernel
theorem dX4_farOf_35 : decode cX4_farOf 35 = .ok (.isub, 1) := by decide +kernel
theorem dX4_farOf_36 : decode cX4_farOf 36 = .ok (.i2l, 1) := by decide +kernel
theorem dX4_farOf_37 : decode cX4_farOf 37 = .ok (.lmul, 1) := by decide +kernel
theorem dX4_farOf_38 : decode cX4_farOf 38 = .ok (.ladd, 1) := by decide +kernel
theorem dX4_farOf_39 : decode cX4_farOf 39 = .ok (.lreturn, 1) := by decide +kernel
theorem dX4_findTriangles_0 : decode cX4_findTriangles 0 = .ok (.iconst 0, 1) := by decide +kernel
theorem dX4_findTriangles_1 : decode cX4_findTriangles 1 = .ok (.istore_n 1, 1) := by decide +kernel
theorem dX4_findTriangles_2 : decode cX4_findTriangles 2 = .ok (.iload_n 1, 1) := by decide +kernel
theorem dX4_findTriangles_3 : decode cX4_findTriangles 3 = .ok (.aload_n 0, 1) := by decide +kernel
theorem dX4_findTriangles_4 : decode cX4_findTriangles 4 = .ok (.getfield 58, 3) := by decide +kernel
theorem dX4_findTriangles_7 : decode cX4_findTriangles 7 = .ok (.if_icmp .ge 104, 3) := by decide +kernel
theorem dX4_findTriangles_10 : decode cX4_findTriangles 10 = .ok (.iload_n 1, 1) := by decide +kernel
theorem dX4_findTriangles_11 : decode cX4_findTriangles 11 = .ok (.iconst 1, 1) := by decide +kernel
theorem dX4_findTriangles_12 : decode cX4_findTriangles 12 = .ok (.iadd, 1) := by decide +kernel
theorem dX4_findTriangles_13 : decode cX4_findTriangles 13 = .ok (.istore_n 2, 1) := by decide +kernel
theorem dX4_findTriangles_14 : decode cX4_findTriangles 14 = .ok (.iload_n 2, 1) := by decide +kernel
theorem dX4_findTriangles_15 : decode cX4_findTriangles 15 = .ok (.aload_n 0, 1) := by decide +kernel
theorem dX4_findTriangles_16 : decode cX4_findTriangles 16 = .ok (.getfield 58, 3) := by decide +kernel
theorem dX4_findTriangles_19 : decode cX4_findTriangles 19 = .ok (.if_icmp .ge 86, 3) := by decide +kernel
theorem dX4_findTriangles_22 : decode cX4_findTriangles 22 = .ok (.iload_n 1, 1) := by decide +kernel
theorem dX4_findTriangles_23 : decode cX4_findTriangles 23 = .ok (.iconst 1, 1) := by decide +kernel
theorem dX4_findTriangles_24 : decode cX4_findTriangles 24 = .ok (.iadd, 1) := by decide +kernel
theorem dX4_findTriangles_25 : decode cX4_findTriangles 25 = .ok (.istore_n 3, 1) := by decide +kernel
theorem dX4_findTriangles_26 : decode cX4_findTriangles 26 = .ok (.iload_n 3, 1) := by decide +kernel
theorem dX4_findTriangles_27 : decode cX4_findTriangles 27 = .ok (.aload_n 0, 1) := by decide +kernel
theorem dX4_findTriangles_28 : decode cX4_findTriangles 28 = .ok (.getfield 58, 3) := by decide +kernel
theorem dX4_findTriangles_31 : decode cX4_findTriangles 31 = .ok (.if_icmp .ge 68, 3) := by decide +kernel
theorem dX4_findTriangles_34 : decode cX4_findTriangles 34 = .ok (.iload_n 2, 1) := by decide +kernel
theorem dX4_findTriangles_35 : decode cX4_findTriangles 35 = .ok (.iload_n 3, 1) := by decide +kernel
theorem dX4_findTriangles_36 : decode cX4_findTriangles 36 = .ok (.if_icmp .eq 57, 3) := by decide +kernel
theorem dX4_findTriangles_39 : decode cX4_findTriangles 39 = .ok (.aload_n 0, 1) := by decide +kernel
theorem dX4_findTriangles_40 : decode cX4_findTriangles 40 = .ok (.getfield 19, 3) := by decide +kernel
theorem dX4_findTriangles_43 : decode cX4_findTriangles 43 = .ok (.iload_n 1, 1) := by decide +kernel
theorem dX4_findTriangles_44 : decode cX4_findTriangles 44 = .ok (.baload, 1) := by decide +kernel
theorem dX4_findTriangles_45 : decode cX4_findTriangles 45 = .ok (.ifCond .eq 48, 3) := by decide +kernel
theorem dX4_findTriangles_48 : decode cX4_findTriangles 48 = .ok (.aload_n 0, 1) := by decide +kernel
theorem dX4_findTriangles_49 : decode cX4_findTriangles 49 = .ok (.getfield 19, 3) := by decide +kernel
theorem dX4_findTriangles_52 : decode cX4_findTriangles 52 = .ok (.iload_n 2, 1) := by decide +kernel
theorem dX4_findTriangles_53 : decode cX4_findTriangles 53 = .ok (.baload, 1) := by decide +kernel
theorem dX4_findTriangles_54 : decode cX4_findTriangles 54 = .ok (.ifCond .eq 39, 3) := by decide +kernel
theorem dX4_findTriangles_57 : decode cX4_findTriangles 57 = .ok (.aload_n 0, 1) := by decide +kernel
theorem dX4_findTriangles_58 : decode cX4_findTriangles 58 = .ok (.getfield 19, 3) := by decide +kernel
theorem dX4_findTriangles_61 : decode cX4_findTriangles 61 = .ok (.iload_n 3, 1) := by decide +kernel
theorem dX4_findTriangles_62 : decode cX4_findTriangles 62 = .ok (.baload, 1) := by decide +kernel
theorem dX4_findTriangles_63 : decode cX4_findTriangles 63 = .ok (.ifCond .eq 30, 3) := by decide +kernel
theorem dX4_findTriangles_66 : decode cX4_findTriangles 66 = .ok (.aload_n 0, 1) := by decide +kernel
theorem dX4_findTriangles_67 : decode cX4_findTriangles 67 = .ok (.iload_n 1, 1) := by decide +kernel
theorem dX4_findTriangles_68 : decode cX4_findTriangles 68 = .ok (.iload_n 2, 1) := by decide +kernel
theorem dX4_findTriangles_69 : decode cX4_findTriangles 69 = .ok (.iload_n 3, 1) := by decide +kernel
theorem dX4_findTriangles_70 : decode cX4_findTriangles 70 = .ok (.invokevirtual 95, 3) := by decide +kernel
theorem dX4_findTriangles_73 : decode cX4_findTriangles 73 = .ok (.ifCond .le 20, 3) := by decide +kernel
theorem dX4_findTriangles_76 : decode cX4_findTriangles 76 = .ok (.aload_n 0, 1) := by decide +kernel
theorem dX4_findTriangles_77 : decode cX4_findTriangles 77 = .ok (.iload_n 1, 1) := by decide +kernel
theorem dX4_findTriangles_78 : decode cX4_findTriangles 78 = .ok (.iload_n 2, 1) := by decide +kernel
theorem dX4_findTriangles_79 : decode cX4_findTriangles 79 = .ok (.iload_n 3, 1) := by decide +kernel
theorem dX4_findTriangles_80 : decode cX4_findTriangles 80 = .ok (.invokevirtual 139, 3) := by decide +kernel
theorem dX4_findTriangles_83 : decode cX4_findTriangles 83 = .ok (.ifCond .eq 10, 3) := by decide +kernel
theorem dX4_findTriangles_86 : decode cX4_findTriangles 86 = .ok (.aload_n 0, 1) := by decide +kernel
theorem dX4_findTriangles_87 : decode cX4_findTriangles 87 = .ok (.iload_n 1, 1) := by decide +kernel
theorem dX4_findTriangles_88 : decode cX4_findTriangles 88 = .ok (.iload_n 2, 1) := by decide +kernel
theorem dX4_findTriangles_89 : decode cX4_findTriangles 89 = .ok (.iload_n 3, 1) := by decide +kernel
theorem dX4_findTriangles_90 : decode cX4_findTriangles 90 = .ok (.invokevirtual 143, 3) := by decide +kernel
theorem dX4_findTriangles_93 : decode cX4_findTriangles 93 = .ok (.iinc 3 1, 3) := by decide +kernel
theorem dX4_findTriangles_96 : decode cX4_findTriangles 96 = .ok (.goto (-70), 3) := by decide +kernel
theorem dX4_findTriangles_99 : decode cX4_findTriangles 99 = .ok (.iinc 2 1, 3) := by decide +kernel
theorem dX4_findTriangles_102 : decode cX4_findTriangles 102 = .ok (.goto (-88), 3) := by decide +kernel
theorem dX4_findTriangles_105 : decode cX4_findTriangles 105 = .ok (.iinc 1 1, 3) := by decide +kernel
theorem dX4_findTriangles_108 : decode cX4_findTriangles 108 = .ok (.goto (-106), 3) := by decide +kernel
theorem dX4_findTriangles_111 : decode cX4_findTriangles 111 = .ok (.return_, 1) := by decide +kernel
theorem dX4_addTriangle_0 : decode cX4_addTriangle 0 = .ok (.aload_n 0, 1) := by decide +kernel
theorem dX4_addTriangle_1 : decode cX4_addTriangle 1 = .ok (.getfield 26, 3) := by decide +kernel
theorem dX4_addTriangle_4 : decode cX4_addTriangle 4 = .ok (.aload_n 0, 1) := by decide +kernel
theorem dX4_addTriangle_5 : decode cX4_addTriangle 5 = .ok (.getfield 115, 3) := by decide +kernel
theorem dX4_addTriangle_8 : decode cX4_addTriangle 8 = .ok (.iload_n 1, 1) := by decide +kernel
theorem dX4_addTriangle_9 : decode cX4_addTriangle 9 = .ok (.iastore, 1) := by decide +kernel
theorem dX4_addTriangle_10 : decode cX4_addTriangle 10 = .ok (.aload_n 0, 1) := by decide +kernel
theorem dX4_addTriangle_11 : decode cX4_addTriangle 11 = .ok (.getfield 29, 3) := by decide +kernel
theorem dX4_addTriangle_14 : decode cX4_addTriangle 14 = .ok (.aload_n 0, 1) := by decide +kernel
theorem dX4_addTriangle_15 : decode cX4_addTriangle 15 = .ok (.getfield 115, 3) := by decide +kernel
theorem dX4_addTriangle_18 : decode cX4_addTriangle 18 = .ok (.iload_n 2, 1) := by decide +kernel
theorem dX4_addTriangle_19 : decode cX4_addTriangle 19 = .ok (.iastore, 1) := by decide +kernel
theorem dX4_addTriangle_20 : decode cX4_addTriangle 20 = .ok (.aload_n 0, 1) := by decide +kernel
theorem dX4_addTriangle_21 : decode cX4_addTriangle 21 = .ok (.getfield 32, 3) := by decide +kernel
theorem dX4_addTriangle_24 : decode cX4_addTriangle 24 = .ok (.aload_n 0, 1) := by decide +kernel
theorem dX4_addTriangle_25 : decode cX4_addTriangle 25 = .ok (.getfield 115, 3) := by decide +kernel
theorem dX4_addTriangle_28 : decode cX4_addTriangle 28 = .ok (.iload_n 3, 1) := by decide +kernel
theorem dX4_addTriangle_29 : decode cX4_addTriangle 29 = .ok (.iastore, 1) := by decide +kernel
theorem dX4_addTriangle_30 : decode cX4_addTriangle 30 = .ok (.aload_n 0, 1) := by decide +kernel
theorem dX4_addTriangle_31 : decode cX4_addTriangle 31 = .ok (.dup, 1) := by decide +kernel
theorem dX4_addTriangle_32 : decode cX4_addTriangle 32 = .ok (.getfield 115, 3) := by decide +kernel
theorem dX4_addTriangle_35 : decode cX4_addTriangle 35 = .ok (.iconst 1, 1) := by decide +kernel
theorem dX4_addTriangle_36 : decode cX4_addTriangle 36 = .ok (.iadd, 1) := by decide +kernel
theorem dX4_addTriangle_37 : decode cX4_addTriangle 37 = .ok (.putfield 115, 3) := by decide +kernel
theorem dX4_addTriangle_40 : decode cX4_addTriangle 40 = .ok (.return_, 1) := by decide +kernel
theorem dX4_isDrawn_0 : decode cX4_isDrawn 0 = .ok (.iconst 0, 1) := by decide +kernel
theorem dX4_isDrawn_1 : decode cX4_isDrawn 1 = .ok (.istore 4, 2) := by decide +kernel
theorem dX4_isDrawn_3 : decode cX4_isDrawn 3 = .ok (.iload 4, 2) := by decide +kernel
theorem dX4_isDrawn_5 : decode cX4_isDrawn 5 = .ok (.aload_n 0, 1) := by decide +kernel
theorem dX4_isDrawn_6 : decode cX4_isDrawn 6 = .ok (.getfield 58, 3) := by decide +kernel
theorem dX4_isDrawn_9 : decode cX4_isDrawn 9 = .ok (.if_icmp .ge 80, 3) := by decide +kernel
theorem dX4_isDrawn_12 : decode cX4_isDrawn 12 = .ok (.aload_n 0, 1) := by decide +kernel
theorem dX4_isDrawn_13 : decode cX4_isDrawn 13 = .ok (.getfield 19, 3) := by decide +kernel
theorem dX4_isDrawn_16 : decode cX4_isDrawn 16 = .ok (.iload 4, 2) := by decide +kernel
theorem dX4_isDrawn_18 : decode cX4_isDrawn 18 = .ok (.baload, 1) := by decide +kernel
theorem dX4_isDrawn_19 : decode cX4_isDrawn 19 = .ok (.ifCond .eq 64, 3) := by decide +kernel
theorem dX4_isDrawn_22 : decode cX4_isDrawn 22 = .ok (.iload 4, 2) := by decide +kernel
theorem dX4_isDrawn_24 : decode cX4_isDrawn 24 = .ok (.iload_n 1, 1) := by decide +kernel
theorem dX4_isDrawn_25 : decode cX4_isDrawn 25 = .ok (.if_icmp .eq 58, 3) := by decide +kernel
theorem dX4_isDrawn_28 : decode cX4_isDrawn 28 = .ok (.iload 4, 2) := by decide +kernel
theorem dX4_isDrawn_30 : decode cX4_isDrawn 30 = .ok (.iload_n 2, 1) := by decide +kernel
theorem dX4_isDrawn_31 : decode cX4_isDrawn 31 = .ok (.if_icmp .eq 52, 3) := by decide +kernel
theorem dX4_isDrawn_34 : decode cX4_isDrawn 34 = .ok (.iload 4, 2) := by decide +kernel
theorem dX4_isDrawn_36 : decode cX4_isDrawn 36 = .ok (.iload_n 3, 1) := by decide +kernel
theorem dX4_isDrawn_37 : decode cX4_isDrawn 37 = .ok (.if_icmp .ne 6, 3) := by decide +kernel
theorem dX4_isDrawn_40 : decode cX4_isDrawn 40 = .ok (.goto 43, 3) := by decide +kernel
theorem dX4_isDrawn_43 : decode cX4_isDrawn 43 = .ok (.aload_n 0, 1) := by decide +kernel
theorem dX4_isDrawn_44 : decode cX4_isDrawn 44 = .ok (.iload_n 1, 1) := by decide +kernel
theorem dX4_isDrawn_45 : decode cX4_isDrawn 45 = .ok (.iload_n 2, 1) := by decide +kernel
theorem dX4_isDrawn_46 : decode cX4_isDrawn 46 = .ok (.iload_n 3, 1) := by decide +kernel
theorem dX4_isDrawn_47 : decode cX4_isDrawn 47 = .ok (.iload 4, 2) := by decide +kernel
theorem dX4_isDrawn_49 : decode cX4_isDrawn 49 = .ok (.invokevirtual 91, 3) := by decide +kernel
theorem dX4_isDrawn_52 : decode cX4_isDrawn 52 = .ok (.istore 5, 2) := by decide +kernel
theorem dX4_isDrawn_54 : decode cX4_isDrawn 54 = .ok (.iload 5, 2) := by decide +kernel
theorem dX4_isDrawn_56 : decode cX4_isDrawn 56 = .ok (.ifCond .gt 25, 3) := by decide +kernel
theorem dX4_isDrawn_59 : decode cX4_isDrawn 59 = .ok (.iload 5, 2) := by decide +kernel
theorem dX4_isDrawn_61 : decode cX4_isDrawn 61 = .ok (.ifCond .ne 22, 3) := by decide +kernel
theorem dX4_isDrawn_64 : decode cX4_isDrawn 64 = .ok (.iload 4, 2) := by decide +kernel
theorem dX4_isDrawn_66 : decode cX4_isDrawn 66 = .ok (.iload_n 1, 1) := by decide +kernel
theorem dX4_isDrawn_67 : decode cX4_isDrawn 67 = .ok (.if_icmp .lt 14, 3) := by decide +kernel
theorem dX4_isDrawn_70 : decode cX4_isDrawn 70 = .ok (.aload_n 0, 1) := by decide +kernel
theorem dX4_isDrawn_71 : decode cX4_isDrawn 71 = .ok (.iload_n 2, 1) := by decide +kernel
theorem dX4_isDrawn_72 : decode cX4_isDrawn 72 = .ok (.iload_n 3, 1) := by decide +kernel
theorem dX4_isDrawn_73 : decode cX4_isDrawn 73 = .ok (.iload 4, 2) := by decide +kernel
theorem dX4_isDrawn_75 : decode cX4_isDrawn 75 = .ok (.invokevirtual 95, 3) := by decide +kernel
theorem dX4_isDrawn_78 : decode cX4_isDrawn 78 = .ok (.ifCond .ge 5, 3) := by decide +kernel
theorem dX4_isDrawn_81 : decode cX4_isDrawn 81 = .ok (.iconst 0, 1) := by decide +kernel
theorem dX4_isDrawn_82 : decode cX4_isDrawn 82 = .ok (.ireturn, 1) := by decide +kernel
theorem dX4_isDrawn_83 : decode cX4_isDrawn 83 = .ok (.iinc 4 1, 3) := by decide +kernel
theorem dX4_isDrawn_86 : decode cX4_isDrawn 86 = .ok (.goto (-83), 3) := by decide +kernel
theorem dX4_isDrawn_89 : decode cX4_isDrawn 89 = .ok (.iconst 1, 1) := by decide +kernel
theorem dX4_isDrawn_90 : decode cX4_isDrawn 90 = .ok (.ireturn, 1) := by decide +kernel
theorem dX4_pointOf_0 : decode cX4_pointOf 0 = .ok (.aload_n 0, 1) := by decide +kernel
theorem dX4_pointOf_1 : decode cX4_pointOf 1 = .ok (.iload_n 1, 1) := by decide +kernel
theorem dX4_pointOf_2 : decode cX4_pointOf 2 = .ok (.invokevirtual 79, 3) := by decide +kernel
theorem dX4_pointOf_5 : decode cX4_pointOf 5 = .ok (.ifCond .ne 9, 3) := by decide +kernel
theorem dX4_pointOf_8 : decode cX4_pointOf 8 = .ok (.aload_n 0, 1) := by decide +kernel
theorem dX4_pointOf_9 : decode cX4_pointOf 9 = .ok (.iconst (-1), 1) := by decide +kernel
theorem dX4_pointOf_10 : decode cX4_pointOf 10 = .ok (.invokevirtual 99, 3) := by decide +kernel
theorem dX4_pointOf_13 : decode cX4_pointOf 13 = .ok (.ireturn, 1) := by decide +kernel
theorem dX4_pointOf_14 : decode cX4_pointOf 14 = .ok (.aload_n 0, 1) := by decide +kernel
theorem dX4_pointOf_15 : decode cX4_pointOf 15 = .ok (.invokevirtual 147, 3) := by decide +kernel
theorem dX4_pointOf_18 : decode cX4_pointOf 18 = .ok (.iconst 0, 1) := by decide +kernel
theorem dX4_pointOf_19 : decode cX4_pointOf 19 = .ok (.istore_n 3, 1) := by decide +kernel
theorem dX4_pointOf_20 : decode cX4_pointOf 20 = .ok (.iload_n 2, 1) := by decide +kernel
theorem dX4_pointOf_21 : decode cX4_pointOf 21 = .ok (.tableswitch 145 0 3 #[31, 38, 45, 106], 31) := by decide +kernel
theorem dX4_pointOf_52 : decode cX4_pointOf 52 = .ok (.aload_n 0, 1) := by decide +kernel
theorem dX4_pointOf_53 : decode cX4_pointOf 53 = .ok (.getfield 13, 3) := by decide +kernel
theorem dX4_pointOf_56 : decode cX4_pointOf 56 = .ok (.iload_n 1, 1) := by decide +kernel
theorem dX4_pointOf_57 : decode cX4_pointOf 57 = .ok (.iaload, 1) := by decide +kernel
theorem dX4_pointOf_58 : decode cX4_pointOf 58 = .ok (.ireturn, 1) := by decide +kernel
theorem dX4_pointOf_59 : decode cX4_pointOf 59 = .ok (.aload_n 0, 1) := by decide +kernel
theorem dX4_pointOf_60 : decode cX4_pointOf 60 = .ok (.getfield 16, 3) := by decide +kernel
theorem dX4_pointOf_63 : decode cX4_pointOf 63 = .ok (.iload_n 1, 1) := by decide +kernel
theorem dX4_pointOf_64 : decode cX4_pointOf 64 = .ok (.iaload, 1) := by decide +kernel
theorem dX4_pointOf_65 : decode cX4_pointOf 65 = .ok (.ireturn, 1) := by decide +kernel
theorem dX4_pointOf_66 : decode cX4_pointOf 66 = .ok (.iconst 0, 1) := by decide +kernel
theorem dX4_pointOf_67 : decode cX4_pointOf 67 = .ok (.istore 4, 2) := by decide +kernel
theorem dX4_pointOf_69 : decode cX4_pointOf 69 = .ok (.iload 4, 2) := by decide +kernel
theorem dX4_pointOf_71 : decode cX4_pointOf 71 = .ok (.aload_n 0, 1) := by decide +kernel
theorem dX4_pointOf_72 : decode cX4_pointOf 72 = .ok (.getfield 115, 3) := by decide +kernel
theorem dX4_pointOf_75 : decode cX4_pointOf 75 = .ok (.if_icmp .ge 50, 3) := by decide +kernel
theorem dX4_pointOf_78 : decode cX4_pointOf 78 = .ok (.iload_n 3, 1) := by decide +kernel
theorem dX4_pointOf_79 : decode cX4_pointOf 79 = .ok (.aload_n 0, 1) := by decide +kernel
theorem dX4_pointOf_80 : decode cX4_pointOf 80 = .ok (.getfield 26, 3) := by decide +kernel
theorem dX4_pointOf_83 : decode cX4_pointOf 83 = .ok (.iload 4, 2) := by decide +kernel
theorem dX4_pointOf_85 : decode cX4_pointOf 85 = .ok (.iaload, 1) := by decide +kernel
theorem dX4_pointOf_86 : decode cX4_pointOf 86 = .ok (.iload_n 1, 1) := by decide +kernel
theorem dX4_pointOf_87 : decode cX4_pointOf 87 = .ok (.if_icmp .eq 25, 3) := by decide +kernel
theorem dX4_pointOf_90 : decode cX4_pointOf 90 = .ok (.aload_n 0, 1) := by decide +kernel
theorem dX4_pointOf_91 : decode cX4_pointOf 91 = .ok (.getfield 29, 3) := by decide +kernel
theorem dX4_pointOf_94 : decode cX4_pointOf 94 = .ok (.iload 4, 2) := by decide +kernel
theorem dX4_pointOf_96 : decode cX4_pointOf 96 = .ok (.iaload, 1) := by decide +kernel
theorem dX4_pointOf_97 : decode cX4_pointOf 97 = .ok (.iload_n 1, 1) := by decide +kernel
theorem dX4_pointOf_98 : decode cX4_pointOf 98 = .ok (.if_icmp .eq 14, 3) := by decide +kernel
theorem dX4_pointOf_101 : decode cX4_pointOf 101 = .ok (.aload_n 0, 1) := by decide +kernel
theorem dX4_pointOf_102 : decode cX4_pointOf 102 = .ok (.getfield 32, 3) := by decide +kernel
theorem dX4_pointOf_105 : decode cX4_pointOf 105 = .ok (.iload 4, 2) := by decide +kernel
theorem dX4_pointOf_107 : decode cX4_pointOf 107 = .ok (.iaload, 1) := by decide +kernel
theorem dX4_pointOf_108 : decode cX4_pointOf 108 = .ok (.iload_n 1, 1) := by decide +kernel
theorem dX4_pointOf_109 : decode cX4_pointOf 109 = .ok (.if_icmp .ne 7, 3) := by decide +kernel
theorem dX4_pointOf_112 : decode cX4_pointOf 112 = .ok (.iconst 1, 1) := by decide +kernel
theorem dX4_pointOf_113 : decode cX4_pointOf 113 = .ok (.goto 4, 3) := by decide +kernel
theorem dX4_pointOf_116 : decode cX4_pointOf 116 = .ok (.iconst 0, 1) := by decide +kernel
theorem dX4_pointOf_117 : decode cX4_pointOf 117 = .ok (.iadd, 1) := by decide +kernel
theorem dX4_pointOf_118 : decode cX4_pointOf 118 = .ok (.istore_n 3, 1) := by decide +kernel
theorem dX4_pointOf_119 : decode cX4_pointOf 119 = .ok (.iinc 4 1, 3) := by decide +kernel
theorem dX4_pointOf_122 : decode cX4_pointOf 122 = .ok (.goto (-53), 3) := by decide +kernel
theorem dX4_pointOf_125 : decode cX4_pointOf 125 = .ok (.iload_n 3, 1) := by decide +kernel
theorem dX4_pointOf_126 : decode cX4_pointOf 126 = .ok (.ireturn, 1) := by decide +kernel
theorem dX4_pointOf_127 : decode cX4_pointOf 127 = .ok (.iconst 0, 1) := by decide +kernel
theorem dX4_pointOf_128 : decode cX4_pointOf 128 = .ok (.istore 4, 2) := by decide +kernel
theorem dX4_pointOf_130 : decode cX4_pointOf 130 = .ok (.iload 4, 2) := by decide +kernel
theorem dX4_pointOf_132 : decode cX4_pointOf 132 = .ok (.aload_n 0, 1) := by decide +kernel
theorem dX4_pointOf_133 : decode cX4_pointOf 133 = .ok (.getfield 121, 3) := by decide +kernel
theorem dX4_pointOf_136 : decode cX4_pointOf 136 = .ok (.if_icmp .ge 28, 3) := by decide +kernel
theorem dX4_pointOf_139 : decode cX4_pointOf 139 = .ok (.iload_n 3, 1) := by decide +kernel
theorem dX4_pointOf_140 : decode cX4_pointOf 140 = .ok (.aload_n 0, 1) := by decide +kernel
theorem dX4_pointOf_141 : decode cX4_pointOf 141 = .ok (.getfield 23, 3) := by decide +kernel
theorem dX4_pointOf_144 : decode cX4_pointOf 144 = .ok (.iload 4, 2) := by decide +kernel
theorem dX4_pointOf_146 : decode cX4_pointOf 146 = .ok (.iaload, 1) := by decide +kernel
theorem dX4_pointOf_147 : decode cX4_pointOf 147 = .ok (.iload_n 1, 1) := by decide +kernel
theorem dX4_pointOf_148 : decode cX4_pointOf 148 = .ok (.if_icmp .ne 7, 3) := by decide +kernel
theorem dX4_pointOf_151 : decode cX4_pointOf 151 = .ok (.iconst 1, 1) := by decide +kernel
theorem dX4_pointOf_152 : decode cX4_pointOf 152 = .ok (.goto 4, 3) := by decide +kernel
theorem dX4_pointOf_155 : decode cX4_pointOf 155 = .ok (.iconst 0, 1) := by decide +kernel
theorem dX4_pointOf_156 : decode cX4_pointOf 156 = .ok (.iadd, 1) := by decide +kernel
theorem dX4_pointOf_157 : decode cX4_pointOf 157 = .ok (.istore_n 3, 1) := by decide +kernel
theorem dX4_pointOf_158 : decode cX4_pointOf 158 = .ok (.iinc 4 1, 3) := by decide +kernel
theorem dX4_pointOf_161 : decode cX4_pointOf 161 = .ok (.goto (-31), 3) := by decide +kernel
theorem dX4_pointOf_164 : decode cX4_pointOf 164 = .ok (.iload_n 3, 1) := by decide +kernel
theorem dX4_pointOf_165 : decode cX4_pointOf 165 = .ok (.ireturn, 1) := by decide +kernel
theorem dX4_pointOf_166 : decode cX4_pointOf 166 = .ok (.aload_n 0, 1) := by decide +kernel
theorem dX4_pointOf_167 : decode cX4_pointOf 167 = .ok (.bipush (-2), 2) := by decide +kernel
theorem dX4_pointOf_169 : decode cX4_pointOf 169 = .ok (.invokevirtual 99, 3) := by decide +kernel
theorem dX4_pointOf_172 : decode cX4_pointOf 172 = .ok (.ireturn, 1) := by decide +kernel
theorem dX4_hull_0 : decode cX4_hull 0 = .ok (.aload_n 0, 1) := by decide +kernel
theorem dX4_hull_1 : decode cX4_hull 1 = .ok (.invokevirtual 147, 3) := by decide +kernel
theorem dX4_hull_4 : decode cX4_hull 4 = .ok (.aload_n 0, 1) := by decide +kernel
theorem dX4_hull_5 : decode cX4_hull 5 = .ok (.getfield 121, 3) := by decide +kernel
theorem dX4_hull_8 : decode cX4_hull 8 = .ok (.ireturn, 1) := by decide +kernel
theorem dX4_corner_0 : decode cX4_corner 0 = .ok (.aload_n 0, 1) := by decide +kernel
theorem dX4_corner_1 : decode cX4_corner 1 = .ok (.invokevirtual 147, 3) := by decide +kernel
theorem dX4_corner_4 : decode cX4_corner 4 = .ok (.iload_n 1, 1) := by decide +kernel
theorem dX4_corner_5 : decode cX4_corner 5 = .ok (.ifCond .lt 20, 3) := by decide +kernel
theorem dX4_corner_8 : decode cX4_corner 8 = .ok (.iload_n 1, 1) := by decide +kernel
theorem dX4_corner_9 : decode cX4_corner 9 = .ok (.aload_n 0, 1) := by decide +kernel
theorem dX4_corner_10 : decode cX4_corner 10 = .ok (.getfield 121, 3) := by decide +kernel
theorem dX4_corner_13 : decode cX4_corner 13 = .ok (.if_icmp .ge 12, 3) := by decide +kernel
theorem dX4_corner_16 : decode cX4_corner 16 = .ok (.aload_n 0, 1) := by decide +kernel
theorem dX4_corner_17 : decode cX4_corner 17 = .ok (.getfield 23, 3) := by decide +kernel
theorem dX4_corner_20 : decode cX4_corner 20 = .ok (.iload_n 1, 1) := by decide +kernel
theorem dX4_corner_21 : decode cX4_corner 21 = .ok (.iaload, 1) := by decide +kernel
theorem dX4_corner_22 : decode cX4_corner 22 = .ok (.goto 5, 3) := by decide +kernel
theorem dX4_corner_25 : decode cX4_corner 25 = .ok (.bipush (-9), 2) := by decide +kernel
theorem dX4_corner_27 : decode cX4_corner 27 = .ok (.ireturn, 1) := by decide +kernel
theorem dX4_area_0 : decode cX4_area 0 = .ok (.aload_n 0, 1) := by decide +kernel
theorem dX4_area_1 : decode cX4_area 1 = .ok (.invokevirtual 147, 3) := by decide +kernel
theorem dX4_area_4 : decode cX4_area 4 = .ok (.lconst 0, 1) := by decide +kernel
theorem dX4_area_5 : decode cX4_area 5 = .ok (.lstore_n 1, 1) := by decide +kernel
theorem dX4_area_6 : decode cX4_area 6 = .ok (.iconst 0, 1) := by decide +kernel
theorem dX4_area_7 : decode cX4_area 7 = .ok (.istore_n 3, 1) := by decide +kernel
theorem dX4_area_8 : decode cX4_area 8 = .ok (.iload_n 3, 1) := by decide +kernel
theorem dX4_area_9 : decode cX4_area 9 = .ok (.aload_n 0, 1) := by decide +kernel
theorem dX4_area_10 : decode cX4_area 10 = .ok (.getfield 121, 3) := by decide +kernel
theorem dX4_area_13 : decode cX4_area 13 = .ok (.if_icmp .ge 70, 3) := by decide +kernel
theorem dX4_area_16 : decode cX4_area 16 = .ok (.aload_n 0, 1) := by decide +kernel
theorem dX4_area_17 : decode cX4_area 17 = .ok (.getfield 23, 3) := by decide +kernel
theorem dX4_area_20 : decode cX4_area 20 = .ok (.iload_n 3, 1) := by decide +kernel
theorem dX4_area_21 : decode cX4_area 21 = .ok (.iaload, 1) := by decide +kernel
theorem dX4_area_22 : decode cX4_area 22 = .ok (.istore 4, 2) := by decide +kernel
theorem dX4_area_24 : decode cX4_area 24 = .ok (.aload_n 0, 1) := by decide +kernel
theorem dX4_area_25 : decode cX4_area 25 = .ok (.getfield 23, 3) := by decide +kernel
theorem dX4_area_28 : decode cX4_area 28 = .ok (.iload_n 3, 1) := by decide +kernel
theorem dX4_area_29 : decode cX4_area 29 = .ok (.iconst 1, 1) := by decide +kernel
theorem dX4_area_30 : decode cX4_area 30 = .ok (.iadd, 1) := by decide +kernel
theorem dX4_area_31 : decode cX4_area 31 = .ok (.aload_n 0, 1) := by decide +kernel
theorem dX4_area_32 : decode cX4_area 32 = .ok (.getfield 121, 3) := by decide +kernel
theorem dX4_area_35 : decode cX4_area 35 = .ok (.irem, 1) := by decide +kernel
theorem dX4_area_36 : decode cX4_area 36 = .ok (.iaload, 1) := by decide +kernel
theorem dX4_area_37 : decode cX4_area 37 = .ok (.istore 5, 2) := by decide +kernel
theorem dX4_area_39 : decode cX4_area 39 = .ok (.lload_n 1, 1) := by decide +kernel
theorem dX4_area_40 : decode cX4_area 40 = .ok (.aload_n 0, 1) := by decide +kernel
theorem dX4_area_41 : decode cX4_area 41 = .ok (.getfield 13, 3) := by decide +kernel
theorem dX4_area_44 : decode cX4_area 44 = .ok (.iload 4, 2) := by decide +kernel
theorem dX4_area_46 : decode cX4_area 46 = .ok (.iaload, 1) := by decide +kernel
theorem dX4_area_47 : decode cX4_area 47 = .ok (.i2l, 1) := by decide +kernel
theorem dX4_area_48 : decode cX4_area 48 = .ok (.aload_n 0, 1) := by decide +kernel
theorem dX4_area_49 : decode cX4_area 49 = .ok (.getfield 16, 3) := by decide +kernel
theorem dX4_area_52 : decode cX4_area 52 = .ok (.iload 5, 2) := by decide +kernel
theorem dX4_area_54 : decode cX4_area 54 = .ok (.iaload, 1) := by decide +kernel
theorem dX4_area_55 : decode cX4_area 55 = .ok (.i2l, 1) := by decide +kernel
theorem dX4_area_56 : decode cX4_area 56 = .ok (.lmul, 1) := by decide +kernel
theorem dX4_area_57 : decode cX4_area 57 = .ok (.aload_n 0, 1) := by decide +kernel
theorem dX4_area_58 : decode cX4_area 58 = .ok (.getfield 13, 3) := by decide +kernel
theorem dX4_area_61 : decode cX4_area 61 = .ok (.iload 5, 2) := by decide +kernel
theorem dX4_area_63 : decode cX4_area 63 = .ok (.iaload, 1) := by decide +kernel
theorem dX4_area_64 : decode cX4_area 64 = .ok (.i2l, 1) := by decide +kernel
theorem dX4_area_65 : decode cX4_area 65 = .ok (.aload_n 0, 1) := by decide +kernel
theorem dX4_area_66 : decode cX4_area 66 = .ok (.getfield 16, 3) := by decide +kernel
theorem dX4_area_69 : decode cX4_area 69 = .ok (.iload 4, 2) := by decide +kernel
theorem dX4_area_71 : decode cX4_area 71 = .ok (.iaload, 1) := by decide +kernel
theorem dX4_area_72 : decode cX4_area 72 = .ok (.i2l, 1) := by decide +kernel
theorem dX4_area_73 : decode cX4_area 73 = .ok (.lmul, 1) := by decide +kernel
theorem dX4_area_74 : decode cX4_area 74 = .ok (.lsub, 1) := by decide +kernel
theorem dX4_area_75 : decode cX4_area 75 = .ok (.ladd, 1) := by decide +kernel
theorem dX4_area_76 : decode cX4_area 76 = .ok (.lstore_n 1, 1) := by decide +kernel
theorem dX4_area_77 : decode cX4_area 77 = .ok (.iinc 3 1, 3) := by decide +kernel
theorem dX4_area_80 : decode cX4_area 80 = .ok (.goto (-72), 3) := by decide +kernel
theorem dX4_area_83 : decode cX4_area 83 = .ok (.lload_n 1, 1) := by decide +kernel
theorem dX4_area_84 : decode cX4_area 84 = .ok (.lreturn, 1) := by decide +kernel
theorem dX4_triangles_0 : decode cX4_triangles 0 = .ok (.aload_n 0, 1) := by decide +kernel
theorem dX4_triangles_1 : decode cX4_triangles 1 = .ok (.invokevirtual 147, 3) := by decide +kernel
theorem dX4_triangles_4 : decode cX4_triangles 4 = .ok (.aload_n 0, 1) := by decide +kernel
theorem dX4_triangles_5 : decode cX4_triangles 5 = .ok (.getfield 115, 3) := by decide +kernel
theorem dX4_triangles_8 : decode cX4_triangles 8 = .ok (.ireturn, 1) := by decide +kernel
theorem dX4_isTriangle_0 : decode cX4_isTriangle 0 = .ok (.aload_n 0, 1) := by decide +kernel
theorem dX4_isTriangle_1 : decode cX4_isTriangle 1 = .ok (.invokevirtual 147, 3) := by decide +kernel
theorem dX4_isTriangle_4 : decode cX4_isTriangle 4 = .ok (.iload_n 1, 1) := by decide +kernel
theorem dX4_isTriangle_5 : decode cX4_isTriangle 5 = .ok (.ifCond .lt 15, 3) := by decide +kernel
theorem dX4_isTriangle_8 : decode cX4_isTriangle 8 = .ok (.iload_n 1, 1) := by decide +kernel
theorem dX4_isTriangle_9 : decode cX4_isTriangle 9 = .ok (.aload_n 0, 1) := by decide +kernel
theorem dX4_isTriangle_10 : decode cX4_isTriangle 10 = .ok (.getfield 115, 3) := by decide +kernel
theorem dX4_isTriangle_13 : decode cX4_isTriangle 13 = .ok (.if_icmp .ge 7, 3) := by decide +kernel
theorem dX4_isTriangle_16 : decode cX4_isTriangle 16 = .ok (.iconst 1, 1) := by decide +kernel
theorem dX4_isTriangle_17 : decode cX4_isTriangle 17 = .ok (.goto 4, 3) := by decide +kernel
theorem dX4_isTriangle_20 : decode cX4_isTriangle 20 = .ok (.iconst 0, 1) := by decide +kernel
theorem dX4_isTriangle_21 : decode cX4_isTriangle 21 = .ok (.ireturn, 1) := by decide +kernel
theorem dX4_cornerOf_0 : decode cX4_cornerOf 0 = .ok (.iload_n 2, 1) := by decide +kernel
theorem dX4_cornerOf_1 : decode cX4_cornerOf 1 = .ok (.ifCond .ne 12, 3) := by decide +kernel
theorem dX4_cornerOf_4 : decode cX4_cornerOf 4 = .ok (.aload_n 0, 1) := by decide +kernel
theorem dX4_cornerOf_5 : decode cX4_cornerOf 5 = .ok (.getfield 26, 3) := by decide +kernel
theorem dX4_cornerOf_8 : decode cX4_cornerOf 8 = .ok (.iload_n 1, 1) := by decide +kernel
theorem dX4_cornerOf_9 : decode cX4_cornerOf 9 = .ok (.iaload, 1) := by decide +kernel
theorem dX4_cornerOf_10 : decode cX4_cornerOf 10 = .ok (.goto 23, 3) := by decide +kernel
theorem dX4_cornerOf_13 : decode cX4_cornerOf 13 = .ok (.iload_n 2, 1) := by decide +kernel
theorem dX4_cornerOf_14 : decode cX4_cornerOf 14 = .ok (.iconst 1, 1) := by decide +kernel
theorem dX4_cornerOf_15 : decode cX4_cornerOf 15 = .ok (.if_icmp .ne 12, 3) := by decide +kernel
theorem dX4_cornerOf_18 : decode cX4_cornerOf 18 = .ok (.aload_n 0, 1) := by decide +kernel
theorem dX4_cornerOf_19 : decode cX4_cornerOf 19 = .ok (.getfield 29, 3) := by decide +kernel
theorem dX4_cornerOf_22 : decode cX4_cornerOf 22 = .ok (.iload_n 1, 1) := by decide +kernel
theorem dX4_cornerOf_23 : decode cX4_cornerOf 23 = .ok (.iaload, 1) := by decide +kernel
theorem dX4_cornerOf_24 : decode cX4_cornerOf 24 = .ok (.goto 9, 3) := by decide +kernel
theorem dX4_cornerOf_27 : decode cX4_cornerOf 27 = .ok (.aload_n 0, 1) := by decide +kernel
theorem dX4_cornerOf_28 : decode cX4_cornerOf 28 = .ok (.getfield 32, 3) := by decide +kernel
theorem dX4_cornerOf_31 : decode cX4_cornerOf 31 = .ok (.iload_n 1, 1) := by decide +kernel
theorem dX4_cornerOf_32 : decode cX4_cornerOf 32 = .ok (.iaload, 1) := by decide +kernel
theorem dX4_cornerOf_33 : decode cX4_cornerOf 33 = .ok (.ireturn, 1) := by decide +kernel
theorem dX4_hasPoint_0 : decode cX4_hasPoint 0 = .ok (.aload_n 0, 1) := by decide +kernel
theorem dX4_hasPoint_1 : decode cX4_hasPoint 1 = .ok (.getfield 26, 3) := by decide +kernel
theorem dX4_hasPoint_4 : decode cX4_hasPoint 4 = .ok (.iload_n 1, 1) := by decide +kernel
theorem dX4_hasPoint_5 : decode cX4_hasPoint 5 = .ok (.iaload, 1) := by decide +kernel
theorem dX4_hasPoint_6 : decode cX4_hasPoint 6 = .ok (.iload_n 2, 1) := by decide +kernel
theorem dX4_hasPoint_7 : decode cX4_hasPoint 7 = .ok (.if_icmp .eq 23, 3) := by decide +kernel
theorem dX4_hasPoint_10 : decode cX4_hasPoint 10 = .ok (.aload_n 0, 1) := by decide +kernel
theorem dX4_hasPoint_11 : decode cX4_hasPoint 11 = .ok (.getfield 29, 3) := by decide +kernel
theorem dX4_hasPoint_14 : decode cX4_hasPoint 14 = .ok (.iload_n 1, 1) := by decide +kernel
theorem dX4_hasPoint_15 : decode cX4_hasPoint 15 = .ok (.iaload, 1) := by decide +kernel
theorem dX4_hasPoint_16 : decode cX4_hasPoint 16 = .ok (.iload_n 2, 1) := by decide +kernel
theorem dX4_hasPoint_17 : decode cX4_hasPoint 17 = .ok (.if_icmp .eq 13, 3) := by decide +kernel
theorem dX4_hasPoint_20 : decode cX4_hasPoint 20 = .ok (.aload_n 0, 1) := by decide +kernel
theorem dX4_hasPoint_21 : decode cX4_hasPoint 21 = .ok (.getfield 32, 3) := by decide +kernel
theorem dX4_hasPoint_24 : decode cX4_hasPoint 24 = .ok (.iload_n 1, 1) := by decide +kernel
theorem dX4_hasPoint_25 : decode cX4_hasPoint 25 = .ok (.iaload, 1) := by decide +kernel
theorem dX4_hasPoint_26 : decode cX4_hasPoint 26 = .ok (.iload_n 2, 1) := by decide +kernel
theorem dX4_hasPoint_27 : decode cX4_hasPoint 27 = .ok (.if_icmp .ne 7, 3) := by decide +kernel
theorem dX4_hasPoint_30 : decode cX4_hasPoint 30 = .ok (.iconst 1, 1) := by decide +kernel
theorem dX4_hasPoint_31 : decode cX4_hasPoint 31 = .ok (.goto 4, 3) := by decide +kernel
theorem dX4_hasPoint_34 : decode cX4_hasPoint 34 = .ok (.iconst 0, 1) := by decide +kernel
theorem dX4_hasPoint_35 : decode cX4_hasPoint 35 = .ok (.ireturn, 1) := by decide +kernel
theorem dX4_triangle_0 : decode cX4_triangle 0 = .ok (.aload_n 0, 1) := by decide +kernel
theorem dX4_triangle_1 : decode cX4_triangle 1 = .ok (.iload_n 1, 1) := by decide +kernel
theorem dX4_triangle_2 : decode cX4_triangle 2 = .ok (.invokevirtual 150, 3) := by decide +kernel
theorem dX4_triangle_5 : decode cX4_triangle 5 = .ok (.ifCond .ne 9, 3) := by decide +kernel
theorem dX4_triangle_8 : decode cX4_triangle 8 = .ok (.aload_n 0, 1) := by decide +kernel
theorem dX4_triangle_9 : decode cX4_triangle 9 = .ok (.iconst (-1), 1) := by decide +kernel
theorem dX4_triangle_10 : decode cX4_triangle 10 = .ok (.invokevirtual 99, 3) := by decide +kernel
theorem dX4_triangle_13 : decode cX4_triangle 13 = .ok (.ireturn, 1) := by decide +kernel
theorem dX4_triangle_14 : decode cX4_triangle 14 = .ok (.iload_n 2, 1) := by decide +kernel
theorem dX4_triangle_15 : decode cX4_triangle 15 = .ok (.ifCond .lt 8, 3) := by decide +kernel
theorem dX4_triangle_18 : decode cX4_triangle 18 = .ok (.iload_n 2, 1) := by decide +kernel
theorem dX4_triangle_19 : decode cX4_triangle 19 = .ok (.iconst 5, 1) := by decide +kernel
theorem dX4_triangle_20 : decode cX4_triangle 20 = .ok (.if_icmp .le 10, 3) := by decide +kernel
theorem dX4_triangle_23 : decode cX4_triangle 23 = .ok (.aload_n 0, 1) := by decide +kernel
theorem dX4_triangle_24 : decode cX4_triangle 24 = .ok (.bipush (-2), 2) := by decide +kernel
theorem dX4_triangle_26 : decode cX4_triangle 26 = .ok (.invokevirtual 99, 3) := by decide +kernel
theorem dX4_triangle_29 : decode cX4_triangle 29 = .ok (.ireturn, 1) := by decide +kernel
theorem dX4_triangle_30 : decode cX4_triangle 30 = .ok (.iload_n 2, 1) := by decide +kernel
theorem dX4_triangle_31 : decode cX4_triangle 31 = .ok (.iconst 3, 1) := by decide +kernel
theorem dX4_triangle_32 : decode cX4_triangle 32 = .ok (.if_icmp .ge 10, 3) := by decide +kernel
theorem dX4_triangle_35 : decode cX4_triangle 35 = .ok (.aload_n 0, 1) := by decide +kernel
theorem dX4_triangle_36 : decode cX4_triangle 36 = .ok (.iload_n 1, 1) := by decide +kernel
theorem dX4_triangle_37 : decode cX4_triangle 37 = .ok (.iload_n 2, 1) := by decide +kernel
theorem dX4_triangle_38 : decode cX4_triangle 38 = .ok (.invokevirtual 153, 3) := by decide +kernel
theorem dX4_triangle_41 : decode cX4_triangle 41 = .ok (.ireturn, 1) := by decide +kernel
theorem dX4_triangle_42 : decode cX4_triangle 42 = .ok (.aload_n 0, 1) := by decide +kernel
theorem dX4_triangle_43 : decode cX4_triangle 43 = .ok (.iload_n 1, 1) := by decide +kernel
theorem dX4_triangle_44 : decode cX4_triangle 44 = .ok (.iload_n 2, 1) := by decide +kernel
theorem dX4_triangle_45 : decode cX4_triangle 45 = .ok (.iconst 2, 1) := by decide +kernel
theorem dX4_triangle_46 : decode cX4_triangle 46 = .ok (.isub, 1) := by decide +kernel
theorem dX4_triangle_47 : decode cX4_triangle 47 = .ok (.iconst 3, 1) := by decide +kernel
theorem dX4_triangle_48 : decode cX4_triangle 48 = .ok (.irem, 1) := by decide +kernel
theorem dX4_triangle_49 : decode cX4_triangle 49 = .ok (.invokevirtual 153, 3) := by decide +kernel
theorem dX4_triangle_52 : decode cX4_triangle 52 = .ok (.istore_n 3, 1) := by decide +kernel
theorem dX4_triangle_53 : decode cX4_triangle 53 = .ok (.aload_n 0, 1) := by decide +kernel
theorem dX4_triangle_54 : decode cX4_triangle 54 = .ok (.iload_n 1, 1) := by decide +kernel
theorem dX4_triangle_55 : decode cX4_triangle 55 = .ok (.iload_n 2, 1) := by decide +kernel
theorem dX4_triangle_56 : decode cX4_triangle 56 = .ok (.iconst 1, 1) := by decide +kernel
theorem dX4_triangle_57 : decode cX4_triangle 57 = .ok (.isub, 1) := by decide +kernel
theorem dX4_triangle_58 : decode cX4_triangle 58 = .ok (.iconst 3, 1) := by decide +kernel
theorem dX4_triangle_59 : decode cX4_triangle 59 = .ok (.irem, 1) := by decide +kernel
theorem dX4_triangle_60 : decode cX4_triangle 60 = .ok (.invokevirtual 153, 3) := by decide +kernel
theorem dX4_triangle_63 : decode cX4_triangle 63 = .ok (.istore 4, 2) := by decide +kernel
theorem dX4_triangle_65 : decode cX4_triangle 65 = .ok (.iconst 0, 1) := by decide +kernel
theorem dX4_triangle_66 : decode cX4_triangle 66 = .ok (.istore 5, 2) := by decide +kernel
theorem dX4_triangle_68 : decode cX4_triangle 68 = .ok (.iload 5, 2) := by decide +kernel
theorem dX4_triangle_70 : decode cX4_triangle 70 = .ok (.aload_n 0, 1) := by decide +kernel
theorem dX4_triangle_71 : decode cX4_triangle 71 = .ok (.getfield 115, 3) := by decide +kernel
theorem dX4_triangle_74 : decode cX4_triangle 74 = .ok (.if_icmp .ge 39, 3) := by decide +kernel
theorem dX4_triangle_77 : decode cX4_triangle 77 = .ok (.iload 5, 2) := by decide +kernel
theorem dX4_triangle_79 : decode cX4_triangle 79 = .ok (.iload_n 1, 1) := by decide +kernel
theorem dX4_triangle_80 : decode cX4_triangle 80 = .ok (.if_icmp .eq 27, 3) := by decide +kernel
theorem dX4_triangle_83 : decode cX4_triangle 83 = .ok (.aload_n 0, 1) := by decide +kernel
theorem dX4_triangle_84 : decode cX4_triangle 84 = .ok (.iload 5, 2) := by decide +kernel
theorem dX4_triangle_86 : decode cX4_triangle 86 = .ok (.iload_n 3, 1) := by decide +kernel
theorem dX4_triangle_87 : decode cX4_triangle 87 = .ok (.invokevirtual 156, 3) := by decide +kernel
theorem dX4_triangle_90 : decode cX4_triangle 90 = .ok (.ifCond .eq 17, 3) := by decide +kernel
theorem dX4_triangle_93 : decode cX4_triangle 93 = .ok (.aload_n 0, 1) := by decide +kernel
theorem dX4_triangle_94 : decode cX4_triangle 94 = .ok (.iload 5, 2) := by decide +kernel
theorem dX4_triangle_96 : decode cX4_triangle 96 = .ok (.iload 4, 2) := by decide +kernel
theorem dX4_triangle_98 : decode cX4_triangle 98 = .ok (.invokevirtual 156, 3) := by decide +kernel
theorem dX4_triangle_101 : decode cX4_triangle 101 = .ok (.ifCond .eq 6, 3) := by decide +kernel
theorem dX4_triangle_104 : decode cX4_triangle 104 = .ok (.iload 5, 2) := by decide +kernel
theorem dX4_triangle_106 : decode cX4_triangle 106 = .ok (.ireturn, 1) := by decide +kernel
theorem dX4_triangle_107 : decode cX4_triangle 107 = .ok (.iinc 5 1, 3) := by decide +kernel
theorem dX4_triangle_110 : decode cX4_triangle 110 = .ok (.goto (-42), 3) := by decide +kernel
theorem dX4_triangle_113 : decode cX4_triangle 113 = .ok (.bipush (-9), 2) := by decide +kernel
theorem dX4_triangle_115 : decode cX4_triangle 115 = .ok (.ireturn, 1) := by decide +kernel
theorem dX4_ring_0 : decode cX4_ring 0 = .ok (.aload_n 0, 1) := by decide +kernel
theorem dX4_ring_1 : decode cX4_ring 1 = .ok (.iload_n 1, 1) := by decide +kernel
theorem dX4_ring_2 : decode cX4_ring 2 = .ok (.invokevirtual 150, 3) := by decide +kernel
theorem dX4_ring_5 : decode cX4_ring 5 = .ok (.ifCond .ne 9, 3) := by decide +kernel
theorem dX4_ring_8 : decode cX4_ring 8 = .ok (.aload_n 0, 1) := by decide +kernel
theorem dX4_ring_9 : decode cX4_ring 9 = .ok (.iconst (-1), 1) := by decide +kernel
theorem dX4_ring_10 : decode cX4_ring 10 = .ok (.invokevirtual 54, 3) := by decide +kernel
theorem dX4_ring_13 : decode cX4_ring 13 = .ok (.ireturn, 1) := by decide +kernel
theorem dX4_ring_14 : decode cX4_ring 14 = .ok (.iconst 3, 1) := by decide +kernel
theorem dX4_ring_15 : decode cX4_ring 15 = .ok (.istore_n 2, 1) := by decide +kernel
theorem dX4_ring_16 : decode cX4_ring 16 = .ok (.iconst 0, 1) := by decide +kernel
theorem dX4_ring_17 : decode cX4_ring 17 = .ok (.istore_n 3, 1) := by decide +kernel
theorem dX4_ring_18 : decode cX4_ring 18 = .ok (.iload_n 3, 1) := by decide +kernel
theorem dX4_ring_19 : decode cX4_ring 19 = .ok (.aload_n 0, 1) := by decide +kernel
theorem dX4_ring_20 : decode cX4_ring 20 = .ok (.getfield 58, 3) := by decide +kernel
theorem dX4_ring_23 : decode cX4_ring 23 = .ok (.if_icmp .ge 61, 3) := by decide +kernel
theorem dX4_ring_26 : decode cX4_ring 26 = .ok (.iload_n 2, 1) := by decide +kernel
theorem dX4_ring_27 : decode cX4_ring 27 = .ok (.aload_n 0, 1) := by decide +kernel
theorem dX4_ring_28 : decode cX4_ring 28 = .ok (.getfield 19, 3) := by decide +kernel
theorem dX4_ring_31 : decode cX4_ring 31 = .ok (.iload_n 3, 1) := by decide +kernel
theorem dX4_ring_32 : decode cX4_ring 32 = .ok (.baload, 1) := by decide +kernel
theorem dX4_ring_33 : decode cX4_ring 33 = .ok (.ifCond .eq 42, 3) := by decide +kernel
theorem dX4_ring_36 : decode cX4_ring 36 = .ok (.aload_n 0, 1) := by decide +kernel
theorem dX4_ring_37 : decode cX4_ring 37 = .ok (.iload_n 1, 1) := by decide +kernel
theorem dX4_ring_38 : decode cX4_ring 38 = .ok (.iload_n 3, 1) := by decide +kernel
theorem dX4_ring_39 : decode cX4_ring 39 = .ok (.invokevirtual 156, 3) := by decide +kernel
theorem dX4_ring_42 : decode cX4_ring 42 = .ok (.ifCond .ne 33, 3) := by decide +kernel
theorem dX4_ring_45 : decode cX4_ring 45 = .ok (.aload_n 0, 1) := by decide +kernel
theorem dX4_ring_46 : decode cX4_ring 46 = .ok (.aload_n 0, 1) := by decide +kernel
theorem dX4_ring_47 : decode cX4_ring 47 = .ok (.getfield 26, 3) := by decide +kernel
theorem dX4_ring_50 : decode cX4_ring 50 = .ok (.iload_n 1, 1) := by decide +kernel
theorem dX4_ring_51 : decode cX4_ring 51 = .ok (.iaload, 1) := by decide +kernel
theorem dX4_ring_52 : decode cX4_ring 52 = .ok (.aload_n 0, 1) := by decide +kernel
theorem dX4_ring_53 : decode cX4_ring 53 = .ok (.getfield 29, 3) := by decide +kernel
theorem dX4_ring_56 : decode cX4_ring 56 = .ok (.iload_n 1, 1) := by decide +kernel
theorem dX4_ring_57 : decode cX4_ring 57 = .ok (.iaload, 1) := by decide +kernel
theorem dX4_ring_58 : decode cX4_ring 58 = .ok (.aload_n 0, 1) := by decide +kernel
theorem dX4_ring_59 : decode cX4_ring 59 = .ok (.getfield 32, 3) := by decide +kernel
theorem dX4_ring_62 : decode cX4_ring 62 = .ok (.iload_n 1, 1) := by decide +kernel
theorem dX4_ring_63 : decode cX4_ring 63 = .ok (.iaload, 1) := by decide +kernel
theorem dX4_ring_64 : decode cX4_ring 64 = .ok (.iload_n 3, 1) := by decide +kernel
theorem dX4_ring_65 : decode cX4_ring 65 = .ok (.invokevirtual 91, 3) := by decide +kernel
theorem dX4_ring_68 : decode cX4_ring 68 = .ok (.ifCond .ne 7, 3) := by decide +kernel
theorem dX4_ring_71 : decode cX4_ring 71 = .ok (.iconst 1, 1) := by decide +kernel
theorem dX4_ring_72 : decode cX4_ring 72 = .ok (.goto 4, 3) := by decide +kernel
theorem dX4_ring_75 : decode cX4_ring 75 = .ok (.iconst 0, 1) := by decide +kernel
theorem dX4_ring_76 : decode cX4_ring 76 = .ok (.iadd, 1) := by decide +kernel
theorem dX4_ring_77 : decode cX4_ring 77 = .ok (.istore_n 2, 1) := by decide +kernel
theorem dX4_ring_78 : decode cX4_ring 78 = .ok (.iinc 3 1, 3) := by decide +kernel
theorem dX4_ring_81 : decode cX4_ring 81 = .ok (.goto (-63), 3) := by decide +kernel
theorem dX4_ring_84 : decode cX4_ring 84 = .ok (.iload_n 2, 1) := by decide +kernel
theorem dX4_ring_85 : decode cX4_ring 85 = .ok (.ireturn, 1) := by decide +kernel
theorem dX4_edge_0 : decode cX4_edge 0 = .ok (.aload_n 0, 1) := by decide +kernel
theorem dX4_edge_1 : decode cX4_edge 1 = .ok (.iload_n 1, 1) := by decide +kernel
theorem dX4_edge_2 : decode cX4_edge 2 = .ok (.invokevirtual 79, 3) := by decide +kernel
theorem dX4_edge_5 : decode cX4_edge 5 = .ok (.ifCond .eq 16, 3) := by decide +kernel
theorem dX4_edge_8 : decode cX4_edge 8 = .ok (.aload_n 0, 1) := by decide +kernel
theorem dX4_edge_9 : decode cX4_edge 9 = .ok (.iload_n 2, 1) := by decide +kernel
theorem dX4_edge_10 : decode cX4_edge 10 = .ok (.invokevirtual 79, 3) := by decide +kernel
theorem dX4_edge_13 : decode cX4_edge 13 = .ok (.ifCond .eq 8, 3) := by decide +kernel
theorem dX4_edge_16 : decode cX4_edge 16 = .ok (.iload_n 1, 1) := by decide +kernel
theorem dX4_edge_17 : decode cX4_edge 17 = .ok (.iload_n 2, 1) := by decide +kernel
theorem dX4_edge_18 : decode cX4_edge 18 = .ok (.if_icmp .ne 9, 3) := by decide +kernel
theorem dX4_edge_21 : decode cX4_edge 21 = .ok (.aload_n 0, 1) := by decide +kernel
theorem dX4_edge_22 : decode cX4_edge 22 = .ok (.iconst (-1), 1) := by decide +kernel
theorem dX4_edge_23 : decode cX4_edge 23 = .ok (.invokevirtual 54, 3) := by decide +kernel
theorem dX4_edge_26 : decode cX4_edge 26 = .ok (.ireturn, 1) := by decide +kernel
theorem dX4_edge_27 : decode cX4_edge 27 = .ok (.aload_n 0, 1) := by decide +kernel
theorem dX4_edge_28 : decode cX4_edge 28 = .ok (.invokevirtual 147, 3) := by decide +kernel
theorem dX4_edge_31 : decode cX4_edge 31 = .ok (.iconst 0, 1) := by decide +kernel
theorem dX4_edge_32 : decode cX4_edge 32 = .ok (.istore_n 3, 1) := by decide +kernel
theorem dX4_edge_33 : decode cX4_edge 33 = .ok (.iload_n 3, 1) := by decide +kernel
theorem dX4_edge_34 : decode cX4_edge 34 = .ok (.aload_n 0, 1) := by decide +kernel
theorem dX4_edge_35 : decode cX4_edge 35 = .ok (.getfield 115, 3) := by decide +kernel
theorem dX4_edge_38 : decode cX4_edge 38 = .ok (.if_icmp .ge 29, 3) := by decide +kernel
theorem dX4_edge_41 : decode cX4_edge 41 = .ok (.aload_n 0, 1) := by decide +kernel
theorem dX4_edge_42 : decode cX4_edge 42 = .ok (.iload_n 3, 1) := by decide +kernel
theorem dX4_edge_43 : decode cX4_edge 43 = .ok (.iload_n 1, 1) := by decide +kernel
theorem dX4_edge_44 : decode cX4_edge 44 = .ok (.invokevirtual 156, 3) := by decide +kernel
theorem dX4_edge_47 : decode cX4_edge 47 = .ok (.ifCond .eq 14, 3) := by decide +kernel
theorem dX4_edge_50 : decode cX4_edge 50 = .ok (.aload_n 0, 1) := by decide +kernel
theorem dX4_edge_51 : decode cX4_edge 51 = .ok (.iload_n 3, 1) := by decide +kernel
theorem dX4_edge_52 : decode cX4_edge 52 = .ok (.iload_n 2, 1) := by decide +kernel
theorem dX4_edge_53 : decode cX4_edge 53 = .ok (.invokevirtual 156, 3) := by decide +kernel
theorem dX4_edge_56 : decode cX4_edge 56 = .ok (.ifCond .eq 5, 3) := by decide +kernel
theorem dX4_edge_59 : decode cX4_edge 59 = .ok (.iconst 1, 1) := by decide +kernel
theorem dX4_edge_60 : decode cX4_edge 60 = .ok (.ireturn, 1) := by decide +kernel
theorem dX4_edge_61 : decode cX4_edge 61 = .ok (.iinc 3 1, 3) := by decide +kernel
theorem dX4_edge_64 : decode cX4_edge 64 = .ok (.goto (-31), 3) := by decide +kernel
theorem dX4_edge_67 : decode cX4_edge 67 = .ok (.iconst 0, 1) := by decide +kernel
theorem dX4_edge_68 : decode cX4_edge 68 = .ok (.ireturn, 1) := by decide +kernel
theorem dX4_isLeft_0 : decode cX4_isLeft 0 = .ok (.aload_n 0, 1) := by decide +kernel
theorem dX4_isLeft_1 : decode cX4_isLeft 1 = .ok (.getfield 13, 3) := by decide +kernel
theorem dX4_isLeft_4 : decode cX4_isLeft 4 = .ok (.iload_n 1, 1) := by decide +kernel
theorem dX4_isLeft_5 : decode cX4_isLeft 5 = .ok (.iaload, 1) := by decide +kernel
theorem dX4_isLeft_6 : decode cX4_isLeft 6 = .ok (.aload_n 0, 1) := by decide +kernel
theorem dX4_isLeft_7 : decode cX4_isLeft 7 = .ok (.getfield 16, 3) := by decide +kernel
theorem dX4_isLeft_10 : decode cX4_isLeft 10 = .ok (.iload_n 1, 1) := by decide +kernel
theorem dX4_isLeft_11 : decode cX4_isLeft 11 = .ok (.iaload, 1) := by decide +kernel
theorem dX4_isLeft_12 : decode cX4_isLeft 12 = .ok (.aload_n 0, 1) := by decide +kernel
theorem dX4_isLeft_13 : decode cX4_isLeft 13 = .ok (.getfield 13, 3) := by decide +kernel
theorem dX4_isLeft_16 : decode cX4_isLeft 16 = .ok (.iload_n 2, 1) := by decide +kernel
theorem dX4_isLeft_17 : decode cX4_isLeft 17 = .ok (.iaload, 1) := by decide +kernel
theorem dX4_isLeft_18 : decode cX4_isLeft 18 = .ok (.aload_n 0, 1) := by decide +kernel
theorem dX4_isLeft_19 : decode cX4_isLeft 19 = .ok (.getfield 16, 3) := by decide +kernel
theorem dX4_isLeft_22 : decode cX4_isLeft 22 = .ok (.iload_n 2, 1) := by decide +kernel
theorem dX4_isLeft_23 : decode cX4_isLeft 23 = .ok (.iaload, 1) := by decide +kernel
theorem dX4_isLeft_24 : decode cX4_isLeft 24 = .ok (.iload_n 3, 1) := by decide +kernel
theorem dX4_isLeft_25 : decode cX4_isLeft 25 = .ok (.iload 4, 2) := by decide +kernel
theorem dX4_isLeft_27 : decode cX4_isLeft 27 = .ok (.invokestatic 87, 3) := by decide +kernel
theorem dX4_isLeft_30 : decode cX4_isLeft 30 = .ok (.ifCond .lt 7, 3) := by decide +kernel
theorem dX4_isLeft_33 : decode cX4_isLeft 33 = .ok (.iconst 1, 1) := by decide +kernel
theorem dX4_isLeft_34 : decode cX4_isLeft 34 = .ok (.goto 4, 3) := by decide +kernel
theorem dX4_isLeft_37 : decode cX4_isLeft 37 = .ok (.iconst 0, 1) := by decide +kernel
theorem dX4_isLeft_38 : decode cX4_isLeft 38 = .ok (.ireturn, 1) := by decide +kernel
theorem dX4_where_0 : decode cX4_where 0 = .ok (.aload_n 0, 1) := by decide +kernel
theorem dX4_where_1 : decode cX4_where 1 = .ok (.iload_n 1, 1) := by decide +kernel
theorem dX4_where_2 : decode cX4_where 2 = .ok (.iload_n 2, 1) := by decide +kernel
theorem dX4_where_3 : decode cX4_where 3 = .ok (.invokevirtual 69, 3) := by decide +kernel
theorem dX4_where_6 : decode cX4_where 6 = .ok (.istore_n 3, 1) := by decide +kernel
theorem dX4_where_7 : decode cX4_where 7 = .ok (.iload_n 3, 1) := by decide +kernel
theorem dX4_where_8 : decode cX4_where 8 = .ok (.ifCond .eq 9, 3) := by decide +kernel
theorem dX4_where_11 : decode cX4_where 11 = .ok (.aload_n 0, 1) := by decide +kernel
theorem dX4_where_12 : decode cX4_where 12 = .ok (.iload_n 3, 1) := by decide +kernel
theorem dX4_where_13 : decode cX4_where 13 = .ok (.invokevirtual 99, 3) := by decide +kernel
theorem dX4_where_16 : decode cX4_where 16 = .ok (.ireturn, 1) := by decide +kernel
theorem dX4_where_17 : decode cX4_where 17 = .ok (.aload_n 0, 1) := by decide +kernel
theorem dX4_where_18 : decode cX4_where 18 = .ok (.invokevirtual 147, 3) := by decide +kernel
theorem dX4_where_21 : decode cX4_where 21 = .ok (.iconst 0, 1) := by decide +kernel
theorem dX4_where_22 : decode cX4_where 22 = .ok (.istore 4, 2) := by decide +kernel
theorem dX4_where_24 : decode cX4_where 24 = .ok (.iload 4, 2) := by decide +kernel
theorem dX4_where_26 : decode cX4_where 26 = .ok (.aload_n 0, 1) := by decide +kernel
theorem dX4_where_27 : decode cX4_where 27 = .ok (.getfield 115, 3) := by decide +kernel
theorem dX4_where_30 : decode cX4_where 30 = .ok (.if_icmp .ge 81, 3) := by decide +kernel
theorem dX4_where_33 : decode cX4_where 33 = .ok (.aload_n 0, 1) := by decide +kernel
theorem dX4_where_34 : decode cX4_where 34 = .ok (.aload_n 0, 1) := by decide +kernel
theorem dX4_where_35 : decode cX4_where 35 = .ok (.getfield 26, 3) := by decide +kernel
theorem dX4_where_38 : decode cX4_where 38 = .ok (.iload 4, 2) := by decide +kernel
theorem dX4_where_40 : decode cX4_where 40 = .ok (.iaload, 1) := by decide +kernel
theorem dX4_where_41 : decode cX4_where 41 = .ok (.aload_n 0, 1) := by decide +kernel
theorem dX4_where_42 : decode cX4_where 42 = .ok (.getfield 29, 3) := by decide +kernel
theorem dX4_where_45 : decode cX4_where 45 = .ok (.iload 4, 2) := by decide +kernel
theorem dX4_where_47 : decode cX4_where 47 = .ok (.iaload, 1) := by decide +kernel
theorem dX4_where_48 : decode cX4_where 48 = .ok (.iload_n 1, 1) := by decide +kernel
theorem dX4_where_49 : decode cX4_where 49 = .ok (.iload_n 2, 1) := by decide +kernel
theorem dX4_where_50 : decode cX4_where 50 = .ok (.invokevirtual 159, 3) := by decide +kernel
theorem dX4_where_53 : decode cX4_where 53 = .ok (.ifCond .eq 52, 3) := by decide +kernel
theorem dX4_where_56 : decode cX4_where 56 = .ok (.aload_n 0, 1) := by decide +kernel
theorem dX4_where_57 : decode cX4_where 57 = .ok (.aload_n 0, 1) := by decide +kernel
theorem dX4_where_58 : decode cX4_where 58 = .ok (.getfield 29, 3) := by decide +kernel
theorem dX4_where_61 : decode cX4_where 61 = .ok (.iload 4, 2) := by decide +kernel
theorem dX4_where_63 : decode cX4_where 63 = .ok (.iaload, 1) := by decide +kernel
theorem dX4_where_64 : decode cX4_where 64 = .ok (.aload_n 0, 1) := by decide +kernel
theorem dX4_where_65 : decode cX4_where 65 = .ok (.getfield 32, 3) := by decide +kernel
theorem dX4_where_68 : decode cX4_where 68 = .ok (.iload 4, 2) := by decide +kernel
theorem dX4_where_70 : decode cX4_where 70 = .ok (.iaload, 1) := by decide +kernel
theorem dX4_where_71 : decode cX4_where 71 = .ok (.iload_n 1, 1) := by decide +kernel
theorem dX4_where_72 : decode cX4_where 72 = .ok (.iload_n 2, 1) := by decide +kernel
theorem dX4_where_73 : decode cX4_where 73 = .ok (.invokevirtual 159, 3) := by decide +kernel
theorem dX4_where_76 : decode cX4_where 76 = .ok (.ifCond .eq 29, 3) := by decide +kernel
theorem dX4_where_79 : decode cX4_where 79 = .ok (.aload_n 0, 1) := by decide +kernel
theorem dX4_where_80 : decode cX4_where 80 = .ok (.aload_n 0, 1) := by decide +kernel
theorem dX4_where_81 : decode cX4_where 81 = .ok (.getfield 32, 3) := by decide +kernel
theorem dX4_where_84 : decode cX4_where 84 = .ok (.iload 4, 2) := by decide +kernel
theorem dX4_where_86 : decode cX4_where 86 = .ok (.iaload, 1) := by decide +kernel
theorem dX4_where_87 : decode cX4_where 87 = .ok (.aload_n 0, 1) := by decide +kernel
theorem dX4_where_88 : decode cX4_where 88 = .ok (.getfield 26, 3) := by decide +kernel
theorem dX4_where_91 : decode cX4_where 91 = .ok (.iload 4, 2) := by decide +kernel
theorem dX4_where_93 : decode cX4_where 93 = .ok (.iaload, 1) := by decide +kernel
theorem dX4_where_94 : decode cX4_where 94 = .ok (.iload_n 1, 1) := by decide +kernel
theorem dX4_where_95 : decode cX4_where 95 = .ok (.iload_n 2, 1) := by decide +kernel
theorem dX4_where_96 : decode cX4_where 96 = .ok (.invokevirtual 159, 3) := by decide +kernel
theorem dX4_where_99 : decode cX4_where 99 = .ok (.ifCond .eq 6, 3) := by decide +kernel
theorem dX4_where_102 : decode cX4_where 102 = .ok (.iload 4, 2) := by decide +kernel
theorem dX4_where_104 : decode cX4_where 104 = .ok (.ireturn, 1) := by decide +kernel
theorem dX4_where_105 : decode cX4_where 105 = .ok (.iinc 4 1, 3) := by decide +kernel
theorem dX4_where_108 : decode cX4_where 108 = .ok (.goto (-84), 3) := by decide +kernel
theorem dX4_where_111 : decode cX4_where 111 = .ok (.bipush (-9), 2) := by decide +kernel
theorem dX4_where_113 : decode cX4_where 113 = .ok (.ireturn, 1) := by decide +kernel
theorem dX4_nearest_0 : decode cX4_nearest 0 = .ok (.aload_n 0, 1) := by decide +kernel
theorem dX4_nearest_1 : decode cX4_nearest 1 = .ok (.iload_n 1, 1) := by decide +kernel
theorem dX4_nearest_2 : decode cX4_nearest 2 = .ok (.iload_n 2, 1) := by decide +kernel
theorem dX4_nearest_3 : decode cX4_nearest 3 = .ok (.invokevirtual 69, 3) := by decide +kernel
theorem dX4_nearest_6 : decode cX4_nearest 6 = .ok (.istore_n 3, 1) := by decide +kernel
theorem dX4_nearest_7 : decode cX4_nearest 7 = .ok (.iload_n 3, 1) := by decide +kernel
theorem dX4_nearest_8 : decode cX4_nearest 8 = .ok (.ifCond .eq 9, 3) := by decide +kernel
theorem dX4_nearest_11 : decode cX4_nearest 11 = .ok (.aload_n 0, 1) := by decide +kernel
theorem dX4_nearest_12 : decode cX4_nearest 12 = .ok (.iload_n 3, 1) := by decide +kernel
theorem dX4_nearest_13 : decode cX4_nearest 13 = .ok (.invokevirtual 99, 3) := by decide +kernel
theorem dX4_nearest_16 : decode cX4_nearest 16 = .ok (.ireturn, 1) := by decide +kernel
theorem dX4_nearest_17 : decode cX4_nearest 17 = .ok (.bipush (-9), 2) := by decide +kernel
theorem dX4_nearest_19 : decode cX4_nearest 19 = .ok (.istore 4, 2) := by decide +kernel
theorem dX4_nearest_21 : decode cX4_nearest 21 = .ok (.iconst 0, 1) := by decide +kernel
theorem dX4_nearest_22 : decode cX4_nearest 22 = .ok (.istore 5, 2) := by decide +kernel
theorem dX4_nearest_24 : decode cX4_nearest 24 = .ok (.iload 5, 2) := by decide +kernel
theorem dX4_nearest_26 : decode cX4_nearest 26 = .ok (.aload_n 0, 1) := by decide +kernel
theorem dX4_nearest_27 : decode cX4_nearest 27 = .ok (.getfield 58, 3) := by decide +kernel
theorem dX4_nearest_30 : decode cX4_nearest 30 = .ok (.if_icmp .ge 48, 3) := by decide +kernel
theorem dX4_nearest_33 : decode cX4_nearest 33 = .ok (.aload_n 0, 1) := by decide +kernel
theorem dX4_nearest_34 : decode cX4_nearest 34 = .ok (.getfield 19, 3) := by decide +kernel
theorem dX4_nearest_37 : decode cX4_nearest 37 = .ok (.iload 5, 2) := by decide +kernel
theorem dX4_nearest_39 : decode cX4_nearest 39 = .ok (.baload, 1) := by decide +kernel
theorem dX4_nearest_40 : decode cX4_nearest 40 = .ok (.ifCond .eq 32, 3) := by decide +kernel
theorem dX4_nearest_43 : decode cX4_nearest 43 = .ok (.iload 4, 2) := by decide +kernel
theorem dX4_nearest_45 : decode cX4_nearest 45 = .ok (.ifCond .lt 23, 3) := by decide +kernel
theorem dX4_nearest_48 : decode cX4_nearest 48 = .ok (.aload_n 0, 1) := by decide +kernel
theorem dX4_nearest_49 : decode cX4_nearest 49 = .ok (.iload_n 1, 1) := by decide +kernel
theorem dX4_nearest_50 : decode cX4_nearest 50 = .ok (.iload_n 2, 1) := by decide +kernel
theorem dX4_nearest_51 : decode cX4_nearest 51 = .ok (.iload 5, 2) := by decide +kernel
theorem dX4_nearest_53 : decode cX4_nearest 53 = .ok (.invokevirtual 135, 3) := by decide +kernel
theorem dX4_nearest_56 : decode cX4_nearest 56 = .ok (.aload_n 0, 1) := by decide +kernel
theorem dX4_nearest_57 : decode cX4_nearest 57 = .ok (.iload_n 1, 1) := by decide +kernel
theorem dX4_nearest_58 : decode cX4_nearest 58 = .ok (.iload_n 2, 1) := by decide +kernel
theorem dX4_nearest_59 : decode cX4_nearest 59 = .ok (.iload 4, 2) := by decide +kernel
theorem dX4_nearest_61 : decode cX4_nearest 61 = .ok (.invokevirtual 135, 3) := by decide +kernel
theorem dX4_nearest_64 : decode cX4_nearest 64 = .ok (.lcmp, 1) := by decide +kernel
theorem dX4_nearest_65 : decode cX4_nearest 65 = .ok (.ifCond .ge 7, 3) := by decide +kernel
theorem dX4_nearest_68 : decode cX4_nearest 68 = .ok (.iload 5, 2) := by decide +kernel
theorem dX4_nearest_70 : decode cX4_nearest 70 = .ok (.istore 4, 2) := by decide +kernel
theorem dX4_nearest_72 : decode cX4_nearest 72 = .ok (.iinc 5 1, 3) := by decide +kernel
theorem dX4_nearest_75 : decode cX4_nearest 75 = .ok (.goto (-51), 3) := by decide +kernel
theorem dX4_nearest_78 : decode cX4_nearest 78 = .ok (.iload 4, 2) := by decide +kernel
theorem dX4_nearest_80 : decode cX4_nearest 80 = .ok (.ireturn, 1) := by decide +kernel
theorem dX4_isOn_0 : decode cX4_isOn 0 = .ok (.aload_n 0, 1) := by decide +kernel
theorem dX4_isOn_1 : decode cX4_isOn 1 = .ok (.iload_n 1, 1) := by decide +kernel
theorem dX4_isOn_2 : decode cX4_isOn 2 = .ok (.iload_n 2, 1) := by decide +kernel
theorem dX4_isOn_3 : decode cX4_isOn 3 = .ok (.iload_n 3, 1) := by decide +kernel
theorem dX4_isOn_4 : decode cX4_isOn 4 = .ok (.invokevirtual 95, 3) := by decide +kernel
theorem dX4_isOn_7 : decode cX4_isOn 7 = .ok (.ifCond .ne 103, 3) := by decide +kernel
theorem dX4_isOn_10 : decode cX4_isOn 10 = .ok (.aload_n 0, 1) := by decide +kernel
theorem dX4_isOn_11 : decode cX4_isOn 11 = .ok (.getfield 13, 3) := by decide +kernel
theorem dX4_isOn_14 : decode cX4_isOn 14 = .ok (.iload_n 1, 1) := by decide +kernel
theorem dX4_isOn_15 : decode cX4_isOn 15 = .ok (.iaload, 1) := by decide +kernel
theorem dX4_isOn_16 : decode cX4_isOn 16 = .ok (.aload_n 0, 1) := by decide +kernel
theorem dX4_isOn_17 : decode cX4_isOn 17 = .ok (.getfield 13, 3) := by decide +kernel
theorem dX4_isOn_20 : decode cX4_isOn 20 = .ok (.iload_n 2, 1) := by decide +kernel
theorem dX4_isOn_21 : decode cX4_isOn 21 = .ok (.iaload, 1) := by decide +kernel
theorem dX4_isOn_22 : decode cX4_isOn 22 = .ok (.invokestatic 163, 3) := by decide +kernel
theorem dX4_isOn_25 : decode cX4_isOn 25 = .ok (.aload_n 0, 1) := by decide +kernel
theorem dX4_isOn_26 : decode cX4_isOn 26 = .ok (.getfield 13, 3) := by decide +kernel
theorem dX4_isOn_29 : decode cX4_isOn 29 = .ok (.iload_n 3, 1) := by decide +kernel
theorem dX4_isOn_30 : decode cX4_isOn 30 = .ok (.iaload, 1) := by decide +kernel
theorem dX4_isOn_31 : decode cX4_isOn 31 = .ok (.if_icmp .gt 79, 3) := by decide +kernel
theorem dX4_isOn_34 : decode cX4_isOn 34 = .ok (.aload_n 0, 1) := by decide +kernel
theorem dX4_isOn_35 : decode cX4_isOn 35 = .ok (.getfield 13, 3) := by decide +kernel
theorem dX4_isOn_38 : decode cX4_isOn 38 = .ok (.iload_n 3, 1) := by decide +kernel
theorem dX4_isOn_39 : decode cX4_isOn 39 = .ok (.iaload, 1) := by decide +kernel
theorem dX4_isOn_40 : decode cX4_isOn 40 = .ok (.aload_n 0, 1) := by decide +kernel
theorem dX4_isOn_41 : decode cX4_isOn 41 = .ok (.getfield 13, 3) := by decide +kernel
theorem dX4_isOn_44 : decode cX4_isOn 44 = .ok (.iload_n 1, 1) := by decide +kernel
theorem dX4_isOn_45 : decode cX4_isOn 45 = .ok (.iaload, 1) := by decide +kernel
theorem dX4_isOn_46 : decode cX4_isOn 46 = .ok (.aload_n 0, 1) := by decide +kernel
theorem dX4_isOn_47 : decode cX4_isOn 47 = .ok (.getfield 13, 3) := by decide +kernel
theorem dX4_isOn_50 : decode cX4_isOn 50 = .ok (.iload_n 2, 1) := by decide +kernel
theorem dX4_isOn_51 : decode cX4_isOn 51 = .ok (.iaload, 1) := by decide +kernel
theorem dX4_isOn_52 : decode cX4_isOn 52 = .ok (.invokestatic 168, 3) := by decide +kernel
theorem dX4_isOn_55 : decode cX4_isOn 55 = .ok (.if_icmp .gt 55, 3) := by decide +kernel
theorem dX4_isOn_58 : decode cX4_isOn 58 = .ok (.aload_n 0, 1) := by decide +kernel
theorem dX4_isOn_59 : decode cX4_isOn 59 = .ok (.getfield 16, 3) := by decide +kernel
theorem dX4_isOn_62 : decode cX4_isOn 62 = .ok (.iload_n 1, 1) := by decide +kernel
theorem dX4_isOn_63 : decode cX4_isOn 63 = .ok (.iaload, 1) := by decide +kernel
theorem dX4_isOn_64 : decode cX4_isOn 64 = .ok (.aload_n 0, 1) := by decide +kernel
theorem dX4_isOn_65 : decode cX4_isOn 65 = .ok (.getfield 16, 3) := by decide +kernel
theorem dX4_isOn_68 : decode cX4_isOn 68 = .ok (.iload_n 2, 1) := by decide +kernel
theorem dX4_isOn_69 : decode cX4_isOn 69 = .ok (.iaload, 1) := by decide +kernel
theorem dX4_isOn_70 : decode cX4_isOn 70 = .ok (.invokestatic 163, 3) := by decide +kernel
theorem dX4_isOn_73 : decode cX4_isOn 73 = .ok (.aload_n 0, 1) := by decide +kernel
theorem dX4_isOn_74 : decode cX4_isOn 74 = .ok (.getfield 16, 3) := by decide +kernel
theorem dX4_isOn_77 : decode cX4_isOn 77 = .ok (.iload_n 3, 1) := by decide +kernel
theorem dX4_isOn_78 : decode cX4_isOn 78 = .ok (.iaload, 1) := by decide +kernel
theorem dX4_isOn_79 : decode cX4_isOn 79 = .ok (.if_icmp .gt 31, 3) := by decide +kernel
theorem dX4_isOn_82 : decode cX4_isOn 82 = .ok (.aload_n 0, 1) := by decide +kernel
theorem dX4_isOn_83 : decode cX4_isOn 83 = .ok (.getfield 16, 3) := by decide +kernel
theorem dX4_isOn_86 : decode cX4_isOn 86 = .ok (.iload_n 3, 1) := by decide +kernel
theorem dX4_isOn_87 : decode cX4_isOn 87 = .ok (.iaload, 1) := by decide +kernel
theorem dX4_isOn_88 : decode cX4_isOn 88 = .ok (.aload_n 0, 1) := by decide +kernel
theorem dX4_isOn_89 : decode cX4_isOn 89 = .ok (.getfield 16, 3) := by decide +kernel
theorem dX4_isOn_92 : decode cX4_isOn 92 = .ok (.iload_n 1, 1) := by decide +kernel
theorem dX4_isOn_93 : decode cX4_isOn 93 = .ok (.iaload, 1) := by decide +kernel
theorem dX4_isOn_94 : decode cX4_isOn 94 = .ok (.aload_n 0, 1) := by decide +kernel
theorem dX4_isOn_95 : decode cX4_isOn 95 = .ok (.getfield 16, 3) := by decide +kernel
theorem dX4_isOn_98 : decode cX4_isOn 98 = .ok (.iload_n 2, 1) := by decide +kernel
theorem dX4_isOn_99 : decode cX4_isOn 99 = .ok (.iaload, 1) := by decide +kernel
theorem dX4_isOn_100 : decode cX4_isOn 100 = .ok (.invokestatic 168, 3) := by decide +kernel
theorem dX4_isOn_103 : decode cX4_isOn 103 = .ok (.if_icmp .gt 7, 3) := by decide +kernel
theorem dX4_isOn_106 : decode cX4_isOn 106 = .ok (.iconst 1, 1) := by decide +kernel
theorem dX4_isOn_107 : decode cX4_isOn 107 = .ok (.goto 4, 3) := by decide +kernel
theorem dX4_isOn_110 : decode cX4_isOn 110 = .ok (.iconst 0, 1) := by decide +kernel
theorem dX4_isOn_111 : decode cX4_isOn 111 = .ok (.ireturn, 1) := by decide +kernel
theorem dX4_cross_0 : decode cX4_cross 0 = .ok (.aload_n 0, 1) := by decide +kernel
theorem dX4_cross_1 : decode cX4_cross 1 = .ok (.iload_n 1, 1) := by decide +kernel
theorem dX4_cross_2 : decode cX4_cross 2 = .ok (.invokevirtual 79, 3) := by decide +kernel
theorem dX4_cross_5 : decode cX4_cross 5 = .ok (.ifCond .eq 39, 3) := by decide +kernel
theorem dX4_cross_8 : decode cX4_cross 8 = .ok (.aload_n 0, 1) := by decide +kernel
theorem dX4_cross_9 : decode cX4_cross 9 = .ok (.iload_n 2, 1) := by decide +kernel
theorem dX4_cross_10 : decode cX4_cross 10 = .ok (.invokevirtual 79, 3) := by decide +kernel
theorem dX4_cross_13 : decode cX4_cross 13 = .ok (.ifCond .eq 31, 3) := by decide +kernel
theorem dX4_cross_16 : decode cX4_cross 16 = .ok (.aload_n 0, 1) := by decide +kernel
theorem dX4_cross_17 : decode cX4_cross 17 = .ok (.iload_n 3, 1) := by decide +kernel
theorem dX4_cross_18 : decode cX4_cross 18 = .ok (.invokevirtual 79, 3) := by decide +kernel
theorem dX4_cross_21 : decode cX4_cross 21 = .ok (.ifCond .eq 23, 3) := by decide +kernel
theorem dX4_cross_24 : decode cX4_cross 24 = .ok (.aload_n 0, 1) := by decide +kernel
theorem dX4_cross_25 : decode cX4_cross 25 = .ok (.iload 4, 2) := by decide +kernel
theorem dX4_cross_27 : decode cX4_cross 27 = .ok (.invokevirtual 79, 3) := by decide +kernel
theorem dX4_cross_30 : decode cX4_cross 30 = .ok (.ifCond .eq 14, 3) := by decide +kernel
theorem dX4_cross_33 : decode cX4_cross 33 = .ok (.iload_n 1, 1) := by decide +kernel
theorem dX4_cross_34 : decode cX4_cross 34 = .ok (.iload_n 2, 1) := by decide +kernel
theorem dX4_cross_35 : decode cX4_cross 35 = .ok (.if_icmp .eq 9, 3) := by decide +kernel
theorem dX4_cross_38 : decode cX4_cross 38 = .ok (.iload_n 3, 1) := by decide +kernel
theorem dX4_cross_39 : decode cX4_cross 39 = .ok (.iload 4, 2) := by decide +kernel
theorem dX4_cross_41 : decode cX4_cross 41 = .ok (.if_icmp .ne 9, 3) := by decide +kernel
theorem dX4_cross_44 : decode cX4_cross 44 = .ok (.aload_n 0, 1) := by decide +kernel
theorem dX4_cross_45 : decode cX4_cross 45 = .ok (.iconst (-1), 1) := by decide +kernel
theorem dX4_cross_46 : decode cX4_cross 46 = .ok (.invokevirtual 54, 3) := by decide +kernel
theorem dX4_cross_49 : decode cX4_cross 49 = .ok (.ireturn, 1) := by decide +kernel
theorem dX4_cross_50 : decode cX4_cross 50 = .ok (.aload_n 0, 1) := by decide +kernel
theorem dX4_cross_51 : decode cX4_cross 51 = .ok (.iload_n 1, 1) := by decide +kernel
theorem dX4_cross_52 : decode cX4_cross 52 = .ok (.iload_n 2, 1) := by decide +kernel
theorem dX4_cross_53 : decode cX4_cross 53 = .ok (.iload_n 3, 1) := by decide +kernel
theorem dX4_cross_54 : decode cX4_cross 54 = .ok (.invokevirtual 95, 3) := by decide +kernel
theorem dX4_cross_57 : decode cX4_cross 57 = .ok (.aload_n 0, 1) := by decide +kernel
theorem dX4_cross_58 : decode cX4_cross 58 = .ok (.iload_n 1, 1) := by decide +kernel
theorem dX4_cross_59 : decode cX4_cross 59 = .ok (.iload_n 2, 1) := by decide +kernel
theorem dX4_cross_60 : decode cX4_cross 60 = .ok (.iload 4, 2) := by decide +kernel
theorem dX4_cross_62 : decode cX4_cross 62 = .ok (.invokevirtual 95, 3) := by decide +kernel
theorem dX4_cross_65 : decode cX4_cross 65 = .ok (.imul, 1) := by decide +kernel
theorem dX4_cross_66 : decode cX4_cross 66 = .ok (.ifCond .ge 25, 3) := by decide +kernel
theorem dX4_cross_69 : decode cX4_cross 69 = .ok (.aload_n 0, 1) := by decide +kernel
theorem dX4_cross_70 : decode cX4_cross 70 = .ok (.iload_n 3, 1) := by decide +kernel
theorem dX4_cross_71 : decode cX4_cross 71 = .ok (.iload 4, 2) := by decide +kernel
theorem dX4_cross_73 : decode cX4_cross 73 = .ok (.iload_n 1, 1) := by decide +kernel
theorem dX4_cross_74 : decode cX4_cross 74 = .ok (.invokevirtual 95, 3) := by decide +kernel
theorem dX4_cross_77 : decode cX4_cross 77 = .ok (.aload_n 0, 1) := by decide +kernel
theorem dX4_cross_78 : decode cX4_cross 78 = .ok (.iload_n 3, 1) := by decide +kernel
theorem dX4_cross_79 : decode cX4_cross 79 = .ok (.iload 4, 2) := by decide +kernel
theorem dX4_cross_81 : decode cX4_cross 81 = .ok (.iload_n 2, 1) := by decide +kernel
theorem dX4_cross_82 : decode cX4_cross 82 = .ok (.invokevirtual 95, 3) := by decide +kernel
theorem dX4_cross_85 : decode cX4_cross 85 = .ok (.imul, 1) := by decide +kernel
theorem dX4_cross_86 : decode cX4_cross 86 = .ok (.ifCond .ge 5, 3) := by decide +kernel
theorem dX4_cross_89 : decode cX4_cross 89 = .ok (.iconst 2, 1) := by decide +kernel
theorem dX4_cross_90 : decode cX4_cross 90 = .ok (.ireturn, 1) := by decide +kernel
theorem dX4_cross_91 : decode cX4_cross 91 = .ok (.aload_n 0, 1) := by decide +kernel
theorem dX4_cross_92 : decode cX4_cross 92 = .ok (.iload_n 1, 1) := by decide +kernel
theorem dX4_cross_93 : decode cX4_cross 93 = .ok (.iload_n 2, 1) := by decide +kernel
theorem dX4_cross_94 : decode cX4_cross 94 = .ok (.iload_n 3, 1) := by decide +kernel
theorem dX4_cross_95 : decode cX4_cross 95 = .ok (.invokevirtual 171, 3) := by decide +kernel
theorem dX4_cross_98 : decode cX4_cross 98 = .ok (.ifCond .ne 36, 3) := by decide +kernel
theorem dX4_cross_101 : decode cX4_cross 101 = .ok (.aload_n 0, 1) := by decide +kernel
theorem dX4_cross_102 : decode cX4_cross 102 = .ok (.iload_n 1, 1) := by decide +kernel
theorem dX4_cross_103 : decode cX4_cross 103 = .ok (.iload_n 2, 1) := by decide +kernel
theorem dX4_cross_104 : decode cX4_cross 104 = .ok (.iload 4, 2) := by decide +kernel
theorem dX4_cross_106 : decode cX4_cross 106 = .ok (.invokevirtual 171, 3) := by decide +kernel
theorem dX4_cross_109 : decode cX4_cross 109 = .ok (.ifCond .ne 25, 3) := by decide +kernel
theorem dX4_cross_112 : decode cX4_cross 112 = .ok (.aload_n 0, 1) := by decide +kernel
theorem dX4_cross_113 : decode cX4_cross 113 = .ok (.iload_n 3, 1) := by decide +kernel
theorem dX4_cross_114 : decode cX4_cross 114 = .ok (.iload 4, 2) := by decide +kernel
theorem dX4_cross_116 : decode cX4_cross 116 = .ok (.iload_n 1, 1) := by decide +kernel
theorem dX4_cross_117 : decode cX4_cross 117 = .ok (.invokevirtual 171, 3) := by decide +kernel
theorem dX4_cross_120 : decode cX4_cross 120 = .ok (.ifCond .ne 14, 3) := by decide +kernel
theorem dX4_cross_123 : decode cX4_cross 123 = .ok (.aload_n 0, 1) := by decide +kernel
theorem dX4_cross_124 : decode cX4_cross 124 = .ok (.iload_n 3, 1) := by decide +kernel
theorem dX4_cross_125 : decode cX4_cross 125 = .ok (.iload 4, 2) := by decide +kernel
theorem dX4_cross_127 : decode cX4_cross 127 = .ok (.iload_n 2, 1) := by decide +kernel
theorem dX4_cross_128 : decode cX4_cross 128 = .ok (.invokevirtual 171, 3) := by decide +kernel
theorem dX4_cross_131 : decode cX4_cross 131 = .ok (.ifCond .eq 7, 3) := by decide +kernel
theorem dX4_cross_134 : decode cX4_cross 134 = .ok (.iconst 1, 1) := by decide +kernel
theorem dX4_cross_135 : decode cX4_cross 135 = .ok (.goto 4, 3) := by decide +kernel
theorem dX4_cross_138 : decode cX4_cross 138 = .ok (.iconst 0, 1) := by decide +kernel
theorem dX4_cross_139 : decode cX4_cross 139 = .ok (.ireturn, 1) := by decide +kernel
theorem dX4_isUpper_0 : decode cX4_isUpper 0 = .ok (.aload_n 0, 1) := by decide +kernel
theorem dX4_isUpper_1 : decode cX4_isUpper 1 = .ok (.getfield 16, 3) := by decide +kernel
theorem dX4_isUpper_4 : decode cX4_isUpper 4 = .ok (.iload_n 2, 1) := by decide +kernel
theorem dX4_isUpper_5 : decode cX4_isUpper 5 = .ok (.iaload, 1) := by decide +kernel
theorem dX4_isUpper_6 : decode cX4_isUpper 6 = .ok (.aload_n 0, 1) := by decide +kernel
theorem dX4_isUpper_7 : decode cX4_isUpper 7 = .ok (.getfield 16, 3) := by decide +kernel
theorem dX4_isUpper_10 : decode cX4_isUpper 10 = .ok (.iload_n 1, 1) := by decide +kernel
theorem dX4_isUpper_11 : decode cX4_isUpper 11 = .ok (.iaload, 1) := by decide +kernel
theorem dX4_isUpper_12 : decode cX4_isUpper 12 = .ok (.if_icmp .gt 33, 3) := by decide +kernel
theorem dX4_isUpper_15 : decode cX4_isUpper 15 = .ok (.aload_n 0, 1) := by decide +kernel
theorem dX4_isUpper_16 : decode cX4_isUpper 16 = .ok (.getfield 16, 3) := by decide +kernel
theorem dX4_isUpper_19 : decode cX4_isUpper 19 = .ok (.iload_n 2, 1) := by decide +kernel
theorem dX4_isUpper_20 : decode cX4_isUpper 20 = .ok (.iaload, 1) := by decide +kernel
theorem dX4_isUpper_21 : decode cX4_isUpper 21 = .ok (.aload_n 0, 1) := by decide +kernel
theorem dX4_isUpper_22 : decode cX4_isUpper 22 = .ok (.getfield 16, 3) := by decide +kernel
theorem dX4_isUpper_25 : decode cX4_isUpper 25 = .ok (.iload_n 1, 1) := by decide +kernel
theorem dX4_isUpper_26 : decode cX4_isUpper 26 = .ok (.iaload, 1) := by decide +kernel
theorem dX4_isUpper_27 : decode cX4_isUpper 27 = .ok (.if_icmp .ne 22, 3) := by decide +kernel
theorem dX4_isUpper_30 : decode cX4_isUpper 30 = .ok (.aload_n 0, 1) := by decide +kernel
theorem dX4_isUpper_31 : decode cX4_isUpper 31 = .ok (.getfield 13, 3) := by decide +kernel
theorem dX4_isUpper_34 : decode cX4_isUpper 34 = .ok (.iload_n 2, 1) := by decide +kernel
theorem dX4_isUpper_35 : decode cX4_isUpper 35 = .ok (.iaload, 1) := by decide +kernel
theorem dX4_isUpper_36 : decode cX4_isUpper 36 = .ok (.aload_n 0, 1) := by decide +kernel
theorem dX4_isUpper_37 : decode cX4_isUpper 37 = .ok (.getfield 13, 3) := by decide +kernel
theorem dX4_isUpper_40 : decode cX4_isUpper 40 = .ok (.iload_n 1, 1) := by decide +kernel
theorem dX4_isUpper_41 : decode cX4_isUpper 41 = .ok (.iaload, 1) := by decide +kernel
theorem dX4_isUpper_42 : decode cX4_isUpper 42 = .ok (.if_icmp .le 7, 3) := by decide +kernel
theorem dX4_isUpper_45 : decode cX4_isUpper 45 = .ok (.iconst 1, 1) := by decide +kernel
theorem dX4_isUpper_46 : decode cX4_isUpper 46 = .ok (.goto 4, 3) := by decide +kernel
theorem dX4_isUpper_49 : decode cX4_isUpper 49 = .ok (.iconst 0, 1) := by decide +kernel
theorem dX4_isUpper_50 : decode cX4_isUpper 50 = .ok (.ireturn, 1) := by decide +kernel
theorem dX4_isBefore_0 : decode cX4_isBefore 0 = .ok (.aload_n 0, 1) := by decide +kernel
theorem dX4_isBefore_1 : decode cX4_isBefore 1 = .ok (.iload_n 1, 1) := by decide +kernel
theorem dX4_isBefore_2 : decode cX4_isBefore 2 = .ok (.iload_n 2, 1) := by decide +kernel
theorem dX4_isBefore_3 : decode cX4_isBefore 3 = .ok (.invokevirtual 174, 3) := by decide +kernel
theorem dX4_isBefore_6 : decode cX4_isBefore 6 = .ok (.aload_n 0, 1) := by decide +kernel
theorem dX4_isBefore_7 : decode cX4_isBefore 7 = .ok (.iload_n 1, 1) := by decide +kernel
theorem dX4_isBefore_8 : decode cX4_isBefore 8 = .ok (.iload_n 3, 1) := by decide +kernel
theorem dX4_isBefore_9 : decode cX4_isBefore 9 = .ok (.invokevirtual 174, 3) := by decide +kernel
theorem dX4_isBefore_12 : decode cX4_isBefore 12 = .ok (.if_icmp .eq 10, 3) := by decide +kernel
theorem dX4_isBefore_15 : decode cX4_isBefore 15 = .ok (.aload_n 0, 1) := by decide +kernel
theorem dX4_isBefore_16 : decode cX4_isBefore 16 = .ok (.iload_n 1, 1) := by decide +kernel
theorem dX4_isBefore_17 : decode cX4_isBefore 17 = .ok (.iload_n 2, 1) := by decide +kernel
theorem dX4_isBefore_18 : decode cX4_isBefore 18 = .ok (.invokevirtual 174, 3) := by decide +kernel
theorem dX4_isBefore_21 : decode cX4_isBefore 21 = .ok (.ireturn, 1) := by decide +kernel
theorem dX4_isBefore_22 : decode cX4_isBefore 22 = .ok (.aload_n 0, 1) := by decide +kernel
theorem dX4_isBefore_23 : decode cX4_isBefore 23 = .ok (.iload_n 1, 1) := by decide +kernel
theorem dX4_isBefore_24 : decode cX4_isBefore 24 = .ok (.iload_n 2, 1) := by decide +kernel
theorem dX4_isBefore_25 : decode cX4_isBefore 25 = .ok (.iload_n 3, 1) := by decide +kernel
theorem dX4_isBefore_26 : decode cX4_isBefore 26 = .ok (.invokevirtual 95, 3) := by decide +kernel
theorem dX4_isBefore_29 : decode cX4_isBefore 29 = .ok (.istore 4, 2) := by decide +kernel
theorem dX4_isBefore_31 : decode cX4_isBefore 31 = .ok (.iload 4, 2) := by decide +kernel
theorem dX4_isBefore_33 : decode cX4_isBefore 33 = .ok (.ifCond .eq 16, 3) := by decide +kernel
theorem dX4_isBefore_36 : decode cX4_isBefore 36 = .ok (.iload 4, 2) := by decide +kernel
theorem dX4_isBefore_38 : decode cX4_isBefore 38 = .ok (.ifCond .le 7, 3) := by decide +kernel
theorem dX4_isBefore_41 : decode cX4_isBefore 41 = .ok (.iconst 1, 1) := by decide +kernel
theorem dX4_isBefore_42 : decode cX4_isBefore 42 = .ok (.goto 28, 3) := by decide +kernel
theorem dX4_isBefore_45 : decode cX4_isBefore 45 = .ok (.iconst 0, 1) := by decide +kernel
theorem dX4_isBefore_46 : decode cX4_isBefore 46 = .ok (.goto 24, 3) := by decide +kernel
theorem dX4_isBefore_49 : decode cX4_isBefore 49 = .ok (.aload_n 0, 1) := by decide +kernel
theorem dX4_isBefore_50 : decode cX4_isBefore 50 = .ok (.iload_n 1, 1) := by decide +kernel
theorem dX4_isBefore_51 : decode cX4_isBefore 51 = .ok (.iload_n 2, 1) := by decide +kernel
theorem dX4_isBefore_52 : decode cX4_isBefore 52 = .ok (.invokevirtual 131, 3) := by decide +kernel
theorem dX4_isBefore_55 : decode cX4_isBefore 55 = .ok (.aload_n 0, 1) := by decide +kernel
theorem dX4_isBefore_56 : decode cX4_isBefore 56 = .ok (.iload_n 1, 1) := by decide +kernel
theorem dX4_isBefore_57 : decode cX4_isBefore 57 = .ok (.iload_n 3, 1) := by decide +kernel
theorem dX4_isBefore_58 : decode cX4_isBefore 58 = .ok (.invokevirtual 131, 3) := by decide +kernel
theorem dX4_isBefore_61 : decode cX4_isBefore 61 = .ok (.lcmp, 1) := by decide +kernel
theorem dX4_isBefore_62 : decode cX4_isBefore 62 = .ok (.ifCond .ge 7, 3) := by decide +kernel
theorem dX4_isBefore_65 : decode cX4_isBefore 65 = .ok (.iconst 1, 1) := by decide +kernel
theorem dX4_isBefore_66 : decode cX4_isBefore 66 = .ok (.goto 4, 3) := by decide +kernel
theorem dX4_isBefore_69 : decode cX4_isBefore 69 = .ok (.iconst 0, 1) := by decide +kernel
theorem dX4_isBefore_70 : decode cX4_isBefore 70 = .ok (.ireturn, 1) := by decide +kernel
theorem dX4_around_0 : decode cX4_around 0 = .ok (.aload_n 0, 1) := by decide +kernel
theorem dX4_around_1 : decode cX4_around 1 = .ok (.iload_n 1, 1) := by decide +kernel
theorem dX4_around_2 : decode cX4_around 2 = .ok (.invokevirtual 79, 3) := by decide +kernel
theorem dX4_around_5 : decode cX4_around 5 = .ok (.ifCond .ne 9, 3) := by decide +kernel
theorem dX4_around_8 : decode cX4_around 8 = .ok (.aload_n 0, 1) := by decide +kernel
theorem dX4_around_9 : decode cX4_around 9 = .ok (.iconst (-1), 1) := by decide +kernel
theorem dX4_around_10 : decode cX4_around 10 = .ok (.invokevirtual 54, 3) := by decide +kernel
theorem dX4_around_13 : decode cX4_around 13 = .ok (.ireturn, 1) := by decide +kernel
theorem dX4_around_14 : decode cX4_around 14 = .ok (.iconst 0, 1) := by decide +kernel
theorem dX4_around_15 : decode cX4_around 15 = .ok (.istore_n 3, 1) := by decide +kernel
theorem dX4_around_16 : decode cX4_around 16 = .ok (.iload_n 3, 1) := by decide +kernel
theorem dX4_around_17 : decode cX4_around 17 = .ok (.aload_n 0, 1) := by decide +kernel
theorem dX4_around_18 : decode cX4_around 18 = .ok (.getfield 58, 3) := by decide +kernel
theorem dX4_around_21 : decode cX4_around 21 = .ok (.if_icmp .ge 98, 3) := by decide +kernel
theorem dX4_around_24 : decode cX4_around 24 = .ok (.aload_n 0, 1) := by decide +kernel
theorem dX4_around_25 : decode cX4_around 25 = .ok (.getfield 19, 3) := by decide +kernel
theorem dX4_around_28 : decode cX4_around 28 = .ok (.iload_n 3, 1) := by decide +kernel
theorem dX4_around_29 : decode cX4_around 29 = .ok (.baload, 1) := by decide +kernel
theorem dX4_around_30 : decode cX4_around 30 = .ok (.ifCond .eq 83, 3) := by decide +kernel
theorem dX4_around_33 : decode cX4_around 33 = .ok (.iload_n 3, 1) := by decide +kernel
theorem dX4_around_34 : decode cX4_around 34 = .ok (.iload_n 1, 1) := by decide +kernel
theorem dX4_around_35 : decode cX4_around 35 = .ok (.if_icmp .ne 6, 3) := by decide +kernel
theorem dX4_around_38 : decode cX4_around 38 = .ok (.goto 75, 3) := by decide +kernel
theorem dX4_around_41 : decode cX4_around 41 = .ok (.iconst 0, 1) := by decide +kernel
theorem dX4_around_42 : decode cX4_around 42 = .ok (.istore 4, 2) := by decide +kernel
theorem dX4_around_44 : decode cX4_around 44 = .ok (.iconst 0, 1) := by decide +kernel
theorem dX4_around_45 : decode cX4_around 45 = .ok (.istore 5, 2) := by decide +kernel
theorem dX4_around_47 : decode cX4_around 47 = .ok (.iload 5, 2) := by decide +kernel
theorem dX4_around_49 : decode cX4_around 49 = .ok (.aload_n 0, 1) := by decide +kernel
theorem dX4_around_50 : decode cX4_around 50 = .ok (.getfield 58, 3) := by decide +kernel
theorem dX4_around_53 : decode cX4_around 53 = .ok (.if_icmp .ge 52, 3) := by decide +kernel
theorem dX4_around_56 : decode cX4_around 56 = .ok (.iload 4, 2) := by decide +kernel
theorem dX4_around_58 : decode cX4_around 58 = .ok (.aload_n 0, 1) := by decide +kernel
theorem dX4_around_59 : decode cX4_around 59 = .ok (.getfield 19, 3) := by decide +kernel
theorem dX4_around_62 : decode cX4_around 62 = .ok (.iload 5, 2) := by decide +kernel
theorem dX4_around_64 : decode cX4_around 64 = .ok (.baload, 1) := by decide +kernel
theorem dX4_around_65 : decode cX4_around 65 = .ok (.ifCond .eq 30, 3) := by decide +kernel
theorem dX4_around_68 : decode cX4_around 68 = .ok (.iload 5, 2) := by decide +kernel
theorem dX4_around_70 : decode cX4_around 70 = .ok (.iload_n 1, 1) := by decide +kernel
theorem dX4_around_71 : decode cX4_around 71 = .ok (.if_icmp .eq 24, 3) := by decide +kernel
theorem dX4_around_74 : decode cX4_around 74 = .ok (.iload 5, 2) := by decide +kernel
theorem dX4_around_76 : decode cX4_around 76 = .ok (.iload_n 3, 1) := by decide +kernel
theorem dX4_around_77 : decode cX4_around 77 = .ok (.if_icmp .eq 18, 3) := by decide +kernel
theorem dX4_around_80 : decode cX4_around 80 = .ok (.aload_n 0, 1) := by decide +kernel
theorem dX4_around_81 : decode cX4_around 81 = .ok (.iload_n 1, 1) := by decide +kernel
theorem dX4_around_82 : decode cX4_around 82 = .ok (.iload 5, 2) := by decide +kernel
theorem dX4_around_84 : decode cX4_around 84 = .ok (.iload_n 3, 1) := by decide +kernel
theorem dX4_around_85 : decode cX4_around 85 = .ok (.invokevirtual 177, 3) := by decide +kernel
theorem dX4_around_88 : decode cX4_around 88 = .ok (.ifCond .eq 7, 3) := by decide +kernel
theorem dX4_around_91 : decode cX4_around 91 = .ok (.iconst 1, 1) := by decide +kernel
theorem dX4_around_92 : decode cX4_around 92 = .ok (.goto 4, 3) := by decide +kernel
theorem dX4_around_95 : decode cX4_around 95 = .ok (.iconst 0, 1) := by decide +kernel
theorem dX4_around_96 : decode cX4_around 96 = .ok (.iadd, 1) := by decide +kernel
theorem dX4_around_97 : decode cX4_around 97 = .ok (.istore 4, 2) := by decide +kernel
theorem dX4_around_99 : decode cX4_around 99 = .ok (.iinc 5 1, 3) := by decide +kernel
theorem dX4_around_102 : decode cX4_around 102 = .ok (.goto (-55), 3) := by decide +kernel
theorem dX4_around_105 : decode cX4_around 105 = .ok (.iload 4, 2) := by decide +kernel
theorem dX4_around_107 : decode cX4_around 107 = .ok (.iload_n 2, 1) := by decide +kernel
theorem dX4_around_108 : decode cX4_around 108 = .ok (.if_icmp .ne 5, 3) := by decide +kernel
theorem dX4_around_111 : decode cX4_around 111 = .ok (.iload_n 3, 1) := by decide +kernel
theorem dX4_around_112 : decode cX4_around 112 = .ok (.ireturn, 1) := by decide +kernel
theorem dX4_around_113 : decode cX4_around 113 = .ok (.iinc 3 1, 3) := by decide +kernel
theorem dX4_around_116 : decode cX4_around 116 = .ok (.goto (-100), 3) := by decide +kernel
theorem dX4_around_119 : decode cX4_around 119 = .ok (.bipush (-9), 2) := by decide +kernel
theorem dX4_around_121 : decode cX4_around 121 = .ok (.ireturn, 1) := by decide +kernel
theorem dX4_holds_0 : decode cX4_holds 0 = .ok (.aload_n 0, 1) := by decide +kernel
theorem dX4_holds_1 : decode cX4_holds 1 = .ok (.iload_n 1, 1) := by decide +kernel
theorem dX4_holds_2 : decode cX4_holds 2 = .ok (.iload_n 2, 1) := by decide +kernel
theorem dX4_holds_3 : decode cX4_holds 3 = .ok (.iload_n 3, 1) := by decide +kernel
theorem dX4_holds_4 : decode cX4_holds 4 = .ok (.invokevirtual 95, 3) := by decide +kernel
theorem dX4_holds_7 : decode cX4_holds 7 = .ok (.ifCond .ge 11, 3) := by decide +kernel
theorem dX4_holds_10 : decode cX4_holds 10 = .ok (.aload_n 0, 1) := by decide +kernel
theorem dX4_holds_11 : decode cX4_holds 11 = .ok (.iload_n 1, 1) := by decide +kernel
theorem dX4_holds_12 : decode cX4_holds 12 = .ok (.iload_n 3, 1) := by decide +kernel
theorem dX4_holds_13 : decode cX4_holds 13 = .ok (.iload_n 2, 1) := by decide +kernel
theorem dX4_holds_14 : decode cX4_holds 14 = .ok (.invokevirtual 180, 3) := by decide +kernel
theorem dX4_holds_17 : decode cX4_holds 17 = .ok (.return_, 1) := by decide +kernel
theorem dX4_holds_18 : decode cX4_holds 18 = .ok (.iload_n 2, 1) := by decide +kernel
theorem dX4_holds_19 : decode cX4_holds 19 = .ok (.iload_n 1, 1) := by decide +kernel
theorem dX4_holds_20 : decode cX4_holds 20 = .ok (.if_icmp .lt 8, 3) := by decide +kernel
theorem dX4_holds_23 : decode cX4_holds 23 = .ok (.iload_n 3, 1) := by decide +kernel
theorem dX4_holds_24 : decode cX4_holds 24 = .ok (.iload_n 1, 1) := by decide +kernel
theorem dX4_holds_25 : decode cX4_holds 25 = .ok (.if_icmp .ge 11, 3) := by decide +kernel
theorem dX4_holds_28 : decode cX4_holds 28 = .ok (.aload_n 0, 1) := by decide +kernel
theorem dX4_holds_29 : decode cX4_holds 29 = .ok (.iload_n 2, 1) := by decide +kernel
theorem dX4_holds_30 : decode cX4_holds 30 = .ok (.iload_n 3, 1) := by decide +kernel
theorem dX4_holds_31 : decode cX4_holds 31 = .ok (.iload_n 1, 1) := by decide +kernel
theorem dX4_holds_32 : decode cX4_holds 32 = .ok (.invokevirtual 180, 3) := by decide +kernel
theorem dX4_holds_35 : decode cX4_holds 35 = .ok (.return_, 1) := by decide +kernel
theorem dX4_holds_36 : decode cX4_holds 36 = .ok (.aload_n 0, 1) := by decide +kernel
theorem dX4_holds_37 : decode cX4_holds 37 = .ok (.getfield 183, 3) := by decide +kernel
theorem dX4_holds_40 : decode cX4_holds 40 = .ok (.istore 4, 2) := by decide +kernel
theorem dX4_holds_42 : decode cX4_holds 42 = .ok (.iload 4, 2) := by decide +kernel
theorem dX4_holds_44 : decode cX4_holds 44 = .ok (.ifCond .le 71, 3) := by decide +kernel
theorem dX4_holds_47 : decode cX4_holds 47 = .ok (.aload_n 0, 1) := by decide +kernel
theorem dX4_holds_48 : decode cX4_holds 48 = .ok (.iload 4, 2) := by decide +kernel
theorem dX4_holds_50 : decode cX4_holds 50 = .ok (.iconst 1, 1) := by decide +kernel
theorem dX4_holds_51 : decode cX4_holds 51 = .ok (.isub, 1) := by decide +kernel
theorem dX4_holds_52 : decode cX4_holds 52 = .ok (.iload_n 1, 1) := by decide +kernel
theorem dX4_holds_53 : decode cX4_holds 53 = .ok (.iload_n 2, 1) := by decide +kernel
theorem dX4_holds_54 : decode cX4_holds 54 = .ok (.iload_n 3, 1) := by decide +kernel
theorem dX4_holds_55 : decode cX4_holds 55 = .ok (.invokevirtual 186, 3) := by decide +kernel
theorem dX4_holds_58 : decode cX4_holds 58 = .ok (.ifCond .eq 57, 3) := by decide +kernel
theorem dX4_holds_61 : decode cX4_holds 61 = .ok (.aload_n 0, 1) := by decide +kernel
theorem dX4_holds_62 : decode cX4_holds 62 = .ok (.getfield 35, 3) := by decide +kernel
theorem dX4_holds_65 : decode cX4_holds 65 = .ok (.iload 4, 2) := by decide +kernel
theorem dX4_holds_67 : decode cX4_holds 67 = .ok (.aload_n 0, 1) := by decide +kernel
theorem dX4_holds_68 : decode cX4_holds 68 = .ok (.getfield 35, 3) := by decide +kernel
theorem dX4_holds_71 : decode cX4_holds 71 = .ok (.iload 4, 2) := by decide +kernel
theorem dX4_holds_73 : decode cX4_holds 73 = .ok (.iconst 1, 1) := by decide +kernel
theorem dX4_holds_74 : decode cX4_holds 74 = .ok (.isub, 1) := by decide +kernel
theorem dX4_holds_75 : decode cX4_holds 75 = .ok (.iaload, 1) := by decide +kernel
theorem dX4_holds_76 : decode cX4_holds 76 = .ok (.iastore, 1) := by decide +kernel
theorem dX4_holds_77 : decode cX4_holds 77 = .ok (.aload_n 0, 1) := by decide +kernel
theorem dX4_holds_78 : decode cX4_holds 78 = .ok (.getfield 38, 3) := by decide +kernel
theorem dX4_holds_81 : decode cX4_holds 81 = .ok (.iload 4, 2) := by decide +kernel
theorem dX4_holds_83 : decode cX4_holds 83 = .ok (.aload_n 0, 1) := by decide +kernel
theorem dX4_holds_84 : decode cX4_holds 84 = .ok (.getfield 38, 3) := by decide +kernel
theorem dX4_holds_87 : decode cX4_holds 87 = .ok (.iload 4, 2) := by decide +kernel
theorem dX4_holds_89 : decode cX4_holds 89 = .ok (.iconst 1, 1) := by decide +kernel
theorem dX4_holds_90 : decode cX4_holds 90 = .ok (.isub, 1) := by decide +kernel
theorem dX4_holds_91 : decode cX4_holds 91 = .ok (.iaload, 1) := by decide +kernel
theorem dX4_holds_92 : decode cX4_holds 92 = .ok (.iastore, 1) := by decide +kernel
theorem dX4_holds_93 : decode cX4_holds 93 = .ok (.aload_n 0, 1) := by decide +kernel
theorem dX4_holds_94 : decode cX4_holds 94 = .ok (.getfield 41, 3) := by decide +kernel
theorem dX4_holds_97 : decode cX4_holds 97 = .ok (.iload 4, 2) := by decide +kernel
theorem dX4_holds_99 : decode cX4_holds 99 = .ok (.aload_n 0, 1) := by decide +kernel
theorem dX4_holds_100 : decode cX4_holds 100 = .ok (.getfield 41, 3) := by decide +kernel
theorem dX4_holds_103 : decode cX4_holds 103 = .ok (.iload 4, 2) := by decide +kernel
theorem dX4_holds_105 : decode cX4_holds 105 = .ok (.iconst 1, 1) := by decide +kernel
theorem dX4_holds_106 : decode cX4_holds 106 = .ok (.isub, 1) := by decide +kernel
theorem dX4_holds_107 : decode cX4_holds 107 = .ok (.iaload, 1) := by decide +kernel
theorem dX4_holds_108 : decode cX4_holds 108 = .ok (.iastore, 1) := by decide +kernel
theorem dX4_holds_109 : decode cX4_holds 109 = .ok (.iinc 4 (-1), 3) := by decide +kernel
theorem dX4_holds_112 : decode cX4_holds 112 = .ok (.goto (-70), 3) := by decide +kernel
theorem dX4_holds_115 : decode cX4_holds 115 = .ok (.aload_n 0, 1) := by decide +kernel
theorem dX4_holds_116 : decode cX4_holds 116 = .ok (.getfield 35, 3) := by decide +kernel
theorem dX4_holds_119 : decode cX4_holds 119 = .ok (.iload 4, 2) := by decide +kernel
theorem dX4_holds_121 : decode cX4_holds 121 = .ok (.iload_n 1, 1) := by decide +kernel
theorem dX4_holds_122 : decode cX4_holds 122 = .ok (.iastore, 1) := by decide +kernel
theorem dX4_holds_123 : decode cX4_holds 123 = .ok (.aload_n 0, 1) := by decide +kernel
theorem dX4_holds_124 : decode cX4_holds 124 = .ok (.getfield 38, 3) := by decide +kernel
theorem dX4_holds_127 : decode cX4_holds 127 = .ok (.iload 4, 2) := by decide +kernel
theorem dX4_holds_129 : decode cX4_holds 129 = .ok (.iload_n 2, 1) := by decide +kernel
theorem dX4_holds_130 : decode cX4_holds 130 = .ok (.iastore, 1) := by decide +kernel
theorem dX4_holds_131 : decode cX4_holds 131 = .ok (.aload_n 0, 1) := by decide +kernel
theorem dX4_holds_132 : decode cX4_holds 132 = .ok (.getfield 41, 3) := by decide +kernel
theorem dX4_holds_135 : decode cX4_holds 135 = .ok (.iload 4, 2) := by decide +kernel
theorem dX4_holds_137 : decode cX4_holds 137 = .ok (.iload_n 3, 1) := by decide +kernel
theorem dX4_holds_138 : decode cX4_holds 138 = .ok (.iastore, 1) := by decide +kernel
theorem dX4_holds_139 : decode cX4_holds 139 = .ok (.aload_n 0, 1) := by decide +kernel
theorem dX4_holds_140 : decode cX4_holds 140 = .ok (.dup, 1) := by decide +kernel
theorem dX4_holds_141 : decode cX4_holds 141 = .ok (.getfield 183, 3) := by decide +kernel
theorem dX4_holds_144 : decode cX4_holds 144 = .ok (.iconst 1, 1) := by decide +kernel
theorem dX4_holds_145 : decode cX4_holds 145 = .ok (.iadd, 1) := by decide +kernel
theorem dX4_holds_146 : decode cX4_holds 146 = .ok (.putfield 183, 3) := by decide +kernel
theorem dX4_holds_149 : decode cX4_holds 149 = .ok (.return_, 1) := by decide +kernel
theorem dX4_isBehind_0 : decode cX4_isBehind 0 = .ok (.aload_n 0, 1) := by decide +kernel
theorem dX4_isBehind_1 : decode cX4_isBehind 1 = .ok (.getfield 35, 3) := by decide +kernel
theorem dX4_isBehind_4 : decode cX4_isBehind 4 = .ok (.iload_n 1, 1) := by decide +kernel
theorem dX4_isBehind_5 : decode cX4_isBehind 5 = .ok (.iaload, 1) := by decide +kernel
theorem dX4_isBehind_6 : decode cX4_isBehind 6 = .ok (.iload_n 2, 1) := by decide +kernel
theorem dX4_isBehind_7 : decode cX4_isBehind 7 = .ok (.if_icmp .eq 21, 3) := by decide +kernel
theorem dX4_isBehind_10 : decode cX4_isBehind 10 = .ok (.aload_n 0, 1) := by decide +kernel
theorem dX4_isBehind_11 : decode cX4_isBehind 11 = .ok (.getfield 35, 3) := by decide +kernel
theorem dX4_isBehind_14 : decode cX4_isBehind 14 = .ok (.iload_n 1, 1) := by decide +kernel
theorem dX4_isBehind_15 : decode cX4_isBehind 15 = .ok (.iaload, 1) := by decide +kernel
theorem dX4_isBehind_16 : decode cX4_isBehind 16 = .ok (.iload_n 2, 1) := by decide +kernel
theorem dX4_isBehind_17 : decode cX4_isBehind 17 = .ok (.if_icmp .le 7, 3) := by decide +kernel
theorem dX4_isBehind_20 : decode cX4_isBehind 20 = .ok (.iconst 1, 1) := by decide +kernel
theorem dX4_isBehind_21 : decode cX4_isBehind 21 = .ok (.goto 51, 3) := by decide +kernel
theorem dX4_isBehind_24 : decode cX4_isBehind 24 = .ok (.iconst 0, 1) := by decide +kernel
theorem dX4_isBehind_25 : decode cX4_isBehind 25 = .ok (.goto 47, 3) := by decide +kernel
theorem dX4_isBehind_28 : decode cX4_isBehind 28 = .ok (.aload_n 0, 1) := by decide +kernel
theorem dX4_isBehind_29 : decode cX4_isBehind 29 = .ok (.getfield 38, 3) := by decide +kernel
theorem dX4_isBehind_32 : decode cX4_isBehind 32 = .ok (.iload_n 1, 1) := by decide +kernel
theorem dX4_isBehind_33 : decode cX4_isBehind 33 = .ok (.iaload, 1) := by decide +kernel
theorem dX4_isBehind_34 : decode cX4_isBehind 34 = .ok (.iload_n 3, 1) := by decide +kernel
theorem dX4_isBehind_35 : decode cX4_isBehind 35 = .ok (.if_icmp .eq 21, 3) := by decide +kernel
theorem dX4_isBehind_38 : decode cX4_isBehind 38 = .ok (.aload_n 0, 1) := by decide +kernel
theorem dX4_isBehind_39 : decode cX4_isBehind 39 = .ok (.getfield 38, 3) := by decide +kernel
theorem dX4_isBehind_42 : decode cX4_isBehind 42 = .ok (.iload_n 1, 1) := by decide +kernel
theorem dX4_isBehind_43 : decode cX4_isBehind 43 = .ok (.iaload, 1) := by decide +kernel
theorem dX4_isBehind_44 : decode cX4_isBehind 44 = .ok (.iload_n 3, 1) := by decide +kernel
theorem dX4_isBehind_45 : decode cX4_isBehind 45 = .ok (.if_icmp .le 7, 3) := by decide +kernel
theorem dX4_isBehind_48 : decode cX4_isBehind 48 = .ok (.iconst 1, 1) := by decide +kernel
theorem dX4_isBehind_49 : decode cX4_isBehind 49 = .ok (.goto 23, 3) := by decide +kernel
theorem dX4_isBehind_52 : decode cX4_isBehind 52 = .ok (.iconst 0, 1) := by decide +kernel
theorem dX4_isBehind_53 : decode cX4_isBehind 53 = .ok (.goto 19, 3) := by decide +kernel
theorem dX4_isBehind_56 : decode cX4_isBehind 56 = .ok (.aload_n 0, 1) := by decide +kernel
theorem dX4_isBehind_57 : decode cX4_isBehind 57 = .ok (.getfield 41, 3) := by decide +kernel
theorem dX4_isBehind_60 : decode cX4_isBehind 60 = .ok (.iload_n 1, 1) := by decide +kernel
theorem dX4_isBehind_61 : decode cX4_isBehind 61 = .ok (.iaload, 1) := by decide +kernel
theorem dX4_isBehind_62 : decode cX4_isBehind 62 = .ok (.iload 4, 2) := by decide +kernel
theorem dX4_isBehind_64 : decode cX4_isBehind 64 = .ok (.if_icmp .le 7, 3) := by decide +kernel
theorem dX4_isBehind_67 : decode cX4_isBehind 67 = .ok (.iconst 1, 1) := by decide +kernel
theorem dX4_isBehind_68 : decode cX4_isBehind 68 = .ok (.goto 4, 3) := by decide +kernel
theorem dX4_isBehind_71 : decode cX4_isBehind 71 = .ok (.iconst 0, 1) := by decide +kernel
theorem dX4_isBehind_72 : decode cX4_isBehind 72 = .ok (.ireturn, 1) := by decide +kernel
theorem dX4_takes_0 : decode cX4_takes 0 = .ok (.aload_n 0, 1) := by decide +kernel
theorem dX4_takes_1 : decode cX4_takes 1 = .ok (.dup, 1) := by decide +kernel
theorem dX4_takes_2 : decode cX4_takes 2 = .ok (.getfield 183, 3) := by decide +kernel
theorem dX4_takes_5 : decode cX4_takes 5 = .ok (.iconst 1, 1) := by decide +kernel
theorem dX4_takes_6 : decode cX4_takes 6 = .ok (.isub, 1) := by decide +kernel
theorem dX4_takes_7 : decode cX4_takes 7 = .ok (.putfield 183, 3) := by decide +kernel
theorem dX4_takes_10 : decode cX4_takes 10 = .ok (.iload_n 1, 1) := by decide +kernel
theorem dX4_takes_11 : decode cX4_takes 11 = .ok (.istore_n 2, 1) := by decide +kernel
theorem dX4_takes_12 : decode cX4_takes 12 = .ok (.iload_n 2, 1) := by decide +kernel
theorem dX4_takes_13 : decode cX4_takes 13 = .ok (.aload_n 0, 1) := by decide +kernel
theorem dX4_takes_14 : decode cX4_takes 14 = .ok (.getfield 183, 3) := by decide +kernel
theorem dX4_takes_17 : decode cX4_takes 17 = .ok (.if_icmp .ge 51, 3) := by decide +kernel
theorem dX4_takes_20 : decode cX4_takes 20 = .ok (.aload_n 0, 1) := by decide +kernel
theorem dX4_takes_21 : decode cX4_takes 21 = .ok (.getfield 35, 3) := by decide +kernel
theorem dX4_takes_24 : decode cX4_takes 24 = .ok (.iload_n 2, 1) := by decide +kernel
theorem dX4_takes_25 : decode cX4_takes 25 = .ok (.aload_n 0, 1) := by decide +kernel
theorem dX4_takes_26 : decode cX4_takes 26 = .ok (.getfield 35, 3) := by decide +kernel
theorem dX4_takes_29 : decode cX4_takes 29 = .ok (.iload_n 2, 1) := by decide +kernel
theorem dX4_takes_30 : decode cX4_takes 30 = .ok (.iconst 1, 1) := by decide +kernel
theorem dX4_takes_31 : decode cX4_takes 31 = .ok (.iadd, 1) := by decide +kernel
theorem dX4_takes_32 : decode cX4_takes 32 = .ok (.iaload, 1) := by decide +kernel
theorem dX4_takes_33 : decode cX4_takes 33 = .ok (.iastore, 1) := by decide +kernel
theorem dX4_takes_34 : decode cX4_takes 34 = .ok (.aload_n 0, 1) := by decide +kernel
theorem dX4_takes_35 : decode cX4_takes 35 = .ok (.getfield 38, 3) := by decide +kernel
theorem dX4_takes_38 : decode cX4_takes 38 = .ok (.iload_n 2, 1) := by decide +kernel
theorem dX4_takes_39 : decode cX4_takes 39 = .ok (.aload_n 0, 1) := by decide +kernel
theorem dX4_takes_40 : decode cX4_takes 40 = .ok (.getfield 38, 3) := by decide +kernel
theorem dX4_takes_43 : decode cX4_takes 43 = .ok (.iload_n 2, 1) := by decide +kernel
theorem dX4_takes_44 : decode cX4_takes 44 = .ok (.iconst 1, 1) := by decide +kernel
theorem dX4_takes_45 : decode cX4_takes 45 = .ok (.iadd, 1) := by decide +kernel
theorem dX4_takes_46 : decode cX4_takes 46 = .ok (.iaload, 1) := by decide +kernel
theorem dX4_takes_47 : decode cX4_takes 47 = .ok (.iastore, 1) := by decide +kernel
theorem dX4_takes_48 : decode cX4_takes 48 = .ok (.aload_n 0, 1) := by decide +kernel
theorem dX4_takes_49 : decode cX4_takes 49 = .ok (.getfield 41, 3) := by decide +kernel
theorem dX4_takes_52 : decode cX4_takes 52 = .ok (.iload_n 2, 1) := by decide +kernel
theorem dX4_takes_53 : decode cX4_takes 53 = .ok (.aload_n 0, 1) := by decide +kernel
theorem dX4_takes_54 : decode cX4_takes 54 = .ok (.getfield 41, 3) := by decide +kernel
theorem dX4_takes_57 : decode cX4_takes 57 = .ok (.iload_n 2, 1) := by decide +kernel
theorem dX4_takes_58 : decode cX4_takes 58 = .ok (.iconst 1, 1) := by decide +kernel
theorem dX4_takes_59 : decode cX4_takes 59 = .ok (.iadd, 1) := by decide +kernel
theorem dX4_takes_60 : decode cX4_takes 60 = .ok (.iaload, 1) := by decide +kernel
theorem dX4_takes_61 : decode cX4_takes 61 = .ok (.iastore, 1) := by decide +kernel
theorem dX4_takes_62 : decode cX4_takes 62 = .ok (.iinc 2 1, 3) := by decide +kernel
theorem dX4_takes_65 : decode cX4_takes 65 = .ok (.goto (-53), 3) := by decide +kernel
theorem dX4_takes_68 : decode cX4_takes 68 = .ok (.return_, 1) := by decide +kernel
theorem dX4_sorted_0 : decode cX4_sorted 0 = .ok (.iconst 0, 1) := by decide +kernel
theorem dX4_sorted_1 : decode cX4_sorted 1 = .ok (.istore_n 1, 1) := by decide +kernel
theorem dX4_sorted_2 : decode cX4_sorted 2 = .ok (.iconst 0, 1) := by decide +kernel
theorem dX4_sorted_3 : decode cX4_sorted 3 = .ok (.istore_n 2, 1) := by decide +kernel
theorem dX4_sorted_4 : decode cX4_sorted 4 = .ok (.iload_n 2, 1) := by decide +kernel
theorem dX4_sorted_5 : decode cX4_sorted 5 = .ok (.aload_n 0, 1) := by decide +kernel
theorem dX4_sorted_6 : decode cX4_sorted 6 = .ok (.getfield 58, 3) := by decide +kernel
theorem dX4_sorted_9 : decode cX4_sorted 9 = .ok (.if_icmp .ge 73, 3) := by decide +kernel
theorem dX4_sorted_12 : decode cX4_sorted 12 = .ok (.aload_n 0, 1) := by decide +kernel
theorem dX4_sorted_13 : decode cX4_sorted 13 = .ok (.getfield 19, 3) := by decide +kernel
theorem dX4_sorted_16 : decode cX4_sorted 16 = .ok (.iload_n 2, 1) := by decide +kernel
theorem dX4_sorted_17 : decode cX4_sorted 17 = .ok (.baload, 1) := by decide +kernel
theorem dX4_sorted_18 : decode cX4_sorted 18 = .ok (.ifCond .ne 6, 3) := by decide +kernel
theorem dX4_sorted_21 : decode cX4_sorted 21 = .ok (.goto 55, 3) := by decide +kernel
theorem dX4_sorted_24 : decode cX4_sorted 24 = .ok (.iload_n 1, 1) := by decide +kernel
theorem dX4_sorted_25 : decode cX4_sorted 25 = .ok (.istore_n 3, 1) := by decide +kernel
theorem dX4_sorted_26 : decode cX4_sorted 26 = .ok (.iload_n 3, 1) := by decide +kernel
theorem dX4_sorted_27 : decode cX4_sorted 27 = .ok (.ifCond .le 39, 3) := by decide +kernel
theorem dX4_sorted_30 : decode cX4_sorted 30 = .ok (.aload_n 0, 1) := by decide +kernel
theorem dX4_sorted_31 : decode cX4_sorted 31 = .ok (.iload_n 2, 1) := by decide +kernel
theorem dX4_sorted_32 : decode cX4_sorted 32 = .ok (.aload_n 0, 1) := by decide +kernel
theorem dX4_sorted_33 : decode cX4_sorted 33 = .ok (.getfield 44, 3) := by decide +kernel
theorem dX4_sorted_36 : decode cX4_sorted 36 = .ok (.iload_n 3, 1) := by decide +kernel
theorem dX4_sorted_37 : decode cX4_sorted 37 = .ok (.iconst 1, 1) := by decide +kernel
theorem dX4_sorted_38 : decode cX4_sorted 38 = .ok (.isub, 1) := by decide +kernel
theorem dX4_sorted_39 : decode cX4_sorted 39 = .ok (.iaload, 1) := by decide +kernel
theorem dX4_sorted_40 : decode cX4_sorted 40 = .ok (.invokevirtual 124, 3) := by decide +kernel
theorem dX4_sorted_43 : decode cX4_sorted 43 = .ok (.ifCond .eq 23, 3) := by decide +kernel
theorem dX4_sorted_46 : decode cX4_sorted 46 = .ok (.aload_n 0, 1) := by decide +kernel
theorem dX4_sorted_47 : decode cX4_sorted 47 = .ok (.getfield 44, 3) := by decide +kernel
theorem dX4_sorted_50 : decode cX4_sorted 50 = .ok (.iload_n 3, 1) := by decide +kernel
theorem dX4_sorted_51 : decode cX4_sorted 51 = .ok (.aload_n 0, 1) := by decide +kernel
theorem dX4_sorted_52 : decode cX4_sorted 52 = .ok (.getfield 44, 3) := by decide +kernel
theorem dX4_sorted_55 : decode cX4_sorted 55 = .ok (.iload_n 3, 1) := by decide +kernel
theorem dX4_sorted_56 : decode cX4_sorted 56 = .ok (.iconst 1, 1) := by decide +kernel
theorem dX4_sorted_57 : decode cX4_sorted 57 = .ok (.isub, 1) := by decide +kernel
theorem dX4_sorted_58 : decode cX4_sorted 58 = .ok (.iaload, 1) := by decide +kernel
theorem dX4_sorted_59 : decode cX4_sorted 59 = .ok (.iastore, 1) := by decide +kernel
theorem dX4_sorted_60 : decode cX4_sorted 60 = .ok (.iinc 3 (-1), 3) := by decide +kernel
theorem dX4_sorted_63 : decode cX4_sorted 63 = .ok (.goto (-37), 3) := by decide +kernel
theorem dX4_sorted_66 : decode cX4_sorted 66 = .ok (.aload_n 0, 1) := by decide +kernel
theorem dX4_sorted_67 : decode cX4_sorted 67 = .ok (.getfield 44, 3) := by decide +kernel
theorem dX4_sorted_70 : decode cX4_sorted 70 = .ok (.iload_n 3, 1) := by decide +kernel
theorem dX4_sorted_71 : decode cX4_sorted 71 = .ok (.iload_n 2, 1) := by decide +kernel
theorem dX4_sorted_72 : decode cX4_sorted 72 = .ok (.iastore, 1) := by decide +kernel
theorem dX4_sorted_73 : decode cX4_sorted 73 = .ok (.iinc 1 1, 3) := by decide +kernel
theorem dX4_sorted_76 : decode cX4_sorted 76 = .ok (.iinc 2 1, 3) := by decide +kernel
theorem dX4_sorted_79 : decode cX4_sorted 79 = .ok (.goto (-75), 3) := by decide +kernel
theorem dX4_sorted_82 : decode cX4_sorted 82 = .ok (.return_, 1) := by decide +kernel
theorem dX4_begin_0 : decode cX4_begin 0 = .ok (.aload_n 0, 1) := by decide +kernel
theorem dX4_begin_1 : decode cX4_begin 1 = .ok (.invokevirtual 147, 3) := by decide +kernel
theorem dX4_begin_4 : decode cX4_begin 4 = .ok (.aload_n 0, 1) := by decide +kernel
theorem dX4_begin_5 : decode cX4_begin 5 = .ok (.getfield 109, 3) := by decide +kernel
theorem dX4_begin_8 : decode cX4_begin 8 = .ok (.ifCond .eq 10, 3) := by decide +kernel
theorem dX4_begin_11 : decode cX4_begin 11 = .ok (.aload_n 0, 1) := by decide +kernel
theorem dX4_begin_12 : decode cX4_begin 12 = .ok (.bipush (-3), 2) := by decide +kernel
theorem dX4_begin_14 : decode cX4_begin 14 = .ok (.invokevirtual 54, 3) := by decide +kernel
theorem dX4_begin_17 : decode cX4_begin 17 = .ok (.ireturn, 1) := by decide +kernel
theorem dX4_begin_18 : decode cX4_begin 18 = .ok (.aload_n 0, 1) := by decide +kernel
theorem dX4_begin_19 : decode cX4_begin 19 = .ok (.invokevirtual 189, 3) := by decide +kernel
theorem dX4_begin_22 : decode cX4_begin 22 = .ok (.aload_n 0, 1) := by decide +kernel
theorem dX4_begin_23 : decode cX4_begin 23 = .ok (.iconst 0, 1) := by decide +kernel
theorem dX4_begin_24 : decode cX4_begin 24 = .ok (.putfield 183, 3) := by decide +kernel
theorem dX4_begin_27 : decode cX4_begin 27 = .ok (.iconst 2, 1) := by decide +kernel
theorem dX4_begin_28 : decode cX4_begin 28 = .ok (.istore_n 1, 1) := by decide +kernel
theorem dX4_begin_29 : decode cX4_begin 29 = .ok (.aload_n 0, 1) := by decide +kernel
theorem dX4_begin_30 : decode cX4_begin 30 = .ok (.aload_n 0, 1) := by decide +kernel
theorem dX4_begin_31 : decode cX4_begin 31 = .ok (.getfield 44, 3) := by decide +kernel
theorem dX4_begin_34 : decode cX4_begin 34 = .ok (.iconst 0, 1) := by decide +kernel
theorem dX4_begin_35 : decode cX4_begin 35 = .ok (.iaload, 1) := by decide +kernel
theorem dX4_begin_36 : decode cX4_begin 36 = .ok (.aload_n 0, 1) := by decide +kernel
theorem dX4_begin_37 : decode cX4_begin 37 = .ok (.getfield 44, 3) := by decide +kernel
theorem dX4_begin_40 : decode cX4_begin 40 = .ok (.iconst 1, 1) := by decide +kernel
theorem dX4_begin_41 : decode cX4_begin 41 = .ok (.iaload, 1) := by decide +kernel
theorem dX4_begin_42 : decode cX4_begin 42 = .ok (.aload_n 0, 1) := by decide +kernel
theorem dX4_begin_43 : decode cX4_begin 43 = .ok (.getfield 44, 3) := by decide +kernel
theorem dX4_begin_46 : decode cX4_begin 46 = .ok (.iload_n 1, 1) := by decide +kernel
theorem dX4_begin_47 : decode cX4_begin 47 = .ok (.iaload, 1) := by decide +kernel
theorem dX4_begin_48 : decode cX4_begin 48 = .ok (.invokevirtual 95, 3) := by decide +kernel
theorem dX4_begin_51 : decode cX4_begin 51 = .ok (.ifCond .ne 9, 3) := by decide +kernel
theorem dX4_begin_54 : decode cX4_begin 54 = .ok (.iinc 1 1, 3) := by decide +kernel
theorem dX4_begin_57 : decode cX4_begin 57 = .ok (.goto (-28), 3) := by decide +kernel
theorem dX4_begin_60 : decode cX4_begin 60 = .ok (.aload_n 0, 1) := by decide +kernel
theorem dX4_begin_61 : decode cX4_begin 61 = .ok (.getfield 44, 3) := by decide +kernel
theorem dX4_begin_64 : decode cX4_begin 64 = .ok (.iload_n 1, 1) := by decide +kernel
theorem dX4_begin_65 : decode cX4_begin 65 = .ok (.iaload, 1) := by decide +kernel
theorem dX4_begin_66 : decode cX4_begin 66 = .ok (.istore_n 2, 1) := by decide +kernel
theorem dX4_begin_67 : decode cX4_begin 67 = .ok (.aload_n 0, 1) := by decide +kernel
theorem dX4_begin_68 : decode cX4_begin 68 = .ok (.aload_n 0, 1) := by decide +kernel
theorem dX4_begin_69 : decode cX4_begin 69 = .ok (.getfield 44, 3) := by decide +kernel
theorem dX4_begin_72 : decode cX4_begin 72 = .ok (.iconst 0, 1) := by decide +kernel
theorem dX4_begin_73 : decode cX4_begin 73 = .ok (.iaload, 1) := by decide +kernel
theorem dX4_begin_74 : decode cX4_begin 74 = .ok (.aload_n 0, 1) := by decide +kernel
theorem dX4_begin_75 : decode cX4_begin 75 = .ok (.getfield 44, 3) := by decide +kernel
theorem dX4_begin_78 : decode cX4_begin 78 = .ok (.iconst 1, 1) := by decide +kernel
theorem dX4_begin_79 : decode cX4_begin 79 = .ok (.iaload, 1) := by decide +kernel
theorem dX4_begin_80 : decode cX4_begin 80 = .ok (.iload_n 2, 1) := by decide +kernel
theorem dX4_begin_81 : decode cX4_begin 81 = .ok (.invokevirtual 95, 3) := by decide +kernel
theorem dX4_begin_84 : decode cX4_begin 84 = .ok (.ifCond .le 7, 3) := by decide +kernel
theorem dX4_begin_87 : decode cX4_begin 87 = .ok (.iconst 1, 1) := by decide +kernel
theorem dX4_begin_88 : decode cX4_begin 88 = .ok (.goto 4, 3) := by decide +kernel
theorem dX4_begin_91 : decode cX4_begin 91 = .ok (.iconst 0, 1) := by decide +kernel
theorem dX4_begin_92 : decode cX4_begin 92 = .ok (.istore_n 3, 1) := by decide +kernel
theorem dX4_begin_93 : decode cX4_begin 93 = .ok (.iconst 0, 1) := by decide +kernel
theorem dX4_begin_94 : decode cX4_begin 94 = .ok (.istore 4, 2) := by decide +kernel
theorem dX4_begin_96 : decode cX4_begin 96 = .ok (.iload 4, 2) := by decide +kernel
theorem dX4_begin_98 : decode cX4_begin 98 = .ok (.iconst 1, 1) := by decide +kernel
theorem dX4_begin_99 : decode cX4_begin 99 = .ok (.iadd, 1) := by decide +kernel
theorem dX4_begin_100 : decode cX4_begin 100 = .ok (.iload_n 1, 1) := by decide +kernel
theorem dX4_begin_101 : decode cX4_begin 101 = .ok (.if_icmp .ge 30, 3) := by decide +kernel
theorem dX4_begin_104 : decode cX4_begin 104 = .ok (.aload_n 0, 1) := by decide +kernel
theorem dX4_begin_105 : decode cX4_begin 105 = .ok (.aload_n 0, 1) := by decide +kernel
theorem dX4_begin_106 : decode cX4_begin 106 = .ok (.getfield 44, 3) := by decide +kernel
theorem dX4_begin_109 : decode cX4_begin 109 = .ok (.iload 4, 2) := by decide +kernel
theorem dX4_begin_111 : decode cX4_begin 111 = .ok (.iaload, 1) := by decide +kernel
theorem dX4_begin_112 : decode cX4_begin 112 = .ok (.aload_n 0, 1) := by decide +kernel
theorem dX4_begin_113 : decode cX4_begin 113 = .ok (.getfield 44, 3) := by decide +kernel
theorem dX4_begin_116 : decode cX4_begin 116 = .ok (.iload 4, 2) := by decide +kernel
theorem dX4_begin_118 : decode cX4_begin 118 = .ok (.iconst 1, 1) := by decide +kernel
theorem dX4_begin_119 : decode cX4_begin 119 = .ok (.iadd, 1) := by decide +kernel
theorem dX4_begin_120 : decode cX4_begin 120 = .ok (.iaload, 1) := by decide +kernel
theorem dX4_begin_121 : decode cX4_begin 121 = .ok (.iload_n 2, 1) := by decide +kernel
theorem dX4_begin_122 : decode cX4_begin 122 = .ok (.invokevirtual 180, 3) := by decide +kernel
theorem dX4_begin_125 : decode cX4_begin 125 = .ok (.iinc 4 1, 3) := by decide +kernel
theorem dX4_begin_128 : decode cX4_begin 128 = .ok (.goto (-32), 3) := by decide +kernel
theorem dX4_begin_131 : decode cX4_begin 131 = .ok (.aload_n 0, 1) := by decide +kernel
theorem dX4_begin_132 : decode cX4_begin 132 = .ok (.iconst 0, 1) := by decide +kernel
theorem dX4_begin_133 : decode cX4_begin 133 = .ok (.putfield 192, 3) := by decide +kernel
theorem dX4_begin_136 : decode cX4_begin 136 = .ok (.iconst 0, 1) := by decide +kernel
theorem dX4_begin_137 : decode cX4_begin 137 = .ok (.istore 4, 2) := by decide +kernel
theorem dX4_begin_139 : decode cX4_begin 139 = .ok (.iload 4, 2) := by decide +kernel
theorem dX4_begin_141 : decode cX4_begin 141 = .ok (.iload_n 1, 1) := by decide +kernel
theorem dX4_begin_142 : decode cX4_begin 142 = .ok (.if_icmp .ge 48, 3) := by decide +kernel
theorem dX4_begin_145 : decode cX4_begin 145 = .ok (.aload_n 0, 1) := by decide +kernel
theorem dX4_begin_146 : decode cX4_begin 146 = .ok (.getfield 47, 3) := by decide +kernel
theorem dX4_begin_149 : decode cX4_begin 149 = .ok (.aload_n 0, 1) := by decide +kernel
theorem dX4_begin_150 : decode cX4_begin 150 = .ok (.getfield 192, 3) := by decide +kernel
theorem dX4_begin_153 : decode cX4_begin 153 = .ok (.aload_n 0, 1) := by decide +kernel
theorem dX4_begin_154 : decode cX4_begin 154 = .ok (.getfield 44, 3) := by decide +kernel
theorem dX4_begin_157 : decode cX4_begin 157 = .ok (.iload_n 3, 1) := by decide +kernel
theorem dX4_begin_158 : decode cX4_begin 158 = .ok (.ifCond .eq 8, 3) := by decide +kernel
theorem dX4_begin_161 : decode cX4_begin 161 = .ok (.iload 4, 2) := by decide +kernel
theorem dX4_begin_163 : decode cX4_begin 163 = .ok (.goto 9, 3) := by decide +kernel
theorem dX4_begin_166 : decode cX4_begin 166 = .ok (.iload_n 1, 1) := by decide +kernel
theorem dX4_begin_167 : decode cX4_begin 167 = .ok (.iconst 1, 1) := by decide +kernel
theorem dX4_begin_168 : decode cX4_begin 168 = .ok (.isub, 1) := by decide +kernel
theorem dX4_begin_169 : decode cX4_begin 169 = .ok (.iload 4, 2) := by decide +kernel
theorem dX4_begin_171 : decode cX4_begin 171 = .ok (.isub, 1) := by decide +kernel
theorem dX4_begin_172 : decode cX4_begin 172 = .ok (.iaload, 1) := by decide +kernel
theorem dX4_begin_173 : decode cX4_begin 173 = .ok (.iastore, 1) := by decide +kernel
theorem dX4_begin_174 : decode cX4_begin 174 = .ok (.aload_n 0, 1) := by decide +kernel
theorem dX4_begin_175 : decode cX4_begin 175 = .ok (.dup, 1) := by decide +kernel
theorem dX4_begin_176 : decode cX4_begin 176 = .ok (.getfield 192, 3) := by decide +kernel
theorem dX4_begin_179 : decode cX4_begin 179 = .ok (.iconst 1, 1) := by decide +kernel
theorem dX4_begin_180 : decode cX4_begin 180 = .ok (.iadd, 1) := by decide +kernel
theorem dX4_begin_181 : decode cX4_begin 181 = .ok (.putfield 192, 3) := by decide +kernel
theorem dX4_begin_184 : decode cX4_begin 184 = .ok (.iinc 4 1, 3) := by decide +kernel
theorem dX4_begin_187 : decode cX4_begin 187 = .ok (.goto (-48), 3) := by decide +kernel
theorem dX4_begin_190 : decode cX4_begin 190 = .ok (.aload_n 0, 1) := by decide +kernel
theorem dX4_begin_191 : decode cX4_begin 191 = .ok (.getfield 47, 3) := by decide +kernel
theorem dX4_begin_194 : decode cX4_begin 194 = .ok (.aload_n 0, 1) := by decide +kernel
theorem dX4_begin_195 : decode cX4_begin 195 = .ok (.getfield 192, 3) := by decide +kernel
theorem dX4_begin_198 : decode cX4_begin 198 = .ok (.iload_n 2, 1) := by decide +kernel
theorem dX4_begin_199 : decode cX4_begin 199 = .ok (.iastore, 1) := by decide +kernel
theorem dX4_begin_200 : decode cX4_begin 200 = .ok (.aload_n 0, 1) := by decide +kernel
theorem dX4_begin_201 : decode cX4_begin 201 = .ok (.dup, 1) := by decide +kernel
theorem dX4_begin_202 : decode cX4_begin 202 = .ok (.getfield 192, 3) := by decide +kernel
theorem dX4_begin_205 : decode cX4_begin 205 = .ok (.iconst 1, 1) := by decide +kernel
theorem dX4_begin_206 : decode cX4_begin 206 = .ok (.iadd, 1) := by decide +kernel
theorem dX4_begin_207 : decode cX4_begin 207 = .ok (.putfield 192, 3) := by decide +kernel
theorem dX4_begin_210 : decode cX4_begin 210 = .ok (.aload_n 0, 1) := by decide +kernel
theorem dX4_begin_211 : decode cX4_begin 211 = .ok (.invokevirtual 195, 3) := by decide +kernel
theorem dX4_begin_214 : decode cX4_begin 214 = .ok (.istore 4, 2) := by decide +kernel
theorem dX4_begin_216 : decode cX4_begin 216 = .ok (.iload_n 1, 1) := by decide +kernel
theorem dX4_begin_217 : decode cX4_begin 217 = .ok (.iconst 1, 1) := by decide +kernel
theorem dX4_begin_218 : decode cX4_begin 218 = .ok (.iadd, 1) := by decide +kernel
theorem dX4_begin_219 : decode cX4_begin 219 = .ok (.istore 5, 2) := by decide +kernel
theorem dX4_begin_221 : decode cX4_begin 221 = .ok (.iload 5, 2) := by decide +kernel
theorem dX4_begin_223 : decode cX4_begin 223 = .ok (.iload 4, 2) := by decide +kernel
theorem dX4_begin_225 : decode cX4_begin 225 = .ok (.if_icmp .ge 20, 3) := by decide +kernel
theorem dX4_begin_228 : decode cX4_begin 228 = .ok (.aload_n 0, 1) := by decide +kernel
theorem dX4_begin_229 : decode cX4_begin 229 = .ok (.aload_n 0, 1) := by decide +kernel
theorem dX4_begin_230 : decode cX4_begin 230 = .ok (.getfield 44, 3) := by decide +kernel
theorem dX4_begin_233 : decode cX4_begin 233 = .ok (.iload 5, 2) := by decide +kernel
theorem dX4_begin_235 : decode cX4_begin 235 = .ok (.iaload, 1) := by decide +kernel
theorem dX4_begin_236 : decode cX4_begin 236 = .ok (.invokevirtual 199, 3) := by decide +kernel
theorem dX4_begin_239 : decode cX4_begin 239 = .ok (.iinc 5 1, 3) := by decide +kernel
theorem dX4_begin_242 : decode cX4_begin 242 = .ok (.goto (-21), 3) := by decide +kernel
theorem dX4_begin_245 : decode cX4_begin 245 = .ok (.aload_n 0, 1) := by decide +kernel
theorem dX4_begin_246 : decode cX4_begin 246 = .ok (.iconst 1, 1) := by decide +kernel
theorem dX4_begin_247 : decode cX4_begin 247 = .ok (.putfield 203, 3) := by decide +kernel
theorem dX4_begin_250 : decode cX4_begin 250 = .ok (.aload_n 0, 1) := by decide +kernel
theorem dX4_begin_251 : decode cX4_begin 251 = .ok (.iconst 0, 1) := by decide +kernel
theorem dX4_begin_252 : decode cX4_begin 252 = .ok (.putfield 66, 3) := by decide +kernel
theorem dX4_begin_255 : decode cX4_begin 255 = .ok (.aload_n 0, 1) := by decide +kernel
theorem dX4_begin_256 : decode cX4_begin 256 = .ok (.getfield 183, 3) := by decide +kernel
theorem dX4_begin_259 : decode cX4_begin 259 = .ok (.ireturn, 1) := by decide +kernel
theorem dX4_comes_0 : decode cX4_comes 0 = .ok (.iconst 0, 1) := by decide +kernel
theorem dX4_comes_1 : decode cX4_comes 1 = .ok (.istore_n 2, 1) := by decide +kernel
theorem dX4_comes_2 : decode cX4_comes 2 = .ok (.iconst 0, 1) := by decide +kernel
theorem dX4_comes_3 : decode cX4_comes 3 = .ok (.istore_n 3, 1) := by decide +kernel
theorem dX4_comes_4 : decode cX4_comes 4 = .ok (.iconst 0, 1) := by decide +kernel
theorem dX4_comes_5 : decode cX4_comes 5 = .ok (.istore 4, 2) := by decide +kernel
theorem dX4_comes_7 : decode cX4_comes 7 = .ok (.iload 4, 2) := by decide +kernel
theorem dX4_comes_9 : decode cX4_comes 9 = .ok (.aload_n 0, 1) := by decide +kernel
theorem dX4_comes_10 : decode cX4_comes 10 = .ok (.getfield 192, 3) := by decide +kernel
theorem dX4_comes_13 : decode cX4_comes 13 = .ok (.if_icmp .ge 154, 3) := by decide +kernel
theorem dX4_comes_16 : decode cX4_comes 16 = .ok (.aload_n 0, 1) := by decide +kernel
theorem dX4_comes_17 : decode cX4_comes 17 = .ok (.getfield 47, 3) := by decide +kernel
theorem dX4_comes_20 : decode cX4_comes 20 = .ok (.iload 4, 2) := by decide +kernel
theorem dX4_comes_22 : decode cX4_comes 22 = .ok (.iaload, 1) := by decide +kernel
theorem dX4_comes_23 : decode cX4_comes 23 = .ok (.istore 5, 2) := by decide +kernel
theorem dX4_comes_25 : decode cX4_comes 25 = .ok (.aload_n 0, 1) := by decide +kernel
theorem dX4_comes_26 : decode cX4_comes 26 = .ok (.getfield 47, 3) := by decide +kernel
theorem dX4_comes_29 : decode cX4_comes 29 = .ok (.iload 4, 2) := by decide +kernel
theorem dX4_comes_31 : decode cX4_comes 31 = .ok (.iconst 1, 1) := by decide +kernel
theorem dX4_comes_32 : decode cX4_comes 32 = .ok (.iadd, 1) := by decide +kernel
theorem dX4_comes_33 : decode cX4_comes 33 = .ok (.aload_n 0, 1) := by decide +kernel
theorem dX4_comes_34 : decode cX4_comes 34 = .ok (.getfield 192, 3) := by decide +kernel
theorem dX4_comes_37 : decode cX4_comes 37 = .ok (.irem, 1) := by decide +kernel
theorem dX4_comes_38 : decode cX4_comes 38 = .ok (.iaload, 1) := by decide +kernel
theorem dX4_comes_39 : decode cX4_comes 39 = .ok (.istore 6, 2) := by decide +kernel
theorem dX4_comes_41 : decode cX4_comes 41 = .ok (.aload_n 0, 1) := by decide +kernel
theorem dX4_comes_42 : decode cX4_comes 42 = .ok (.getfield 47, 3) := by decide +kernel
theorem dX4_comes_45 : decode cX4_comes 45 = .ok (.iload 4, 2) := by decide +kernel
theorem dX4_comes_47 : decode cX4_comes 47 = .ok (.aload_n 0, 1) := by decide +kernel
theorem dX4_comes_48 : decode cX4_comes 48 = .ok (.getfield 192, 3) := by decide +kernel
theorem dX4_comes_51 : decode cX4_comes 51 = .ok (.iadd, 1) := by decide +kernel
theorem dX4_comes_52 : decode cX4_comes 52 = .ok (.iconst 1, 1) := by decide +kernel
theorem dX4_comes_53 : decode cX4_comes 53 = .ok (.isub, 1) := by decide +kernel
theorem dX4_comes_54 : decode cX4_comes 54 = .ok (.aload_n 0, 1) := by decide +kernel
theorem dX4_comes_55 : decode cX4_comes 55 = .ok (.getfield 192, 3) := by decide +kernel
theorem dX4_comes_58 : decode cX4_comes 58 = .ok (.irem, 1) := by decide +kernel
theorem dX4_comes_59 : decode cX4_comes 59 = .ok (.iaload, 1) := by decide +kernel
theorem dX4_comes_60 : decode cX4_comes 60 = .ok (.istore 7, 2) := by decide +kernel
theorem dX4_comes_62 : decode cX4_comes 62 = .ok (.aload_n 0, 1) := by decide +kernel
theorem dX4_comes_63 : decode cX4_comes 63 = .ok (.iload 5, 2) := by decide +kernel
theorem dX4_comes_65 : decode cX4_comes 65 = .ok (.iload 6, 2) := by decide +kernel
theorem dX4_comes_67 : decode cX4_comes 67 = .ok (.iload_n 1, 1) := by decide +kernel
theorem dX4_comes_68 : decode cX4_comes 68 = .ok (.invokevirtual 95, 3) := by decide +kernel
theorem dX4_comes_71 : decode cX4_comes 71 = .ok (.ifCond .ge 7, 3) := by decide +kernel
theorem dX4_comes_74 : decode cX4_comes 74 = .ok (.iconst 1, 1) := by decide +kernel
theorem dX4_comes_75 : decode cX4_comes 75 = .ok (.goto 4, 3) := by decide +kernel
theorem dX4_comes_78 : decode cX4_comes 78 = .ok (.iconst 0, 1) := by decide +kernel
theorem dX4_comes_79 : decode cX4_comes 79 = .ok (.istore 8, 2) := by decide +kernel
theorem dX4_comes_81 : decode cX4_comes 81 = .ok (.aload_n 0, 1) := by decide +kernel
theorem dX4_comes_82 : decode cX4_comes 82 = .ok (.iload 7, 2) := by decide +kernel
theorem dX4_comes_84 : decode cX4_comes 84 = .ok (.iload 5, 2) := by decide +kernel
theorem dX4_comes_86 : decode cX4_comes 86 = .ok (.iload_n 1, 1) := by decide +kernel
theorem dX4_comes_87 : decode cX4_comes 87 = .ok (.invokevirtual 95, 3) := by decide +kernel
theorem dX4_comes_90 : decode cX4_comes 90 = .ok (.ifCond .ge 7, 3) := by decide +kernel
theorem dX4_comes_93 : decode cX4_comes 93 = .ok (.iconst 1, 1) := by decide +kernel
theorem dX4_comes_94 : decode cX4_comes 94 = .ok (.goto 4, 3) := by decide +kernel
theorem dX4_comes_97 : decode cX4_comes 97 = .ok (.iconst 0, 1) := by decide +kernel
theorem dX4_comes_98 : decode cX4_comes 98 = .ok (.istore 9, 2) := by decide +kernel
theorem dX4_comes_100 : decode cX4_comes 100 = .ok (.iload 8, 2) := by decide +kernel
theorem dX4_comes_102 : decode cX4_comes 102 = .ok (.ifCond .eq 12, 3) := by decide +kernel
theorem dX4_comes_105 : decode cX4_comes 105 = .ok (.aload_n 0, 1) := by decide +kernel
theorem dX4_comes_106 : decode cX4_comes 106 = .ok (.iload 6, 2) := by decide +kernel
theorem dX4_comes_108 : decode cX4_comes 108 = .ok (.iload 5, 2) := by decide +kernel
theorem dX4_comes_110 : decode cX4_comes 110 = .ok (.iload_n 1, 1) := by decide +kernel
theorem dX4_comes_111 : decode cX4_comes 111 = .ok (.invokevirtual 180, 3) := by decide +kernel
theorem dX4_comes_114 : decode cX4_comes 114 = .ok (.iload 8, 2) := by decide +kernel
theorem dX4_comes_116 : decode cX4_comes 116 = .ok (.ifCond .eq 8, 3) := by decide +kernel
theorem dX4_comes_119 : decode cX4_comes 119 = .ok (.iload 9, 2) := by decide +kernel
theorem dX4_comes_121 : decode cX4_comes 121 = .ok (.ifCond .ne 14, 3) := by decide +kernel
theorem dX4_comes_124 : decode cX4_comes 124 = .ok (.aload_n 0, 1) := by decide +kernel
theorem dX4_comes_125 : decode cX4_comes 125 = .ok (.getfield 50, 3) := by decide +kernel
theorem dX4_comes_128 : decode cX4_comes 128 = .ok (.iload_n 2, 1) := by decide +kernel
theorem dX4_comes_129 : decode cX4_comes 129 = .ok (.iload 5, 2) := by decide +kernel
theorem dX4_comes_131 : decode cX4_comes 131 = .ok (.iastore, 1) := by decide +kernel
theorem dX4_comes_132 : decode cX4_comes 132 = .ok (.iinc 2 1, 3) := by decide +kernel
theorem dX4_comes_135 : decode cX4_comes 135 = .ok (.iload 8, 2) := by decide +kernel
theorem dX4_comes_137 : decode cX4_comes 137 = .ok (.ifCond .eq 24, 3) := by decide +kernel
theorem dX4_comes_140 : decode cX4_comes 140 = .ok (.iload 9, 2) := by decide +kernel
theorem dX4_comes_142 : decode cX4_comes 142 = .ok (.ifCond .ne 19, 3) := by decide +kernel
theorem dX4_comes_145 : decode cX4_comes 145 = .ok (.iload_n 3, 1) := by decide +kernel
theorem dX4_comes_146 : decode cX4_comes 146 = .ok (.ifCond .ne 15, 3) := by decide +kernel
theorem dX4_comes_149 : decode cX4_comes 149 = .ok (.aload_n 0, 1) := by decide +kernel
theorem dX4_comes_150 : decode cX4_comes 150 = .ok (.getfield 50, 3) := by decide +kernel
theorem dX4_comes_153 : decode cX4_comes 153 = .ok (.iload_n 2, 1) := by decide +kernel
theorem dX4_comes_154 : decode cX4_comes 154 = .ok (.iload_n 1, 1) := by decide +kernel
theorem dX4_comes_155 : decode cX4_comes 155 = .ok (.iastore, 1) := by decide +kernel
theorem dX4_comes_156 : decode cX4_comes 156 = .ok (.iinc 2 1, 3) := by decide +kernel
theorem dX4_comes_159 : decode cX4_comes 159 = .ok (.iconst 1, 1) := by decide +kernel
theorem dX4_comes_160 : decode cX4_comes 160 = .ok (.istore_n 3, 1) := by decide +kernel
theorem dX4_comes_161 : decode cX4_comes 161 = .ok (.iinc 4 1, 3) := by decide +kernel
theorem dX4_comes_164 : decode cX4_comes 164 = .ok (.goto (-157), 3) := by decide +kernel
theorem dX4_comes_167 : decode cX4_comes 167 = .ok (.iconst 0, 1) := by decide +kernel
theorem dX4_comes_168 : decode cX4_comes 168 = .ok (.istore 4, 2) := by decide +kernel
theorem dX4_comes_170 : decode cX4_comes 170 = .ok (.iload 4, 2) := by decide +kernel
theorem dX4_comes_172 : decode cX4_comes 172 = .ok (.iload_n 2, 1) := by decide +kernel
theorem dX4_comes_173 : decode cX4_comes 173 = .ok (.if_icmp .ge 23, 3) := by decide +kernel
theorem dX4_comes_176 : decode cX4_comes 176 = .ok (.aload_n 0, 1) := by decide +kernel
theorem dX4_comes_177 : decode cX4_comes 177 = .ok (.getfield 47, 3) := by decide +kernel
theorem dX4_comes_180 : decode cX4_comes 180 = .ok (.iload 4, 2) := by decide +kernel
theorem dX4_comes_182 : decode cX4_comes 182 = .ok (.aload_n 0, 1) := by decide +kernel
theorem dX4_comes_183 : decode cX4_comes 183 = .ok (.getfield 50, 3) := by decide +kernel
theorem dX4_comes_186 : decode cX4_comes 186 = .ok (.iload 4, 2) := by decide +kernel
theorem dX4_comes_188 : decode cX4_comes 188 = .ok (.iaload, 1) := by decide +kernel
theorem dX4_comes_189 : decode cX4_comes 189 = .ok (.iastore, 1) := by decide +kernel
theorem dX4_comes_190 : decode cX4_comes 190 = .ok (.iinc 4 1, 3) := by decide +kernel
theorem dX4_comes_193 : decode cX4_comes 193 = .ok (.goto (-23), 3) := by decide +kernel
theorem dX4_comes_196 : decode cX4_comes 196 = .ok (.aload_n 0, 1) := by decide +kernel
theorem dX4_comes_197 : decode cX4_comes 197 = .ok (.iload_n 2, 1) := by decide +kernel
theorem dX4_comes_198 : decode cX4_comes 198 = .ok (.putfield 192, 3) := by decide +kernel
theorem dX4_comes_201 : decode cX4_comes 201 = .ok (.return_, 1) := by decide +kernel
theorem dX4_isReady_0 : decode cX4_isReady 0 = .ok (.aload_n 0, 1) := by decide +kernel
theorem dX4_isReady_1 : decode cX4_isReady 1 = .ok (.getfield 203, 3) := by decide +kernel
theorem dX4_isReady_4 : decode cX4_isReady 4 = .ok (.ifCond .eq 14, 3) := by decide +kernel
theorem dX4_isReady_7 : decode cX4_isReady 7 = .ok (.aload_n 0, 1) := by decide +kernel
theorem dX4_isReady_8 : decode cX4_isReady 8 = .ok (.getfield 66, 3) := by decide +kernel
theorem dX4_isReady_11 : decode cX4_isReady 11 = .ok (.ifCond .ne 7, 3) := by decide +kernel
theorem dX4_isReady_14 : decode cX4_isReady 14 = .ok (.iconst 1, 1) := by decide +kernel
theorem dX4_isReady_15 : decode cX4_isReady 15 = .ok (.goto 4, 3) := by decide +kernel
theorem dX4_isReady_18 : decode cX4_isReady 18 = .ok (.iconst 0, 1) := by decide +kernel
theorem dX4_isReady_19 : decode cX4_isReady 19 = .ok (.ireturn, 1) := by decide +kernel
theorem dX4_held_0 : decode cX4_held 0 = .ok (.aload_n 0, 1) := by decide +kernel
theorem dX4_held_1 : decode cX4_held 1 = .ok (.invokevirtual 206, 3) := by decide +kernel
theorem dX4_held_4 : decode cX4_held 4 = .ok (.ifCond .ne 10, 3) := by decide +kernel
theorem dX4_held_7 : decode cX4_held 7 = .ok (.aload_n 0, 1) := by decide +kernel
theorem dX4_held_8 : decode cX4_held 8 = .ok (.bipush (-3), 2) := by decide +kernel
theorem dX4_held_10 : decode cX4_held 10 = .ok (.invokevirtual 54, 3) := by decide +kernel
theorem dX4_held_13 : decode cX4_held 13 = .ok (.ireturn, 1) := by decide +kernel
theorem dX4_held_14 : decode cX4_held 14 = .ok (.iload_n 1, 1) := by decide +kernel
theorem dX4_held_15 : decode cX4_held 15 = .ok (.ifCond .lt 11, 3) := by decide +kernel
theorem dX4_held_18 : decode cX4_held 18 = .ok (.iload_n 1, 1) := by decide +kernel
theorem dX4_held_19 : decode cX4_held 19 = .ok (.aload_n 0, 1) := by decide +kernel
theorem dX4_held_20 : decode cX4_held 20 = .ok (.getfield 183, 3) := by decide +kernel
theorem dX4_held_23 : decode cX4_held 23 = .ok (.if_icmp .lt 9, 3) := by decide +kernel
theorem dX4_held_26 : decode cX4_held 26 = .ok (.aload_n 0, 1) := by decide +kernel
theorem dX4_held_27 : decode cX4_held 27 = .ok (.iconst (-1), 1) := by decide +kernel
theorem dX4_held_28 : decode cX4_held 28 = .ok (.invokevirtual 54, 3) := by decide +kernel
theorem dX4_held_31 : decode cX4_held 31 = .ok (.ireturn, 1) := by decide +kernel
theorem dX4_held_32 : decode cX4_held 32 = .ok (.iload_n 2, 1) := by decide +kernel
theorem dX4_held_33 : decode cX4_held 33 = .ok (.ifCond .ne 12, 3) := by decide +kernel
theorem dX4_held_36 : decode cX4_held 36 = .ok (.aload_n 0, 1) := by decide +kernel
theorem dX4_held_37 : decode cX4_held 37 = .ok (.getfield 35, 3) := by decide +kernel
theorem dX4_held_40 : decode cX4_held 40 = .ok (.iload_n 1, 1) := by decide +kernel
theorem dX4_held_41 : decode cX4_held 41 = .ok (.iaload, 1) := by decide +kernel
theorem dX4_held_42 : decode cX4_held 42 = .ok (.goto 37, 3) := by decide +kernel
theorem dX4_held_45 : decode cX4_held 45 = .ok (.iload_n 2, 1) := by decide +kernel
theorem dX4_held_46 : decode cX4_held 46 = .ok (.iconst 1, 1) := by decide +kernel
theorem dX4_held_47 : decode cX4_held 47 = .ok (.if_icmp .ne 12, 3) := by decide +kernel
theorem dX4_held_50 : decode cX4_held 50 = .ok (.aload_n 0, 1) := by decide +kernel
theorem dX4_held_51 : decode cX4_held 51 = .ok (.getfield 38, 3) := by decide +kernel
theorem dX4_held_54 : decode cX4_held 54 = .ok (.iload_n 1, 1) := by decide +kernel
theorem dX4_held_55 : decode cX4_held 55 = .ok (.iaload, 1) := by decide +kernel
theorem dX4_held_56 : decode cX4_held 56 = .ok (.goto 23, 3) := by decide +kernel
theorem dX4_held_59 : decode cX4_held 59 = .ok (.iload_n 2, 1) := by decide +kernel
theorem dX4_held_60 : decode cX4_held 60 = .ok (.iconst 2, 1) := by decide +kernel
theorem dX4_held_61 : decode cX4_held 61 = .ok (.if_icmp .ne 12, 3) := by decide +kernel
theorem dX4_held_64 : decode cX4_held 64 = .ok (.aload_n 0, 1) := by decide +kernel
theorem dX4_held_65 : decode cX4_held 65 = .ok (.getfield 41, 3) := by decide +kernel
theorem dX4_held_68 : decode cX4_held 68 = .ok (.iload_n 1, 1) := by decide +kernel
theorem dX4_held_69 : decode cX4_held 69 = .ok (.iaload, 1) := by decide +kernel
theorem dX4_held_70 : decode cX4_held 70 = .ok (.goto 9, 3) := by decide +kernel
theorem dX4_held_73 : decode cX4_held 73 = .ok (.aload_n 0, 1) := by decide +kernel
theorem dX4_held_74 : decode cX4_held 74 = .ok (.bipush (-2), 2) := by decide +kernel
theorem dX4_held_76 : decode cX4_held 76 = .ok (.invokevirtual 54, 3) := by decide +kernel
theorem dX4_held_79 : decode cX4_held 79 = .ok (.ireturn, 1) := by decide +kernel
theorem dX4_holdsPoint_0 : decode cX4_holdsPoint 0 = .ok (.aload_n 0, 1) := by decide +kernel
theorem dX4_holdsPoint_1 : decode cX4_holdsPoint 1 = .ok (.getfield 35, 3) := by decide +kernel
theorem dX4_holdsPoint_4 : decode cX4_holdsPoint 4 = .ok (.iload_n 1, 1) := by decide +kernel
theorem dX4_holdsPoint_5 : decode cX4_holdsPoint 5 = .ok (.iaload, 1) := by decide +kernel
theorem dX4_holdsPoint_6 : decode cX4_holdsPoint 6 = .ok (.iload_n 2, 1) := by decide +kernel
theorem dX4_holdsPoint_7 : decode cX4_holdsPoint 7 = .ok (.if_icmp .eq 23, 3) := by decide +kernel
theorem dX4_holdsPoint_10 : decode cX4_holdsPoint 10 = .ok (.aload_n 0, 1) := by decide +kernel
theorem dX4_holdsPoint_11 : decode cX4_holdsPoint 11 = .ok (.getfield 38, 3) := by decide +kernel
theorem dX4_holdsPoint_14 : decode cX4_holdsPoint 14 = .ok (.iload_n 1, 1) := by decide +kernel
theorem dX4_holdsPoint_15 : decode cX4_holdsPoint 15 = .ok (.iaload, 1) := by decide +kernel
theorem dX4_holdsPoint_16 : decode cX4_holdsPoint 16 = .ok (.iload_n 2, 1) := by decide +kernel
theorem dX4_holdsPoint_17 : decode cX4_holdsPoint 17 = .ok (.if_icmp .eq 13, 3) := by decide +kernel
theorem dX4_holdsPoint_20 : decode cX4_holdsPoint 20 = .ok (.aload_n 0, 1) := by decide +kernel
theorem dX4_holdsPoint_21 : decode cX4_holdsPoint 21 = .ok (.getfield 41, 3) := by decide +kernel
theorem dX4_holdsPoint_24 : decode cX4_holdsPoint 24 = .ok (.iload_n 1, 1) := by decide +kernel
theorem dX4_holdsPoint_25 : decode cX4_holdsPoint 25 = .ok (.iaload, 1) := by decide +kernel
theorem dX4_holdsPoint_26 : decode cX4_holdsPoint 26 = .ok (.iload_n 2, 1) := by decide +kernel
theorem dX4_holdsPoint_27 : decode cX4_holdsPoint 27 = .ok (.if_icmp .ne 7, 3) := by decide +kernel
theorem dX4_holdsPoint_30 : decode cX4_holdsPoint 30 = .ok (.iconst 1, 1) := by decide +kernel
theorem dX4_holdsPoint_31 : decode cX4_holdsPoint 31 = .ok (.goto 4, 3) := by decide +kernel
theorem dX4_holdsPoint_34 : decode cX4_holdsPoint 34 = .ok (.iconst 0, 1) := by decide +kernel
theorem dX4_holdsPoint_35 : decode cX4_holdsPoint 35 = .ok (.ireturn, 1) := by decide +kernel
theorem dX4_handAt_0 : decode cX4_handAt 0 = .ok (.iload_n 3, 1) := by decide +kernel
theorem dX4_handAt_1 : decode cX4_handAt 1 = .ok (.istore 4, 2) := by decide +kernel
theorem dX4_handAt_3 : decode cX4_handAt 3 = .ok (.iconst 0, 1) := by decide +kernel
theorem dX4_handAt_4 : decode cX4_handAt 4 = .ok (.istore 5, 2) := by decide +kernel
theorem dX4_handAt_6 : decode cX4_handAt 6 = .ok (.iload 5, 2) := by decide +kernel
theorem dX4_handAt_8 : decode cX4_handAt 8 = .ok (.aload_n 0, 1) := by decide +kernel
theorem dX4_handAt_9 : decode cX4_handAt 9 = .ok (.getfield 183, 3) := by decide +kernel
theorem dX4_handAt_12 : decode cX4_handAt 12 = .ok (.if_icmp .ge 43, 3) := by decide +kernel
theorem dX4_handAt_15 : decode cX4_handAt 15 = .ok (.aload_n 0, 1) := by decide +kernel
theorem dX4_handAt_16 : decode cX4_handAt 16 = .ok (.iload 5, 2) := by decide +kernel
theorem dX4_handAt_18 : decode cX4_handAt 18 = .ok (.iload_n 1, 1) := by decide +kernel
theorem dX4_handAt_19 : decode cX4_handAt 19 = .ok (.invokevirtual 209, 3) := by decide +kernel
theorem dX4_handAt_22 : decode cX4_handAt 22 = .ok (.ifCond .eq 27, 3) := by decide +kernel
theorem dX4_handAt_25 : decode cX4_handAt 25 = .ok (.aload_n 0, 1) := by decide +kernel
theorem dX4_handAt_26 : decode cX4_handAt 26 = .ok (.iload 5, 2) := by decide +kernel
theorem dX4_handAt_28 : decode cX4_handAt 28 = .ok (.iload_n 2, 1) := by decide +kernel
theorem dX4_handAt_29 : decode cX4_handAt 29 = .ok (.invokevirtual 209, 3) := by decide +kernel
theorem dX4_handAt_32 : decode cX4_handAt 32 = .ok (.ifCond .ne 6, 3) := by decide +kernel
theorem dX4_handAt_35 : decode cX4_handAt 35 = .ok (.goto 14, 3) := by decide +kernel
theorem dX4_handAt_38 : decode cX4_handAt 38 = .ok (.iload 4, 2) := by decide +kernel
theorem dX4_handAt_40 : decode cX4_handAt 40 = .ok (.ifCond .ne 6, 3) := by decide +kernel
theorem dX4_handAt_43 : decode cX4_handAt 43 = .ok (.iload 5, 2) := by decide +kernel
theorem dX4_handAt_45 : decode cX4_handAt 45 = .ok (.ireturn, 1) := by decide +kernel
theorem dX4_handAt_46 : decode cX4_handAt 46 = .ok (.iinc 4 (-1), 3) := by decide +kernel
theorem dX4_handAt_49 : decode cX4_handAt 49 = .ok (.iinc 5 1, 3) := by decide +kernel
theorem dX4_handAt_52 : decode cX4_handAt 52 = .ok (.goto (-46), 3) := by decide +kernel
theorem dX4_handAt_55 : decode cX4_handAt 55 = .ok (.iconst (-1), 1) := by decide +kernel
theorem dX4_handAt_56 : decode cX4_handAt 56 = .ok (.ireturn, 1) := by decide +kernel
theorem dX4_third_0 : decode cX4_third 0 = .ok (.aload_n 0, 1) := by decide +kernel
theorem dX4_third_1 : decode cX4_third 1 = .ok (.getfield 35, 3) := by decide +kernel
theorem dX4_third_4 : decode cX4_third 4 = .ok (.iload_n 1, 1) := by decide +kernel
theorem dX4_third_5 : decode cX4_third 5 = .ok (.iaload, 1) := by decide +kernel
theorem dX4_third_6 : decode cX4_third 6 = .ok (.iload_n 2, 1) := by decide +kernel
theorem dX4_third_7 : decode cX4_third 7 = .ok (.if_icmp .eq 20, 3) := by decide +kernel
theorem dX4_third_10 : decode cX4_third 10 = .ok (.aload_n 0, 1) := by decide +kernel
theorem dX4_third_11 : decode cX4_third 11 = .ok (.getfield 35, 3) := by decide +kernel
theorem dX4_third_14 : decode cX4_third 14 = .ok (.iload_n 1, 1) := by decide +kernel
theorem dX4_third_15 : decode cX4_third 15 = .ok (.iaload, 1) := by decide +kernel
theorem dX4_third_16 : decode cX4_third 16 = .ok (.iload_n 3, 1) := by decide +kernel
theorem dX4_third_17 : decode cX4_third 17 = .ok (.if_icmp .eq 10, 3) := by decide +kernel
theorem dX4_third_20 : decode cX4_third 20 = .ok (.aload_n 0, 1) := by decide +kernel
theorem dX4_third_21 : decode cX4_third 21 = .ok (.getfield 35, 3) := by decide +kernel
theorem dX4_third_24 : decode cX4_third 24 = .ok (.iload_n 1, 1) := by decide +kernel
theorem dX4_third_25 : decode cX4_third 25 = .ok (.iaload, 1) := by decide +kernel
theorem dX4_third_26 : decode cX4_third 26 = .ok (.ireturn, 1) := by decide +kernel
theorem dX4_third_27 : decode cX4_third 27 = .ok (.aload_n 0, 1) := by decide +kernel
theorem dX4_third_28 : decode cX4_third 28 = .ok (.getfield 38, 3) := by decide +kernel
theorem dX4_third_31 : decode cX4_third 31 = .ok (.iload_n 1, 1) := by decide +kernel
theorem dX4_third_32 : decode cX4_third 32 = .ok (.iaload, 1) := by decide +kernel
theorem dX4_third_33 : decode cX4_third 33 = .ok (.iload_n 2, 1) := by decide +kernel
theorem dX4_third_34 : decode cX4_third 34 = .ok (.if_icmp .eq 22, 3) := by decide +kernel
theorem dX4_third_37 : decode cX4_third 37 = .ok (.aload_n 0, 1) := by decide +kernel
theorem dX4_third_38 : decode cX4_third 38 = .ok (.getfield 38, 3) := by decide +kernel
theorem dX4_third_41 : decode cX4_third 41 = .ok (.iload_n 1, 1) := by decide +kernel
theorem dX4_third_42 : decode cX4_third 42 = .ok (.iaload, 1) := by decide +kernel
theorem dX4_third_43 : decode cX4_third 43 = .ok (.iload_n 3, 1) := by decide +kernel
theorem dX4_third_44 : decode cX4_third 44 = .ok (.if_icmp .eq 12, 3) := by decide +kernel
theorem dX4_third_47 : decode cX4_third 47 = .ok (.aload_n 0, 1) := by decide +kernel
theorem dX4_third_48 : decode cX4_third 48 = .ok (.getfield 38, 3) := by decide +kernel
theorem dX4_third_51 : decode cX4_third 51 = .ok (.iload_n 1, 1) := by decide +kernel
theorem dX4_third_52 : decode cX4_third 52 = .ok (.iaload, 1) := by decide +kernel
theorem dX4_third_53 : decode cX4_third 53 = .ok (.goto 9, 3) := by decide +kernel
theorem dX4_third_56 : decode cX4_third 56 = .ok (.aload_n 0, 1) := by decide +kernel
theorem dX4_third_57 : decode cX4_third 57 = .ok (.getfield 41, 3) := by decide +kernel
theorem dX4_third_60 : decode cX4_third 60 = .ok (.iload_n 1, 1) := by decide +kernel
theorem dX4_third_61 : decode cX4_third 61 = .ok (.iaload, 1) := by decide +kernel
theorem dX4_third_62 : decode cX4_third 62 = .ok (.ireturn, 1) := by decide +kernel
theorem dX4_badOf_0 : decode cX4_badOf 0 = .ok (.aload_n 0, 1) := by decide +kernel
theorem dX4_badOf_1 : decode cX4_badOf 1 = .ok (.iload_n 1, 1) := by decide +kernel
theorem dX4_badOf_2 : decode cX4_badOf 2 = .ok (.iload_n 2, 1) := by decide +kernel
theorem dX4_badOf_3 : decode cX4_badOf 3 = .ok (.iconst 0, 1) := by decide +kernel
theorem dX4_badOf_4 : decode cX4_badOf 4 = .ok (.invokevirtual 212, 3) := by decide +kernel
theorem dX4_badOf_7 : decode cX4_badOf 7 = .ok (.istore_n 3, 1) := by decide +kernel
theorem dX4_badOf_8 : decode cX4_badOf 8 = .ok (.aload_n 0, 1) := by decide +kernel
theorem dX4_badOf_9 : decode cX4_badOf 9 = .ok (.iload_n 1, 1) := by decide +kernel
theorem dX4_badOf_10 : decode cX4_badOf 10 = .ok (.iload_n 2, 1) := by decide +kernel
theorem dX4_badOf_11 : decode cX4_badOf 11 = .ok (.iconst 1, 1) := by decide +kernel
theorem dX4_badOf_12 : decode cX4_badOf 12 = .ok (.invokevirtual 212, 3) := by decide +kernel
theorem dX4_badOf_15 : decode cX4_badOf 15 = .ok (.istore 4, 2) := by decide +kernel
theorem dX4_badOf_17 : decode cX4_badOf 17 = .ok (.iload 4, 2) := by decide +kernel
theorem dX4_badOf_19 : decode cX4_badOf 19 = .ok (.ifCond .ge 5, 3) := by decide +kernel
theorem dX4_badOf_22 : decode cX4_badOf 22 = .ok (.iconst 0, 1) := by decide +kernel
theorem dX4_badOf_23 : decode cX4_badOf 23 = .ok (.ireturn, 1) := by decide +kernel
theorem dX4_badOf_24 : decode cX4_badOf 24 = .ok (.aload_n 0, 1) := by decide +kernel
theorem dX4_badOf_25 : decode cX4_badOf 25 = .ok (.iload_n 3, 1) := by decide +kernel
theorem dX4_badOf_26 : decode cX4_badOf 26 = .ok (.iload_n 1, 1) := by decide +kernel
theorem dX4_badOf_27 : decode cX4_badOf 27 = .ok (.iload_n 2, 1) := by decide +kernel
theorem dX4_badOf_28 : decode cX4_badOf 28 = .ok (.invokevirtual 215, 3) := by decide +kernel
theorem dX4_badOf_31 : decode cX4_badOf 31 = .ok (.istore 5, 2) := by decide +kernel
theorem dX4_badOf_33 : decode cX4_badOf 33 = .ok (.aload_n 0, 1) := by decide +kernel
theorem dX4_badOf_34 : decode cX4_badOf 34 = .ok (.iload 4, 2) := by decide +kernel
theorem dX4_badOf_36 : decode cX4_badOf 36 = .ok (.iload_n 1, 1) := by decide +kernel
theorem dX4_badOf_37 : decode cX4_badOf 37 = .ok (.iload_n 2, 1) := by decide +kernel
theorem dX4_badOf_38 : decode cX4_badOf 38 = .ok (.invokevirtual 215, 3) := by decide +kernel
theorem dX4_badOf_41 : decode cX4_badOf 41 = .ok (.istore 6, 2) := by decide +kernel
theorem dX4_badOf_43 : decode cX4_badOf 43 = .ok (.aload_n 0, 1) := by decide +kernel
theorem dX4_badOf_44 : decode cX4_badOf 44 = .ok (.iload 5, 2) := by decide +kernel
theorem dX4_badOf_46 : decode cX4_badOf 46 = .ok (.iload 6, 2) := by decide +kernel
theorem dX4_badOf_48 : decode cX4_badOf 48 = .ok (.iload_n 1, 1) := by decide +kernel
theorem dX4_badOf_49 : decode cX4_badOf 49 = .ok (.invokevirtual 95, 3) := by decide +kernel
theorem dX4_badOf_52 : decode cX4_badOf 52 = .ok (.aload_n 0, 1) := by decide +kernel
theorem dX4_badOf_53 : decode cX4_badOf 53 = .ok (.iload 5, 2) := by decide +kernel
theorem dX4_badOf_55 : decode cX4_badOf 55 = .ok (.iload 6, 2) := by decide +kernel
theorem dX4_badOf_57 : decode cX4_badOf 57 = .ok (.iload_n 2, 1) := by decide +kernel
theorem dX4_badOf_58 : decode cX4_badOf 58 = .ok (.invokevirtual 95, 3) := by decide +kernel
theorem dX4_badOf_61 : decode cX4_badOf 61 = .ok (.imul, 1) := by decide +kernel
theorem dX4_badOf_62 : decode cX4_badOf 62 = .ok (.ifCond .ge 7, 3) := by decide +kernel
theorem dX4_badOf_65 : decode cX4_badOf 65 = .ok (.iconst 1, 1) := by decide +kernel
theorem dX4_badOf_66 : decode cX4_badOf 66 = .ok (.goto 4, 3) := by decide +kernel
theorem dX4_badOf_69 : decode cX4_badOf 69 = .ok (.iconst 0, 1) := by decide +kernel
theorem dX4_badOf_70 : decode cX4_badOf 70 = .ok (.istore 7, 2) := by decide +kernel
theorem dX4_badOf_72 : decode cX4_badOf 72 = .ok (.aload_n 0, 1) := by decide +kernel
theorem dX4_badOf_73 : decode cX4_badOf 73 = .ok (.iload_n 1, 1) := by decide +kernel
theorem dX4_badOf_74 : decode cX4_badOf 74 = .ok (.iload_n 2, 1) := by decide +kernel
theorem dX4_badOf_75 : decode cX4_badOf 75 = .ok (.iload 5, 2) := by decide +kernel
theorem dX4_badOf_77 : decode cX4_badOf 77 = .ok (.iload 6, 2) := by decide +kernel
theorem dX4_badOf_79 : decode cX4_badOf 79 = .ok (.invokevirtual 102, 3) := by decide +kernel
theorem dX4_badOf_82 : decode cX4_badOf 82 = .ok (.istore 8, 2) := by decide +kernel
theorem dX4_badOf_84 : decode cX4_badOf 84 = .ok (.iload 8, 2) := by decide +kernel
theorem dX4_badOf_86 : decode cX4_badOf 86 = .ok (.ifCond .gt 23, 3) := by decide +kernel
theorem dX4_badOf_89 : decode cX4_badOf 89 = .ok (.iload 8, 2) := by decide +kernel
theorem dX4_badOf_91 : decode cX4_badOf 91 = .ok (.ifCond .ne 22, 3) := by decide +kernel
theorem dX4_badOf_94 : decode cX4_badOf 94 = .ok (.iload 5, 2) := by decide +kernel
theorem dX4_badOf_96 : decode cX4_badOf 96 = .ok (.iload 6, 2) := by decide +kernel
theorem dX4_badOf_98 : decode cX4_badOf 98 = .ok (.invokestatic 163, 3) := by decide +kernel
theorem dX4_badOf_101 : decode cX4_badOf 101 = .ok (.iload_n 1, 1) := by decide +kernel
theorem dX4_badOf_102 : decode cX4_badOf 102 = .ok (.iload_n 2, 1) := by decide +kernel
theorem dX4_badOf_103 : decode cX4_badOf 103 = .ok (.invokestatic 163, 3) := by decide +kernel
theorem dX4_badOf_106 : decode cX4_badOf 106 = .ok (.if_icmp .ge 7, 3) := by decide +kernel
theorem dX4_badOf_109 : decode cX4_badOf 109 = .ok (.iconst 1, 1) := by decide +kernel
theorem dX4_badOf_110 : decode cX4_badOf 110 = .ok (.goto 4, 3) := by decide +kernel
theorem dX4_badOf_113 : decode cX4_badOf 113 = .ok (.iconst 0, 1) := by decide +kernel
theorem dX4_badOf_114 : decode cX4_badOf 114 = .ok (.istore 9, 2) := by decide +kernel
theorem dX4_badOf_116 : decode cX4_badOf 116 = .ok (.iload 9, 2) := by decide +kernel
theorem dX4_badOf_118 : decode cX4_badOf 118 = .ok (.ifCond .eq 7, 3) := by decide +kernel
theorem dX4_badOf_121 : decode cX4_badOf 121 = .ok (.iconst 2, 1) := by decide +kernel
theorem dX4_badOf_122 : decode cX4_badOf 122 = .ok (.goto 13, 3) := by decide +kernel
theorem dX4_badOf_125 : decode cX4_badOf 125 = .ok (.iload 7, 2) := by decide +kernel
theorem dX4_badOf_127 : decode cX4_badOf 127 = .ok (.ifCond .eq 7, 3) := by decide +kernel
theorem dX4_badOf_130 : decode cX4_badOf 130 = .ok (.iconst 1, 1) := by decide +kernel
theorem dX4_badOf_131 : decode cX4_badOf 131 = .ok (.goto 4, 3) := by decide +kernel
theorem dX4_badOf_134 : decode cX4_badOf 134 = .ok (.iconst 0, 1) := by decide +kernel
theorem dX4_badOf_135 : decode cX4_badOf 135 = .ok (.ireturn, 1) := by decide +kernel
theorem dX4_isEdge_0 : decode cX4_isEdge 0 = .ok (.iload_n 1, 1) := by decide +kernel
theorem dX4_isEdge_1 : decode cX4_isEdge 1 = .ok (.iload_n 2, 1) := by decide +kernel
theorem dX4_isEdge_2 : decode cX4_isEdge 2 = .ok (.if_icmp .eq 17, 3) := by decide +kernel
theorem dX4_isEdge_5 : decode cX4_isEdge 5 = .ok (.aload_n 0, 1) := by decide +kernel
theorem dX4_isEdge_6 : decode cX4_isEdge 6 = .ok (.iload_n 1, 1) := by decide +kernel
theorem dX4_isEdge_7 : decode cX4_isEdge 7 = .ok (.iload_n 2, 1) := by decide +kernel
theorem dX4_isEdge_8 : decode cX4_isEdge 8 = .ok (.iconst 0, 1) := by decide +kernel
theorem dX4_isEdge_9 : decode cX4_isEdge 9 = .ok (.invokevirtual 212, 3) := by decide +kernel
theorem dX4_isEdge_12 : decode cX4_isEdge 12 = .ok (.ifCond .lt 7, 3) := by decide +kernel
theorem dX4_isEdge_15 : decode cX4_isEdge 15 = .ok (.iconst 1, 1) := by decide +kernel
theorem dX4_isEdge_16 : decode cX4_isEdge 16 = .ok (.goto 4, 3) := by decide +kernel
theorem dX4_isEdge_19 : decode cX4_isEdge 19 = .ok (.iconst 0, 1) := by decide +kernel
theorem dX4_isEdge_20 : decode cX4_isEdge 20 = .ok (.ireturn, 1) := by decide +kernel
theorem dX4_bad_0 : decode cX4_bad 0 = .ok (.aload_n 0, 1) := by decide +kernel
theorem dX4_bad_1 : decode cX4_bad 1 = .ok (.invokevirtual 206, 3) := by decide +kernel
theorem dX4_bad_4 : decode cX4_bad 4 = .ok (.ifCond .ne 10, 3) := by decide +kernel
theorem dX4_bad_7 : decode cX4_bad 7 = .ok (.aload_n 0, 1) := by decide +kernel
theorem dX4_bad_8 : decode cX4_bad 8 = .ok (.bipush (-3), 2) := by decide +kernel
theorem dX4_bad_10 : decode cX4_bad 10 = .ok (.invokevirtual 54, 3) := by decide +kernel
theorem dX4_bad_13 : decode cX4_bad 13 = .ok (.ireturn, 1) := by decide +kernel
theorem dX4_bad_14 : decode cX4_bad 14 = .ok (.aload_n 0, 1) := by decide +kernel
theorem dX4_bad_15 : decode cX4_bad 15 = .ok (.iload_n 1, 1) := by decide +kernel
theorem dX4_bad_16 : decode cX4_bad 16 = .ok (.iload_n 2, 1) := by decide +kernel
theorem dX4_bad_17 : decode cX4_bad 17 = .ok (.invokevirtual 218, 3) := by decide +kernel
theorem dX4_bad_20 : decode cX4_bad 20 = .ok (.ifCond .eq 12, 3) := by decide +kernel
theorem dX4_bad_23 : decode cX4_bad 23 = .ok (.aload_n 0, 1) := by decide +kernel
theorem dX4_bad_24 : decode cX4_bad 24 = .ok (.iload_n 1, 1) := by decide +kernel
theorem dX4_bad_25 : decode cX4_bad 25 = .ok (.iload_n 2, 1) := by decide +kernel
theorem dX4_bad_26 : decode cX4_bad 26 = .ok (.invokevirtual 221, 3) := by decide +kernel
theorem dX4_bad_29 : decode cX4_bad 29 = .ok (.goto 8, 3) := by decide +kernel
theorem dX4_bad_32 : decode cX4_bad 32 = .ok (.aload_n 0, 1) := by decide +kernel
theorem dX4_bad_33 : decode cX4_bad 33 = .ok (.iconst (-1), 1) := by decide +kernel
theorem dX4_bad_34 : decode cX4_bad 34 = .ok (.invokevirtual 54, 3) := by decide +kernel
theorem dX4_bad_37 : decode cX4_bad 37 = .ok (.ireturn, 1) := by decide +kernel
theorem dX4_turnsOver_0 : decode cX4_turnsOver 0 = .ok (.aload_n 0, 1) := by decide +kernel
theorem dX4_turnsOver_1 : decode cX4_turnsOver 1 = .ok (.iload_n 1, 1) := by decide +kernel
theorem dX4_turnsOver_2 : decode cX4_turnsOver 2 = .ok (.iload_n 2, 1) := by decide +kernel
theorem dX4_turnsOver_3 : decode cX4_turnsOver 3 = .ok (.iconst 0, 1) := by decide +kernel
theorem dX4_turnsOver_4 : decode cX4_turnsOver 4 = .ok (.invokevirtual 212, 3) := by decide +kernel
theorem dX4_turnsOver_7 : decode cX4_turnsOver 7 = .ok (.istore_n 3, 1) := by decide +kernel
theorem dX4_turnsOver_8 : decode cX4_turnsOver 8 = .ok (.aload_n 0, 1) := by decide +kernel
theorem dX4_turnsOver_9 : decode cX4_turnsOver 9 = .ok (.iload_n 3, 1) := by decide +kernel
theorem dX4_turnsOver_10 : decode cX4_turnsOver 10 = .ok (.iload_n 1, 1) := by decide +kernel
theorem dX4_turnsOver_11 : decode cX4_turnsOver 11 = .ok (.iload_n 2, 1) := by decide +kernel
theorem dX4_turnsOver_12 : decode cX4_turnsOver 12 = .ok (.invokevirtual 215, 3) := by decide +kernel
theorem dX4_turnsOver_15 : decode cX4_turnsOver 15 = .ok (.istore 4, 2) := by decide +kernel
theorem dX4_turnsOver_17 : decode cX4_turnsOver 17 = .ok (.aload_n 0, 1) := by decide +kernel
theorem dX4_turnsOver_18 : decode cX4_turnsOver 18 = .ok (.aload_n 0, 1) := by decide +kernel
theorem dX4_turnsOver_19 : decode cX4_turnsOver 19 = .ok (.iload_n 1, 1) := by decide +kernel
theorem dX4_turnsOver_20 : decode cX4_turnsOver 20 = .ok (.iload_n 2, 1) := by decide +kernel
theorem dX4_turnsOver_21 : decode cX4_turnsOver 21 = .ok (.iconst 1, 1) := by decide +kernel
theorem dX4_turnsOver_22 : decode cX4_turnsOver 22 = .ok (.invokevirtual 212, 3) := by decide +kernel
theorem dX4_turnsOver_25 : decode cX4_turnsOver 25 = .ok (.iload_n 1, 1) := by decide +kernel
theorem dX4_turnsOver_26 : decode cX4_turnsOver 26 = .ok (.iload_n 2, 1) := by decide +kernel
theorem dX4_turnsOver_27 : decode cX4_turnsOver 27 = .ok (.invokevirtual 215, 3) := by decide +kernel
theorem dX4_turnsOver_30 : decode cX4_turnsOver 30 = .ok (.istore 5, 2) := by decide +kernel
theorem dX4_turnsOver_32 : decode cX4_turnsOver 32 = .ok (.aload_n 0, 1) := by decide +kernel
theorem dX4_turnsOver_33 : decode cX4_turnsOver 33 = .ok (.aload_n 0, 1) := by decide +kernel
theorem dX4_turnsOver_34 : decode cX4_turnsOver 34 = .ok (.iload_n 1, 1) := by decide +kernel
theorem dX4_turnsOver_35 : decode cX4_turnsOver 35 = .ok (.iload_n 2, 1) := by decide +kernel
theorem dX4_turnsOver_36 : decode cX4_turnsOver 36 = .ok (.iconst 1, 1) := by decide +kernel
theorem dX4_turnsOver_37 : decode cX4_turnsOver 37 = .ok (.invokevirtual 212, 3) := by decide +kernel
theorem dX4_turnsOver_40 : decode cX4_turnsOver 40 = .ok (.invokevirtual 224, 3) := by decide +kernel
theorem dX4_turnsOver_43 : decode cX4_turnsOver 43 = .ok (.aload_n 0, 1) := by decide +kernel
theorem dX4_turnsOver_44 : decode cX4_turnsOver 44 = .ok (.iload_n 3, 1) := by decide +kernel
theorem dX4_turnsOver_45 : decode cX4_turnsOver 45 = .ok (.invokevirtual 224, 3) := by decide +kernel
theorem dX4_turnsOver_48 : decode cX4_turnsOver 48 = .ok (.aload_n 0, 1) := by decide +kernel
theorem dX4_turnsOver_49 : decode cX4_turnsOver 49 = .ok (.iload 4, 2) := by decide +kernel
theorem dX4_turnsOver_51 : decode cX4_turnsOver 51 = .ok (.iload 5, 2) := by decide +kernel
theorem dX4_turnsOver_53 : decode cX4_turnsOver 53 = .ok (.iload_n 1, 1) := by decide +kernel
theorem dX4_turnsOver_54 : decode cX4_turnsOver 54 = .ok (.invokevirtual 180, 3) := by decide +kernel
theorem dX4_turnsOver_57 : decode cX4_turnsOver 57 = .ok (.aload_n 0, 1) := by decide +kernel
theorem dX4_turnsOver_58 : decode cX4_turnsOver 58 = .ok (.iload 4, 2) := by decide +kernel
theorem dX4_turnsOver_60 : decode cX4_turnsOver 60 = .ok (.iload 5, 2) := by decide +kernel
theorem dX4_turnsOver_62 : decode cX4_turnsOver 62 = .ok (.iload_n 2, 1) := by decide +kernel
theorem dX4_turnsOver_63 : decode cX4_turnsOver 63 = .ok (.invokevirtual 180, 3) := by decide +kernel
theorem dX4_turnsOver_66 : decode cX4_turnsOver 66 = .ok (.aload_n 0, 1) := by decide +kernel
theorem dX4_turnsOver_67 : decode cX4_turnsOver 67 = .ok (.dup, 1) := by decide +kernel
theorem dX4_turnsOver_68 : decode cX4_turnsOver 68 = .ok (.getfield 227, 3) := by decide +kernel
theorem dX4_turnsOver_71 : decode cX4_turnsOver 71 = .ok (.iconst 1, 1) := by decide +kernel
theorem dX4_turnsOver_72 : decode cX4_turnsOver 72 = .ok (.iadd, 1) := by decide +kernel
theorem dX4_turnsOver_73 : decode cX4_turnsOver 73 = .ok (.putfield 227, 3) := by decide +kernel
theorem dX4_turnsOver_76 : decode cX4_turnsOver 76 = .ok (.return_, 1) := by decide +kernel
theorem dX4_flip_0 : decode cX4_flip 0 = .ok (.aload_n 0, 1) := by decide +kernel
theorem dX4_flip_1 : decode cX4_flip 1 = .ok (.invokevirtual 206, 3) := by decide +kernel
theorem dX4_flip_4 : decode cX4_flip 4 = .ok (.ifCond .ne 10, 3) := by decide +kernel
theorem dX4_flip_7 : decode cX4_flip 7 = .ok (.aload_n 0, 1) := by decide +kernel
theorem dX4_flip_8 : decode cX4_flip 8 = .ok (.bipush (-3), 2) := by decide +kernel
theorem dX4_flip_10 : decode cX4_flip 10 = .ok (.invokevirtual 54, 3) := by decide +kernel
theorem dX4_flip_13 : decode cX4_flip 13 = .ok (.ireturn, 1) := by decide +kernel
theorem dX4_flip_14 : decode cX4_flip 14 = .ok (.aload_n 0, 1) := by decide +kernel
theorem dX4_flip_15 : decode cX4_flip 15 = .ok (.iload_n 1, 1) := by decide +kernel
theorem dX4_flip_16 : decode cX4_flip 16 = .ok (.iload_n 2, 1) := by decide +kernel
theorem dX4_flip_17 : decode cX4_flip 17 = .ok (.invokevirtual 218, 3) := by decide +kernel
theorem dX4_flip_20 : decode cX4_flip 20 = .ok (.ifCond .ne 9, 3) := by decide +kernel
theorem dX4_flip_23 : decode cX4_flip 23 = .ok (.aload_n 0, 1) := by decide +kernel
theorem dX4_flip_24 : decode cX4_flip 24 = .ok (.iconst (-1), 1) := by decide +kernel
theorem dX4_flip_25 : decode cX4_flip 25 = .ok (.invokevirtual 54, 3) := by decide +kernel
theorem dX4_flip_28 : decode cX4_flip 28 = .ok (.ireturn, 1) := by decide +kernel
theorem dX4_flip_29 : decode cX4_flip 29 = .ok (.aload_n 0, 1) := by decide +kernel
theorem dX4_flip_30 : decode cX4_flip 30 = .ok (.iload_n 1, 1) := by decide +kernel
theorem dX4_flip_31 : decode cX4_flip 31 = .ok (.iload_n 2, 1) := by decide +kernel
theorem dX4_flip_32 : decode cX4_flip 32 = .ok (.invokevirtual 221, 3) := by decide +kernel
theorem dX4_flip_35 : decode cX4_flip 35 = .ok (.istore_n 3, 1) := by decide +kernel
theorem dX4_flip_36 : decode cX4_flip 36 = .ok (.iload_n 3, 1) := by decide +kernel
theorem dX4_flip_37 : decode cX4_flip 37 = .ok (.iconst 1, 1) := by decide +kernel
theorem dX4_flip_38 : decode cX4_flip 38 = .ok (.if_icmp .eq 15, 3) := by decide +kernel
theorem dX4_flip_41 : decode cX4_flip 41 = .ok (.iload_n 3, 1) := by decide +kernel
theorem dX4_flip_42 : decode cX4_flip 42 = .ok (.iconst 2, 1) := by decide +kernel
theorem dX4_flip_43 : decode cX4_flip 43 = .ok (.if_icmp .eq 10, 3) := by decide +kernel
theorem dX4_flip_46 : decode cX4_flip 46 = .ok (.aload_n 0, 1) := by decide +kernel
theorem dX4_flip_47 : decode cX4_flip 47 = .ok (.bipush (-3), 2) := by decide +kernel
theorem dX4_flip_49 : decode cX4_flip 49 = .ok (.invokevirtual 54, 3) := by decide +kernel
theorem dX4_flip_52 : decode cX4_flip 52 = .ok (.ireturn, 1) := by decide +kernel
theorem dX4_flip_53 : decode cX4_flip 53 = .ok (.aload_n 0, 1) := by decide +kernel
theorem dX4_flip_54 : decode cX4_flip 54 = .ok (.iload_n 1, 1) := by decide +kernel
theorem dX4_flip_55 : decode cX4_flip 55 = .ok (.iload_n 2, 1) := by decide +kernel
theorem dX4_flip_56 : decode cX4_flip 56 = .ok (.invokevirtual 230, 3) := by decide +kernel
theorem dX4_flip_59 : decode cX4_flip 59 = .ok (.iconst 1, 1) := by decide +kernel
theorem dX4_flip_60 : decode cX4_flip 60 = .ok (.ireturn, 1) := by decide +kernel
theorem dX4_settles_0 : decode cX4_settles 0 = .ok (.iconst 0, 1) := by decide +kernel
theorem dX4_settles_1 : decode cX4_settles 1 = .ok (.istore_n 1, 1) := by decide +kernel
theorem dX4_settles_2 : decode cX4_settles 2 = .ok (.iload_n 1, 1) := by decide +kernel
theorem dX4_settles_3 : decode cX4_settles 3 = .ok (.aload_n 0, 1) := by decide +kernel
theorem dX4_settles_4 : decode cX4_settles 4 = .ok (.getfield 58, 3) := by decide +kernel
theorem dX4_settles_7 : decode cX4_settles 7 = .ok (.if_icmp .ge 75, 3) := by decide +kernel
theorem dX4_settles_10 : decode cX4_settles 10 = .ok (.iload_n 1, 1) := by decide +kernel
theorem dX4_settles_11 : decode cX4_settles 11 = .ok (.iconst 1, 1) := by decide +kernel
theorem dX4_settles_12 : decode cX4_settles 12 = .ok (.iadd, 1) := by decide +kernel
theorem dX4_settles_13 : decode cX4_settles 13 = .ok (.istore_n 2, 1) := by decide +kernel
theorem dX4_settles_14 : decode cX4_settles 14 = .ok (.iload_n 2, 1) := by decide +kernel
theorem dX4_settles_15 : decode cX4_settles 15 = .ok (.aload_n 0, 1) := by decide +kernel
theorem dX4_settles_16 : decode cX4_settles 16 = .ok (.getfield 58, 3) := by decide +kernel
theorem dX4_settles_19 : decode cX4_settles 19 = .ok (.if_icmp .ge 57, 3) := by decide +kernel
theorem dX4_settles_22 : decode cX4_settles 22 = .ok (.aload_n 0, 1) := by decide +kernel
theorem dX4_settles_23 : decode cX4_settles 23 = .ok (.getfield 19, 3) := by decide +kernel
theorem dX4_settles_26 : decode cX4_settles 26 = .ok (.iload_n 1, 1) := by decide +kernel
theorem dX4_settles_27 : decode cX4_settles 27 = .ok (.baload, 1) := by decide +kernel
theorem dX4_settles_28 : decode cX4_settles 28 = .ok (.ifCond .eq 42, 3) := by decide +kernel
theorem dX4_settles_31 : decode cX4_settles 31 = .ok (.aload_n 0, 1) := by decide +kernel
theorem dX4_settles_32 : decode cX4_settles 32 = .ok (.getfield 19, 3) := by decide +kernel
theorem dX4_settles_35 : decode cX4_settles 35 = .ok (.iload_n 2, 1) := by decide +kernel
theorem dX4_settles_36 : decode cX4_settles 36 = .ok (.baload, 1) := by decide +kernel
theorem dX4_settles_37 : decode cX4_settles 37 = .ok (.ifCond .eq 33, 3) := by decide +kernel
theorem dX4_settles_40 : decode cX4_settles 40 = .ok (.aload_n 0, 1) := by decide +kernel
theorem dX4_settles_41 : decode cX4_settles 41 = .ok (.iload_n 1, 1) := by decide +kernel
theorem dX4_settles_42 : decode cX4_settles 42 = .ok (.iload_n 2, 1) := by decide +kernel
theorem dX4_settles_43 : decode cX4_settles 43 = .ok (.invokevirtual 218, 3) := by decide +kernel
theorem dX4_settles_46 : decode cX4_settles 46 = .ok (.ifCond .eq 24, 3) := by decide +kernel
theorem dX4_settles_49 : decode cX4_settles 49 = .ok (.aload_n 0, 1) := by decide +kernel
theorem dX4_settles_50 : decode cX4_settles 50 = .ok (.iload_n 1, 1) := by decide +kernel
theorem dX4_settles_51 : decode cX4_settles 51 = .ok (.iload_n 2, 1) := by decide +kernel
theorem dX4_settles_52 : decode cX4_settles 52 = .ok (.invokevirtual 221, 3) := by decide +kernel
theorem dX4_settles_55 : decode cX4_settles 55 = .ok (.iconst 2, 1) := by decide +kernel
theorem dX4_settles_56 : decode cX4_settles 56 = .ok (.if_icmp .eq 6, 3) := by decide +kernel
theorem dX4_settles_59 : decode cX4_settles 59 = .ok (.goto 11, 3) := by decide +kernel
theorem dX4_settles_62 : decode cX4_settles 62 = .ok (.aload_n 0, 1) := by decide +kernel
theorem dX4_settles_63 : decode cX4_settles 63 = .ok (.iload_n 1, 1) := by decide +kernel
theorem dX4_settles_64 : decode cX4_settles 64 = .ok (.iload_n 2, 1) := by decide +kernel
theorem dX4_settles_65 : decode cX4_settles 65 = .ok (.invokevirtual 230, 3) := by decide +kernel
theorem dX4_settles_68 : decode cX4_settles 68 = .ok (.iconst 1, 1) := by decide +kernel
theorem dX4_settles_69 : decode cX4_settles 69 = .ok (.ireturn, 1) := by decide +kernel
theorem dX4_settles_70 : decode cX4_settles 70 = .ok (.iinc 2 1, 3) := by decide +kernel
theorem dX4_settles_73 : decode cX4_settles 73 = .ok (.goto (-59), 3) := by decide +kernel
theorem dX4_settles_76 : decode cX4_settles 76 = .ok (.iinc 1 1, 3) := by decide +kernel
theorem dX4_settles_79 : decode cX4_settles 79 = .ok (.goto (-77), 3) := by decide +kernel
theorem dX4_settles_82 : decode cX4_settles 82 = .ok (.iconst 0, 1) := by decide +kernel
theorem dX4_settles_83 : decode cX4_settles 83 = .ok (.ireturn, 1) := by decide +kernel
theorem dX4_settle_0 : decode cX4_settle 0 = .ok (.aload_n 0, 1) := by decide +kernel
theorem dX4_settle_1 : decode cX4_settle 1 = .ok (.invokevirtual 206, 3) := by decide +kernel
theorem dX4_settle_4 : decode cX4_settle 4 = .ok (.ifCond .ne 10, 3) := by decide +kernel
theorem dX4_settle_7 : decode cX4_settle 7 = .ok (.aload_n 0, 1) := by decide +kernel
theorem dX4_settle_8 : decode cX4_settle 8 = .ok (.bipush (-3), 2) := by decide +kernel
theorem dX4_settle_10 : decode cX4_settle 10 = .ok (.invokevirtual 54, 3) := by decide +kernel
theorem dX4_settle_13 : decode cX4_settle 13 = .ok (.ireturn, 1) := by decide +kernel
theorem dX4_settle_14 : decode cX4_settle 14 = .ok (.iload_n 1, 1) := by decide +kernel
theorem dX4_settle_15 : decode cX4_settle 15 = .ok (.ifCond .ge 10, 3) := by decide +kernel
theorem dX4_settle_18 : decode cX4_settle 18 = .ok (.aload_n 0, 1) := by decide +kernel
theorem dX4_settle_19 : decode cX4_settle 19 = .ok (.bipush (-4), 2) := by decide +kernel
theorem dX4_settle_21 : decode cX4_settle 21 = .ok (.invokevirtual 54, 3) := by decide +kernel
theorem dX4_settle_24 : decode cX4_settle 24 = .ok (.ireturn, 1) := by decide +kernel
theorem dX4_settle_25 : decode cX4_settle 25 = .ok (.iload_n 1, 1) := by decide +kernel
theorem dX4_settle_26 : decode cX4_settle 26 = .ok (.sipush 10000, 3) := by decide +kernel
theorem dX4_settle_29 : decode cX4_settle 29 = .ok (.if_icmp .le 10, 3) := by decide +kernel
theorem dX4_settle_32 : decode cX4_settle 32 = .ok (.aload_n 0, 1) := by decide +kernel
theorem dX4_settle_33 : decode cX4_settle 33 = .ok (.bipush (-6), 2) := by decide +kernel
theorem dX4_settle_35 : decode cX4_settle 35 = .ok (.invokevirtual 54, 3) := by decide +kernel
theorem dX4_settle_38 : decode cX4_settle 38 = .ok (.ireturn, 1) := by decide +kernel
theorem dX4_settle_39 : decode cX4_settle 39 = .ok (.iconst 0, 1) := by decide +kernel
theorem dX4_settle_40 : decode cX4_settle 40 = .ok (.istore_n 2, 1) := by decide +kernel
theorem dX4_settle_41 : decode cX4_settle 41 = .ok (.iload_n 2, 1) := by decide +kernel
theorem dX4_settle_42 : decode cX4_settle 42 = .ok (.iload_n 1, 1) := by decide +kernel
theorem dX4_settle_43 : decode cX4_settle 43 = .ok (.if_icmp .ge 16, 3) := by decide +kernel
theorem dX4_settle_46 : decode cX4_settle 46 = .ok (.aload_n 0, 1) := by decide +kernel
theorem dX4_settle_47 : decode cX4_settle 47 = .ok (.invokevirtual 234, 3) := by decide +kernel
theorem dX4_settle_50 : decode cX4_settle 50 = .ok (.ifCond .eq 9, 3) := by decide +kernel
theorem dX4_settle_53 : decode cX4_settle 53 = .ok (.iinc 2 1, 3) := by decide +kernel
theorem dX4_settle_56 : decode cX4_settle 56 = .ok (.goto (-15), 3) := by decide +kernel
theorem dX4_settle_59 : decode cX4_settle 59 = .ok (.iload_n 2, 1) := by decide +kernel
theorem dX4_settle_60 : decode cX4_settle 60 = .ok (.ireturn, 1) := by decide +kernel
theorem dX4_alike_0 : decode cX4_alike 0 = .ok (.aload_n 0, 1) := by decide +kernel
theorem dX4_alike_1 : decode cX4_alike 1 = .ok (.invokevirtual 206, 3) := by decide +kernel
theorem dX4_alike_4 : decode cX4_alike 4 = .ok (.ifCond .ne 10, 3) := by decide +kernel
theorem dX4_alike_7 : decode cX4_alike 7 = .ok (.aload_n 0, 1) := by decide +kernel
theorem dX4_alike_8 : decode cX4_alike 8 = .ok (.bipush (-3), 2) := by decide +kernel
theorem dX4_alike_10 : decode cX4_alike 10 = .ok (.invokevirtual 54, 3) := by decide +kernel
theorem dX4_alike_13 : decode cX4_alike 13 = .ok (.ireturn, 1) := by decide +kernel
theorem dX4_alike_14 : decode cX4_alike 14 = .ok (.aload_n 0, 1) := by decide +kernel
theorem dX4_alike_15 : decode cX4_alike 15 = .ok (.invokevirtual 147, 3) := by decide +kernel
theorem dX4_alike_18 : decode cX4_alike 18 = .ok (.iconst 0, 1) := by decide +kernel
theorem dX4_alike_19 : decode cX4_alike 19 = .ok (.istore_n 1, 1) := by decide +kernel
theorem dX4_alike_20 : decode cX4_alike 20 = .ok (.iconst 0, 1) := by decide +kernel
theorem dX4_alike_21 : decode cX4_alike 21 = .ok (.istore_n 2, 1) := by decide +kernel
theorem dX4_alike_22 : decode cX4_alike 22 = .ok (.iload_n 2, 1) := by decide +kernel
theorem dX4_alike_23 : decode cX4_alike 23 = .ok (.aload_n 0, 1) := by decide +kernel
theorem dX4_alike_24 : decode cX4_alike 24 = .ok (.getfield 183, 3) := by decide +kernel
theorem dX4_alike_27 : decode cX4_alike 27 = .ok (.if_icmp .ge 78, 3) := by decide +kernel
theorem dX4_alike_30 : decode cX4_alike 30 = .ok (.iconst 0, 1) := by decide +kernel
theorem dX4_alike_31 : decode cX4_alike 31 = .ok (.istore_n 3, 1) := by decide +kernel
theorem dX4_alike_32 : decode cX4_alike 32 = .ok (.iload_n 3, 1) := by decide +kernel
theorem dX4_alike_33 : decode cX4_alike 33 = .ok (.aload_n 0, 1) := by decide +kernel
theorem dX4_alike_34 : decode cX4_alike 34 = .ok (.getfield 115, 3) := by decide +kernel
theorem dX4_alike_37 : decode cX4_alike 37 = .ok (.if_icmp .ge 62, 3) := by decide +kernel
theorem dX4_alike_40 : decode cX4_alike 40 = .ok (.iload_n 1, 1) := by decide +kernel
theorem dX4_alike_41 : decode cX4_alike 41 = .ok (.aload_n 0, 1) := by decide +kernel
theorem dX4_alike_42 : decode cX4_alike 42 = .ok (.getfield 35, 3) := by decide +kernel
theorem dX4_alike_45 : decode cX4_alike 45 = .ok (.iload_n 2, 1) := by decide +kernel
theorem dX4_alike_46 : decode cX4_alike 46 = .ok (.iaload, 1) := by decide +kernel
theorem dX4_alike_47 : decode cX4_alike 47 = .ok (.aload_n 0, 1) := by decide +kernel
theorem dX4_alike_48 : decode cX4_alike 48 = .ok (.getfield 26, 3) := by decide +kernel
theorem dX4_alike_51 : decode cX4_alike 51 = .ok (.iload_n 3, 1) := by decide +kernel
theorem dX4_alike_52 : decode cX4_alike 52 = .ok (.iaload, 1) := by decide +kernel
theorem dX4_alike_53 : decode cX4_alike 53 = .ok (.if_icmp .ne 37, 3) := by decide +kernel
theorem dX4_alike_56 : decode cX4_alike 56 = .ok (.aload_n 0, 1) := by decide +kernel
theorem dX4_alike_57 : decode cX4_alike 57 = .ok (.getfield 38, 3) := by decide +kernel
theorem dX4_alike_60 : decode cX4_alike 60 = .ok (.iload_n 2, 1) := by decide +kernel
theorem dX4_alike_61 : decode cX4_alike 61 = .ok (.iaload, 1) := by decide +kernel
theorem dX4_alike_62 : decode cX4_alike 62 = .ok (.aload_n 0, 1) := by decide +kernel
theorem dX4_alike_63 : decode cX4_alike 63 = .ok (.getfield 29, 3) := by decide +kernel
theorem dX4_alike_66 : decode cX4_alike 66 = .ok (.iload_n 3, 1) := by decide +kernel
theorem dX4_alike_67 : decode cX4_alike 67 = .ok (.iaload, 1) := by decide +kernel
theorem dX4_alike_68 : decode cX4_alike 68 = .ok (.if_icmp .ne 22, 3) := by decide +kernel
theorem dX4_alike_71 : decode cX4_alike 71 = .ok (.aload_n 0, 1) := by decide +kernel
theorem dX4_alike_72 : decode cX4_alike 72 = .ok (.getfield 41, 3) := by decide +kernel
theorem dX4_alike_75 : decode cX4_alike 75 = .ok (.iload_n 2, 1) := by decide +kernel
theorem dX4_alike_76 : decode cX4_alike 76 = .ok (.iaload, 1) := by decide +kernel
theorem dX4_alike_77 : decode cX4_alike 77 = .ok (.aload_n 0, 1) := by decide +kernel
theorem dX4_alike_78 : decode cX4_alike 78 = .ok (.getfield 32, 3) := by decide +kernel
theorem dX4_alike_81 : decode cX4_alike 81 = .ok (.iload_n 3, 1) := by decide +kernel
theorem dX4_alike_82 : decode cX4_alike 82 = .ok (.iaload, 1) := by decide +kernel
theorem dX4_alike_83 : decode cX4_alike 83 = .ok (.if_icmp .ne 7, 3) := by decide +kernel
theorem dX4_alike_86 : decode cX4_alike 86 = .ok (.iconst 1, 1) := by decide +kernel
theorem dX4_alike_87 : decode cX4_alike 87 = .ok (.goto 4, 3) := by decide +kernel
theorem dX4_alike_90 : decode cX4_alike 90 = .ok (.iconst 0, 1) := by decide +kernel
theorem dX4_alike_91 : decode cX4_alike 91 = .ok (.iadd, 1) := by decide +kernel
theorem dX4_alike_92 : decode cX4_alike 92 = .ok (.istore_n 1, 1) := by decide +kernel
theorem dX4_alike_93 : decode cX4_alike 93 = .ok (.iinc 3 1, 3) := by decide +kernel
theorem dX4_alike_96 : decode cX4_alike 96 = .ok (.goto (-64), 3) := by decide +kernel
theorem dX4_alike_99 : decode cX4_alike 99 = .ok (.iinc 2 1, 3) := by decide +kernel
theorem dX4_alike_102 : decode cX4_alike 102 = .ok (.goto (-80), 3) := by decide +kernel
theorem dX4_alike_105 : decode cX4_alike 105 = .ok (.iload_n 1, 1) := by decide +kernel
theorem dX4_alike_106 : decode cX4_alike 106 = .ok (.ireturn, 1) := by decide +kernel
theorem dX4_bads_0 : decode cX4_bads 0 = .ok (.aload_n 0, 1) := by decide +kernel
theorem dX4_bads_1 : decode cX4_bads 1 = .ok (.invokevirtual 206, 3) := by decide +kernel
theorem dX4_bads_4 : decode cX4_bads 4 = .ok (.ifCond .ne 10, 3) := by decide +kernel
theorem dX4_bads_7 : decode cX4_bads 7 = .ok (.aload_n 0, 1) := by decide +kernel
theorem dX4_bads_8 : decode cX4_bads 8 = .ok (.bipush (-3), 2) := by decide +kernel
theorem dX4_bads_10 : decode cX4_bads 10 = .ok (.invokevirtual 54, 3) := by decide +kernel
theorem dX4_bads_13 : decode cX4_bads 13 = .ok (.ireturn, 1) := by decide +kernel
theorem dX4_bads_14 : decode cX4_bads 14 = .ok (.iconst 0, 1) := by decide +kernel
theorem dX4_bads_15 : decode cX4_bads 15 = .ok (.istore_n 1, 1) := by decide +kernel
theorem dX4_bads_16 : decode cX4_bads 16 = .ok (.iconst 0, 1) := by decide +kernel
theorem dX4_bads_17 : decode cX4_bads 17 = .ok (.istore_n 2, 1) := by decide +kernel
theorem dX4_bads_18 : decode cX4_bads 18 = .ok (.iload_n 2, 1) := by decide +kernel
theorem dX4_bads_19 : decode cX4_bads 19 = .ok (.aload_n 0, 1) := by decide +kernel
theorem dX4_bads_20 : decode cX4_bads 20 = .ok (.getfield 58, 3) := by decide +kernel
theorem dX4_bads_23 : decode cX4_bads 23 = .ok (.if_icmp .ge 54, 3) := by decide +kernel
theorem dX4_bads_26 : decode cX4_bads 26 = .ok (.iload_n 2, 1) := by decide +kernel
theorem dX4_bads_27 : decode cX4_bads 27 = .ok (.iconst 1, 1) := by decide +kernel
theorem dX4_bads_28 : decode cX4_bads 28 = .ok (.iadd, 1) := by decide +kernel
theorem dX4_bads_29 : decode cX4_bads 29 = .ok (.istore_n 3, 1) := by decide +kernel
theorem dX4_bads_30 : decode cX4_bads 30 = .ok (.iload_n 3, 1) := by decide +kernel
theorem dX4_bads_31 : decode cX4_bads 31 = .ok (.aload_n 0, 1) := by decide +kernel
theorem dX4_bads_32 : decode cX4_bads 32 = .ok (.getfield 58, 3) := by decide +kernel
theorem dX4_bads_35 : decode cX4_bads 35 = .ok (.if_icmp .ge 36, 3) := by decide +kernel
theorem dX4_bads_38 : decode cX4_bads 38 = .ok (.iload_n 1, 1) := by decide +kernel
theorem dX4_bads_39 : decode cX4_bads 39 = .ok (.aload_n 0, 1) := by decide +kernel
theorem dX4_bads_40 : decode cX4_bads 40 = .ok (.iload_n 2, 1) := by decide +kernel
theorem dX4_bads_41 : decode cX4_bads 41 = .ok (.iload_n 3, 1) := by decide +kernel
theorem dX4_bads_42 : decode cX4_bads 42 = .ok (.invokevirtual 218, 3) := by decide +kernel
theorem dX4_bads_45 : decode cX4_bads 45 = .ok (.ifCond .eq 17, 3) := by decide +kernel
theorem dX4_bads_48 : decode cX4_bads 48 = .ok (.aload_n 0, 1) := by decide +kernel
theorem dX4_bads_49 : decode cX4_bads 49 = .ok (.iload_n 2, 1) := by decide +kernel
theorem dX4_bads_50 : decode cX4_bads 50 = .ok (.iload_n 3, 1) := by decide +kernel
theorem dX4_bads_51 : decode cX4_bads 51 = .ok (.invokevirtual 221, 3) := by decide +kernel
theorem dX4_bads_54 : decode cX4_bads 54 = .ok (.iconst 1, 1) := by decide +kernel
theorem dX4_bads_55 : decode cX4_bads 55 = .ok (.if_icmp .le 7, 3) := by decide +kernel
theorem dX4_bads_58 : decode cX4_bads 58 = .ok (.iconst 1, 1) := by decide +kernel
theorem dX4_bads_59 : decode cX4_bads 59 = .ok (.goto 4, 3) := by decide +kernel
theorem dX4_bads_62 : decode cX4_bads 62 = .ok (.iconst 0, 1) := by decide +kernel
theorem dX4_bads_63 : decode cX4_bads 63 = .ok (.iadd, 1) := by decide +kernel
theorem dX4_bads_64 : decode cX4_bads 64 = .ok (.istore_n 1, 1) := by decide +kernel
theorem dX4_bads_65 : decode cX4_bads 65 = .ok (.iinc 3 1, 3) := by decide +kernel
theorem dX4_bads_68 : decode cX4_bads 68 = .ok (.goto (-38), 3) := by decide +kernel
theorem dX4_bads_71 : decode cX4_bads 71 = .ok (.iinc 2 1, 3) := by decide +kernel
theorem dX4_bads_74 : decode cX4_bads 74 = .ok (.goto (-56), 3) := by decide +kernel
theorem dX4_bads_77 : decode cX4_bads 77 = .ok (.iload_n 1, 1) := by decide +kernel
theorem dX4_bads_78 : decode cX4_bads 78 = .ok (.ireturn, 1) := by decide +kernel
theorem dX4_count_0 : decode cX4_count 0 = .ok (.iload_n 1, 1) := by decide +kernel
theorem dX4_count_1 : decode cX4_count 1 = .ok (.bipush 10, 2) := by decide +kernel
theorem dX4_count_3 : decode cX4_count 3 = .ok (.if_icmp .le 19, 3) := by decide +kernel
theorem dX4_count_6 : decode cX4_count 6 = .ok (.iload_n 1, 1) := by decide +kernel
theorem dX4_count_7 : decode cX4_count 7 = .ok (.bipush 17, 2) := by decide +kernel
theorem dX4_count_9 : decode cX4_count 9 = .ok (.if_icmp .ge 13, 3) := by decide +kernel
theorem dX4_count_12 : decode cX4_count 12 = .ok (.aload_n 0, 1) := by decide +kernel
theorem dX4_count_13 : decode cX4_count 13 = .ok (.getfield 7, 3) := by decide +kernel
theorem dX4_count_16 : decode cX4_count 16 = .ok (.iload_n 1, 1) := by decide +kernel
theorem dX4_count_17 : decode cX4_count 17 = .ok (.bipush 10, 2) := by decide +kernel
theorem dX4_count_19 : decode cX4_count 19 = .ok (.isub, 1) := by decide +kernel
theorem dX4_count_20 : decode cX4_count 20 = .ok (.iaload, 1) := by decide +kernel
theorem dX4_count_21 : decode cX4_count 21 = .ok (.ireturn, 1) := by decide +kernel
theorem dX4_count_22 : decode cX4_count 22 = .ok (.iload_n 1, 1) := by decide +kernel
theorem dX4_count_23 : decode cX4_count 23 = .ok (.tableswitch 122 0 6 #[41, 46, 51, 68, 81, 101, 117], 41) := by decide +kernel
theorem dX4_count_64 : decode cX4_count 64 = .ok (.aload_n 0, 1) := by decide +kernel
theorem dX4_count_65 : decode cX4_count 65 = .ok (.getfield 58, 3) := by decide +kernel
theorem dX4_count_68 : decode cX4_count 68 = .ok (.ireturn, 1) := by decide +kernel
theorem dX4_count_69 : decode cX4_count 69 = .ok (.aload_n 0, 1) := by decide +kernel
theorem dX4_count_70 : decode cX4_count 70 = .ok (.invokevirtual 195, 3) := by decide +kernel
theorem dX4_count_73 : decode cX4_count 73 = .ok (.ireturn, 1) := by decide +kernel
theorem dX4_count_74 : decode cX4_count 74 = .ok (.aload_n 0, 1) := by decide +kernel
theorem dX4_count_75 : decode cX4_count 75 = .ok (.invokevirtual 147, 3) := by decide +kernel
theorem dX4_count_78 : decode cX4_count 78 = .ok (.aload_n 0, 1) := by decide +kernel
theorem dX4_count_79 : decode cX4_count 79 = .ok (.getfield 109, 3) := by decide +kernel
theorem dX4_count_82 : decode cX4_count 82 = .ok (.ifCond .eq 7, 3) := by decide +kernel
theorem dX4_count_85 : decode cX4_count 85 = .ok (.iconst 1, 1) := by decide +kernel
theorem dX4_count_86 : decode cX4_count 86 = .ok (.goto 4, 3) := by decide +kernel
theorem dX4_count_89 : decode cX4_count 89 = .ok (.iconst 0, 1) := by decide +kernel
theorem dX4_count_90 : decode cX4_count 90 = .ok (.ireturn, 1) := by decide +kernel
theorem dX4_count_91 : decode cX4_count 91 = .ok (.aload_n 0, 1) := by decide +kernel
theorem dX4_count_92 : decode cX4_count 92 = .ok (.getfield 203, 3) := by decide +kernel
theorem dX4_count_95 : decode cX4_count 95 = .ok (.ifCond .eq 7, 3) := by decide +kernel
theorem dX4_count_98 : decode cX4_count 98 = .ok (.iconst 1, 1) := by decide +kernel
theorem dX4_count_99 : decode cX4_count 99 = .ok (.goto 4, 3) := by decide +kernel
theorem dX4_count_102 : decode cX4_count 102 = .ok (.iconst 0, 1) := by decide +kernel
theorem dX4_count_103 : decode cX4_count 103 = .ok (.ireturn, 1) := by decide +kernel
theorem dX4_count_104 : decode cX4_count 104 = .ok (.aload_n 0, 1) := by decide +kernel
theorem dX4_count_105 : decode cX4_count 105 = .ok (.getfield 203, 3) := by decide +kernel
theorem dX4_count_108 : decode cX4_count 108 = .ok (.ifCond .eq 14, 3) := by decide +kernel
theorem dX4_count_111 : decode cX4_count 111 = .ok (.aload_n 0, 1) := by decide +kernel
theorem dX4_count_112 : decode cX4_count 112 = .ok (.getfield 66, 3) := by decide +kernel
theorem dX4_count_115 : decode cX4_count 115 = .ok (.ifCond .eq 7, 3) := by decide +kernel
theorem dX4_count_118 : decode cX4_count 118 = .ok (.iconst 1, 1) := by decide +kernel
theorem dX4_count_119 : decode cX4_count 119 = .ok (.goto 4, 3) := by decide +kernel
theorem dX4_count_122 : decode cX4_count 122 = .ok (.iconst 0, 1) := by decide +kernel
theorem dX4_count_123 : decode cX4_count 123 = .ok (.ireturn, 1) := by decide +kernel
theorem dX4_count_124 : decode cX4_count 124 = .ok (.aload_n 0, 1) := by decide +kernel
theorem dX4_count_125 : decode cX4_count 125 = .ok (.getfield 203, 3) := by decide +kernel
theorem dX4_count_128 : decode cX4_count 128 = .ok (.ifCond .eq 10, 3) := by decide +kernel
theorem dX4_count_131 : decode cX4_count 131 = .ok (.aload_n 0, 1) := by decide +kernel
theorem dX4_count_132 : decode cX4_count 132 = .ok (.getfield 183, 3) := by decide +kernel
theorem dX4_count_135 : decode cX4_count 135 = .ok (.goto 4, 3) := by decide +kernel
theorem dX4_count_138 : decode cX4_count 138 = .ok (.iconst 0, 1) := by decide +kernel
theorem dX4_count_139 : decode cX4_count 139 = .ok (.ireturn, 1) := by decide +kernel
theorem dX4_count_140 : decode cX4_count 140 = .ok (.aload_n 0, 1) := by decide +kernel
theorem dX4_count_141 : decode cX4_count 141 = .ok (.getfield 227, 3) := by decide +kernel
theorem dX4_count_144 : decode cX4_count 144 = .ok (.ireturn, 1) := by decide +kernel
theorem dX4_count_145 : decode cX4_count 145 = .ok (.bipush (-9), 2) := by decide +kernel
theorem dX4_count_147 : decode cX4_count 147 = .ok (.ireturn, 1) := by decide +kernel
