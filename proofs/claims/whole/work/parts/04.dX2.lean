theorem dX2_init_0 : decode cX2_init 0 = .ok (.aload_n 0, 1) := by decide +kernel
theorem dX2_init_1 : decode cX2_init 1 = .ok (.invokespecial 3, 3) := by decide +kernel
theorem dX2_init_4 : decode cX2_init 4 = .ok (.aload_n 0, 1) := by decide +kernel
theorem dX2_init_5 : decode cX2_init 5 = .ok (.bipush 40, 2) := by decide +kernel
theorem dX2_init_7 : decode cX2_init 7 = .ok (.newarray .int, 2) := by decide +kernel
theorem dX2_init_9 : decode cX2_init 9 = .ok (.putfield 9, 3) := by decide +kernel
theorem dX2_init_12 : decode cX2_init 12 = .ok (.aload_n 0, 1) := by decide +kernel
theorem dX2_init_13 : decode cX2_init 13 = .ok (.bipush 40, 2) := by decide +kernel
theorem dX2_init_15 : decode cX2_init 15 = .ok (.newarray .int, 2) := by decide +kernel
theorem dX2_init_17 : decode cX2_init 17 = .ok (.putfield 15, 3) := by decide +kernel
theorem dX2_init_20 : decode cX2_init 20 = .ok (.aload_n 0, 1) := by decide +kernel
theorem dX2_init_21 : decode cX2_init 21 = .ok (.bipush 40, 2) := by decide +kernel
theorem dX2_init_23 : decode cX2_init 23 = .ok (.newarray .boolean, 2) := by decide +kernel
theorem dX2_init_25 : decode cX2_init 25 = .ok (.putfield 18, 3) := by decide +kernel
theorem dX2_init_28 : decode cX2_init 28 = .ok (.aload_n 0, 1) := by decide +kernel
theorem dX2_init_29 : decode cX2_init 29 = .ok (.bipush 40, 2) := by decide +kernel
theorem dX2_init_31 : decode cX2_init 31 = .ok (.newarray .int, 2) := by decide +kernel
theorem dX2_init_33 : decode cX2_init 33 = .ok (.putfield 22, 3) := by decide +kernel
theorem dX2_init_36 : decode cX2_init 36 = .ok (.return_, 1) := by decide +kernel
theorem dX2_isFull_0 : decode cX2_isFull 0 = .ok (.aload_n 0, 1) := by decide +kernel
theorem dX2_isFull_1 : decode cX2_isFull 1 = .ok (.getfield 25, 3) := by decide +kernel
theorem dX2_isFull_4 : decode cX2_isFull 4 = .ok (.bipush 40, 2) := by decide +kernel
theorem dX2_isFull_6 : decode cX2_isFull 6 = .ok (.if_icmp .lt 7, 3) := by decide +kernel
theorem dX2_isFull_9 : decode cX2_isFull 9 = .ok (.iconst 1, 1) := by decide +kernel
theorem dX2_isFull_10 : decode cX2_isFull 10 = .ok (.goto 4, 3) := by decide +kernel
theorem dX2_isFull_13 : decode cX2_isFull 13 = .ok (.iconst 0, 1) := by decide +kernel
theorem dX2_isFull_14 : decode cX2_isFull 14 = .ok (.ireturn, 1) := by decide +kernel
theorem dX2_isThere_0 : decode cX2_isThere 0 = .ok (.iload_n 1, 1) := by decide +kernel
theorem dX2_isThere_1 : decode cX2_isThere 1 = .ok (.ifCond .lt 24, 3) := by decide +kernel
theorem dX2_isThere_4 : decode cX2_isThere 4 = .ok (.iload_n 1, 1) := by decide +kernel
theorem dX2_isThere_5 : decode cX2_isThere 5 = .ok (.aload_n 0, 1) := by decide +kernel
theorem dX2_isThere_6 : decode cX2_isThere 6 = .ok (.getfield 25, 3) := by decide +kernel
theorem dX2_isThere_9 : decode cX2_isThere 9 = .ok (.if_icmp .ge 16, 3) := by decide +kernel
theorem dX2_isThere_12 : decode cX2_isThere 12 = .ok (.aload_n 0, 1) := by decide +kernel
theorem dX2_isThere_13 : decode cX2_isThere 13 = .ok (.getfield 18, 3) := by decide +kernel
theorem dX2_isThere_16 : decode cX2_isThere 16 = .ok (.iload_n 1, 1) := by decide +kernel
theorem dX2_isThere_17 : decode cX2_isThere 17 = .ok (.baload, 1) := by decide +kernel
theorem dX2_isThere_18 : decode cX2_isThere 18 = .ok (.ifCond .eq 7, 3) := by decide +kernel
theorem dX2_isThere_21 : decode cX2_isThere 21 = .ok (.iconst 1, 1) := by decide +kernel
theorem dX2_isThere_22 : decode cX2_isThere 22 = .ok (.goto 4, 3) := by decide +kernel
theorem dX2_isThere_25 : decode cX2_isThere 25 = .ok (.iconst 0, 1) := by decide +kernel
theorem dX2_isThere_26 : decode cX2_isThere 26 = .ok (.ireturn, 1) := by decide +kernel
theorem dX2_numberAt_0 : decode cX2_numberAt 0 = .ok (.iconst 0, 1) := by decide +kernel
theorem dX2_numberAt_1 : decode cX2_numberAt 1 = .ok (.istore_n 3, 1) := by decide +kernel
theorem dX2_numberAt_2 : decode cX2_numberAt 2 = .ok (.iload_n 3, 1) := by decide +kernel
theorem dX2_numberAt_3 : decode cX2_numberAt 3 = .ok (.aload_n 0, 1) := by decide +kernel
theorem dX2_numberAt_4 : decode cX2_numberAt 4 = .ok (.getfield 25, 3) := by decide +kernel
theorem dX2_numberAt_7 : decode cX2_numberAt 7 = .ok (.if_icmp .ge 40, 3) := by decide +kernel
theorem dX2_numberAt_10 : decode cX2_numberAt 10 = .ok (.aload_n 0, 1) := by decide +kernel
theorem dX2_numberAt_11 : decode cX2_numberAt 11 = .ok (.getfield 18, 3) := by decide +kernel
theorem dX2_numberAt_14 : decode cX2_numberAt 14 = .ok (.iload_n 3, 1) := by decide +kernel
theorem dX2_numberAt_15 : decode cX2_numberAt 15 = .ok (.baload, 1) := by decide +kernel
theorem dX2_numberAt_16 : decode cX2_numberAt 16 = .ok (.ifCond .eq 25, 3) := by decide +kernel
theorem dX2_numberAt_19 : decode cX2_numberAt 19 = .ok (.aload_n 0, 1) := by decide +kernel
theorem dX2_numberAt_20 : decode cX2_numberAt 20 = .ok (.getfield 9, 3) := by decide +kernel
theorem dX2_numberAt_23 : decode cX2_numberAt 23 = .ok (.iload_n 3, 1) := by decide +kernel
theorem dX2_numberAt_24 : decode cX2_numberAt 24 = .ok (.iaload, 1) := by decide +kernel
theorem dX2_numberAt_25 : decode cX2_numberAt 25 = .ok (.iload_n 1, 1) := by decide +kernel
theorem dX2_numberAt_26 : decode cX2_numberAt 26 = .ok (.if_icmp .ne 15, 3) := by decide +kernel
theorem dX2_numberAt_29 : decode cX2_numberAt 29 = .ok (.aload_n 0, 1) := by decide +kernel
theorem dX2_numberAt_30 : decode cX2_numberAt 30 = .ok (.getfield 15, 3) := by decide +kernel
theorem dX2_numberAt_33 : decode cX2_numberAt 33 = .ok (.iload_n 3, 1) := by decide +kernel
theorem dX2_numberAt_34 : decode cX2_numberAt 34 = .ok (.iaload, 1) := by decide +kernel
theorem dX2_numberAt_35 : decode cX2_numberAt 35 = .ok (.iload_n 2, 1) := by decide +kernel
theorem dX2_numberAt_36 : decode cX2_numberAt 36 = .ok (.if_icmp .ne 5, 3) := by decide +kernel
theorem dX2_numberAt_39 : decode cX2_numberAt 39 = .ok (.iload_n 3, 1) := by decide +kernel
theorem dX2_numberAt_40 : decode cX2_numberAt 40 = .ok (.ireturn, 1) := by decide +kernel
theorem dX2_numberAt_41 : decode cX2_numberAt 41 = .ok (.iinc 3 1, 3) := by decide +kernel
theorem dX2_numberAt_44 : decode cX2_numberAt 44 = .ok (.goto (-42), 3) := by decide +kernel
theorem dX2_numberAt_47 : decode cX2_numberAt 47 = .ok (.iconst (-1), 1) := by decide +kernel
theorem dX2_numberAt_48 : decode cX2_numberAt 48 = .ok (.ireturn, 1) := by decide +kernel
theorem dX2_tellNew_0 : decode cX2_tellNew 0 = .ok (.aload_n 0, 1) := by decide +kernel
theorem dX2_tellNew_1 : decode cX2_tellNew 1 = .ok (.getfield 25, 3) := by decide +kernel
theorem dX2_tellNew_4 : decode cX2_tellNew 4 = .ok (.istore_n 3, 1) := by decide +kernel
theorem dX2_tellNew_5 : decode cX2_tellNew 5 = .ok (.aload_n 0, 1) := by decide +kernel
theorem dX2_tellNew_6 : decode cX2_tellNew 6 = .ok (.dup, 1) := by decide +kernel
theorem dX2_tellNew_7 : decode cX2_tellNew 7 = .ok (.getfield 25, 3) := by decide +kernel
theorem dX2_tellNew_10 : decode cX2_tellNew 10 = .ok (.iconst 1, 1) := by decide +kernel
theorem dX2_tellNew_11 : decode cX2_tellNew 11 = .ok (.iadd, 1) := by decide +kernel
theorem dX2_tellNew_12 : decode cX2_tellNew 12 = .ok (.putfield 25, 3) := by decide +kernel
theorem dX2_tellNew_15 : decode cX2_tellNew 15 = .ok (.aload_n 0, 1) := by decide +kernel
theorem dX2_tellNew_16 : decode cX2_tellNew 16 = .ok (.iload_n 3, 1) := by decide +kernel
theorem dX2_tellNew_17 : decode cX2_tellNew 17 = .ok (.iload_n 1, 1) := by decide +kernel
theorem dX2_tellNew_18 : decode cX2_tellNew 18 = .ok (.iload_n 2, 1) := by decide +kernel
theorem dX2_tellNew_19 : decode cX2_tellNew 19 = .ok (.invokevirtual 29, 3) := by decide +kernel
theorem dX2_tellNew_22 : decode cX2_tellNew 22 = .ok (.iload_n 3, 1) := by decide +kernel
theorem dX2_tellNew_23 : decode cX2_tellNew 23 = .ok (.ireturn, 1) := by decide +kernel
theorem dX2_putDown_0 : decode cX2_putDown 0 = .ok (.aload_n 0, 1) := by decide +kernel
theorem dX2_putDown_1 : decode cX2_putDown 1 = .ok (.getfield 9, 3) := by decide +kernel
theorem dX2_putDown_4 : decode cX2_putDown 4 = .ok (.iload_n 1, 1) := by decide +kernel
theorem dX2_putDown_5 : decode cX2_putDown 5 = .ok (.iload_n 2, 1) := by decide +kernel
theorem dX2_putDown_6 : decode cX2_putDown 6 = .ok (.iastore, 1) := by decide +kernel
theorem dX2_putDown_7 : decode cX2_putDown 7 = .ok (.aload_n 0, 1) := by decide +kernel
theorem dX2_putDown_8 : decode cX2_putDown 8 = .ok (.getfield 15, 3) := by decide +kernel
theorem dX2_putDown_11 : decode cX2_putDown 11 = .ok (.iload_n 1, 1) := by decide +kernel
theorem dX2_putDown_12 : decode cX2_putDown 12 = .ok (.iload_n 3, 1) := by decide +kernel
theorem dX2_putDown_13 : decode cX2_putDown 13 = .ok (.iastore, 1) := by decide +kernel
theorem dX2_putDown_14 : decode cX2_putDown 14 = .ok (.aload_n 0, 1) := by decide +kernel
theorem dX2_putDown_15 : decode cX2_putDown 15 = .ok (.getfield 18, 3) := by decide +kernel
theorem dX2_putDown_18 : decode cX2_putDown 18 = .ok (.iload_n 1, 1) := by decide +kernel
theorem dX2_putDown_19 : decode cX2_putDown 19 = .ok (.iconst 1, 1) := by decide +kernel
theorem dX2_putDown_20 : decode cX2_putDown 20 = .ok (.bastore, 1) := by decide +kernel
theorem dX2_putDown_21 : decode cX2_putDown 21 = .ok (.aload_n 0, 1) := by decide +kernel
theorem dX2_putDown_22 : decode cX2_putDown 22 = .ok (.getfield 33, 3) := by decide +kernel
theorem dX2_putDown_25 : decode cX2_putDown 25 = .ok (.istore 4, 2) := by decide +kernel
theorem dX2_putDown_27 : decode cX2_putDown 27 = .ok (.iload 4, 2) := by decide +kernel
theorem dX2_putDown_29 : decode cX2_putDown 29 = .ok (.ifCond .le 42, 3) := by decide +kernel
theorem dX2_putDown_32 : decode cX2_putDown 32 = .ok (.aload_n 0, 1) := by decide +kernel
theorem dX2_putDown_33 : decode cX2_putDown 33 = .ok (.iload_n 1, 1) := by decide +kernel
theorem dX2_putDown_34 : decode cX2_putDown 34 = .ok (.aload_n 0, 1) := by decide +kernel
theorem dX2_putDown_35 : decode cX2_putDown 35 = .ok (.getfield 22, 3) := by decide +kernel
theorem dX2_putDown_38 : decode cX2_putDown 38 = .ok (.iload 4, 2) := by decide +kernel
theorem dX2_putDown_40 : decode cX2_putDown 40 = .ok (.iconst 1, 1) := by decide +kernel
theorem dX2_putDown_41 : decode cX2_putDown 41 = .ok (.isub, 1) := by decide +kernel
theorem dX2_putDown_42 : decode cX2_putDown 42 = .ok (.iaload, 1) := by decide +kernel
theorem dX2_putDown_43 : decode cX2_putDown 43 = .ok (.invokevirtual 36, 3) := by decide +kernel
theorem dX2_putDown_46 : decode cX2_putDown 46 = .ok (.ifCond .eq 25, 3) := by decide +kernel
theorem dX2_putDown_49 : decode cX2_putDown 49 = .ok (.aload_n 0, 1) := by decide +kernel
theorem dX2_putDown_50 : decode cX2_putDown 50 = .ok (.getfield 22, 3) := by decide +kernel
theorem dX2_putDown_53 : decode cX2_putDown 53 = .ok (.iload 4, 2) := by decide +kernel
theorem dX2_putDown_55 : decode cX2_putDown 55 = .ok (.aload_n 0, 1) := by decide +kernel
theorem dX2_putDown_56 : decode cX2_putDown 56 = .ok (.getfield 22, 3) := by decide +kernel
theorem dX2_putDown_59 : decode cX2_putDown 59 = .ok (.iload 4, 2) := by decide +kernel
theorem dX2_putDown_61 : decode cX2_putDown 61 = .ok (.iconst 1, 1) := by decide +kernel
theorem dX2_putDown_62 : decode cX2_putDown 62 = .ok (.isub, 1) := by decide +kernel
theorem dX2_putDown_63 : decode cX2_putDown 63 = .ok (.iaload, 1) := by decide +kernel
theorem dX2_putDown_64 : decode cX2_putDown 64 = .ok (.iastore, 1) := by decide +kernel
theorem dX2_putDown_65 : decode cX2_putDown 65 = .ok (.iinc 4 (-1), 3) := by decide +kernel
theorem dX2_putDown_68 : decode cX2_putDown 68 = .ok (.goto (-41), 3) := by decide +kernel
theorem dX2_putDown_71 : decode cX2_putDown 71 = .ok (.aload_n 0, 1) := by decide +kernel
theorem dX2_putDown_72 : decode cX2_putDown 72 = .ok (.getfield 22, 3) := by decide +kernel
theorem dX2_putDown_75 : decode cX2_putDown 75 = .ok (.iload 4, 2) := by decide +kernel
theorem dX2_putDown_77 : decode cX2_putDown 77 = .ok (.iload_n 1, 1) := by decide +kernel
theorem dX2_putDown_78 : decode cX2_putDown 78 = .ok (.iastore, 1) := by decide +kernel
theorem dX2_putDown_79 : decode cX2_putDown 79 = .ok (.aload_n 0, 1) := by decide +kernel
theorem dX2_putDown_80 : decode cX2_putDown 80 = .ok (.dup, 1) := by decide +kernel
theorem dX2_putDown_81 : decode cX2_putDown 81 = .ok (.getfield 33, 3) := by decide +kernel
theorem dX2_putDown_84 : decode cX2_putDown 84 = .ok (.iconst 1, 1) := by decide +kernel
theorem dX2_putDown_85 : decode cX2_putDown 85 = .ok (.iadd, 1) := by decide +kernel
theorem dX2_putDown_86 : decode cX2_putDown 86 = .ok (.putfield 33, 3) := by decide +kernel
theorem dX2_putDown_89 : decode cX2_putDown 89 = .ok (.return_, 1) := by decide +kernel
theorem dX2_takeAway_0 : decode cX2_takeAway 0 = .ok (.aload_n 0, 1) := by decide +kernel
theorem dX2_takeAway_1 : decode cX2_takeAway 1 = .ok (.getfield 18, 3) := by decide +kernel
theorem dX2_takeAway_4 : decode cX2_takeAway 4 = .ok (.iload_n 1, 1) := by decide +kernel
theorem dX2_takeAway_5 : decode cX2_takeAway 5 = .ok (.iconst 0, 1) := by decide +kernel
theorem dX2_takeAway_6 : decode cX2_takeAway 6 = .ok (.bastore, 1) := by decide +kernel
theorem dX2_takeAway_7 : decode cX2_takeAway 7 = .ok (.iconst 0, 1) := by decide +kernel
theorem dX2_takeAway_8 : decode cX2_takeAway 8 = .ok (.istore_n 2, 1) := by decide +kernel
theorem dX2_takeAway_9 : decode cX2_takeAway 9 = .ok (.iconst 0, 1) := by decide +kernel
theorem dX2_takeAway_10 : decode cX2_takeAway 10 = .ok (.istore_n 3, 1) := by decide +kernel
theorem dX2_takeAway_11 : decode cX2_takeAway 11 = .ok (.iload_n 3, 1) := by decide +kernel
theorem dX2_takeAway_12 : decode cX2_takeAway 12 = .ok (.aload_n 0, 1) := by decide +kernel
theorem dX2_takeAway_13 : decode cX2_takeAway 13 = .ok (.getfield 33, 3) := by decide +kernel
theorem dX2_takeAway_16 : decode cX2_takeAway 16 = .ok (.if_icmp .ge 34, 3) := by decide +kernel
theorem dX2_takeAway_19 : decode cX2_takeAway 19 = .ok (.aload_n 0, 1) := by decide +kernel
theorem dX2_takeAway_20 : decode cX2_takeAway 20 = .ok (.getfield 22, 3) := by decide +kernel
theorem dX2_takeAway_23 : decode cX2_takeAway 23 = .ok (.iload_n 3, 1) := by decide +kernel
theorem dX2_takeAway_24 : decode cX2_takeAway 24 = .ok (.iaload, 1) := by decide +kernel
theorem dX2_takeAway_25 : decode cX2_takeAway 25 = .ok (.iload_n 1, 1) := by decide +kernel
theorem dX2_takeAway_26 : decode cX2_takeAway 26 = .ok (.if_icmp .eq 18, 3) := by decide +kernel
theorem dX2_takeAway_29 : decode cX2_takeAway 29 = .ok (.aload_n 0, 1) := by decide +kernel
theorem dX2_takeAway_30 : decode cX2_takeAway 30 = .ok (.getfield 22, 3) := by decide +kernel
theorem dX2_takeAway_33 : decode cX2_takeAway 33 = .ok (.iload_n 2, 1) := by decide +kernel
theorem dX2_takeAway_34 : decode cX2_takeAway 34 = .ok (.aload_n 0, 1) := by decide +kernel
theorem dX2_takeAway_35 : decode cX2_takeAway 35 = .ok (.getfield 22, 3) := by decide +kernel
theorem dX2_takeAway_38 : decode cX2_takeAway 38 = .ok (.iload_n 3, 1) := by decide +kernel
theorem dX2_takeAway_39 : decode cX2_takeAway 39 = .ok (.iaload, 1) := by decide +kernel
theorem dX2_takeAway_40 : decode cX2_takeAway 40 = .ok (.iastore, 1) := by decide +kernel
theorem dX2_takeAway_41 : decode cX2_takeAway 41 = .ok (.iinc 2 1, 3) := by decide +kernel
theorem dX2_takeAway_44 : decode cX2_takeAway 44 = .ok (.iinc 3 1, 3) := by decide +kernel
theorem dX2_takeAway_47 : decode cX2_takeAway 47 = .ok (.goto (-36), 3) := by decide +kernel
theorem dX2_takeAway_50 : decode cX2_takeAway 50 = .ok (.aload_n 0, 1) := by decide +kernel
theorem dX2_takeAway_51 : decode cX2_takeAway 51 = .ok (.iload_n 2, 1) := by decide +kernel
theorem dX2_takeAway_52 : decode cX2_takeAway 52 = .ok (.putfield 33, 3) := by decide +kernel
theorem dX2_takeAway_55 : decode cX2_takeAway 55 = .ok (.return_, 1) := by decide +kernel
theorem dX2_comesEarlier_0 : decode cX2_comesEarlier 0 = .ok (.aload_n 0, 1) := by decide +kernel
theorem dX2_comesEarlier_1 : decode cX2_comesEarlier 1 = .ok (.getfield 9, 3) := by decide +kernel
theorem dX2_comesEarlier_4 : decode cX2_comesEarlier 4 = .ok (.iload_n 1, 1) := by decide +kernel
theorem dX2_comesEarlier_5 : decode cX2_comesEarlier 5 = .ok (.iaload, 1) := by decide +kernel
theorem dX2_comesEarlier_6 : decode cX2_comesEarlier 6 = .ok (.aload_n 0, 1) := by decide +kernel
theorem dX2_comesEarlier_7 : decode cX2_comesEarlier 7 = .ok (.getfield 9, 3) := by decide +kernel
theorem dX2_comesEarlier_10 : decode cX2_comesEarlier 10 = .ok (.iload_n 2, 1) := by decide +kernel
theorem dX2_comesEarlier_11 : decode cX2_comesEarlier 11 = .ok (.iaload, 1) := by decide +kernel
theorem dX2_comesEarlier_12 : decode cX2_comesEarlier 12 = .ok (.if_icmp .lt 33, 3) := by decide +kernel
theorem dX2_comesEarlier_15 : decode cX2_comesEarlier 15 = .ok (.aload_n 0, 1) := by decide +kernel
theorem dX2_comesEarlier_16 : decode cX2_comesEarlier 16 = .ok (.getfield 9, 3) := by decide +kernel
theorem dX2_comesEarlier_19 : decode cX2_comesEarlier 19 = .ok (.iload_n 1, 1) := by decide +kernel
theorem dX2_comesEarlier_20 : decode cX2_comesEarlier 20 = .ok (.iaload, 1) := by decide +kernel
theorem dX2_comesEarlier_21 : decode cX2_comesEarlier 21 = .ok (.aload_n 0, 1) := by decide +kernel
theorem dX2_comesEarlier_22 : decode cX2_comesEarlier 22 = .ok (.getfield 9, 3) := by decide +kernel
theorem dX2_comesEarlier_25 : decode cX2_comesEarlier 25 = .ok (.iload_n 2, 1) := by decide +kernel
theorem dX2_comesEarlier_26 : decode cX2_comesEarlier 26 = .ok (.iaload, 1) := by decide +kernel
theorem dX2_comesEarlier_27 : decode cX2_comesEarlier 27 = .ok (.if_icmp .ne 22, 3) := by decide +kernel
theorem dX2_comesEarlier_30 : decode cX2_comesEarlier 30 = .ok (.aload_n 0, 1) := by decide +kernel
theorem dX2_comesEarlier_31 : decode cX2_comesEarlier 31 = .ok (.getfield 15, 3) := by decide +kernel
theorem dX2_comesEarlier_34 : decode cX2_comesEarlier 34 = .ok (.iload_n 1, 1) := by decide +kernel
theorem dX2_comesEarlier_35 : decode cX2_comesEarlier 35 = .ok (.iaload, 1) := by decide +kernel
theorem dX2_comesEarlier_36 : decode cX2_comesEarlier 36 = .ok (.aload_n 0, 1) := by decide +kernel
theorem dX2_comesEarlier_37 : decode cX2_comesEarlier 37 = .ok (.getfield 15, 3) := by decide +kernel
theorem dX2_comesEarlier_40 : decode cX2_comesEarlier 40 = .ok (.iload_n 2, 1) := by decide +kernel
theorem dX2_comesEarlier_41 : decode cX2_comesEarlier 41 = .ok (.iaload, 1) := by decide +kernel
theorem dX2_comesEarlier_42 : decode cX2_comesEarlier 42 = .ok (.if_icmp .ge 7, 3) := by decide +kernel
theorem dX2_comesEarlier_45 : decode cX2_comesEarlier 45 = .ok (.iconst 1, 1) := by decide +kernel
theorem dX2_comesEarlier_46 : decode cX2_comesEarlier 46 = .ok (.goto 4, 3) := by decide +kernel
theorem dX2_comesEarlier_49 : decode cX2_comesEarlier 49 = .ok (.iconst 0, 1) := by decide +kernel
theorem dX2_comesEarlier_50 : decode cX2_comesEarlier 50 = .ok (.ireturn, 1) := by decide +kernel
theorem dX2_firstOffLine_0 : decode cX2_firstOffLine 0 = .ok (.iconst 2, 1) := by decide +kernel
theorem dX2_firstOffLine_1 : decode cX2_firstOffLine 1 = .ok (.istore_n 1, 1) := by decide +kernel
theorem dX2_firstOffLine_2 : decode cX2_firstOffLine 2 = .ok (.iload_n 1, 1) := by decide +kernel
theorem dX2_firstOffLine_3 : decode cX2_firstOffLine 3 = .ok (.aload_n 0, 1) := by decide +kernel
theorem dX2_firstOffLine_4 : decode cX2_firstOffLine 4 = .ok (.getfield 33, 3) := by decide +kernel
theorem dX2_firstOffLine_7 : decode cX2_firstOffLine 7 = .ok (.if_icmp .ge 38, 3) := by decide +kernel
theorem dX2_firstOffLine_10 : decode cX2_firstOffLine 10 = .ok (.aload_n 0, 1) := by decide +kernel
theorem dX2_firstOffLine_11 : decode cX2_firstOffLine 11 = .ok (.aload_n 0, 1) := by decide +kernel
theorem dX2_firstOffLine_12 : decode cX2_firstOffLine 12 = .ok (.getfield 22, 3) := by decide +kernel
theorem dX2_firstOffLine_15 : decode cX2_firstOffLine 15 = .ok (.iconst 0, 1) := by decide +kernel
theorem dX2_firstOffLine_16 : decode cX2_firstOffLine 16 = .ok (.iaload, 1) := by decide +kernel
theorem dX2_firstOffLine_17 : decode cX2_firstOffLine 17 = .ok (.aload_n 0, 1) := by decide +kernel
theorem dX2_firstOffLine_18 : decode cX2_firstOffLine 18 = .ok (.getfield 22, 3) := by decide +kernel
theorem dX2_firstOffLine_21 : decode cX2_firstOffLine 21 = .ok (.iconst 1, 1) := by decide +kernel
theorem dX2_firstOffLine_22 : decode cX2_firstOffLine 22 = .ok (.iaload, 1) := by decide +kernel
theorem dX2_firstOffLine_23 : decode cX2_firstOffLine 23 = .ok (.aload_n 0, 1) := by decide +kernel
theorem dX2_firstOffLine_24 : decode cX2_firstOffLine 24 = .ok (.getfield 22, 3) := by decide +kernel
theorem dX2_firstOffLine_27 : decode cX2_firstOffLine 27 = .ok (.iload_n 1, 1) := by decide +kernel
theorem dX2_firstOffLine_28 : decode cX2_firstOffLine 28 = .ok (.iaload, 1) := by decide +kernel
theorem dX2_firstOffLine_29 : decode cX2_firstOffLine 29 = .ok (.invokevirtual 40, 3) := by decide +kernel
theorem dX2_firstOffLine_32 : decode cX2_firstOffLine 32 = .ok (.lconst 0, 1) := by decide +kernel
theorem dX2_firstOffLine_33 : decode cX2_firstOffLine 33 = .ok (.lcmp, 1) := by decide +kernel
theorem dX2_firstOffLine_34 : decode cX2_firstOffLine 34 = .ok (.ifCond .eq 5, 3) := by decide +kernel
theorem dX2_firstOffLine_37 : decode cX2_firstOffLine 37 = .ok (.iload_n 1, 1) := by decide +kernel
theorem dX2_firstOffLine_38 : decode cX2_firstOffLine 38 = .ok (.ireturn, 1) := by decide +kernel
theorem dX2_firstOffLine_39 : decode cX2_firstOffLine 39 = .ok (.iinc 1 1, 3) := by decide +kernel
theorem dX2_firstOffLine_42 : decode cX2_firstOffLine 42 = .ok (.goto (-40), 3) := by decide +kernel
theorem dX2_firstOffLine_45 : decode cX2_firstOffLine 45 = .ok (.aload_n 0, 1) := by decide +kernel
theorem dX2_firstOffLine_46 : decode cX2_firstOffLine 46 = .ok (.getfield 33, 3) := by decide +kernel
theorem dX2_firstOffLine_49 : decode cX2_firstOffLine 49 = .ok (.ireturn, 1) := by decide +kernel
theorem dX2_areFlat_0 : decode cX2_areFlat 0 = .ok (.aload_n 0, 1) := by decide +kernel
theorem dX2_areFlat_1 : decode cX2_areFlat 1 = .ok (.invokevirtual 44, 3) := by decide +kernel
theorem dX2_areFlat_4 : decode cX2_areFlat 4 = .ok (.aload_n 0, 1) := by decide +kernel
theorem dX2_areFlat_5 : decode cX2_areFlat 5 = .ok (.getfield 33, 3) := by decide +kernel
theorem dX2_areFlat_8 : decode cX2_areFlat 8 = .ok (.if_icmp .lt 7, 3) := by decide +kernel
theorem dX2_areFlat_11 : decode cX2_areFlat 11 = .ok (.iconst 1, 1) := by decide +kernel
theorem dX2_areFlat_12 : decode cX2_areFlat 12 = .ok (.goto 4, 3) := by decide +kernel
theorem dX2_areFlat_15 : decode cX2_areFlat 15 = .ok (.iconst 0, 1) := by decide +kernel
theorem dX2_areFlat_16 : decode cX2_areFlat 16 = .ok (.ireturn, 1) := by decide +kernel
theorem dX2_leftness_0 : decode cX2_leftness 0 = .ok (.aload_n 0, 1) := by decide +kernel
theorem dX2_leftness_1 : decode cX2_leftness 1 = .ok (.iload_n 1, 1) := by decide +kernel
theorem dX2_leftness_2 : decode cX2_leftness 2 = .ok (.iload_n 2, 1) := by decide +kernel
theorem dX2_leftness_3 : decode cX2_leftness 3 = .ok (.aload_n 0, 1) := by decide +kernel
theorem dX2_leftness_4 : decode cX2_leftness 4 = .ok (.getfield 9, 3) := by decide +kernel
theorem dX2_leftness_7 : decode cX2_leftness 7 = .ok (.iload_n 3, 1) := by decide +kernel
theorem dX2_leftness_8 : decode cX2_leftness 8 = .ok (.iaload, 1) := by decide +kernel
theorem dX2_leftness_9 : decode cX2_leftness 9 = .ok (.aload_n 0, 1) := by decide +kernel
theorem dX2_leftness_10 : decode cX2_leftness 10 = .ok (.getfield 15, 3) := by decide +kernel
theorem dX2_leftness_13 : decode cX2_leftness 13 = .ok (.iload_n 3, 1) := by decide +kernel
theorem dX2_leftness_14 : decode cX2_leftness 14 = .ok (.iaload, 1) := by decide +kernel
theorem dX2_leftness_15 : decode cX2_leftness 15 = .ok (.invokevirtual 48, 3) := by decide +kernel
theorem dX2_leftness_18 : decode cX2_leftness 18 = .ok (.lreturn, 1) := by decide +kernel
theorem dX2_leftnessOf_0 : decode cX2_leftnessOf 0 = .ok (.aload_n 0, 1) := by decide +kernel
theorem dX2_leftnessOf_1 : decode cX2_leftnessOf 1 = .ok (.getfield 9, 3) := by decide +kernel
theorem dX2_leftnessOf_4 : decode cX2_leftnessOf 4 = .ok (.iload_n 2, 1) := by decide +kernel
theorem dX2_leftnessOf_5 : decode cX2_leftnessOf 5 = .ok (.iaload, 1) := by decide +kernel
theorem dX2_leftnessOf_6 : decode cX2_leftnessOf 6 = .ok (.aload_n 0, 1) := by decide +kernel
theorem dX2_leftnessOf_7 : decode cX2_leftnessOf 7 = .ok (.getfield 9, 3) := by decide +kernel
theorem dX2_leftnessOf_10 : decode cX2_leftnessOf 10 = .ok (.iload_n 1, 1) := by decide +kernel
theorem dX2_leftnessOf_11 : decode cX2_leftnessOf 11 = .ok (.iaload, 1) := by decide +kernel
theorem dX2_leftnessOf_12 : decode cX2_leftnessOf 12 = .ok (.isub, 1) := by decide +kernel
theorem dX2_leftnessOf_13 : decode cX2_leftnessOf 13 = .ok (.i2l, 1) := by decide +kernel
theorem dX2_leftnessOf_14 : decode cX2_leftnessOf 14 = .ok (.iload 4, 2) := by decide +kernel
theorem dX2_leftnessOf_16 : decode cX2_leftnessOf 16 = .ok (.aload_n 0, 1) := by decide +kernel
theorem dX2_leftnessOf_17 : decode cX2_leftnessOf 17 = .ok (.getfield 15, 3) := by decide +kernel
theorem dX2_leftnessOf_20 : decode cX2_leftnessOf 20 = .ok (.iload_n 1, 1) := by decide +kernel
theorem dX2_leftnessOf_21 : decode cX2_leftnessOf 21 = .ok (.iaload, 1) := by decide +kernel
theorem dX2_leftnessOf_22 : decode cX2_leftnessOf 22 = .ok (.isub, 1) := by decide +kernel
theorem dX2_leftnessOf_23 : decode cX2_leftnessOf 23 = .ok (.i2l, 1) := by decide +kernel
theorem dX2_leftnessOf_24 : decode cX2_leftnessOf 24 = .ok (.lmul, 1) := by decide +kernel
theorem dX2_leftnessOf_25 : decode cX2_leftnessOf 25 = .ok (.aload_n 0, 1) := by decide +kernel
theorem dX2_leftnessOf_26 : decode cX2_leftnessOf 26 = .ok (.getfield 15, 3) := by decide +kernel
theorem dX2_leftnessOf_29 : decode cX2_leftnessOf 29 = .ok (.iload_n 2, 1) := by decide +kernel
theorem dX2_leftnessOf_30 : decode cX2_leftnessOf 30 = .ok (.iaload, 1) := by decide +kernel
theorem dX2_leftnessOf_31 : decode cX2_leftnessOf 31 = .ok (.aload_n 0, 1) := by decide +kernel
theorem dX2_leftnessOf_32 : decode cX2_leftnessOf 32 = .ok (.getfield 15, 3) := by decide +kernel
theorem dX2_leftnessOf_35 : decode cX2_leftnessOf 35 = .ok (.iload_n 1, 1) := by decide +kernel
theorem dX2_leftnessOf_36 : decode cX2_leftnessOf 36 = .ok (.iaload, 1) := by decide +kernel
theorem dX2_leftnessOf_37 : decode cX2_leftnessOf 37 = .ok (.isub, 1) := by decide +kernel
theorem dX2_leftnessOf_38 : decode cX2_leftnessOf 38 = .ok (.i2l, 1) := by decide +kernel
theorem dX2_leftnessOf_39 : decode cX2_leftnessOf 39 = .ok (.iload_n 3, 1) := by decide +kernel
theorem dX2_leftnessOf_40 : decode cX2_leftnessOf 40 = .ok (.aload_n 0, 1) := by decide +kernel
theorem dX2_leftnessOf_41 : decode cX2_leftnessOf 41 = .ok (.getfield 9, 3) := by decide +kernel
theorem dX2_leftnessOf_44 : decode cX2_leftnessOf 44 = .ok (.iload_n 1, 1) := by decide +kernel
theorem dX2_leftnessOf_45 : decode cX2_leftnessOf 45 = .ok (.iaload, 1) := by decide +kernel
theorem dX2_leftnessOf_46 : decode cX2_leftnessOf 46 = .ok (.isub, 1) := by decide +kernel
theorem dX2_leftnessOf_47 : decode cX2_leftnessOf 47 = .ok (.i2l, 1) := by decide +kernel
theorem dX2_leftnessOf_48 : decode cX2_leftnessOf 48 = .ok (.lmul, 1) := by decide +kernel
theorem dX2_leftnessOf_49 : decode cX2_leftnessOf 49 = .ok (.lsub, 1) := by decide +kernel
theorem dX2_leftnessOf_50 : decode cX2_leftnessOf 50 = .ok (.lreturn, 1) := by decide +kernel
theorem dX2_withinness_0 : decode cX2_withinness 0 = .ok (.aload_n 0, 1) := by decide +kernel
theorem dX2_withinness_1 : decode cX2_withinness 1 = .ok (.getfield 9, 3) := by decide +kernel
theorem dX2_withinness_4 : decode cX2_withinness 4 = .ok (.iload 4, 2) := by decide +kernel
theorem dX2_withinness_6 : decode cX2_withinness 6 = .ok (.iaload, 1) := by decide +kernel
theorem dX2_withinness_7 : decode cX2_withinness 7 = .ok (.istore 5, 2) := by decide +kernel
theorem dX2_withinness_9 : decode cX2_withinness 9 = .ok (.aload_n 0, 1) := by decide +kernel
theorem dX2_withinness_10 : decode cX2_withinness 10 = .ok (.getfield 15, 3) := by decide +kernel
theorem dX2_withinness_13 : decode cX2_withinness 13 = .ok (.iload 4, 2) := by decide +kernel
theorem dX2_withinness_15 : decode cX2_withinness 15 = .ok (.iaload, 1) := by decide +kernel
theorem dX2_withinness_16 : decode cX2_withinness 16 = .ok (.istore 6, 2) := by decide +kernel
theorem dX2_withinness_18 : decode cX2_withinness 18 = .ok (.aload_n 0, 1) := by decide +kernel
theorem dX2_withinness_19 : decode cX2_withinness 19 = .ok (.iload_n 1, 1) := by decide +kernel
theorem dX2_withinness_20 : decode cX2_withinness 20 = .ok (.iload 5, 2) := by decide +kernel
theorem dX2_withinness_22 : decode cX2_withinness 22 = .ok (.iload 6, 2) := by decide +kernel
theorem dX2_withinness_24 : decode cX2_withinness 24 = .ok (.invokevirtual 52, 3) := by decide +kernel
theorem dX2_withinness_27 : decode cX2_withinness 27 = .ok (.aload_n 0, 1) := by decide +kernel
theorem dX2_withinness_28 : decode cX2_withinness 28 = .ok (.iload_n 2, 1) := by decide +kernel
theorem dX2_withinness_29 : decode cX2_withinness 29 = .ok (.iload_n 3, 1) := by decide +kernel
theorem dX2_withinness_30 : decode cX2_withinness 30 = .ok (.iload 5, 2) := by decide +kernel
theorem dX2_withinness_32 : decode cX2_withinness 32 = .ok (.iload 6, 2) := by decide +kernel
theorem dX2_withinness_34 : decode cX2_withinness 34 = .ok (.invokevirtual 48, 3) := by decide +kernel
theorem dX2_withinness_37 : decode cX2_withinness 37 = .ok (.lmul, 1) := by decide +kernel
theorem dX2_withinness_38 : decode cX2_withinness 38 = .ok (.aload_n 0, 1) := by decide +kernel
theorem dX2_withinness_39 : decode cX2_withinness 39 = .ok (.iload_n 2, 1) := by decide +kernel
theorem dX2_withinness_40 : decode cX2_withinness 40 = .ok (.iload 5, 2) := by decide +kernel
theorem dX2_withinness_42 : decode cX2_withinness 42 = .ok (.iload 6, 2) := by decide +kernel
theorem dX2_withinness_44 : decode cX2_withinness 44 = .ok (.invokevirtual 52, 3) := by decide +kernel
theorem dX2_withinness_47 : decode cX2_withinness 47 = .ok (.aload_n 0, 1) := by decide +kernel
theorem dX2_withinness_48 : decode cX2_withinness 48 = .ok (.iload_n 3, 1) := by decide +kernel
theorem dX2_withinness_49 : decode cX2_withinness 49 = .ok (.iload_n 1, 1) := by decide +kernel
theorem dX2_withinness_50 : decode cX2_withinness 50 = .ok (.iload 5, 2) := by decide +kernel
theorem dX2_withinness_52 : decode cX2_withinness 52 = .ok (.iload 6, 2) := by decide +kernel
theorem dX2_withinness_54 : decode cX2_withinness 54 = .ok (.invokevirtual 48, 3) := by decide +kernel
theorem dX2_withinness_57 : decode cX2_withinness 57 = .ok (.lmul, 1) := by decide +kernel
theorem dX2_withinness_58 : decode cX2_withinness 58 = .ok (.ladd, 1) := by decide +kernel
theorem dX2_withinness_59 : decode cX2_withinness 59 = .ok (.aload_n 0, 1) := by decide +kernel
theorem dX2_withinness_60 : decode cX2_withinness 60 = .ok (.iload_n 3, 1) := by decide +kernel
theorem dX2_withinness_61 : decode cX2_withinness 61 = .ok (.iload 5, 2) := by decide +kernel
theorem dX2_withinness_63 : decode cX2_withinness 63 = .ok (.iload 6, 2) := by decide +kernel
theorem dX2_withinness_65 : decode cX2_withinness 65 = .ok (.invokevirtual 52, 3) := by decide +kernel
theorem dX2_withinness_68 : decode cX2_withinness 68 = .ok (.aload_n 0, 1) := by decide +kernel
theorem dX2_withinness_69 : decode cX2_withinness 69 = .ok (.iload_n 1, 1) := by decide +kernel
theorem dX2_withinness_70 : decode cX2_withinness 70 = .ok (.iload_n 2, 1) := by decide +kernel
theorem dX2_withinness_71 : decode cX2_withinness 71 = .ok (.iload 5, 2) := by decide +kernel
theorem dX2_withinness_73 : decode cX2_withinness 73 = .ok (.iload 6, 2) := by decide +kernel
theorem dX2_withinness_75 : decode cX2_withinness 75 = .ok (.invokevirtual 48, 3) := by decide +kernel
theorem dX2_withinness_78 : decode cX2_withinness 78 = .ok (.lmul, 1) := by decide +kernel
theorem dX2_withinness_79 : decode cX2_withinness 79 = .ok (.ladd, 1) := by decide +kernel
theorem dX2_withinness_80 : decode cX2_withinness 80 = .ok (.lstore 7, 2) := by decide +kernel
theorem dX2_withinness_82 : decode cX2_withinness 82 = .ok (.aload_n 0, 1) := by decide +kernel
theorem dX2_withinness_83 : decode cX2_withinness 83 = .ok (.iload_n 1, 1) := by decide +kernel
theorem dX2_withinness_84 : decode cX2_withinness 84 = .ok (.iload_n 2, 1) := by decide +kernel
theorem dX2_withinness_85 : decode cX2_withinness 85 = .ok (.aload_n 0, 1) := by decide +kernel
theorem dX2_withinness_86 : decode cX2_withinness 86 = .ok (.getfield 9, 3) := by decide +kernel
theorem dX2_withinness_89 : decode cX2_withinness 89 = .ok (.iload_n 3, 1) := by decide +kernel
theorem dX2_withinness_90 : decode cX2_withinness 90 = .ok (.iaload, 1) := by decide +kernel
theorem dX2_withinness_91 : decode cX2_withinness 91 = .ok (.aload_n 0, 1) := by decide +kernel
theorem dX2_withinness_92 : decode cX2_withinness 92 = .ok (.getfield 15, 3) := by decide +kernel
theorem dX2_withinness_95 : decode cX2_withinness 95 = .ok (.iload_n 3, 1) := by decide +kernel
theorem dX2_withinness_96 : decode cX2_withinness 96 = .ok (.iaload, 1) := by decide +kernel
theorem dX2_withinness_97 : decode cX2_withinness 97 = .ok (.invokevirtual 48, 3) := by decide +kernel
theorem dX2_withinness_100 : decode cX2_withinness 100 = .ok (.lconst 0, 1) := by decide +kernel
theorem dX2_withinness_101 : decode cX2_withinness 101 = .ok (.lcmp, 1) := by decide +kernel
theorem dX2_withinness_102 : decode cX2_withinness 102 = .ok (.ifCond .ge 9, 3) := by decide +kernel
theorem dX2_withinness_105 : decode cX2_withinness 105 = .ok (.lload 7, 2) := by decide +kernel
theorem dX2_withinness_107 : decode cX2_withinness 107 = .ok (.lneg, 1) := by decide +kernel
theorem dX2_withinness_108 : decode cX2_withinness 108 = .ok (.goto 5, 3) := by decide +kernel
theorem dX2_withinness_111 : decode cX2_withinness 111 = .ok (.lload 7, 2) := by decide +kernel
theorem dX2_withinness_113 : decode cX2_withinness 113 = .ok (.lreturn, 1) := by decide +kernel
theorem dX2_squareTo_0 : decode cX2_squareTo 0 = .ok (.aload_n 0, 1) := by decide +kernel
theorem dX2_squareTo_1 : decode cX2_squareTo 1 = .ok (.getfield 9, 3) := by decide +kernel
theorem dX2_squareTo_4 : decode cX2_squareTo 4 = .ok (.iload_n 1, 1) := by decide +kernel
theorem dX2_squareTo_5 : decode cX2_squareTo 5 = .ok (.iaload, 1) := by decide +kernel
theorem dX2_squareTo_6 : decode cX2_squareTo 6 = .ok (.iload_n 2, 1) := by decide +kernel
theorem dX2_squareTo_7 : decode cX2_squareTo 7 = .ok (.isub, 1) := by decide +kernel
theorem dX2_squareTo_8 : decode cX2_squareTo 8 = .ok (.i2l, 1) := by decide +kernel
theorem dX2_squareTo_9 : decode cX2_squareTo 9 = .ok (.lstore 4, 2) := by decide +kernel
theorem dX2_squareTo_11 : decode cX2_squareTo 11 = .ok (.aload_n 0, 1) := by decide +kernel
theorem dX2_squareTo_12 : decode cX2_squareTo 12 = .ok (.getfield 15, 3) := by decide +kernel
theorem dX2_squareTo_15 : decode cX2_squareTo 15 = .ok (.iload_n 1, 1) := by decide +kernel
theorem dX2_squareTo_16 : decode cX2_squareTo 16 = .ok (.iaload, 1) := by decide +kernel
theorem dX2_squareTo_17 : decode cX2_squareTo 17 = .ok (.iload_n 3, 1) := by decide +kernel
theorem dX2_squareTo_18 : decode cX2_squareTo 18 = .ok (.isub, 1) := by decide +kernel
theorem dX2_squareTo_19 : decode cX2_squareTo 19 = .ok (.i2l, 1) := by decide +kernel
theorem dX2_squareTo_20 : decode cX2_squareTo 20 = .ok (.lstore 6, 2) := by decide +kernel
theorem dX2_squareTo_22 : decode cX2_squareTo 22 = .ok (.lload 4, 2) := by decide +kernel
theorem dX2_squareTo_24 : decode cX2_squareTo 24 = .ok (.lload 4, 2) := by decide +kernel
theorem dX2_squareTo_26 : decode cX2_squareTo 26 = .ok (.lmul, 1) := by decide +kernel
theorem dX2_squareTo_27 : decode cX2_squareTo 27 = .ok (.lload 6, 2) := by decide +kernel
theorem dX2_squareTo_29 : decode cX2_squareTo 29 = .ok (.lload 6, 2) := by decide +kernel
theorem dX2_squareTo_31 : decode cX2_squareTo 31 = .ok (.lmul, 1) := by decide +kernel
theorem dX2_squareTo_32 : decode cX2_squareTo 32 = .ok (.ladd, 1) := by decide +kernel
theorem dX2_squareTo_33 : decode cX2_squareTo 33 = .ok (.lreturn, 1) := by decide +kernel
theorem dX2_isParted_0 : decode cX2_isParted 0 = .ok (.aload_n 0, 1) := by decide +kernel
theorem dX2_isParted_1 : decode cX2_isParted 1 = .ok (.iload_n 1, 1) := by decide +kernel
theorem dX2_isParted_2 : decode cX2_isParted 2 = .ok (.iload_n 2, 1) := by decide +kernel
theorem dX2_isParted_3 : decode cX2_isParted 3 = .ok (.iload_n 3, 1) := by decide +kernel
theorem dX2_isParted_4 : decode cX2_isParted 4 = .ok (.invokevirtual 40, 3) := by decide +kernel
theorem dX2_isParted_7 : decode cX2_isParted 7 = .ok (.lstore 5, 2) := by decide +kernel
theorem dX2_isParted_9 : decode cX2_isParted 9 = .ok (.aload_n 0, 1) := by decide +kernel
theorem dX2_isParted_10 : decode cX2_isParted 10 = .ok (.iload_n 1, 1) := by decide +kernel
theorem dX2_isParted_11 : decode cX2_isParted 11 = .ok (.iload_n 2, 1) := by decide +kernel
theorem dX2_isParted_12 : decode cX2_isParted 12 = .ok (.iload 4, 2) := by decide +kernel
theorem dX2_isParted_14 : decode cX2_isParted 14 = .ok (.invokevirtual 40, 3) := by decide +kernel
theorem dX2_isParted_17 : decode cX2_isParted 17 = .ok (.lstore 7, 2) := by decide +kernel
theorem dX2_isParted_19 : decode cX2_isParted 19 = .ok (.lload 5, 2) := by decide +kernel
theorem dX2_isParted_21 : decode cX2_isParted 21 = .ok (.lconst 0, 1) := by decide +kernel
theorem dX2_isParted_22 : decode cX2_isParted 22 = .ok (.lcmp, 1) := by decide +kernel
theorem dX2_isParted_23 : decode cX2_isParted 23 = .ok (.ifCond .le 10, 3) := by decide +kernel
theorem dX2_isParted_26 : decode cX2_isParted 26 = .ok (.lload 7, 2) := by decide +kernel
theorem dX2_isParted_28 : decode cX2_isParted 28 = .ok (.lconst 0, 1) := by decide +kernel
theorem dX2_isParted_29 : decode cX2_isParted 29 = .ok (.lcmp, 1) := by decide +kernel
theorem dX2_isParted_30 : decode cX2_isParted 30 = .ok (.ifCond .lt 17, 3) := by decide +kernel
theorem dX2_isParted_33 : decode cX2_isParted 33 = .ok (.lload 5, 2) := by decide +kernel
theorem dX2_isParted_35 : decode cX2_isParted 35 = .ok (.lconst 0, 1) := by decide +kernel
theorem dX2_isParted_36 : decode cX2_isParted 36 = .ok (.lcmp, 1) := by decide +kernel
theorem dX2_isParted_37 : decode cX2_isParted 37 = .ok (.ifCond .ge 14, 3) := by decide +kernel
theorem dX2_isParted_40 : decode cX2_isParted 40 = .ok (.lload 7, 2) := by decide +kernel
theorem dX2_isParted_42 : decode cX2_isParted 42 = .ok (.lconst 0, 1) := by decide +kernel
theorem dX2_isParted_43 : decode cX2_isParted 43 = .ok (.lcmp, 1) := by decide +kernel
theorem dX2_isParted_44 : decode cX2_isParted 44 = .ok (.ifCond .le 7, 3) := by decide +kernel
theorem dX2_isParted_47 : decode cX2_isParted 47 = .ok (.iconst 1, 1) := by decide +kernel
theorem dX2_isParted_48 : decode cX2_isParted 48 = .ok (.goto 4, 3) := by decide +kernel
theorem dX2_isParted_51 : decode cX2_isParted 51 = .ok (.iconst 0, 1) := by decide +kernel
theorem dX2_isParted_52 : decode cX2_isParted 52 = .ok (.ireturn, 1) := by decide +kernel
theorem dX2_isOnWay_0 : decode cX2_isOnWay 0 = .ok (.aload_n 0, 1) := by decide +kernel
theorem dX2_isOnWay_1 : decode cX2_isOnWay 1 = .ok (.iload_n 1, 1) := by decide +kernel
theorem dX2_isOnWay_2 : decode cX2_isOnWay 2 = .ok (.iload_n 2, 1) := by decide +kernel
theorem dX2_isOnWay_3 : decode cX2_isOnWay 3 = .ok (.iload_n 3, 1) := by decide +kernel
theorem dX2_isOnWay_4 : decode cX2_isOnWay 4 = .ok (.invokevirtual 40, 3) := by decide +kernel
theorem dX2_isOnWay_7 : decode cX2_isOnWay 7 = .ok (.lconst 0, 1) := by decide +kernel
theorem dX2_isOnWay_8 : decode cX2_isOnWay 8 = .ok (.lcmp, 1) := by decide +kernel
theorem dX2_isOnWay_9 : decode cX2_isOnWay 9 = .ok (.ifCond .ne 103, 3) := by decide +kernel
theorem dX2_isOnWay_12 : decode cX2_isOnWay 12 = .ok (.aload_n 0, 1) := by decide +kernel
theorem dX2_isOnWay_13 : decode cX2_isOnWay 13 = .ok (.getfield 9, 3) := by decide +kernel
theorem dX2_isOnWay_16 : decode cX2_isOnWay 16 = .ok (.iload_n 3, 1) := by decide +kernel
theorem dX2_isOnWay_17 : decode cX2_isOnWay 17 = .ok (.iaload, 1) := by decide +kernel
theorem dX2_isOnWay_18 : decode cX2_isOnWay 18 = .ok (.aload_n 0, 1) := by decide +kernel
theorem dX2_isOnWay_19 : decode cX2_isOnWay 19 = .ok (.getfield 9, 3) := by decide +kernel
theorem dX2_isOnWay_22 : decode cX2_isOnWay 22 = .ok (.iload_n 1, 1) := by decide +kernel
theorem dX2_isOnWay_23 : decode cX2_isOnWay 23 = .ok (.iaload, 1) := by decide +kernel
theorem dX2_isOnWay_24 : decode cX2_isOnWay 24 = .ok (.aload_n 0, 1) := by decide +kernel
theorem dX2_isOnWay_25 : decode cX2_isOnWay 25 = .ok (.getfield 9, 3) := by decide +kernel
theorem dX2_isOnWay_28 : decode cX2_isOnWay 28 = .ok (.iload_n 2, 1) := by decide +kernel
theorem dX2_isOnWay_29 : decode cX2_isOnWay 29 = .ok (.iaload, 1) := by decide +kernel
theorem dX2_isOnWay_30 : decode cX2_isOnWay 30 = .ok (.invokestatic 55, 3) := by decide +kernel
theorem dX2_isOnWay_33 : decode cX2_isOnWay 33 = .ok (.if_icmp .lt 79, 3) := by decide +kernel
theorem dX2_isOnWay_36 : decode cX2_isOnWay 36 = .ok (.aload_n 0, 1) := by decide +kernel
theorem dX2_isOnWay_37 : decode cX2_isOnWay 37 = .ok (.getfield 9, 3) := by decide +kernel
theorem dX2_isOnWay_40 : decode cX2_isOnWay 40 = .ok (.iload_n 3, 1) := by decide +kernel
theorem dX2_isOnWay_41 : decode cX2_isOnWay 41 = .ok (.iaload, 1) := by decide +kernel
theorem dX2_isOnWay_42 : decode cX2_isOnWay 42 = .ok (.aload_n 0, 1) := by decide +kernel
theorem dX2_isOnWay_43 : decode cX2_isOnWay 43 = .ok (.getfield 9, 3) := by decide +kernel
theorem dX2_isOnWay_46 : decode cX2_isOnWay 46 = .ok (.iload_n 1, 1) := by decide +kernel
theorem dX2_isOnWay_47 : decode cX2_isOnWay 47 = .ok (.iaload, 1) := by decide +kernel
theorem dX2_isOnWay_48 : decode cX2_isOnWay 48 = .ok (.aload_n 0, 1) := by decide +kernel
theorem dX2_isOnWay_49 : decode cX2_isOnWay 49 = .ok (.getfield 9, 3) := by decide +kernel
theorem dX2_isOnWay_52 : decode cX2_isOnWay 52 = .ok (.iload_n 2, 1) := by decide +kernel
theorem dX2_isOnWay_53 : decode cX2_isOnWay 53 = .ok (.iaload, 1) := by decide +kernel
theorem dX2_isOnWay_54 : decode cX2_isOnWay 54 = .ok (.invokestatic 61, 3) := by decide +kernel
theorem dX2_isOnWay_57 : decode cX2_isOnWay 57 = .ok (.if_icmp .gt 55, 3) := by decide +kernel
theorem dX2_isOnWay_60 : decode cX2_isOnWay 60 = .ok (.aload_n 0, 1) := by decide +kernel
theorem dX2_isOnWay_61 : decode cX2_isOnWay 61 = .ok (.getfield 15, 3) := by decide +kernel
theorem dX2_isOnWay_64 : decode cX2_isOnWay 64 = .ok (.iload_n 3, 1) := by decide +kernel
theorem dX2_isOnWay_65 : decode cX2_isOnWay 65 = .ok (.iaload, 1) := by decide +kernel
theorem dX2_isOnWay_66 : decode cX2_isOnWay 66 = .ok (.aload_n 0, 1) := by decide +kernel
theorem dX2_isOnWay_67 : decode cX2_isOnWay 67 = .ok (.getfield 15, 3) := by decide +kernel
theorem dX2_isOnWay_70 : decode cX2_isOnWay 70 = .ok (.iload_n 1, 1) := by decide +kernel
theorem dX2_isOnWay_71 : decode cX2_isOnWay 71 = .ok (.iaload, 1) := by decide +kernel
theorem dX2_isOnWay_72 : decode cX2_isOnWay 72 = .ok (.aload_n 0, 1) := by decide +kernel
theorem dX2_isOnWay_73 : decode cX2_isOnWay 73 = .ok (.getfield 15, 3) := by decide +kernel
theorem dX2_isOnWay_76 : decode cX2_isOnWay 76 = .ok (.iload_n 2, 1) := by decide +kernel
theorem dX2_isOnWay_77 : decode cX2_isOnWay 77 = .ok (.iaload, 1) := by decide +kernel
theorem dX2_isOnWay_78 : decode cX2_isOnWay 78 = .ok (.invokestatic 55, 3) := by decide +kernel
theorem dX2_isOnWay_81 : decode cX2_isOnWay 81 = .ok (.if_icmp .lt 31, 3) := by decide +kernel
theorem dX2_isOnWay_84 : decode cX2_isOnWay 84 = .ok (.aload_n 0, 1) := by decide +kernel
theorem dX2_isOnWay_85 : decode cX2_isOnWay 85 = .ok (.getfield 15, 3) := by decide +kernel
theorem dX2_isOnWay_88 : decode cX2_isOnWay 88 = .ok (.iload_n 3, 1) := by decide +kernel
theorem dX2_isOnWay_89 : decode cX2_isOnWay 89 = .ok (.iaload, 1) := by decide +kernel
theorem dX2_isOnWay_90 : decode cX2_isOnWay 90 = .ok (.aload_n 0, 1) := by decide +kernel
theorem dX2_isOnWay_91 : decode cX2_isOnWay 91 = .ok (.getfield 15, 3) := by decide +kernel
theorem dX2_isOnWay_94 : decode cX2_isOnWay 94 = .ok (.iload_n 1, 1) := by decide +kernel
theorem dX2_isOnWay_95 : decode cX2_isOnWay 95 = .ok (.iaload, 1) := by decide +kernel
theorem dX2_isOnWay_96 : decode cX2_isOnWay 96 = .ok (.aload_n 0, 1) := by decide +kernel
theorem dX2_isOnWay_97 : decode cX2_isOnWay 97 = .ok (.getfield 15, 3) := by decide +kernel
theorem dX2_isOnWay_100 : decode cX2_isOnWay 100 = .ok (.iload_n 2, 1) := by decide +kernel
theorem dX2_isOnWay_101 : decode cX2_isOnWay 101 = .ok (.iaload, 1) := by decide +kernel
theorem dX2_isOnWay_102 : decode cX2_isOnWay 102 = .ok (.invokestatic 61, 3) := by decide +kernel
theorem dX2_isOnWay_105 : decode cX2_isOnWay 105 = .ok (.if_icmp .gt 7, 3) := by decide +kernel
theorem dX2_isOnWay_108 : decode cX2_isOnWay 108 = .ok (.iconst 1, 1) := by decide +kernel
theorem dX2_isOnWay_109 : decode cX2_isOnWay 109 = .ok (.goto 4, 3) := by decide +kernel
theorem dX2_isOnWay_112 : decode cX2_isOnWay 112 = .ok (.iconst 0, 1) := by decide +kernel
theorem dX2_isOnWay_113 : decode cX2_isOnWay 113 = .ok (.ireturn, 1) := by decide +kernel
theorem dX2_rankAround_0 : decode cX2_rankAround 0 = .ok (.iconst 0, 1) := by decide +kernel
theorem dX2_rankAround_1 : decode cX2_rankAround 1 = .ok (.istore_n 3, 1) := by decide +kernel
theorem dX2_rankAround_2 : decode cX2_rankAround 2 = .ok (.iconst 0, 1) := by decide +kernel
theorem dX2_rankAround_3 : decode cX2_rankAround 3 = .ok (.istore 4, 2) := by decide +kernel
theorem dX2_rankAround_5 : decode cX2_rankAround 5 = .ok (.iload 4, 2) := by decide +kernel
theorem dX2_rankAround_7 : decode cX2_rankAround 7 = .ok (.aload_n 0, 1) := by decide +kernel
theorem dX2_rankAround_8 : decode cX2_rankAround 8 = .ok (.getfield 33, 3) := by decide +kernel
theorem dX2_rankAround_11 : decode cX2_rankAround 11 = .ok (.if_icmp .ge 44, 3) := by decide +kernel
theorem dX2_rankAround_14 : decode cX2_rankAround 14 = .ok (.aload_n 0, 1) := by decide +kernel
theorem dX2_rankAround_15 : decode cX2_rankAround 15 = .ok (.getfield 22, 3) := by decide +kernel
theorem dX2_rankAround_18 : decode cX2_rankAround 18 = .ok (.iload 4, 2) := by decide +kernel
theorem dX2_rankAround_20 : decode cX2_rankAround 20 = .ok (.iaload, 1) := by decide +kernel
theorem dX2_rankAround_21 : decode cX2_rankAround 21 = .ok (.istore 5, 2) := by decide +kernel
theorem dX2_rankAround_23 : decode cX2_rankAround 23 = .ok (.iload 5, 2) := by decide +kernel
theorem dX2_rankAround_25 : decode cX2_rankAround 25 = .ok (.iload_n 1, 1) := by decide +kernel
theorem dX2_rankAround_26 : decode cX2_rankAround 26 = .ok (.if_icmp .eq 23, 3) := by decide +kernel
theorem dX2_rankAround_29 : decode cX2_rankAround 29 = .ok (.iload 5, 2) := by decide +kernel
theorem dX2_rankAround_31 : decode cX2_rankAround 31 = .ok (.iload_n 2, 1) := by decide +kernel
theorem dX2_rankAround_32 : decode cX2_rankAround 32 = .ok (.if_icmp .eq 17, 3) := by decide +kernel
theorem dX2_rankAround_35 : decode cX2_rankAround 35 = .ok (.aload_n 0, 1) := by decide +kernel
theorem dX2_rankAround_36 : decode cX2_rankAround 36 = .ok (.iload_n 1, 1) := by decide +kernel
theorem dX2_rankAround_37 : decode cX2_rankAround 37 = .ok (.iload 5, 2) := by decide +kernel
theorem dX2_rankAround_39 : decode cX2_rankAround 39 = .ok (.iload_n 2, 1) := by decide +kernel
theorem dX2_rankAround_40 : decode cX2_rankAround 40 = .ok (.invokevirtual 64, 3) := by decide +kernel
theorem dX2_rankAround_43 : decode cX2_rankAround 43 = .ok (.ifCond .eq 6, 3) := by decide +kernel
theorem dX2_rankAround_46 : decode cX2_rankAround 46 = .ok (.iinc 3 1, 3) := by decide +kernel
theorem dX2_rankAround_49 : decode cX2_rankAround 49 = .ok (.iinc 4 1, 3) := by decide +kernel
theorem dX2_rankAround_52 : decode cX2_rankAround 52 = .ok (.goto (-47), 3) := by decide +kernel
theorem dX2_rankAround_55 : decode cX2_rankAround 55 = .ok (.iload_n 3, 1) := by decide +kernel
theorem dX2_rankAround_56 : decode cX2_rankAround 56 = .ok (.ireturn, 1) := by decide +kernel
theorem dX2_comesEarlierAround_0 : decode cX2_comesEarlierAround 0 = .ok (.aload_n 0, 1) := by decide +kernel
theorem dX2_comesEarlierAround_1 : decode cX2_comesEarlierAround 1 = .ok (.iload_n 1, 1) := by decide +kernel
theorem dX2_comesEarlierAround_2 : decode cX2_comesEarlierAround 2 = .ok (.iload_n 2, 1) := by decide +kernel
theorem dX2_comesEarlierAround_3 : decode cX2_comesEarlierAround 3 = .ok (.invokevirtual 68, 3) := by decide +kernel
theorem dX2_comesEarlierAround_6 : decode cX2_comesEarlierAround 6 = .ok (.istore 4, 2) := by decide +kernel
theorem dX2_comesEarlierAround_8 : decode cX2_comesEarlierAround 8 = .ok (.iload 4, 2) := by decide +kernel
theorem dX2_comesEarlierAround_10 : decode cX2_comesEarlierAround 10 = .ok (.aload_n 0, 1) := by decide +kernel
theorem dX2_comesEarlierAround_11 : decode cX2_comesEarlierAround 11 = .ok (.iload_n 1, 1) := by decide +kernel
theorem dX2_comesEarlierAround_12 : decode cX2_comesEarlierAround 12 = .ok (.iload_n 3, 1) := by decide +kernel
theorem dX2_comesEarlierAround_13 : decode cX2_comesEarlierAround 13 = .ok (.invokevirtual 68, 3) := by decide +kernel
theorem dX2_comesEarlierAround_16 : decode cX2_comesEarlierAround 16 = .ok (.if_icmp .eq 14, 3) := by decide +kernel
theorem dX2_comesEarlierAround_19 : decode cX2_comesEarlierAround 19 = .ok (.iload 4, 2) := by decide +kernel
theorem dX2_comesEarlierAround_21 : decode cX2_comesEarlierAround 21 = .ok (.ifCond .ne 7, 3) := by decide +kernel
theorem dX2_comesEarlierAround_24 : decode cX2_comesEarlierAround 24 = .ok (.iconst 1, 1) := by decide +kernel
theorem dX2_comesEarlierAround_25 : decode cX2_comesEarlierAround 25 = .ok (.goto 4, 3) := by decide +kernel
theorem dX2_comesEarlierAround_28 : decode cX2_comesEarlierAround 28 = .ok (.iconst 0, 1) := by decide +kernel
theorem dX2_comesEarlierAround_29 : decode cX2_comesEarlierAround 29 = .ok (.ireturn, 1) := by decide +kernel
theorem dX2_comesEarlierAround_30 : decode cX2_comesEarlierAround 30 = .ok (.aload_n 0, 1) := by decide +kernel
theorem dX2_comesEarlierAround_31 : decode cX2_comesEarlierAround 31 = .ok (.iload_n 1, 1) := by decide +kernel
theorem dX2_comesEarlierAround_32 : decode cX2_comesEarlierAround 32 = .ok (.iload_n 2, 1) := by decide +kernel
theorem dX2_comesEarlierAround_33 : decode cX2_comesEarlierAround 33 = .ok (.iload_n 3, 1) := by decide +kernel
theorem dX2_comesEarlierAround_34 : decode cX2_comesEarlierAround 34 = .ok (.invokevirtual 40, 3) := by decide +kernel
theorem dX2_comesEarlierAround_37 : decode cX2_comesEarlierAround 37 = .ok (.lstore 5, 2) := by decide +kernel
theorem dX2_comesEarlierAround_39 : decode cX2_comesEarlierAround 39 = .ok (.lload 5, 2) := by decide +kernel
theorem dX2_comesEarlierAround_41 : decode cX2_comesEarlierAround 41 = .ok (.lconst 0, 1) := by decide +kernel
theorem dX2_comesEarlierAround_42 : decode cX2_comesEarlierAround 42 = .ok (.lcmp, 1) := by decide +kernel
theorem dX2_comesEarlierAround_43 : decode cX2_comesEarlierAround 43 = .ok (.ifCond .eq 16, 3) := by decide +kernel
theorem dX2_comesEarlierAround_46 : decode cX2_comesEarlierAround 46 = .ok (.lload 5, 2) := by decide +kernel
theorem dX2_comesEarlierAround_48 : decode cX2_comesEarlierAround 48 = .ok (.lconst 0, 1) := by decide +kernel
theorem dX2_comesEarlierAround_49 : decode cX2_comesEarlierAround 49 = .ok (.lcmp, 1) := by decide +kernel
theorem dX2_comesEarlierAround_50 : decode cX2_comesEarlierAround 50 = .ok (.ifCond .le 7, 3) := by decide +kernel
theorem dX2_comesEarlierAround_53 : decode cX2_comesEarlierAround 53 = .ok (.iconst 1, 1) := by decide +kernel
theorem dX2_comesEarlierAround_54 : decode cX2_comesEarlierAround 54 = .ok (.goto 4, 3) := by decide +kernel
theorem dX2_comesEarlierAround_57 : decode cX2_comesEarlierAround 57 = .ok (.iconst 0, 1) := by decide +kernel
theorem dX2_comesEarlierAround_58 : decode cX2_comesEarlierAround 58 = .ok (.ireturn, 1) := by decide +kernel
theorem dX2_comesEarlierAround_59 : decode cX2_comesEarlierAround 59 = .ok (.aload_n 0, 1) := by decide +kernel
theorem dX2_comesEarlierAround_60 : decode cX2_comesEarlierAround 60 = .ok (.iload_n 2, 1) := by decide +kernel
theorem dX2_comesEarlierAround_61 : decode cX2_comesEarlierAround 61 = .ok (.aload_n 0, 1) := by decide +kernel
theorem dX2_comesEarlierAround_62 : decode cX2_comesEarlierAround 62 = .ok (.getfield 9, 3) := by decide +kernel
theorem dX2_comesEarlierAround_65 : decode cX2_comesEarlierAround 65 = .ok (.iload_n 1, 1) := by decide +kernel
theorem dX2_comesEarlierAround_66 : decode cX2_comesEarlierAround 66 = .ok (.iaload, 1) := by decide +kernel
theorem dX2_comesEarlierAround_67 : decode cX2_comesEarlierAround 67 = .ok (.aload_n 0, 1) := by decide +kernel
theorem dX2_comesEarlierAround_68 : decode cX2_comesEarlierAround 68 = .ok (.getfield 15, 3) := by decide +kernel
theorem dX2_comesEarlierAround_71 : decode cX2_comesEarlierAround 71 = .ok (.iload_n 1, 1) := by decide +kernel
theorem dX2_comesEarlierAround_72 : decode cX2_comesEarlierAround 72 = .ok (.iaload, 1) := by decide +kernel
theorem dX2_comesEarlierAround_73 : decode cX2_comesEarlierAround 73 = .ok (.invokevirtual 52, 3) := by decide +kernel
theorem dX2_comesEarlierAround_76 : decode cX2_comesEarlierAround 76 = .ok (.aload_n 0, 1) := by decide +kernel
theorem dX2_comesEarlierAround_77 : decode cX2_comesEarlierAround 77 = .ok (.iload_n 3, 1) := by decide +kernel
theorem dX2_comesEarlierAround_78 : decode cX2_comesEarlierAround 78 = .ok (.aload_n 0, 1) := by decide +kernel
theorem dX2_comesEarlierAround_79 : decode cX2_comesEarlierAround 79 = .ok (.getfield 9, 3) := by decide +kernel
theorem dX2_comesEarlierAround_82 : decode cX2_comesEarlierAround 82 = .ok (.iload_n 1, 1) := by decide +kernel
theorem dX2_comesEarlierAround_83 : decode cX2_comesEarlierAround 83 = .ok (.iaload, 1) := by decide +kernel
theorem dX2_comesEarlierAround_84 : decode cX2_comesEarlierAround 84 = .ok (.aload_n 0, 1) := by decide +kernel
theorem dX2_comesEarlierAround_85 : decode cX2_comesEarlierAround 85 = .ok (.getfield 15, 3) := by decide +kernel
theorem dX2_comesEarlierAround_88 : decode cX2_comesEarlierAround 88 = .ok (.iload_n 1, 1) := by decide +kernel
theorem dX2_comesEarlierAround_89 : decode cX2_comesEarlierAround 89 = .ok (.iaload, 1) := by decide +kernel
theorem dX2_comesEarlierAround_90 : decode cX2_comesEarlierAround 90 = .ok (.invokevirtual 52, 3) := by decide +kernel
theorem dX2_comesEarlierAround_93 : decode cX2_comesEarlierAround 93 = .ok (.lcmp, 1) := by decide +kernel
theorem dX2_comesEarlierAround_94 : decode cX2_comesEarlierAround 94 = .ok (.ifCond .ge 7, 3) := by decide +kernel
theorem dX2_comesEarlierAround_97 : decode cX2_comesEarlierAround 97 = .ok (.iconst 1, 1) := by decide +kernel
theorem dX2_comesEarlierAround_98 : decode cX2_comesEarlierAround 98 = .ok (.goto 4, 3) := by decide +kernel
theorem dX2_comesEarlierAround_101 : decode cX2_comesEarlierAround 101 = .ok (.iconst 0, 1) := by decide +kernel
theorem dX2_comesEarlierAround_102 : decode cX2_comesEarlierAround 102 = .ok (.ireturn, 1) := by decide +kernel
theorem dX2_isInLaterHalf_0 : decode cX2_isInLaterHalf 0 = .ok (.aload_n 0, 1) := by decide +kernel
theorem dX2_isInLaterHalf_1 : decode cX2_isInLaterHalf 1 = .ok (.getfield 15, 3) := by decide +kernel
theorem dX2_isInLaterHalf_4 : decode cX2_isInLaterHalf 4 = .ok (.iload_n 2, 1) := by decide +kernel
theorem dX2_isInLaterHalf_5 : decode cX2_isInLaterHalf 5 = .ok (.iaload, 1) := by decide +kernel
theorem dX2_isInLaterHalf_6 : decode cX2_isInLaterHalf 6 = .ok (.aload_n 0, 1) := by decide +kernel
theorem dX2_isInLaterHalf_7 : decode cX2_isInLaterHalf 7 = .ok (.getfield 15, 3) := by decide +kernel
theorem dX2_isInLaterHalf_10 : decode cX2_isInLaterHalf 10 = .ok (.iload_n 1, 1) := by decide +kernel
theorem dX2_isInLaterHalf_11 : decode cX2_isInLaterHalf 11 = .ok (.iaload, 1) := by decide +kernel
theorem dX2_isInLaterHalf_12 : decode cX2_isInLaterHalf 12 = .ok (.if_icmp .lt 33, 3) := by decide +kernel
theorem dX2_isInLaterHalf_15 : decode cX2_isInLaterHalf 15 = .ok (.aload_n 0, 1) := by decide +kernel
theorem dX2_isInLaterHalf_16 : decode cX2_isInLaterHalf 16 = .ok (.getfield 15, 3) := by decide +kernel
theorem dX2_isInLaterHalf_19 : decode cX2_isInLaterHalf 19 = .ok (.iload_n 2, 1) := by decide +kernel
theorem dX2_isInLaterHalf_20 : decode cX2_isInLaterHalf 20 = .ok (.iaload, 1) := by decide +kernel
theorem dX2_isInLaterHalf_21 : decode cX2_isInLaterHalf 21 = .ok (.aload_n 0, 1) := by decide +kernel
theorem dX2_isInLaterHalf_22 : decode cX2_isInLaterHalf 22 = .ok (.getfield 15, 3) := by decide +kernel
theorem dX2_isInLaterHalf_25 : decode cX2_isInLaterHalf 25 = .ok (.iload_n 1, 1) := by decide +kernel
theorem dX2_isInLaterHalf_26 : decode cX2_isInLaterHalf 26 = .ok (.iaload, 1) := by decide +kernel
theorem dX2_isInLaterHalf_27 : decode cX2_isInLaterHalf 27 = .ok (.if_icmp .ne 22, 3) := by decide +kernel
theorem dX2_isInLaterHalf_30 : decode cX2_isInLaterHalf 30 = .ok (.aload_n 0, 1) := by decide +kernel
theorem dX2_isInLaterHalf_31 : decode cX2_isInLaterHalf 31 = .ok (.getfield 9, 3) := by decide +kernel
theorem dX2_isInLaterHalf_34 : decode cX2_isInLaterHalf 34 = .ok (.iload_n 2, 1) := by decide +kernel
theorem dX2_isInLaterHalf_35 : decode cX2_isInLaterHalf 35 = .ok (.iaload, 1) := by decide +kernel
theorem dX2_isInLaterHalf_36 : decode cX2_isInLaterHalf 36 = .ok (.aload_n 0, 1) := by decide +kernel
theorem dX2_isInLaterHalf_37 : decode cX2_isInLaterHalf 37 = .ok (.getfield 9, 3) := by decide +kernel
theorem dX2_isInLaterHalf_40 : decode cX2_isInLaterHalf 40 = .ok (.iload_n 1, 1) := by decide +kernel
theorem dX2_isInLaterHalf_41 : decode cX2_isInLaterHalf 41 = .ok (.iaload, 1) := by decide +kernel
theorem dX2_isInLaterHalf_42 : decode cX2_isInLaterHalf 42 = .ok (.if_icmp .ge 7, 3) := by decide +kernel
theorem dX2_isInLaterHalf_45 : decode cX2_isInLaterHalf 45 = .ok (.iconst 1, 1) := by decide +kernel
theorem dX2_isInLaterHalf_46 : decode cX2_isInLaterHalf 46 = .ok (.goto 4, 3) := by decide +kernel
theorem dX2_isInLaterHalf_49 : decode cX2_isInLaterHalf 49 = .ok (.iconst 0, 1) := by decide +kernel
theorem dX2_isInLaterHalf_50 : decode cX2_isInLaterHalf 50 = .ok (.ireturn, 1) := by decide +kernel
