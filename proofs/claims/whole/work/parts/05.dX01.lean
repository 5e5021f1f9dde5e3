theorem dX0_init_0 : decode cX0_init 0 = .ok (.aload_n 0, 1) := by decide +kernel
theorem dX0_init_1 : decode cX0_init 1 = .ok (.invokespecial 3, 3) := by decide +kernel
theorem dX0_init_4 : decode cX0_init 4 = .ok (.aload_n 0, 1) := by decide +kernel
theorem dX0_init_5 : decode cX0_init 5 = .ok (.bipush 80, 2) := by decide +kernel
theorem dX0_init_7 : decode cX0_init 7 = .ok (.newarray .int, 2) := by decide +kernel
theorem dX0_init_9 : decode cX0_init 9 = .ok (.putfield 9, 3) := by decide +kernel
theorem dX0_init_12 : decode cX0_init 12 = .ok (.aload_n 0, 1) := by decide +kernel
theorem dX0_init_13 : decode cX0_init 13 = .ok (.sipush 1600, 3) := by decide +kernel
theorem dX0_init_16 : decode cX0_init 16 = .ok (.newarray .int, 2) := by decide +kernel
theorem dX0_init_18 : decode cX0_init 18 = .ok (.putfield 15, 3) := by decide +kernel
theorem dX0_init_21 : decode cX0_init 21 = .ok (.aload_n 0, 1) := by decide +kernel
theorem dX0_init_22 : decode cX0_init 22 = .ok (.bipush 40, 2) := by decide +kernel
theorem dX0_init_24 : decode cX0_init 24 = .ok (.newarray .int, 2) := by decide +kernel
theorem dX0_init_26 : decode cX0_init 26 = .ok (.putfield 18, 3) := by decide +kernel
theorem dX0_init_29 : decode cX0_init 29 = .ok (.aload_n 0, 1) := by decide +kernel
theorem dX0_init_30 : decode cX0_init 30 = .ok (.bipush 40, 2) := by decide +kernel
theorem dX0_init_32 : decode cX0_init 32 = .ok (.newarray .int, 2) := by decide +kernel
theorem dX0_init_34 : decode cX0_init 34 = .ok (.putfield 21, 3) := by decide +kernel
theorem dX0_init_37 : decode cX0_init 37 = .ok (.aload_n 0, 1) := by decide +kernel
theorem dX0_init_38 : decode cX0_init 38 = .ok (.aload_n 1, 1) := by decide +kernel
theorem dX0_init_39 : decode cX0_init 39 = .ok (.putfield 24, 3) := by decide +kernel
theorem dX0_init_42 : decode cX0_init 42 = .ok (.aload_n 0, 1) := by decide +kernel
theorem dX0_init_43 : decode cX0_init 43 = .ok (.getfield 15, 3) := by decide +kernel
theorem dX0_init_46 : decode cX0_init 46 = .ok (.iconst (-1), 1) := by decide +kernel
theorem dX0_init_47 : decode cX0_init 47 = .ok (.invokestatic 28, 3) := by decide +kernel
theorem dX0_init_50 : decode cX0_init 50 = .ok (.return_, 1) := by decide +kernel
theorem dX0_hasTriangle_0 : decode cX0_hasTriangle 0 = .ok (.iload_n 1, 1) := by decide +kernel
theorem dX0_hasTriangle_1 : decode cX0_hasTriangle 1 = .ok (.ifCond .lt 15, 3) := by decide +kernel
theorem dX0_hasTriangle_4 : decode cX0_hasTriangle 4 = .ok (.iload_n 1, 1) := by decide +kernel
theorem dX0_hasTriangle_5 : decode cX0_hasTriangle 5 = .ok (.aload_n 0, 1) := by decide +kernel
theorem dX0_hasTriangle_6 : decode cX0_hasTriangle 6 = .ok (.getfield 34, 3) := by decide +kernel
theorem dX0_hasTriangle_9 : decode cX0_hasTriangle 9 = .ok (.if_icmp .ge 7, 3) := by decide +kernel
theorem dX0_hasTriangle_12 : decode cX0_hasTriangle 12 = .ok (.iconst 1, 1) := by decide +kernel
theorem dX0_hasTriangle_13 : decode cX0_hasTriangle 13 = .ok (.goto 4, 3) := by decide +kernel
theorem dX0_hasTriangle_16 : decode cX0_hasTriangle 16 = .ok (.iconst 0, 1) := by decide +kernel
theorem dX0_hasTriangle_17 : decode cX0_hasTriangle 17 = .ok (.ireturn, 1) := by decide +kernel
theorem dX0_pointOfTriangle_0 : decode cX0_pointOfTriangle 0 = .ok (.iload_n 2, 1) := by decide +kernel
theorem dX0_pointOfTriangle_1 : decode cX0_pointOfTriangle 1 = .ok (.ifCond .ne 14, 3) := by decide +kernel
theorem dX0_pointOfTriangle_4 : decode cX0_pointOfTriangle 4 = .ok (.aload_n 0, 1) := by decide +kernel
theorem dX0_pointOfTriangle_5 : decode cX0_pointOfTriangle 5 = .ok (.getfield 9, 3) := by decide +kernel
theorem dX0_pointOfTriangle_8 : decode cX0_pointOfTriangle 8 = .ok (.iload_n 1, 1) := by decide +kernel
theorem dX0_pointOfTriangle_9 : decode cX0_pointOfTriangle 9 = .ok (.iaload, 1) := by decide +kernel
theorem dX0_pointOfTriangle_10 : decode cX0_pointOfTriangle 10 = .ok (.sipush 1600, 3) := by decide +kernel
theorem dX0_pointOfTriangle_13 : decode cX0_pointOfTriangle 13 = .ok (.idiv, 1) := by decide +kernel
theorem dX0_pointOfTriangle_14 : decode cX0_pointOfTriangle 14 = .ok (.ireturn, 1) := by decide +kernel
theorem dX0_pointOfTriangle_15 : decode cX0_pointOfTriangle 15 = .ok (.iload_n 2, 1) := by decide +kernel
theorem dX0_pointOfTriangle_16 : decode cX0_pointOfTriangle 16 = .ok (.iconst 1, 1) := by decide +kernel
theorem dX0_pointOfTriangle_17 : decode cX0_pointOfTriangle 17 = .ok (.if_icmp .ne 18, 3) := by decide +kernel
theorem dX0_pointOfTriangle_20 : decode cX0_pointOfTriangle 20 = .ok (.aload_n 0, 1) := by decide +kernel
theorem dX0_pointOfTriangle_21 : decode cX0_pointOfTriangle 21 = .ok (.getfield 9, 3) := by decide +kernel
theorem dX0_pointOfTriangle_24 : decode cX0_pointOfTriangle 24 = .ok (.iload_n 1, 1) := by decide +kernel
theorem dX0_pointOfTriangle_25 : decode cX0_pointOfTriangle 25 = .ok (.iaload, 1) := by decide +kernel
theorem dX0_pointOfTriangle_26 : decode cX0_pointOfTriangle 26 = .ok (.bipush 40, 2) := by decide +kernel
theorem dX0_pointOfTriangle_28 : decode cX0_pointOfTriangle 28 = .ok (.idiv, 1) := by decide +kernel
theorem dX0_pointOfTriangle_29 : decode cX0_pointOfTriangle 29 = .ok (.bipush 40, 2) := by decide +kernel
theorem dX0_pointOfTriangle_31 : decode cX0_pointOfTriangle 31 = .ok (.irem, 1) := by decide +kernel
theorem dX0_pointOfTriangle_32 : decode cX0_pointOfTriangle 32 = .ok (.goto 12, 3) := by decide +kernel
theorem dX0_pointOfTriangle_35 : decode cX0_pointOfTriangle 35 = .ok (.aload_n 0, 1) := by decide +kernel
theorem dX0_pointOfTriangle_36 : decode cX0_pointOfTriangle 36 = .ok (.getfield 9, 3) := by decide +kernel
theorem dX0_pointOfTriangle_39 : decode cX0_pointOfTriangle 39 = .ok (.iload_n 1, 1) := by decide +kernel
theorem dX0_pointOfTriangle_40 : decode cX0_pointOfTriangle 40 = .ok (.iaload, 1) := by decide +kernel
theorem dX0_pointOfTriangle_41 : decode cX0_pointOfTriangle 41 = .ok (.bipush 40, 2) := by decide +kernel
theorem dX0_pointOfTriangle_43 : decode cX0_pointOfTriangle 43 = .ok (.irem, 1) := by decide +kernel
theorem dX0_pointOfTriangle_44 : decode cX0_pointOfTriangle 44 = .ok (.ireturn, 1) := by decide +kernel
theorem dX0_triangleBeyond_0 : decode cX0_triangleBeyond 0 = .ok (.aload_n 0, 1) := by decide +kernel
theorem dX0_triangleBeyond_1 : decode cX0_triangleBeyond 1 = .ok (.iload_n 1, 1) := by decide +kernel
theorem dX0_triangleBeyond_2 : decode cX0_triangleBeyond 2 = .ok (.iload_n 2, 1) := by decide +kernel
theorem dX0_triangleBeyond_3 : decode cX0_triangleBeyond 3 = .ok (.iconst 1, 1) := by decide +kernel
theorem dX0_triangleBeyond_4 : decode cX0_triangleBeyond 4 = .ok (.iadd, 1) := by decide +kernel
theorem dX0_triangleBeyond_5 : decode cX0_triangleBeyond 5 = .ok (.iconst 3, 1) := by decide +kernel
theorem dX0_triangleBeyond_6 : decode cX0_triangleBeyond 6 = .ok (.irem, 1) := by decide +kernel
theorem dX0_triangleBeyond_7 : decode cX0_triangleBeyond 7 = .ok (.invokevirtual 38, 3) := by decide +kernel
theorem dX0_triangleBeyond_10 : decode cX0_triangleBeyond 10 = .ok (.istore_n 3, 1) := by decide +kernel
theorem dX0_triangleBeyond_11 : decode cX0_triangleBeyond 11 = .ok (.aload_n 0, 1) := by decide +kernel
theorem dX0_triangleBeyond_12 : decode cX0_triangleBeyond 12 = .ok (.iload_n 1, 1) := by decide +kernel
theorem dX0_triangleBeyond_13 : decode cX0_triangleBeyond 13 = .ok (.iload_n 2, 1) := by decide +kernel
theorem dX0_triangleBeyond_14 : decode cX0_triangleBeyond 14 = .ok (.iconst 2, 1) := by decide +kernel
theorem dX0_triangleBeyond_15 : decode cX0_triangleBeyond 15 = .ok (.iadd, 1) := by decide +kernel
theorem dX0_triangleBeyond_16 : decode cX0_triangleBeyond 16 = .ok (.iconst 3, 1) := by decide +kernel
theorem dX0_triangleBeyond_17 : decode cX0_triangleBeyond 17 = .ok (.irem, 1) := by decide +kernel
theorem dX0_triangleBeyond_18 : decode cX0_triangleBeyond 18 = .ok (.invokevirtual 38, 3) := by decide +kernel
theorem dX0_triangleBeyond_21 : decode cX0_triangleBeyond 21 = .ok (.istore 4, 2) := by decide +kernel
theorem dX0_triangleBeyond_23 : decode cX0_triangleBeyond 23 = .ok (.aload_n 0, 1) := by decide +kernel
theorem dX0_triangleBeyond_24 : decode cX0_triangleBeyond 24 = .ok (.iload 4, 2) := by decide +kernel
theorem dX0_triangleBeyond_26 : decode cX0_triangleBeyond 26 = .ok (.iload_n 3, 1) := by decide +kernel
theorem dX0_triangleBeyond_27 : decode cX0_triangleBeyond 27 = .ok (.invokevirtual 42, 3) := by decide +kernel
theorem dX0_triangleBeyond_30 : decode cX0_triangleBeyond 30 = .ok (.istore 5, 2) := by decide +kernel
theorem dX0_triangleBeyond_32 : decode cX0_triangleBeyond 32 = .ok (.iload 5, 2) := by decide +kernel
theorem dX0_triangleBeyond_34 : decode cX0_triangleBeyond 34 = .ok (.ifCond .ge 7, 3) := by decide +kernel
theorem dX0_triangleBeyond_37 : decode cX0_triangleBeyond 37 = .ok (.iconst (-1), 1) := by decide +kernel
theorem dX0_triangleBeyond_38 : decode cX0_triangleBeyond 38 = .ok (.goto 15, 3) := by decide +kernel
theorem dX0_triangleBeyond_41 : decode cX0_triangleBeyond 41 = .ok (.aload_n 0, 1) := by decide +kernel
theorem dX0_triangleBeyond_42 : decode cX0_triangleBeyond 42 = .ok (.iload 4, 2) := by decide +kernel
theorem dX0_triangleBeyond_44 : decode cX0_triangleBeyond 44 = .ok (.iload_n 3, 1) := by decide +kernel
theorem dX0_triangleBeyond_45 : decode cX0_triangleBeyond 45 = .ok (.iload 5, 2) := by decide +kernel
theorem dX0_triangleBeyond_47 : decode cX0_triangleBeyond 47 = .ok (.invokestatic 45, 3) := by decide +kernel
theorem dX0_triangleBeyond_50 : decode cX0_triangleBeyond 50 = .ok (.invokevirtual 49, 3) := by decide +kernel
theorem dX0_triangleBeyond_53 : decode cX0_triangleBeyond 53 = .ok (.ireturn, 1) := by decide +kernel
theorem dX0_trianglesAt_0 : decode cX0_trianglesAt 0 = .ok (.iconst 0, 1) := by decide +kernel
theorem dX0_trianglesAt_1 : decode cX0_trianglesAt 1 = .ok (.istore_n 2, 1) := by decide +kernel
theorem dX0_trianglesAt_2 : decode cX0_trianglesAt 2 = .ok (.iconst 0, 1) := by decide +kernel
theorem dX0_trianglesAt_3 : decode cX0_trianglesAt 3 = .ok (.istore_n 3, 1) := by decide +kernel
theorem dX0_trianglesAt_4 : decode cX0_trianglesAt 4 = .ok (.iload_n 3, 1) := by decide +kernel
theorem dX0_trianglesAt_5 : decode cX0_trianglesAt 5 = .ok (.bipush 40, 2) := by decide +kernel
theorem dX0_trianglesAt_7 : decode cX0_trianglesAt 7 = .ok (.if_icmp .ge 21, 3) := by decide +kernel
theorem dX0_trianglesAt_10 : decode cX0_trianglesAt 10 = .ok (.aload_n 0, 1) := by decide +kernel
theorem dX0_trianglesAt_11 : decode cX0_trianglesAt 11 = .ok (.iload_n 1, 1) := by decide +kernel
theorem dX0_trianglesAt_12 : decode cX0_trianglesAt 12 = .ok (.iload_n 3, 1) := by decide +kernel
theorem dX0_trianglesAt_13 : decode cX0_trianglesAt 13 = .ok (.invokevirtual 42, 3) := by decide +kernel
theorem dX0_trianglesAt_16 : decode cX0_trianglesAt 16 = .ok (.ifCond .lt 6, 3) := by decide +kernel
theorem dX0_trianglesAt_19 : decode cX0_trianglesAt 19 = .ok (.iinc 2 1, 3) := by decide +kernel
theorem dX0_trianglesAt_22 : decode cX0_trianglesAt 22 = .ok (.iinc 3 1, 3) := by decide +kernel
theorem dX0_trianglesAt_25 : decode cX0_trianglesAt 25 = .ok (.goto (-21), 3) := by decide +kernel
theorem dX0_trianglesAt_28 : decode cX0_trianglesAt 28 = .ok (.iload_n 2, 1) := by decide +kernel
theorem dX0_trianglesAt_29 : decode cX0_trianglesAt 29 = .ok (.ireturn, 1) := by decide +kernel
theorem dX0_hasSide_0 : decode cX0_hasSide 0 = .ok (.aload_n 0, 1) := by decide +kernel
theorem dX0_hasSide_1 : decode cX0_hasSide 1 = .ok (.iload_n 1, 1) := by decide +kernel
theorem dX0_hasSide_2 : decode cX0_hasSide 2 = .ok (.iload_n 2, 1) := by decide +kernel
theorem dX0_hasSide_3 : decode cX0_hasSide 3 = .ok (.invokevirtual 42, 3) := by decide +kernel
theorem dX0_hasSide_6 : decode cX0_hasSide 6 = .ok (.ifCond .ge 12, 3) := by decide +kernel
theorem dX0_hasSide_9 : decode cX0_hasSide 9 = .ok (.aload_n 0, 1) := by decide +kernel
theorem dX0_hasSide_10 : decode cX0_hasSide 10 = .ok (.iload_n 2, 1) := by decide +kernel
theorem dX0_hasSide_11 : decode cX0_hasSide 11 = .ok (.iload_n 1, 1) := by decide +kernel
theorem dX0_hasSide_12 : decode cX0_hasSide 12 = .ok (.invokevirtual 42, 3) := by decide +kernel
theorem dX0_hasSide_15 : decode cX0_hasSide 15 = .ok (.ifCond .lt 7, 3) := by decide +kernel
theorem dX0_hasSide_18 : decode cX0_hasSide 18 = .ok (.iconst 1, 1) := by decide +kernel
theorem dX0_hasSide_19 : decode cX0_hasSide 19 = .ok (.goto 4, 3) := by decide +kernel
theorem dX0_hasSide_22 : decode cX0_hasSide 22 = .ok (.iconst 0, 1) := by decide +kernel
theorem dX0_hasSide_23 : decode cX0_hasSide 23 = .ok (.ireturn, 1) := by decide +kernel
theorem dX0_covers_0 : decode cX0_covers 0 = .ok (.aload_n 0, 1) := by decide +kernel
theorem dX0_covers_1 : decode cX0_covers 1 = .ok (.iload_n 1, 1) := by decide +kernel
theorem dX0_covers_2 : decode cX0_covers 2 = .ok (.iconst 0, 1) := by decide +kernel
theorem dX0_covers_3 : decode cX0_covers 3 = .ok (.invokevirtual 38, 3) := by decide +kernel
theorem dX0_covers_6 : decode cX0_covers 6 = .ok (.istore 4, 2) := by decide +kernel
theorem dX0_covers_8 : decode cX0_covers 8 = .ok (.aload_n 0, 1) := by decide +kernel
theorem dX0_covers_9 : decode cX0_covers 9 = .ok (.iload_n 1, 1) := by decide +kernel
theorem dX0_covers_10 : decode cX0_covers 10 = .ok (.iconst 1, 1) := by decide +kernel
theorem dX0_covers_11 : decode cX0_covers 11 = .ok (.invokevirtual 38, 3) := by decide +kernel
theorem dX0_covers_14 : decode cX0_covers 14 = .ok (.istore 5, 2) := by decide +kernel
theorem dX0_covers_16 : decode cX0_covers 16 = .ok (.aload_n 0, 1) := by decide +kernel
theorem dX0_covers_17 : decode cX0_covers 17 = .ok (.iload_n 1, 1) := by decide +kernel
theorem dX0_covers_18 : decode cX0_covers 18 = .ok (.iconst 2, 1) := by decide +kernel
theorem dX0_covers_19 : decode cX0_covers 19 = .ok (.invokevirtual 38, 3) := by decide +kernel
theorem dX0_covers_22 : decode cX0_covers 22 = .ok (.istore 6, 2) := by decide +kernel
theorem dX0_covers_24 : decode cX0_covers 24 = .ok (.aload_n 0, 1) := by decide +kernel
theorem dX0_covers_25 : decode cX0_covers 25 = .ok (.getfield 24, 3) := by decide +kernel
theorem dX0_covers_28 : decode cX0_covers 28 = .ok (.iload 4, 2) := by decide +kernel
theorem dX0_covers_30 : decode cX0_covers 30 = .ok (.iload 5, 2) := by decide +kernel
theorem dX0_covers_32 : decode cX0_covers 32 = .ok (.iload_n 2, 1) := by decide +kernel
theorem dX0_covers_33 : decode cX0_covers 33 = .ok (.iload_n 3, 1) := by decide +kernel
theorem dX0_covers_34 : decode cX0_covers 34 = .ok (.invokevirtual 53, 3) := by decide +kernel
theorem dX0_covers_37 : decode cX0_covers 37 = .ok (.lconst 0, 1) := by decide +kernel
theorem dX0_covers_38 : decode cX0_covers 38 = .ok (.lcmp, 1) := by decide +kernel
theorem dX0_covers_39 : decode cX0_covers 39 = .ok (.ifCond .lt 43, 3) := by decide +kernel
theorem dX0_covers_42 : decode cX0_covers 42 = .ok (.aload_n 0, 1) := by decide +kernel
theorem dX0_covers_43 : decode cX0_covers 43 = .ok (.getfield 24, 3) := by decide +kernel
theorem dX0_covers_46 : decode cX0_covers 46 = .ok (.iload 5, 2) := by decide +kernel
theorem dX0_covers_48 : decode cX0_covers 48 = .ok (.iload 6, 2) := by decide +kernel
theorem dX0_covers_50 : decode cX0_covers 50 = .ok (.iload_n 2, 1) := by decide +kernel
theorem dX0_covers_51 : decode cX0_covers 51 = .ok (.iload_n 3, 1) := by decide +kernel
theorem dX0_covers_52 : decode cX0_covers 52 = .ok (.invokevirtual 53, 3) := by decide +kernel
theorem dX0_covers_55 : decode cX0_covers 55 = .ok (.lconst 0, 1) := by decide +kernel
theorem dX0_covers_56 : decode cX0_covers 56 = .ok (.lcmp, 1) := by decide +kernel
theorem dX0_covers_57 : decode cX0_covers 57 = .ok (.ifCond .lt 25, 3) := by decide +kernel
theorem dX0_covers_60 : decode cX0_covers 60 = .ok (.aload_n 0, 1) := by decide +kernel
theorem dX0_covers_61 : decode cX0_covers 61 = .ok (.getfield 24, 3) := by decide +kernel
theorem dX0_covers_64 : decode cX0_covers 64 = .ok (.iload 6, 2) := by decide +kernel
theorem dX0_covers_66 : decode cX0_covers 66 = .ok (.iload 4, 2) := by decide +kernel
theorem dX0_covers_68 : decode cX0_covers 68 = .ok (.iload_n 2, 1) := by decide +kernel
theorem dX0_covers_69 : decode cX0_covers 69 = .ok (.iload_n 3, 1) := by decide +kernel
theorem dX0_covers_70 : decode cX0_covers 70 = .ok (.invokevirtual 53, 3) := by decide +kernel
theorem dX0_covers_73 : decode cX0_covers 73 = .ok (.lconst 0, 1) := by decide +kernel
theorem dX0_covers_74 : decode cX0_covers 74 = .ok (.lcmp, 1) := by decide +kernel
theorem dX0_covers_75 : decode cX0_covers 75 = .ok (.ifCond .lt 7, 3) := by decide +kernel
theorem dX0_covers_78 : decode cX0_covers 78 = .ok (.iconst 1, 1) := by decide +kernel
theorem dX0_covers_79 : decode cX0_covers 79 = .ok (.goto 4, 3) := by decide +kernel
theorem dX0_covers_82 : decode cX0_covers 82 = .ok (.iconst 0, 1) := by decide +kernel
theorem dX0_covers_83 : decode cX0_covers 83 = .ok (.ireturn, 1) := by decide +kernel
theorem dX0_indexOfCode_0 : decode cX0_indexOfCode 0 = .ok (.iconst 0, 1) := by decide +kernel
theorem dX0_indexOfCode_1 : decode cX0_indexOfCode 1 = .ok (.istore_n 2, 1) := by decide +kernel
theorem dX0_indexOfCode_2 : decode cX0_indexOfCode 2 = .ok (.iload_n 2, 1) := by decide +kernel
theorem dX0_indexOfCode_3 : decode cX0_indexOfCode 3 = .ok (.aload_n 0, 1) := by decide +kernel
theorem dX0_indexOfCode_4 : decode cX0_indexOfCode 4 = .ok (.getfield 34, 3) := by decide +kernel
theorem dX0_indexOfCode_7 : decode cX0_indexOfCode 7 = .ok (.if_icmp .ge 21, 3) := by decide +kernel
theorem dX0_indexOfCode_10 : decode cX0_indexOfCode 10 = .ok (.aload_n 0, 1) := by decide +kernel
theorem dX0_indexOfCode_11 : decode cX0_indexOfCode 11 = .ok (.getfield 9, 3) := by decide +kernel
theorem dX0_indexOfCode_14 : decode cX0_indexOfCode 14 = .ok (.iload_n 2, 1) := by decide +kernel
theorem dX0_indexOfCode_15 : decode cX0_indexOfCode 15 = .ok (.iaload, 1) := by decide +kernel
theorem dX0_indexOfCode_16 : decode cX0_indexOfCode 16 = .ok (.iload_n 1, 1) := by decide +kernel
theorem dX0_indexOfCode_17 : decode cX0_indexOfCode 17 = .ok (.if_icmp .ne 5, 3) := by decide +kernel
theorem dX0_indexOfCode_20 : decode cX0_indexOfCode 20 = .ok (.iload_n 2, 1) := by decide +kernel
theorem dX0_indexOfCode_21 : decode cX0_indexOfCode 21 = .ok (.ireturn, 1) := by decide +kernel
theorem dX0_indexOfCode_22 : decode cX0_indexOfCode 22 = .ok (.iinc 2 1, 3) := by decide +kernel
theorem dX0_indexOfCode_25 : decode cX0_indexOfCode 25 = .ok (.goto (-23), 3) := by decide +kernel
theorem dX0_indexOfCode_28 : decode cX0_indexOfCode 28 = .ok (.iconst (-1), 1) := by decide +kernel
theorem dX0_indexOfCode_29 : decode cX0_indexOfCode 29 = .ok (.ireturn, 1) := by decide +kernel
theorem dX0_layOut_0 : decode cX0_layOut 0 = .ok (.aload_n 0, 1) := by decide +kernel
theorem dX0_layOut_1 : decode cX0_layOut 1 = .ok (.iconst 0, 1) := by decide +kernel
theorem dX0_layOut_2 : decode cX0_layOut 2 = .ok (.putfield 34, 3) := by decide +kernel
theorem dX0_layOut_5 : decode cX0_layOut 5 = .ok (.aload_n 0, 1) := by decide +kernel
theorem dX0_layOut_6 : decode cX0_layOut 6 = .ok (.getfield 15, 3) := by decide +kernel
theorem dX0_layOut_9 : decode cX0_layOut 9 = .ok (.iconst (-1), 1) := by decide +kernel
theorem dX0_layOut_10 : decode cX0_layOut 10 = .ok (.invokestatic 28, 3) := by decide +kernel
theorem dX0_layOut_13 : decode cX0_layOut 13 = .ok (.aload_n 0, 1) := by decide +kernel
theorem dX0_layOut_14 : decode cX0_layOut 14 = .ok (.getfield 24, 3) := by decide +kernel
theorem dX0_layOut_17 : decode cX0_layOut 17 = .ok (.invokevirtual 59, 3) := by decide +kernel
theorem dX0_layOut_20 : decode cX0_layOut 20 = .ok (.istore_n 1, 1) := by decide +kernel
theorem dX0_layOut_21 : decode cX0_layOut 21 = .ok (.iload_n 1, 1) := by decide +kernel
theorem dX0_layOut_22 : decode cX0_layOut 22 = .ok (.aload_n 0, 1) := by decide +kernel
theorem dX0_layOut_23 : decode cX0_layOut 23 = .ok (.getfield 24, 3) := by decide +kernel
theorem dX0_layOut_26 : decode cX0_layOut 26 = .ok (.getfield 63, 3) := by decide +kernel
theorem dX0_layOut_29 : decode cX0_layOut 29 = .ok (.if_icmp .lt 4, 3) := by decide +kernel
theorem dX0_layOut_32 : decode cX0_layOut 32 = .ok (.return_, 1) := by decide +kernel
theorem dX0_layOut_33 : decode cX0_layOut 33 = .ok (.aload_n 0, 1) := by decide +kernel
theorem dX0_layOut_34 : decode cX0_layOut 34 = .ok (.iload_n 1, 1) := by decide +kernel
theorem dX0_layOut_35 : decode cX0_layOut 35 = .ok (.invokevirtual 66, 3) := by decide +kernel
theorem dX0_layOut_38 : decode cX0_layOut 38 = .ok (.iload_n 1, 1) := by decide +kernel
theorem dX0_layOut_39 : decode cX0_layOut 39 = .ok (.iconst 1, 1) := by decide +kernel
theorem dX0_layOut_40 : decode cX0_layOut 40 = .ok (.iadd, 1) := by decide +kernel
theorem dX0_layOut_41 : decode cX0_layOut 41 = .ok (.istore_n 2, 1) := by decide +kernel
theorem dX0_layOut_42 : decode cX0_layOut 42 = .ok (.iload_n 2, 1) := by decide +kernel
theorem dX0_layOut_43 : decode cX0_layOut 43 = .ok (.aload_n 0, 1) := by decide +kernel
theorem dX0_layOut_44 : decode cX0_layOut 44 = .ok (.getfield 24, 3) := by decide +kernel
theorem dX0_layOut_47 : decode cX0_layOut 47 = .ok (.getfield 63, 3) := by decide +kernel
theorem dX0_layOut_50 : decode cX0_layOut 50 = .ok (.if_icmp .ge 33, 3) := by decide +kernel
theorem dX0_layOut_53 : decode cX0_layOut 53 = .ok (.aload_n 0, 1) := by decide +kernel
theorem dX0_layOut_54 : decode cX0_layOut 54 = .ok (.aload_n 0, 1) := by decide +kernel
theorem dX0_layOut_55 : decode cX0_layOut 55 = .ok (.getfield 24, 3) := by decide +kernel
theorem dX0_layOut_58 : decode cX0_layOut 58 = .ok (.getfield 70, 3) := by decide +kernel
theorem dX0_layOut_61 : decode cX0_layOut 61 = .ok (.iload_n 2, 1) := by decide +kernel
theorem dX0_layOut_62 : decode cX0_layOut 62 = .ok (.iconst 1, 1) := by decide +kernel
theorem dX0_layOut_63 : decode cX0_layOut 63 = .ok (.isub, 1) := by decide +kernel
theorem dX0_layOut_64 : decode cX0_layOut 64 = .ok (.iaload, 1) := by decide +kernel
theorem dX0_layOut_65 : decode cX0_layOut 65 = .ok (.aload_n 0, 1) := by decide +kernel
theorem dX0_layOut_66 : decode cX0_layOut 66 = .ok (.getfield 24, 3) := by decide +kernel
theorem dX0_layOut_69 : decode cX0_layOut 69 = .ok (.getfield 70, 3) := by decide +kernel
theorem dX0_layOut_72 : decode cX0_layOut 72 = .ok (.iload_n 2, 1) := by decide +kernel
theorem dX0_layOut_73 : decode cX0_layOut 73 = .ok (.iaload, 1) := by decide +kernel
theorem dX0_layOut_74 : decode cX0_layOut 74 = .ok (.invokevirtual 73, 3) := by decide +kernel
theorem dX0_layOut_77 : decode cX0_layOut 77 = .ok (.iinc 2 1, 3) := by decide +kernel
theorem dX0_layOut_80 : decode cX0_layOut 80 = .ok (.goto (-38), 3) := by decide +kernel
theorem dX0_layOut_83 : decode cX0_layOut 83 = .ok (.return_, 1) := by decide +kernel
theorem dX0_layFirst_0 : decode cX0_layFirst 0 = .ok (.aload_n 0, 1) := by decide +kernel
theorem dX0_layFirst_1 : decode cX0_layFirst 1 = .ok (.getfield 24, 3) := by decide +kernel
theorem dX0_layFirst_4 : decode cX0_layFirst 4 = .ok (.getfield 70, 3) := by decide +kernel
theorem dX0_layFirst_7 : decode cX0_layFirst 7 = .ok (.astore_n 2, 1) := by decide +kernel
theorem dX0_layFirst_8 : decode cX0_layFirst 8 = .ok (.aload_n 2, 1) := by decide +kernel
theorem dX0_layFirst_9 : decode cX0_layFirst 9 = .ok (.iload_n 1, 1) := by decide +kernel
theorem dX0_layFirst_10 : decode cX0_layFirst 10 = .ok (.iaload, 1) := by decide +kernel
theorem dX0_layFirst_11 : decode cX0_layFirst 11 = .ok (.istore_n 3, 1) := by decide +kernel
theorem dX0_layFirst_12 : decode cX0_layFirst 12 = .ok (.aload_n 2, 1) := by decide +kernel
theorem dX0_layFirst_13 : decode cX0_layFirst 13 = .ok (.iconst 0, 1) := by decide +kernel
theorem dX0_layFirst_14 : decode cX0_layFirst 14 = .ok (.iaload, 1) := by decide +kernel
theorem dX0_layFirst_15 : decode cX0_layFirst 15 = .ok (.istore 4, 2) := by decide +kernel
theorem dX0_layFirst_17 : decode cX0_layFirst 17 = .ok (.aload_n 2, 1) := by decide +kernel
theorem dX0_layFirst_18 : decode cX0_layFirst 18 = .ok (.iload_n 1, 1) := by decide +kernel
theorem dX0_layFirst_19 : decode cX0_layFirst 19 = .ok (.iconst 1, 1) := by decide +kernel
theorem dX0_layFirst_20 : decode cX0_layFirst 20 = .ok (.isub, 1) := by decide +kernel
theorem dX0_layFirst_21 : decode cX0_layFirst 21 = .ok (.iaload, 1) := by decide +kernel
theorem dX0_layFirst_22 : decode cX0_layFirst 22 = .ok (.istore 5, 2) := by decide +kernel
theorem dX0_layFirst_24 : decode cX0_layFirst 24 = .ok (.aload_n 0, 1) := by decide +kernel
theorem dX0_layFirst_25 : decode cX0_layFirst 25 = .ok (.getfield 24, 3) := by decide +kernel
theorem dX0_layFirst_28 : decode cX0_layFirst 28 = .ok (.iload 4, 2) := by decide +kernel
theorem dX0_layFirst_30 : decode cX0_layFirst 30 = .ok (.iload 5, 2) := by decide +kernel
theorem dX0_layFirst_32 : decode cX0_layFirst 32 = .ok (.iload_n 3, 1) := by decide +kernel
theorem dX0_layFirst_33 : decode cX0_layFirst 33 = .ok (.invokevirtual 77, 3) := by decide +kernel
theorem dX0_layFirst_36 : decode cX0_layFirst 36 = .ok (.lconst 0, 1) := by decide +kernel
theorem dX0_layFirst_37 : decode cX0_layFirst 37 = .ok (.lcmp, 1) := by decide +kernel
theorem dX0_layFirst_38 : decode cX0_layFirst 38 = .ok (.ifCond .le 7, 3) := by decide +kernel
theorem dX0_layFirst_41 : decode cX0_layFirst 41 = .ok (.iconst 1, 1) := by decide +kernel
theorem dX0_layFirst_42 : decode cX0_layFirst 42 = .ok (.goto 4, 3) := by decide +kernel
theorem dX0_layFirst_45 : decode cX0_layFirst 45 = .ok (.iconst 0, 1) := by decide +kernel
theorem dX0_layFirst_46 : decode cX0_layFirst 46 = .ok (.istore 6, 2) := by decide +kernel
theorem dX0_layFirst_48 : decode cX0_layFirst 48 = .ok (.iconst 1, 1) := by decide +kernel
theorem dX0_layFirst_49 : decode cX0_layFirst 49 = .ok (.istore 7, 2) := by decide +kernel
theorem dX0_layFirst_51 : decode cX0_layFirst 51 = .ok (.iload 7, 2) := by decide +kernel
theorem dX0_layFirst_53 : decode cX0_layFirst 53 = .ok (.iload_n 1, 1) := by decide +kernel
theorem dX0_layFirst_54 : decode cX0_layFirst 54 = .ok (.if_icmp .ge 66, 3) := by decide +kernel
theorem dX0_layFirst_57 : decode cX0_layFirst 57 = .ok (.iload 6, 2) := by decide +kernel
theorem dX0_layFirst_59 : decode cX0_layFirst 59 = .ok (.ifCond .eq 12, 3) := by decide +kernel
theorem dX0_layFirst_62 : decode cX0_layFirst 62 = .ok (.aload_n 2, 1) := by decide +kernel
theorem dX0_layFirst_63 : decode cX0_layFirst 63 = .ok (.iload 7, 2) := by decide +kernel
theorem dX0_layFirst_65 : decode cX0_layFirst 65 = .ok (.iconst 1, 1) := by decide +kernel
theorem dX0_layFirst_66 : decode cX0_layFirst 66 = .ok (.isub, 1) := by decide +kernel
theorem dX0_layFirst_67 : decode cX0_layFirst 67 = .ok (.iaload, 1) := by decide +kernel
theorem dX0_layFirst_68 : decode cX0_layFirst 68 = .ok (.goto 7, 3) := by decide +kernel
theorem dX0_layFirst_71 : decode cX0_layFirst 71 = .ok (.aload_n 2, 1) := by decide +kernel
theorem dX0_layFirst_72 : decode cX0_layFirst 72 = .ok (.iload 7, 2) := by decide +kernel
theorem dX0_layFirst_74 : decode cX0_layFirst 74 = .ok (.iaload, 1) := by decide +kernel
theorem dX0_layFirst_75 : decode cX0_layFirst 75 = .ok (.istore 8, 2) := by decide +kernel
theorem dX0_layFirst_77 : decode cX0_layFirst 77 = .ok (.iload 6, 2) := by decide +kernel
theorem dX0_layFirst_79 : decode cX0_layFirst 79 = .ok (.ifCond .eq 10, 3) := by decide +kernel
theorem dX0_layFirst_82 : decode cX0_layFirst 82 = .ok (.aload_n 2, 1) := by decide +kernel
theorem dX0_layFirst_83 : decode cX0_layFirst 83 = .ok (.iload 7, 2) := by decide +kernel
theorem dX0_layFirst_85 : decode cX0_layFirst 85 = .ok (.iaload, 1) := by decide +kernel
theorem dX0_layFirst_86 : decode cX0_layFirst 86 = .ok (.goto 9, 3) := by decide +kernel
theorem dX0_layFirst_89 : decode cX0_layFirst 89 = .ok (.aload_n 2, 1) := by decide +kernel
theorem dX0_layFirst_90 : decode cX0_layFirst 90 = .ok (.iload 7, 2) := by decide +kernel
theorem dX0_layFirst_92 : decode cX0_layFirst 92 = .ok (.iconst 1, 1) := by decide +kernel
theorem dX0_layFirst_93 : decode cX0_layFirst 93 = .ok (.isub, 1) := by decide +kernel
theorem dX0_layFirst_94 : decode cX0_layFirst 94 = .ok (.iaload, 1) := by decide +kernel
theorem dX0_layFirst_95 : decode cX0_layFirst 95 = .ok (.istore 9, 2) := by decide +kernel
theorem dX0_layFirst_97 : decode cX0_layFirst 97 = .ok (.aload_n 0, 1) := by decide +kernel
theorem dX0_layFirst_98 : decode cX0_layFirst 98 = .ok (.iload 8, 2) := by decide +kernel
theorem dX0_layFirst_100 : decode cX0_layFirst 100 = .ok (.iload 9, 2) := by decide +kernel
theorem dX0_layFirst_102 : decode cX0_layFirst 102 = .ok (.iload_n 3, 1) := by decide +kernel
theorem dX0_layFirst_103 : decode cX0_layFirst 103 = .ok (.invokevirtual 81, 3) := by decide +kernel
theorem dX0_layFirst_106 : decode cX0_layFirst 106 = .ok (.aload_n 0, 1) := by decide +kernel
theorem dX0_layFirst_107 : decode cX0_layFirst 107 = .ok (.iload 8, 2) := by decide +kernel
theorem dX0_layFirst_109 : decode cX0_layFirst 109 = .ok (.iload 9, 2) := by decide +kernel
theorem dX0_layFirst_111 : decode cX0_layFirst 111 = .ok (.invokevirtual 85, 3) := by decide +kernel
theorem dX0_layFirst_114 : decode cX0_layFirst 114 = .ok (.iinc 7 1, 3) := by decide +kernel
theorem dX0_layFirst_117 : decode cX0_layFirst 117 = .ok (.goto (-66), 3) := by decide +kernel
theorem dX0_layFirst_120 : decode cX0_layFirst 120 = .ok (.aload_n 0, 1) := by decide +kernel
theorem dX0_layFirst_121 : decode cX0_layFirst 121 = .ok (.iload 6, 2) := by decide +kernel
theorem dX0_layFirst_123 : decode cX0_layFirst 123 = .ok (.ifCond .eq 8, 3) := by decide +kernel
theorem dX0_layFirst_126 : decode cX0_layFirst 126 = .ok (.iload 5, 2) := by decide +kernel
theorem dX0_layFirst_128 : decode cX0_layFirst 128 = .ok (.goto 5, 3) := by decide +kernel
theorem dX0_layFirst_131 : decode cX0_layFirst 131 = .ok (.iload 4, 2) := by decide +kernel
theorem dX0_layFirst_133 : decode cX0_layFirst 133 = .ok (.iload_n 3, 1) := by decide +kernel
theorem dX0_layFirst_134 : decode cX0_layFirst 134 = .ok (.invokevirtual 85, 3) := by decide +kernel
theorem dX0_layFirst_137 : decode cX0_layFirst 137 = .ok (.aload_n 0, 1) := by decide +kernel
theorem dX0_layFirst_138 : decode cX0_layFirst 138 = .ok (.iload_n 3, 1) := by decide +kernel
theorem dX0_layFirst_139 : decode cX0_layFirst 139 = .ok (.iload 6, 2) := by decide +kernel
theorem dX0_layFirst_141 : decode cX0_layFirst 141 = .ok (.ifCond .eq 8, 3) := by decide +kernel
theorem dX0_layFirst_144 : decode cX0_layFirst 144 = .ok (.iload 4, 2) := by decide +kernel
theorem dX0_layFirst_146 : decode cX0_layFirst 146 = .ok (.goto 5, 3) := by decide +kernel
theorem dX0_layFirst_149 : decode cX0_layFirst 149 = .ok (.iload 5, 2) := by decide +kernel
theorem dX0_layFirst_151 : decode cX0_layFirst 151 = .ok (.invokevirtual 85, 3) := by decide +kernel
theorem dX0_layFirst_154 : decode cX0_layFirst 154 = .ok (.return_, 1) := by decide +kernel
theorem dX0_layNext_0 : decode cX0_layNext 0 = .ok (.iload_n 1, 1) := by decide +kernel
theorem dX0_layNext_1 : decode cX0_layNext 1 = .ok (.istore_n 3, 1) := by decide +kernel
theorem dX0_layNext_2 : decode cX0_layNext 2 = .ok (.iconst 0, 1) := by decide +kernel
theorem dX0_layNext_3 : decode cX0_layNext 3 = .ok (.istore 4, 2) := by decide +kernel
theorem dX0_layNext_5 : decode cX0_layNext 5 = .ok (.iload 4, 2) := by decide +kernel
theorem dX0_layNext_7 : decode cX0_layNext 7 = .ok (.bipush 40, 2) := by decide +kernel
theorem dX0_layNext_9 : decode cX0_layNext 9 = .ok (.if_icmp .ge 48, 3) := by decide +kernel
theorem dX0_layNext_12 : decode cX0_layNext 12 = .ok (.aload_n 0, 1) := by decide +kernel
theorem dX0_layNext_13 : decode cX0_layNext 13 = .ok (.getfield 24, 3) := by decide +kernel
theorem dX0_layNext_16 : decode cX0_layNext 16 = .ok (.iload_n 3, 1) := by decide +kernel
theorem dX0_layNext_17 : decode cX0_layNext 17 = .ok (.aload_n 0, 1) := by decide +kernel
theorem dX0_layNext_18 : decode cX0_layNext 18 = .ok (.getfield 18, 3) := by decide +kernel
theorem dX0_layNext_21 : decode cX0_layNext 21 = .ok (.iload_n 3, 1) := by decide +kernel
theorem dX0_layNext_22 : decode cX0_layNext 22 = .ok (.iaload, 1) := by decide +kernel
theorem dX0_layNext_23 : decode cX0_layNext 23 = .ok (.iload_n 2, 1) := by decide +kernel
theorem dX0_layNext_24 : decode cX0_layNext 24 = .ok (.invokevirtual 77, 3) := by decide +kernel
theorem dX0_layNext_27 : decode cX0_layNext 27 = .ok (.lconst 0, 1) := by decide +kernel
theorem dX0_layNext_28 : decode cX0_layNext 28 = .ok (.lcmp, 1) := by decide +kernel
theorem dX0_layNext_29 : decode cX0_layNext 29 = .ok (.ifCond .ge 28, 3) := by decide +kernel
theorem dX0_layNext_32 : decode cX0_layNext 32 = .ok (.aload_n 0, 1) := by decide +kernel
theorem dX0_layNext_33 : decode cX0_layNext 33 = .ok (.iload_n 3, 1) := by decide +kernel
theorem dX0_layNext_34 : decode cX0_layNext 34 = .ok (.iload_n 2, 1) := by decide +kernel
theorem dX0_layNext_35 : decode cX0_layNext 35 = .ok (.aload_n 0, 1) := by decide +kernel
theorem dX0_layNext_36 : decode cX0_layNext 36 = .ok (.getfield 18, 3) := by decide +kernel
theorem dX0_layNext_39 : decode cX0_layNext 39 = .ok (.iload_n 3, 1) := by decide +kernel
theorem dX0_layNext_40 : decode cX0_layNext 40 = .ok (.iaload, 1) := by decide +kernel
theorem dX0_layNext_41 : decode cX0_layNext 41 = .ok (.invokevirtual 81, 3) := by decide +kernel
theorem dX0_layNext_44 : decode cX0_layNext 44 = .ok (.aload_n 0, 1) := by decide +kernel
theorem dX0_layNext_45 : decode cX0_layNext 45 = .ok (.getfield 18, 3) := by decide +kernel
theorem dX0_layNext_48 : decode cX0_layNext 48 = .ok (.iload_n 3, 1) := by decide +kernel
theorem dX0_layNext_49 : decode cX0_layNext 49 = .ok (.iaload, 1) := by decide +kernel
theorem dX0_layNext_50 : decode cX0_layNext 50 = .ok (.istore_n 3, 1) := by decide +kernel
theorem dX0_layNext_51 : decode cX0_layNext 51 = .ok (.iinc 4 1, 3) := by decide +kernel
theorem dX0_layNext_54 : decode cX0_layNext 54 = .ok (.goto (-49), 3) := by decide +kernel
theorem dX0_layNext_57 : decode cX0_layNext 57 = .ok (.iload_n 1, 1) := by decide +kernel
theorem dX0_layNext_58 : decode cX0_layNext 58 = .ok (.istore 4, 2) := by decide +kernel
theorem dX0_layNext_60 : decode cX0_layNext 60 = .ok (.iconst 0, 1) := by decide +kernel
theorem dX0_layNext_61 : decode cX0_layNext 61 = .ok (.istore 5, 2) := by decide +kernel
theorem dX0_layNext_63 : decode cX0_layNext 63 = .ok (.iload 5, 2) := by decide +kernel
theorem dX0_layNext_65 : decode cX0_layNext 65 = .ok (.bipush 40, 2) := by decide +kernel
theorem dX0_layNext_67 : decode cX0_layNext 67 = .ok (.if_icmp .ge 54, 3) := by decide +kernel
theorem dX0_layNext_70 : decode cX0_layNext 70 = .ok (.aload_n 0, 1) := by decide +kernel
theorem dX0_layNext_71 : decode cX0_layNext 71 = .ok (.getfield 24, 3) := by decide +kernel
theorem dX0_layNext_74 : decode cX0_layNext 74 = .ok (.aload_n 0, 1) := by decide +kernel
theorem dX0_layNext_75 : decode cX0_layNext 75 = .ok (.getfield 21, 3) := by decide +kernel
theorem dX0_layNext_78 : decode cX0_layNext 78 = .ok (.iload 4, 2) := by decide +kernel
theorem dX0_layNext_80 : decode cX0_layNext 80 = .ok (.iaload, 1) := by decide +kernel
theorem dX0_layNext_81 : decode cX0_layNext 81 = .ok (.iload 4, 2) := by decide +kernel
theorem dX0_layNext_83 : decode cX0_layNext 83 = .ok (.iload_n 2, 1) := by decide +kernel
theorem dX0_layNext_84 : decode cX0_layNext 84 = .ok (.invokevirtual 77, 3) := by decide +kernel
theorem dX0_layNext_87 : decode cX0_layNext 87 = .ok (.lconst 0, 1) := by decide +kernel
theorem dX0_layNext_88 : decode cX0_layNext 88 = .ok (.lcmp, 1) := by decide +kernel
theorem dX0_layNext_89 : decode cX0_layNext 89 = .ok (.ifCond .ge 32, 3) := by decide +kernel
theorem dX0_layNext_92 : decode cX0_layNext 92 = .ok (.aload_n 0, 1) := by decide +kernel
theorem dX0_layNext_93 : decode cX0_layNext 93 = .ok (.aload_n 0, 1) := by decide +kernel
theorem dX0_layNext_94 : decode cX0_layNext 94 = .ok (.getfield 21, 3) := by decide +kernel
theorem dX0_layNext_97 : decode cX0_layNext 97 = .ok (.iload 4, 2) := by decide +kernel
theorem dX0_layNext_99 : decode cX0_layNext 99 = .ok (.iaload, 1) := by decide +kernel
theorem dX0_layNext_100 : decode cX0_layNext 100 = .ok (.iload_n 2, 1) := by decide +kernel
theorem dX0_layNext_101 : decode cX0_layNext 101 = .ok (.iload 4, 2) := by decide +kernel
theorem dX0_layNext_103 : decode cX0_layNext 103 = .ok (.invokevirtual 81, 3) := by decide +kernel
theorem dX0_layNext_106 : decode cX0_layNext 106 = .ok (.aload_n 0, 1) := by decide +kernel
theorem dX0_layNext_107 : decode cX0_layNext 107 = .ok (.getfield 21, 3) := by decide +kernel
theorem dX0_layNext_110 : decode cX0_layNext 110 = .ok (.iload 4, 2) := by decide +kernel
theorem dX0_layNext_112 : decode cX0_layNext 112 = .ok (.iaload, 1) := by decide +kernel
theorem dX0_layNext_113 : decode cX0_layNext 113 = .ok (.istore 4, 2) := by decide +kernel
theorem dX0_layNext_115 : decode cX0_layNext 115 = .ok (.iinc 5 1, 3) := by decide +kernel
theorem dX0_layNext_118 : decode cX0_layNext 118 = .ok (.goto (-55), 3) := by decide +kernel
theorem dX0_layNext_121 : decode cX0_layNext 121 = .ok (.aload_n 0, 1) := by decide +kernel
theorem dX0_layNext_122 : decode cX0_layNext 122 = .ok (.iload 4, 2) := by decide +kernel
theorem dX0_layNext_124 : decode cX0_layNext 124 = .ok (.iload_n 2, 1) := by decide +kernel
theorem dX0_layNext_125 : decode cX0_layNext 125 = .ok (.invokevirtual 85, 3) := by decide +kernel
theorem dX0_layNext_128 : decode cX0_layNext 128 = .ok (.aload_n 0, 1) := by decide +kernel
theorem dX0_layNext_129 : decode cX0_layNext 129 = .ok (.iload_n 2, 1) := by decide +kernel
theorem dX0_layNext_130 : decode cX0_layNext 130 = .ok (.iload_n 3, 1) := by decide +kernel
theorem dX0_layNext_131 : decode cX0_layNext 131 = .ok (.invokevirtual 85, 3) := by decide +kernel
theorem dX0_layNext_134 : decode cX0_layNext 134 = .ok (.return_, 1) := by decide +kernel
theorem dX0_linkBorder_0 : decode cX0_linkBorder 0 = .ok (.aload_n 0, 1) := by decide +kernel
theorem dX0_linkBorder_1 : decode cX0_linkBorder 1 = .ok (.getfield 18, 3) := by decide +kernel
theorem dX0_linkBorder_4 : decode cX0_linkBorder 4 = .ok (.iload_n 1, 1) := by decide +kernel
theorem dX0_linkBorder_5 : decode cX0_linkBorder 5 = .ok (.iload_n 2, 1) := by decide +kernel
theorem dX0_linkBorder_6 : decode cX0_linkBorder 6 = .ok (.iastore, 1) := by decide +kernel
theorem dX0_linkBorder_7 : decode cX0_linkBorder 7 = .ok (.aload_n 0, 1) := by decide +kernel
theorem dX0_linkBorder_8 : decode cX0_linkBorder 8 = .ok (.getfield 21, 3) := by decide +kernel
theorem dX0_linkBorder_11 : decode cX0_linkBorder 11 = .ok (.iload_n 2, 1) := by decide +kernel
theorem dX0_linkBorder_12 : decode cX0_linkBorder 12 = .ok (.iload_n 1, 1) := by decide +kernel
theorem dX0_linkBorder_13 : decode cX0_linkBorder 13 = .ok (.iastore, 1) := by decide +kernel
theorem dX0_linkBorder_14 : decode cX0_linkBorder 14 = .ok (.return_, 1) := by decide +kernel
theorem dX0_isBadSide_0 : decode cX0_isBadSide 0 = .ok (.aload_n 0, 1) := by decide +kernel
theorem dX0_isBadSide_1 : decode cX0_isBadSide 1 = .ok (.iload_n 1, 1) := by decide +kernel
theorem dX0_isBadSide_2 : decode cX0_isBadSide 2 = .ok (.iload_n 2, 1) := by decide +kernel
theorem dX0_isBadSide_3 : decode cX0_isBadSide 3 = .ok (.invokevirtual 42, 3) := by decide +kernel
theorem dX0_isBadSide_6 : decode cX0_isBadSide 6 = .ok (.istore_n 3, 1) := by decide +kernel
theorem dX0_isBadSide_7 : decode cX0_isBadSide 7 = .ok (.aload_n 0, 1) := by decide +kernel
theorem dX0_isBadSide_8 : decode cX0_isBadSide 8 = .ok (.iload_n 2, 1) := by decide +kernel
theorem dX0_isBadSide_9 : decode cX0_isBadSide 9 = .ok (.iload_n 1, 1) := by decide +kernel
theorem dX0_isBadSide_10 : decode cX0_isBadSide 10 = .ok (.invokevirtual 42, 3) := by decide +kernel
theorem dX0_isBadSide_13 : decode cX0_isBadSide 13 = .ok (.istore 4, 2) := by decide +kernel
theorem dX0_isBadSide_15 : decode cX0_isBadSide 15 = .ok (.iload_n 3, 1) := by decide +kernel
theorem dX0_isBadSide_16 : decode cX0_isBadSide 16 = .ok (.ifCond .lt 8, 3) := by decide +kernel
theorem dX0_isBadSide_19 : decode cX0_isBadSide 19 = .ok (.iload 4, 2) := by decide +kernel
theorem dX0_isBadSide_21 : decode cX0_isBadSide 21 = .ok (.ifCond .ge 5, 3) := by decide +kernel
theorem dX0_isBadSide_24 : decode cX0_isBadSide 24 = .ok (.iconst 0, 1) := by decide +kernel
theorem dX0_isBadSide_25 : decode cX0_isBadSide 25 = .ok (.ireturn, 1) := by decide +kernel
theorem dX0_isBadSide_26 : decode cX0_isBadSide 26 = .ok (.aload_n 0, 1) := by decide +kernel
theorem dX0_isBadSide_27 : decode cX0_isBadSide 27 = .ok (.getfield 24, 3) := by decide +kernel
theorem dX0_isBadSide_30 : decode cX0_isBadSide 30 = .ok (.iload_n 1, 1) := by decide +kernel
theorem dX0_isBadSide_31 : decode cX0_isBadSide 31 = .ok (.iload_n 2, 1) := by decide +kernel
theorem dX0_isBadSide_32 : decode cX0_isBadSide 32 = .ok (.iload_n 3, 1) := by decide +kernel
theorem dX0_isBadSide_33 : decode cX0_isBadSide 33 = .ok (.iload 4, 2) := by decide +kernel
theorem dX0_isBadSide_35 : decode cX0_isBadSide 35 = .ok (.invokevirtual 88, 3) := by decide +kernel
theorem dX0_isBadSide_38 : decode cX0_isBadSide 38 = .ok (.lstore 5, 2) := by decide +kernel
theorem dX0_isBadSide_40 : decode cX0_isBadSide 40 = .ok (.lload 5, 2) := by decide +kernel
theorem dX0_isBadSide_42 : decode cX0_isBadSide 42 = .ok (.lconst 0, 1) := by decide +kernel
theorem dX0_isBadSide_43 : decode cX0_isBadSide 43 = .ok (.lcmp, 1) := by decide +kernel
theorem dX0_isBadSide_44 : decode cX0_isBadSide 44 = .ok (.ifCond .gt 24, 3) := by decide +kernel
theorem dX0_isBadSide_47 : decode cX0_isBadSide 47 = .ok (.lload 5, 2) := by decide +kernel
theorem dX0_isBadSide_49 : decode cX0_isBadSide 49 = .ok (.lconst 0, 1) := by decide +kernel
theorem dX0_isBadSide_50 : decode cX0_isBadSide 50 = .ok (.lcmp, 1) := by decide +kernel
theorem dX0_isBadSide_51 : decode cX0_isBadSide 51 = .ok (.ifCond .ne 21, 3) := by decide +kernel
theorem dX0_isBadSide_54 : decode cX0_isBadSide 54 = .ok (.iload_n 3, 1) := by decide +kernel
theorem dX0_isBadSide_55 : decode cX0_isBadSide 55 = .ok (.iload 4, 2) := by decide +kernel
theorem dX0_isBadSide_57 : decode cX0_isBadSide 57 = .ok (.invokestatic 91, 3) := by decide +kernel
theorem dX0_isBadSide_60 : decode cX0_isBadSide 60 = .ok (.iload_n 1, 1) := by decide +kernel
theorem dX0_isBadSide_61 : decode cX0_isBadSide 61 = .ok (.iload_n 2, 1) := by decide +kernel
theorem dX0_isBadSide_62 : decode cX0_isBadSide 62 = .ok (.invokestatic 91, 3) := by decide +kernel
theorem dX0_isBadSide_65 : decode cX0_isBadSide 65 = .ok (.if_icmp .ge 7, 3) := by decide +kernel
theorem dX0_isBadSide_68 : decode cX0_isBadSide 68 = .ok (.iconst 1, 1) := by decide +kernel
theorem dX0_isBadSide_69 : decode cX0_isBadSide 69 = .ok (.goto 4, 3) := by decide +kernel
theorem dX0_isBadSide_72 : decode cX0_isBadSide 72 = .ok (.iconst 0, 1) := by decide +kernel
theorem dX0_isBadSide_73 : decode cX0_isBadSide 73 = .ok (.ireturn, 1) := by decide +kernel
theorem dX0_mayFlipSide_0 : decode cX0_mayFlipSide 0 = .ok (.aload_n 0, 1) := by decide +kernel
theorem dX0_mayFlipSide_1 : decode cX0_mayFlipSide 1 = .ok (.iload_n 1, 1) := by decide +kernel
theorem dX0_mayFlipSide_2 : decode cX0_mayFlipSide 2 = .ok (.iload_n 2, 1) := by decide +kernel
theorem dX0_mayFlipSide_3 : decode cX0_mayFlipSide 3 = .ok (.invokevirtual 42, 3) := by decide +kernel
theorem dX0_mayFlipSide_6 : decode cX0_mayFlipSide 6 = .ok (.istore_n 3, 1) := by decide +kernel
theorem dX0_mayFlipSide_7 : decode cX0_mayFlipSide 7 = .ok (.aload_n 0, 1) := by decide +kernel
theorem dX0_mayFlipSide_8 : decode cX0_mayFlipSide 8 = .ok (.iload_n 2, 1) := by decide +kernel
theorem dX0_mayFlipSide_9 : decode cX0_mayFlipSide 9 = .ok (.iload_n 1, 1) := by decide +kernel
theorem dX0_mayFlipSide_10 : decode cX0_mayFlipSide 10 = .ok (.invokevirtual 42, 3) := by decide +kernel
theorem dX0_mayFlipSide_13 : decode cX0_mayFlipSide 13 = .ok (.istore 4, 2) := by decide +kernel
theorem dX0_mayFlipSide_15 : decode cX0_mayFlipSide 15 = .ok (.iload_n 3, 1) := by decide +kernel
theorem dX0_mayFlipSide_16 : decode cX0_mayFlipSide 16 = .ok (.ifCond .lt 42, 3) := by decide +kernel
theorem dX0_mayFlipSide_19 : decode cX0_mayFlipSide 19 = .ok (.iload 4, 2) := by decide +kernel
theorem dX0_mayFlipSide_21 : decode cX0_mayFlipSide 21 = .ok (.ifCond .lt 37, 3) := by decide +kernel
theorem dX0_mayFlipSide_24 : decode cX0_mayFlipSide 24 = .ok (.aload_n 0, 1) := by decide +kernel
theorem dX0_mayFlipSide_25 : decode cX0_mayFlipSide 25 = .ok (.getfield 24, 3) := by decide +kernel
theorem dX0_mayFlipSide_28 : decode cX0_mayFlipSide 28 = .ok (.iload_n 1, 1) := by decide +kernel
theorem dX0_mayFlipSide_29 : decode cX0_mayFlipSide 29 = .ok (.iload_n 2, 1) := by decide +kernel
theorem dX0_mayFlipSide_30 : decode cX0_mayFlipSide 30 = .ok (.iload_n 3, 1) := by decide +kernel
theorem dX0_mayFlipSide_31 : decode cX0_mayFlipSide 31 = .ok (.iload 4, 2) := by decide +kernel
theorem dX0_mayFlipSide_33 : decode cX0_mayFlipSide 33 = .ok (.invokevirtual 96, 3) := by decide +kernel
theorem dX0_mayFlipSide_36 : decode cX0_mayFlipSide 36 = .ok (.ifCond .eq 22, 3) := by decide +kernel
theorem dX0_mayFlipSide_39 : decode cX0_mayFlipSide 39 = .ok (.aload_n 0, 1) := by decide +kernel
theorem dX0_mayFlipSide_40 : decode cX0_mayFlipSide 40 = .ok (.getfield 24, 3) := by decide +kernel
theorem dX0_mayFlipSide_43 : decode cX0_mayFlipSide 43 = .ok (.iload_n 3, 1) := by decide +kernel
theorem dX0_mayFlipSide_44 : decode cX0_mayFlipSide 44 = .ok (.iload 4, 2) := by decide +kernel
theorem dX0_mayFlipSide_46 : decode cX0_mayFlipSide 46 = .ok (.iload_n 1, 1) := by decide +kernel
theorem dX0_mayFlipSide_47 : decode cX0_mayFlipSide 47 = .ok (.iload_n 2, 1) := by decide +kernel
theorem dX0_mayFlipSide_48 : decode cX0_mayFlipSide 48 = .ok (.invokevirtual 96, 3) := by decide +kernel
theorem dX0_mayFlipSide_51 : decode cX0_mayFlipSide 51 = .ok (.ifCond .eq 7, 3) := by decide +kernel
theorem dX0_mayFlipSide_54 : decode cX0_mayFlipSide 54 = .ok (.iconst 1, 1) := by decide +kernel
theorem dX0_mayFlipSide_55 : decode cX0_mayFlipSide 55 = .ok (.goto 4, 3) := by decide +kernel
theorem dX0_mayFlipSide_58 : decode cX0_mayFlipSide 58 = .ok (.iconst 0, 1) := by decide +kernel
theorem dX0_mayFlipSide_59 : decode cX0_mayFlipSide 59 = .ok (.ireturn, 1) := by decide +kernel
theorem dX0_flipSide_0 : decode cX0_flipSide 0 = .ok (.aload_n 0, 1) := by decide +kernel
theorem dX0_flipSide_1 : decode cX0_flipSide 1 = .ok (.iload_n 1, 1) := by decide +kernel
theorem dX0_flipSide_2 : decode cX0_flipSide 2 = .ok (.iload_n 2, 1) := by decide +kernel
theorem dX0_flipSide_3 : decode cX0_flipSide 3 = .ok (.invokevirtual 42, 3) := by decide +kernel
theorem dX0_flipSide_6 : decode cX0_flipSide 6 = .ok (.istore_n 3, 1) := by decide +kernel
theorem dX0_flipSide_7 : decode cX0_flipSide 7 = .ok (.aload_n 0, 1) := by decide +kernel
theorem dX0_flipSide_8 : decode cX0_flipSide 8 = .ok (.iload_n 2, 1) := by decide +kernel
theorem dX0_flipSide_9 : decode cX0_flipSide 9 = .ok (.iload_n 1, 1) := by decide +kernel
theorem dX0_flipSide_10 : decode cX0_flipSide 10 = .ok (.invokevirtual 42, 3) := by decide +kernel
theorem dX0_flipSide_13 : decode cX0_flipSide 13 = .ok (.istore 4, 2) := by decide +kernel
theorem dX0_flipSide_15 : decode cX0_flipSide 15 = .ok (.iload_n 3, 1) := by decide +kernel
theorem dX0_flipSide_16 : decode cX0_flipSide 16 = .ok (.ifCond .lt 8, 3) := by decide +kernel
theorem dX0_flipSide_19 : decode cX0_flipSide 19 = .ok (.iload 4, 2) := by decide +kernel
theorem dX0_flipSide_21 : decode cX0_flipSide 21 = .ok (.ifCond .ge 4, 3) := by decide +kernel
theorem dX0_flipSide_24 : decode cX0_flipSide 24 = .ok (.return_, 1) := by decide +kernel
theorem dX0_flipSide_25 : decode cX0_flipSide 25 = .ok (.aload_n 0, 1) := by decide +kernel
theorem dX0_flipSide_26 : decode cX0_flipSide 26 = .ok (.iload_n 1, 1) := by decide +kernel
theorem dX0_flipSide_27 : decode cX0_flipSide 27 = .ok (.iload_n 2, 1) := by decide +kernel
theorem dX0_flipSide_28 : decode cX0_flipSide 28 = .ok (.iload_n 3, 1) := by decide +kernel
theorem dX0_flipSide_29 : decode cX0_flipSide 29 = .ok (.invokevirtual 100, 3) := by decide +kernel
theorem dX0_flipSide_32 : decode cX0_flipSide 32 = .ok (.aload_n 0, 1) := by decide +kernel
theorem dX0_flipSide_33 : decode cX0_flipSide 33 = .ok (.iload_n 2, 1) := by decide +kernel
theorem dX0_flipSide_34 : decode cX0_flipSide 34 = .ok (.iload_n 1, 1) := by decide +kernel
theorem dX0_flipSide_35 : decode cX0_flipSide 35 = .ok (.iload 4, 2) := by decide +kernel
theorem dX0_flipSide_37 : decode cX0_flipSide 37 = .ok (.invokevirtual 100, 3) := by decide +kernel
theorem dX0_flipSide_40 : decode cX0_flipSide 40 = .ok (.aload_n 0, 1) := by decide +kernel
theorem dX0_flipSide_41 : decode cX0_flipSide 41 = .ok (.iload_n 1, 1) := by decide +kernel
theorem dX0_flipSide_42 : decode cX0_flipSide 42 = .ok (.iload 4, 2) := by decide +kernel
theorem dX0_flipSide_44 : decode cX0_flipSide 44 = .ok (.iload_n 3, 1) := by decide +kernel
theorem dX0_flipSide_45 : decode cX0_flipSide 45 = .ok (.invokevirtual 81, 3) := by decide +kernel
theorem dX0_flipSide_48 : decode cX0_flipSide 48 = .ok (.aload_n 0, 1) := by decide +kernel
theorem dX0_flipSide_49 : decode cX0_flipSide 49 = .ok (.iload_n 2, 1) := by decide +kernel
theorem dX0_flipSide_50 : decode cX0_flipSide 50 = .ok (.iload_n 3, 1) := by decide +kernel
theorem dX0_flipSide_51 : decode cX0_flipSide 51 = .ok (.iload 4, 2) := by decide +kernel
theorem dX0_flipSide_53 : decode cX0_flipSide 53 = .ok (.invokevirtual 81, 3) := by decide +kernel
theorem dX0_flipSide_56 : decode cX0_flipSide 56 = .ok (.return_, 1) := by decide +kernel
theorem dX0_settleUpTo_0 : decode cX0_settleUpTo 0 = .ok (.iconst 0, 1) := by decide +kernel
theorem dX0_settleUpTo_1 : decode cX0_settleUpTo 1 = .ok (.istore_n 2, 1) := by decide +kernel
theorem dX0_settleUpTo_2 : decode cX0_settleUpTo 2 = .ok (.aload_n 0, 1) := by decide +kernel
theorem dX0_settleUpTo_3 : decode cX0_settleUpTo 3 = .ok (.iconst 0, 1) := by decide +kernel
theorem dX0_settleUpTo_4 : decode cX0_settleUpTo 4 = .ok (.invokevirtual 103, 3) := by decide +kernel
theorem dX0_settleUpTo_7 : decode cX0_settleUpTo 7 = .ok (.istore_n 3, 1) := by decide +kernel
theorem dX0_settleUpTo_8 : decode cX0_settleUpTo 8 = .ok (.iload_n 2, 1) := by decide +kernel
theorem dX0_settleUpTo_9 : decode cX0_settleUpTo 9 = .ok (.iload_n 1, 1) := by decide +kernel
theorem dX0_settleUpTo_10 : decode cX0_settleUpTo 10 = .ok (.if_icmp .ge 76, 3) := by decide +kernel
theorem dX0_settleUpTo_13 : decode cX0_settleUpTo 13 = .ok (.iload_n 3, 1) := by decide +kernel
theorem dX0_settleUpTo_14 : decode cX0_settleUpTo 14 = .ok (.sipush 1600, 3) := by decide +kernel
theorem dX0_settleUpTo_17 : decode cX0_settleUpTo 17 = .ok (.if_icmp .ge 69, 3) := by decide +kernel
theorem dX0_settleUpTo_20 : decode cX0_settleUpTo 20 = .ok (.iload_n 3, 1) := by decide +kernel
theorem dX0_settleUpTo_21 : decode cX0_settleUpTo 21 = .ok (.bipush 40, 2) := by decide +kernel
theorem dX0_settleUpTo_23 : decode cX0_settleUpTo 23 = .ok (.idiv, 1) := by decide +kernel
theorem dX0_settleUpTo_24 : decode cX0_settleUpTo 24 = .ok (.istore 4, 2) := by decide +kernel
theorem dX0_settleUpTo_26 : decode cX0_settleUpTo 26 = .ok (.iload_n 3, 1) := by decide +kernel
theorem dX0_settleUpTo_27 : decode cX0_settleUpTo 27 = .ok (.bipush 40, 2) := by decide +kernel
theorem dX0_settleUpTo_29 : decode cX0_settleUpTo 29 = .ok (.irem, 1) := by decide +kernel
theorem dX0_settleUpTo_30 : decode cX0_settleUpTo 30 = .ok (.istore 5, 2) := by decide +kernel
theorem dX0_settleUpTo_32 : decode cX0_settleUpTo 32 = .ok (.iload 4, 2) := by decide +kernel
theorem dX0_settleUpTo_34 : decode cX0_settleUpTo 34 = .ok (.aload_n 0, 1) := by decide +kernel
theorem dX0_settleUpTo_35 : decode cX0_settleUpTo 35 = .ok (.iload 4, 2) := by decide +kernel
theorem dX0_settleUpTo_37 : decode cX0_settleUpTo 37 = .ok (.iload 5, 2) := by decide +kernel
theorem dX0_settleUpTo_39 : decode cX0_settleUpTo 39 = .ok (.invokevirtual 42, 3) := by decide +kernel
theorem dX0_settleUpTo_42 : decode cX0_settleUpTo 42 = .ok (.aload_n 0, 1) := by decide +kernel
theorem dX0_settleUpTo_43 : decode cX0_settleUpTo 43 = .ok (.iload 5, 2) := by decide +kernel
theorem dX0_settleUpTo_45 : decode cX0_settleUpTo 45 = .ok (.iload 4, 2) := by decide +kernel
theorem dX0_settleUpTo_47 : decode cX0_settleUpTo 47 = .ok (.invokevirtual 42, 3) := by decide +kernel
theorem dX0_settleUpTo_50 : decode cX0_settleUpTo 50 = .ok (.invokestatic 91, 3) := by decide +kernel
theorem dX0_settleUpTo_53 : decode cX0_settleUpTo 53 = .ok (.invokestatic 91, 3) := by decide +kernel
theorem dX0_settleUpTo_56 : decode cX0_settleUpTo 56 = .ok (.istore 6, 2) := by decide +kernel
theorem dX0_settleUpTo_58 : decode cX0_settleUpTo 58 = .ok (.aload_n 0, 1) := by decide +kernel
theorem dX0_settleUpTo_59 : decode cX0_settleUpTo 59 = .ok (.iload 4, 2) := by decide +kernel
theorem dX0_settleUpTo_61 : decode cX0_settleUpTo 61 = .ok (.iload 5, 2) := by decide +kernel
theorem dX0_settleUpTo_63 : decode cX0_settleUpTo 63 = .ok (.invokevirtual 106, 3) := by decide +kernel
theorem dX0_settleUpTo_66 : decode cX0_settleUpTo 66 = .ok (.iinc 2 1, 3) := by decide +kernel
theorem dX0_settleUpTo_69 : decode cX0_settleUpTo 69 = .ok (.aload_n 0, 1) := by decide +kernel
theorem dX0_settleUpTo_70 : decode cX0_settleUpTo 70 = .ok (.iload 6, 2) := by decide +kernel
theorem dX0_settleUpTo_72 : decode cX0_settleUpTo 72 = .ok (.iconst 0, 1) := by decide +kernel
theorem dX0_settleUpTo_73 : decode cX0_settleUpTo 73 = .ok (.invokestatic 109, 3) := by decide +kernel
theorem dX0_settleUpTo_76 : decode cX0_settleUpTo 76 = .ok (.bipush 40, 2) := by decide +kernel
theorem dX0_settleUpTo_78 : decode cX0_settleUpTo 78 = .ok (.imul, 1) := by decide +kernel
theorem dX0_settleUpTo_79 : decode cX0_settleUpTo 79 = .ok (.invokevirtual 103, 3) := by decide +kernel
theorem dX0_settleUpTo_82 : decode cX0_settleUpTo 82 = .ok (.istore_n 3, 1) := by decide +kernel
theorem dX0_settleUpTo_83 : decode cX0_settleUpTo 83 = .ok (.goto (-75), 3) := by decide +kernel
theorem dX0_settleUpTo_86 : decode cX0_settleUpTo 86 = .ok (.iload_n 2, 1) := by decide +kernel
theorem dX0_settleUpTo_87 : decode cX0_settleUpTo 87 = .ok (.ireturn, 1) := by decide +kernel
theorem dX0_firstBadSide_0 : decode cX0_firstBadSide 0 = .ok (.iload_n 1, 1) := by decide +kernel
theorem dX0_firstBadSide_1 : decode cX0_firstBadSide 1 = .ok (.istore_n 2, 1) := by decide +kernel
theorem dX0_firstBadSide_2 : decode cX0_firstBadSide 2 = .ok (.iload_n 2, 1) := by decide +kernel
theorem dX0_firstBadSide_3 : decode cX0_firstBadSide 3 = .ok (.sipush 1600, 3) := by decide +kernel
theorem dX0_firstBadSide_6 : decode cX0_firstBadSide 6 = .ok (.if_icmp .ge 38, 3) := by decide +kernel
theorem dX0_firstBadSide_9 : decode cX0_firstBadSide 9 = .ok (.iload_n 2, 1) := by decide +kernel
theorem dX0_firstBadSide_10 : decode cX0_firstBadSide 10 = .ok (.bipush 40, 2) := by decide +kernel
theorem dX0_firstBadSide_12 : decode cX0_firstBadSide 12 = .ok (.idiv, 1) := by decide +kernel
theorem dX0_firstBadSide_13 : decode cX0_firstBadSide 13 = .ok (.istore_n 3, 1) := by decide +kernel
theorem dX0_firstBadSide_14 : decode cX0_firstBadSide 14 = .ok (.iload_n 2, 1) := by decide +kernel
theorem dX0_firstBadSide_15 : decode cX0_firstBadSide 15 = .ok (.bipush 40, 2) := by decide +kernel
theorem dX0_firstBadSide_17 : decode cX0_firstBadSide 17 = .ok (.irem, 1) := by decide +kernel
theorem dX0_firstBadSide_18 : decode cX0_firstBadSide 18 = .ok (.istore 4, 2) := by decide +kernel
theorem dX0_firstBadSide_20 : decode cX0_firstBadSide 20 = .ok (.iload_n 3, 1) := by decide +kernel
theorem dX0_firstBadSide_21 : decode cX0_firstBadSide 21 = .ok (.iload 4, 2) := by decide +kernel
theorem dX0_firstBadSide_23 : decode cX0_firstBadSide 23 = .ok (.if_icmp .ge 15, 3) := by decide +kernel
theorem dX0_firstBadSide_26 : decode cX0_firstBadSide 26 = .ok (.aload_n 0, 1) := by decide +kernel
theorem dX0_firstBadSide_27 : decode cX0_firstBadSide 27 = .ok (.iload_n 3, 1) := by decide +kernel
theorem dX0_firstBadSide_28 : decode cX0_firstBadSide 28 = .ok (.iload 4, 2) := by decide +kernel
theorem dX0_firstBadSide_30 : decode cX0_firstBadSide 30 = .ok (.invokevirtual 112, 3) := by decide +kernel
theorem dX0_firstBadSide_33 : decode cX0_firstBadSide 33 = .ok (.ifCond .eq 5, 3) := by decide +kernel
theorem dX0_firstBadSide_36 : decode cX0_firstBadSide 36 = .ok (.iload_n 2, 1) := by decide +kernel
theorem dX0_firstBadSide_37 : decode cX0_firstBadSide 37 = .ok (.ireturn, 1) := by decide +kernel
theorem dX0_firstBadSide_38 : decode cX0_firstBadSide 38 = .ok (.iinc 2 1, 3) := by decide +kernel
theorem dX0_firstBadSide_41 : decode cX0_firstBadSide 41 = .ok (.goto (-39), 3) := by decide +kernel
theorem dX0_firstBadSide_44 : decode cX0_firstBadSide 44 = .ok (.sipush 1600, 3) := by decide +kernel
theorem dX0_firstBadSide_47 : decode cX0_firstBadSide 47 = .ok (.ireturn, 1) := by decide +kernel
theorem dX0_countBadSides_0 : decode cX0_countBadSides 0 = .ok (.iconst 0, 1) := by decide +kernel
theorem dX0_countBadSides_1 : decode cX0_countBadSides 1 = .ok (.istore_n 1, 1) := by decide +kernel
theorem dX0_countBadSides_2 : decode cX0_countBadSides 2 = .ok (.iconst 0, 1) := by decide +kernel
theorem dX0_countBadSides_3 : decode cX0_countBadSides 3 = .ok (.istore_n 2, 1) := by decide +kernel
theorem dX0_countBadSides_4 : decode cX0_countBadSides 4 = .ok (.iload_n 2, 1) := by decide +kernel
theorem dX0_countBadSides_5 : decode cX0_countBadSides 5 = .ok (.bipush 40, 2) := by decide +kernel
theorem dX0_countBadSides_7 : decode cX0_countBadSides 7 = .ok (.if_icmp .ge 37, 3) := by decide +kernel
theorem dX0_countBadSides_10 : decode cX0_countBadSides 10 = .ok (.iload_n 2, 1) := by decide +kernel
theorem dX0_countBadSides_11 : decode cX0_countBadSides 11 = .ok (.iconst 1, 1) := by decide +kernel
theorem dX0_countBadSides_12 : decode cX0_countBadSides 12 = .ok (.iadd, 1) := by decide +kernel
theorem dX0_countBadSides_13 : decode cX0_countBadSides 13 = .ok (.istore_n 3, 1) := by decide +kernel
theorem dX0_countBadSides_14 : decode cX0_countBadSides 14 = .ok (.iload_n 3, 1) := by decide +kernel
theorem dX0_countBadSides_15 : decode cX0_countBadSides 15 = .ok (.bipush 40, 2) := by decide +kernel
theorem dX0_countBadSides_17 : decode cX0_countBadSides 17 = .ok (.if_icmp .ge 21, 3) := by decide +kernel
theorem dX0_countBadSides_20 : decode cX0_countBadSides 20 = .ok (.aload_n 0, 1) := by decide +kernel
theorem dX0_countBadSides_21 : decode cX0_countBadSides 21 = .ok (.iload_n 2, 1) := by decide +kernel
theorem dX0_countBadSides_22 : decode cX0_countBadSides 22 = .ok (.iload_n 3, 1) := by decide +kernel
theorem dX0_countBadSides_23 : decode cX0_countBadSides 23 = .ok (.invokevirtual 112, 3) := by decide +kernel
theorem dX0_countBadSides_26 : decode cX0_countBadSides 26 = .ok (.ifCond .eq 6, 3) := by decide +kernel
theorem dX0_countBadSides_29 : decode cX0_countBadSides 29 = .ok (.iinc 1 1, 3) := by decide +kernel
theorem dX0_countBadSides_32 : decode cX0_countBadSides 32 = .ok (.iinc 3 1, 3) := by decide +kernel
theorem dX0_countBadSides_35 : decode cX0_countBadSides 35 = .ok (.goto (-21), 3) := by decide +kernel
theorem dX0_countBadSides_38 : decode cX0_countBadSides 38 = .ok (.iinc 2 1, 3) := by decide +kernel
theorem dX0_countBadSides_41 : decode cX0_countBadSides 41 = .ok (.goto (-37), 3) := by decide +kernel
theorem dX0_countBadSides_44 : decode cX0_countBadSides 44 = .ok (.iload_n 1, 1) := by decide +kernel
theorem dX0_countBadSides_45 : decode cX0_countBadSides 45 = .ok (.ireturn, 1) := by decide +kernel
theorem dX0_thirdOf_0 : decode cX0_thirdOf 0 = .ok (.aload_n 0, 1) := by decide +kernel
theorem dX0_thirdOf_1 : decode cX0_thirdOf 1 = .ok (.getfield 15, 3) := by decide +kernel
theorem dX0_thirdOf_4 : decode cX0_thirdOf 4 = .ok (.iload_n 1, 1) := by decide +kernel
theorem dX0_thirdOf_5 : decode cX0_thirdOf 5 = .ok (.bipush 40, 2) := by decide +kernel
theorem dX0_thirdOf_7 : decode cX0_thirdOf 7 = .ok (.imul, 1) := by decide +kernel
theorem dX0_thirdOf_8 : decode cX0_thirdOf 8 = .ok (.iload_n 2, 1) := by decide +kernel
theorem dX0_thirdOf_9 : decode cX0_thirdOf 9 = .ok (.iadd, 1) := by decide +kernel
theorem dX0_thirdOf_10 : decode cX0_thirdOf 10 = .ok (.iaload, 1) := by decide +kernel
theorem dX0_thirdOf_11 : decode cX0_thirdOf 11 = .ok (.ireturn, 1) := by decide +kernel
theorem dX0_setThirds_0 : decode cX0_setThirds 0 = .ok (.aload_n 0, 1) := by decide +kernel
theorem dX0_setThirds_1 : decode cX0_setThirds 1 = .ok (.getfield 15, 3) := by decide +kernel
theorem dX0_setThirds_4 : decode cX0_setThirds 4 = .ok (.iload_n 1, 1) := by decide +kernel
theorem dX0_setThirds_5 : decode cX0_setThirds 5 = .ok (.bipush 40, 2) := by decide +kernel
theorem dX0_setThirds_7 : decode cX0_setThirds 7 = .ok (.imul, 1) := by decide +kernel
theorem dX0_setThirds_8 : decode cX0_setThirds 8 = .ok (.iload_n 2, 1) := by decide +kernel
theorem dX0_setThirds_9 : decode cX0_setThirds 9 = .ok (.iadd, 1) := by decide +kernel
theorem dX0_setThirds_10 : decode cX0_setThirds 10 = .ok (.iload 4, 2) := by decide +kernel
theorem dX0_setThirds_12 : decode cX0_setThirds 12 = .ok (.ifCond .eq 7, 3) := by decide +kernel
theorem dX0_setThirds_15 : decode cX0_setThirds 15 = .ok (.iload_n 3, 1) := by decide +kernel
theorem dX0_setThirds_16 : decode cX0_setThirds 16 = .ok (.goto 4, 3) := by decide +kernel
theorem dX0_setThirds_19 : decode cX0_setThirds 19 = .ok (.iconst (-1), 1) := by decide +kernel
theorem dX0_setThirds_20 : decode cX0_setThirds 20 = .ok (.iastore, 1) := by decide +kernel
theorem dX0_setThirds_21 : decode cX0_setThirds 21 = .ok (.aload_n 0, 1) := by decide +kernel
theorem dX0_setThirds_22 : decode cX0_setThirds 22 = .ok (.getfield 15, 3) := by decide +kernel
theorem dX0_setThirds_25 : decode cX0_setThirds 25 = .ok (.iload_n 2, 1) := by decide +kernel
theorem dX0_setThirds_26 : decode cX0_setThirds 26 = .ok (.bipush 40, 2) := by decide +kernel
theorem dX0_setThirds_28 : decode cX0_setThirds 28 = .ok (.imul, 1) := by decide +kernel
theorem dX0_setThirds_29 : decode cX0_setThirds 29 = .ok (.iload_n 3, 1) := by decide +kernel
theorem dX0_setThirds_30 : decode cX0_setThirds 30 = .ok (.iadd, 1) := by decide +kernel
theorem dX0_setThirds_31 : decode cX0_setThirds 31 = .ok (.iload 4, 2) := by decide +kernel
theorem dX0_setThirds_33 : decode cX0_setThirds 33 = .ok (.ifCond .eq 7, 3) := by decide +kernel
theorem dX0_setThirds_36 : decode cX0_setThirds 36 = .ok (.iload_n 1, 1) := by decide +kernel
theorem dX0_setThirds_37 : decode cX0_setThirds 37 = .ok (.goto 4, 3) := by decide +kernel
theorem dX0_setThirds_40 : decode cX0_setThirds 40 = .ok (.iconst (-1), 1) := by decide +kernel
theorem dX0_setThirds_41 : decode cX0_setThirds 41 = .ok (.iastore, 1) := by decide +kernel
theorem dX0_setThirds_42 : decode cX0_setThirds 42 = .ok (.aload_n 0, 1) := by decide +kernel
theorem dX0_setThirds_43 : decode cX0_setThirds 43 = .ok (.getfield 15, 3) := by decide +kernel
theorem dX0_setThirds_46 : decode cX0_setThirds 46 = .ok (.iload_n 3, 1) := by decide +kernel
theorem dX0_setThirds_47 : decode cX0_setThirds 47 = .ok (.bipush 40, 2) := by decide +kernel
theorem dX0_setThirds_49 : decode cX0_setThirds 49 = .ok (.imul, 1) := by decide +kernel
theorem dX0_setThirds_50 : decode cX0_setThirds 50 = .ok (.iload_n 1, 1) := by decide +kernel
theorem dX0_setThirds_51 : decode cX0_setThirds 51 = .ok (.iadd, 1) := by decide +kernel
theorem dX0_setThirds_52 : decode cX0_setThirds 52 = .ok (.iload 4, 2) := by decide +kernel
theorem dX0_setThirds_54 : decode cX0_setThirds 54 = .ok (.ifCond .eq 7, 3) := by decide +kernel
theorem dX0_setThirds_57 : decode cX0_setThirds 57 = .ok (.iload_n 2, 1) := by decide +kernel
theorem dX0_setThirds_58 : decode cX0_setThirds 58 = .ok (.goto 4, 3) := by decide +kernel
theorem dX0_setThirds_61 : decode cX0_setThirds 61 = .ok (.iconst (-1), 1) := by decide +kernel
theorem dX0_setThirds_62 : decode cX0_setThirds 62 = .ok (.iastore, 1) := by decide +kernel
theorem dX0_setThirds_63 : decode cX0_setThirds 63 = .ok (.return_, 1) := by decide +kernel
theorem dX0_addTriangle_0 : decode cX0_addTriangle 0 = .ok (.aload_n 0, 1) := by decide +kernel
theorem dX0_addTriangle_1 : decode cX0_addTriangle 1 = .ok (.getfield 34, 3) := by decide +kernel
theorem dX0_addTriangle_4 : decode cX0_addTriangle 4 = .ok (.aload_n 0, 1) := by decide +kernel
theorem dX0_addTriangle_5 : decode cX0_addTriangle 5 = .ok (.getfield 9, 3) := by decide +kernel
theorem dX0_addTriangle_8 : decode cX0_addTriangle 8 = .ok (.arraylength, 1) := by decide +kernel
theorem dX0_addTriangle_9 : decode cX0_addTriangle 9 = .ok (.if_icmp .lt 4, 3) := by decide +kernel
theorem dX0_addTriangle_12 : decode cX0_addTriangle 12 = .ok (.return_, 1) := by decide +kernel
theorem dX0_addTriangle_13 : decode cX0_addTriangle 13 = .ok (.iload_n 1, 1) := by decide +kernel
theorem dX0_addTriangle_14 : decode cX0_addTriangle 14 = .ok (.iload_n 2, 1) := by decide +kernel
theorem dX0_addTriangle_15 : decode cX0_addTriangle 15 = .ok (.iload_n 3, 1) := by decide +kernel
theorem dX0_addTriangle_16 : decode cX0_addTriangle 16 = .ok (.invokestatic 45, 3) := by decide +kernel
theorem dX0_addTriangle_19 : decode cX0_addTriangle 19 = .ok (.istore 4, 2) := by decide +kernel
theorem dX0_addTriangle_21 : decode cX0_addTriangle 21 = .ok (.aload_n 0, 1) := by decide +kernel
theorem dX0_addTriangle_22 : decode cX0_addTriangle 22 = .ok (.getfield 34, 3) := by decide +kernel
theorem dX0_addTriangle_25 : decode cX0_addTriangle 25 = .ok (.istore 5, 2) := by decide +kernel
theorem dX0_addTriangle_27 : decode cX0_addTriangle 27 = .ok (.iload 5, 2) := by decide +kernel
theorem dX0_addTriangle_29 : decode cX0_addTriangle 29 = .ok (.ifCond .le 39, 3) := by decide +kernel
theorem dX0_addTriangle_32 : decode cX0_addTriangle 32 = .ok (.aload_n 0, 1) := by decide +kernel
theorem dX0_addTriangle_33 : decode cX0_addTriangle 33 = .ok (.getfield 9, 3) := by decide +kernel
theorem dX0_addTriangle_36 : decode cX0_addTriangle 36 = .ok (.iload 5, 2) := by decide +kernel
theorem dX0_addTriangle_38 : decode cX0_addTriangle 38 = .ok (.iconst 1, 1) := by decide +kernel
theorem dX0_addTriangle_39 : decode cX0_addTriangle 39 = .ok (.isub, 1) := by decide +kernel
theorem dX0_addTriangle_40 : decode cX0_addTriangle 40 = .ok (.iaload, 1) := by decide +kernel
theorem dX0_addTriangle_41 : decode cX0_addTriangle 41 = .ok (.iload 4, 2) := by decide +kernel
theorem dX0_addTriangle_43 : decode cX0_addTriangle 43 = .ok (.if_icmp .le 25, 3) := by decide +kernel
theorem dX0_addTriangle_46 : decode cX0_addTriangle 46 = .ok (.aload_n 0, 1) := by decide +kernel
theorem dX0_addTriangle_47 : decode cX0_addTriangle 47 = .ok (.getfield 9, 3) := by decide +kernel
theorem dX0_addTriangle_50 : decode cX0_addTriangle 50 = .ok (.iload 5, 2) := by decide +kernel
theorem dX0_addTriangle_52 : decode cX0_addTriangle 52 = .ok (.aload_n 0, 1) := by decide +kernel
theorem dX0_addTriangle_53 : decode cX0_addTriangle 53 = .ok (.getfield 9, 3) := by decide +kernel
theorem dX0_addTriangle_56 : decode cX0_addTriangle 56 = .ok (.iload 5, 2) := by decide +kernel
theorem dX0_addTriangle_58 : decode cX0_addTriangle 58 = .ok (.iconst 1, 1) := by decide +kernel
theorem dX0_addTriangle_59 : decode cX0_addTriangle 59 = .ok (.isub, 1) := by decide +kernel
theorem dX0_addTriangle_60 : decode cX0_addTriangle 60 = .ok (.iaload, 1) := by decide +kernel
theorem dX0_addTriangle_61 : decode cX0_addTriangle 61 = .ok (.iastore, 1) := by decide +kernel
theorem dX0_addTriangle_62 : decode cX0_addTriangle 62 = .ok (.iinc 5 (-1), 3) := by decide +kernel
theorem dX0_addTriangle_65 : decode cX0_addTriangle 65 = .ok (.goto (-38), 3) := by decide +kernel
theorem dX0_addTriangle_68 : decode cX0_addTriangle 68 = .ok (.aload_n 0, 1) := by decide +kernel
theorem dX0_addTriangle_69 : decode cX0_addTriangle 69 = .ok (.getfield 9, 3) := by decide +kernel
theorem dX0_addTriangle_72 : decode cX0_addTriangle 72 = .ok (.iload 5, 2) := by decide +kernel
theorem dX0_addTriangle_74 : decode cX0_addTriangle 74 = .ok (.iload 4, 2) := by decide +kernel
theorem dX0_addTriangle_76 : decode cX0_addTriangle 76 = .ok (.iastore, 1) := by decide +kernel
theorem dX0_addTriangle_77 : decode cX0_addTriangle 77 = .ok (.aload_n 0, 1) := by decide +kernel
theorem dX0_addTriangle_78 : decode cX0_addTriangle 78 = .ok (.dup, 1) := by decide +kernel
theorem dX0_addTriangle_79 : decode cX0_addTriangle 79 = .ok (.getfield 34, 3) := by decide +kernel
theorem dX0_addTriangle_82 : decode cX0_addTriangle 82 = .ok (.iconst 1, 1) := by decide +kernel
theorem dX0_addTriangle_83 : decode cX0_addTriangle 83 = .ok (.iadd, 1) := by decide +kernel
theorem dX0_addTriangle_84 : decode cX0_addTriangle 84 = .ok (.putfield 34, 3) := by decide +kernel
theorem dX0_addTriangle_87 : decode cX0_addTriangle 87 = .ok (.aload_n 0, 1) := by decide +kernel
theorem dX0_addTriangle_88 : decode cX0_addTriangle 88 = .ok (.iload_n 1, 1) := by decide +kernel
theorem dX0_addTriangle_89 : decode cX0_addTriangle 89 = .ok (.iload_n 2, 1) := by decide +kernel
theorem dX0_addTriangle_90 : decode cX0_addTriangle 90 = .ok (.iload_n 3, 1) := by decide +kernel
theorem dX0_addTriangle_91 : decode cX0_addTriangle 91 = .ok (.iconst 1, 1) := by decide +kernel
theorem dX0_addTriangle_92 : decode cX0_addTriangle 92 = .ok (.invokevirtual 116, 3) := by decide +kernel
theorem dX0_addTriangle_95 : decode cX0_addTriangle 95 = .ok (.return_, 1) := by decide +kernel
theorem dX0_removeTriangle_0 : decode cX0_removeTriangle 0 = .ok (.aload_n 0, 1) := by decide +kernel
theorem dX0_removeTriangle_1 : decode cX0_removeTriangle 1 = .ok (.iload_n 1, 1) := by decide +kernel
theorem dX0_removeTriangle_2 : decode cX0_removeTriangle 2 = .ok (.iload_n 2, 1) := by decide +kernel
theorem dX0_removeTriangle_3 : decode cX0_removeTriangle 3 = .ok (.iload_n 3, 1) := by decide +kernel
theorem dX0_removeTriangle_4 : decode cX0_removeTriangle 4 = .ok (.invokestatic 45, 3) := by decide +kernel
theorem dX0_removeTriangle_7 : decode cX0_removeTriangle 7 = .ok (.invokevirtual 49, 3) := by decide +kernel
theorem dX0_removeTriangle_10 : decode cX0_removeTriangle 10 = .ok (.istore 4, 2) := by decide +kernel
theorem dX0_removeTriangle_12 : decode cX0_removeTriangle 12 = .ok (.iload 4, 2) := by decide +kernel
theorem dX0_removeTriangle_14 : decode cX0_removeTriangle 14 = .ok (.ifCond .ge 4, 3) := by decide +kernel
theorem dX0_removeTriangle_17 : decode cX0_removeTriangle 17 = .ok (.return_, 1) := by decide +kernel
theorem dX0_removeTriangle_18 : decode cX0_removeTriangle 18 = .ok (.aload_n 0, 1) := by decide +kernel
theorem dX0_removeTriangle_19 : decode cX0_removeTriangle 19 = .ok (.dup, 1) := by decide +kernel
theorem dX0_removeTriangle_20 : decode cX0_removeTriangle 20 = .ok (.getfield 34, 3) := by decide +kernel
theorem dX0_removeTriangle_23 : decode cX0_removeTriangle 23 = .ok (.iconst 1, 1) := by decide +kernel
theorem dX0_removeTriangle_24 : decode cX0_removeTriangle 24 = .ok (.isub, 1) := by decide +kernel
theorem dX0_removeTriangle_25 : decode cX0_removeTriangle 25 = .ok (.putfield 34, 3) := by decide +kernel
theorem dX0_removeTriangle_28 : decode cX0_removeTriangle 28 = .ok (.iload 4, 2) := by decide +kernel
theorem dX0_removeTriangle_30 : decode cX0_removeTriangle 30 = .ok (.istore 5, 2) := by decide +kernel
theorem dX0_removeTriangle_32 : decode cX0_removeTriangle 32 = .ok (.iload 5, 2) := by decide +kernel
theorem dX0_removeTriangle_34 : decode cX0_removeTriangle 34 = .ok (.aload_n 0, 1) := by decide +kernel
theorem dX0_removeTriangle_35 : decode cX0_removeTriangle 35 = .ok (.getfield 34, 3) := by decide +kernel
theorem dX0_removeTriangle_38 : decode cX0_removeTriangle 38 = .ok (.if_icmp .ge 25, 3) := by decide +kernel
theorem dX0_removeTriangle_41 : decode cX0_removeTriangle 41 = .ok (.aload_n 0, 1) := by decide +kernel
theorem dX0_removeTriangle_42 : decode cX0_removeTriangle 42 = .ok (.getfield 9, 3) := by decide +kernel
theorem dX0_removeTriangle_45 : decode cX0_removeTriangle 45 = .ok (.iload 5, 2) := by decide +kernel
theorem dX0_removeTriangle_47 : decode cX0_removeTriangle 47 = .ok (.aload_n 0, 1) := by decide +kernel
theorem dX0_removeTriangle_48 : decode cX0_removeTriangle 48 = .ok (.getfield 9, 3) := by decide +kernel
theorem dX0_removeTriangle_51 : decode cX0_removeTriangle 51 = .ok (.iload 5, 2) := by decide +kernel
theorem dX0_removeTriangle_53 : decode cX0_removeTriangle 53 = .ok (.iconst 1, 1) := by decide +kernel
theorem dX0_removeTriangle_54 : decode cX0_removeTriangle 54 = .ok (.iadd, 1) := by decide +kernel
theorem dX0_removeTriangle_55 : decode cX0_removeTriangle 55 = .ok (.iaload, 1) := by decide +kernel
theorem dX0_removeTriangle_56 : decode cX0_removeTriangle 56 = .ok (.iastore, 1) := by decide +kernel
theorem dX0_removeTriangle_57 : decode cX0_removeTriangle 57 = .ok (.iinc 5 1, 3) := by decide +kernel
theorem dX0_removeTriangle_60 : decode cX0_removeTriangle 60 = .ok (.goto (-28), 3) := by decide +kernel
theorem dX0_removeTriangle_63 : decode cX0_removeTriangle 63 = .ok (.aload_n 0, 1) := by decide +kernel
theorem dX0_removeTriangle_64 : decode cX0_removeTriangle 64 = .ok (.iload_n 1, 1) := by decide +kernel
theorem dX0_removeTriangle_65 : decode cX0_removeTriangle 65 = .ok (.iload_n 2, 1) := by decide +kernel
theorem dX0_removeTriangle_66 : decode cX0_removeTriangle 66 = .ok (.iload_n 3, 1) := by decide +kernel
theorem dX0_removeTriangle_67 : decode cX0_removeTriangle 67 = .ok (.iconst 0, 1) := by decide +kernel
theorem dX0_removeTriangle_68 : decode cX0_removeTriangle 68 = .ok (.invokevirtual 116, 3) := by decide +kernel
theorem dX0_removeTriangle_71 : decode cX0_removeTriangle 71 = .ok (.return_, 1) := by decide +kernel
theorem dX0_codeOf_0 : decode cX0_codeOf 0 = .ok (.iload_n 0, 1) := by decide +kernel
theorem dX0_codeOf_1 : decode cX0_codeOf 1 = .ok (.iload_n 1, 1) := by decide +kernel
theorem dX0_codeOf_2 : decode cX0_codeOf 2 = .ok (.if_icmp .ge 21, 3) := by decide +kernel
theorem dX0_codeOf_5 : decode cX0_codeOf 5 = .ok (.iload_n 0, 1) := by decide +kernel
theorem dX0_codeOf_6 : decode cX0_codeOf 6 = .ok (.iload_n 2, 1) := by decide +kernel
theorem dX0_codeOf_7 : decode cX0_codeOf 7 = .ok (.if_icmp .ge 16, 3) := by decide +kernel
theorem dX0_codeOf_10 : decode cX0_codeOf 10 = .ok (.iload_n 0, 1) := by decide +kernel
theorem dX0_codeOf_11 : decode cX0_codeOf 11 = .ok (.sipush 1600, 3) := by decide +kernel
theorem dX0_codeOf_14 : decode cX0_codeOf 14 = .ok (.imul, 1) := by decide +kernel
theorem dX0_codeOf_15 : decode cX0_codeOf 15 = .ok (.iload_n 1, 1) := by decide +kernel
theorem dX0_codeOf_16 : decode cX0_codeOf 16 = .ok (.bipush 40, 2) := by decide +kernel
theorem dX0_codeOf_18 : decode cX0_codeOf 18 = .ok (.imul, 1) := by decide +kernel
theorem dX0_codeOf_19 : decode cX0_codeOf 19 = .ok (.iadd, 1) := by decide +kernel
theorem dX0_codeOf_20 : decode cX0_codeOf 20 = .ok (.iload_n 2, 1) := by decide +kernel
theorem dX0_codeOf_21 : decode cX0_codeOf 21 = .ok (.iadd, 1) := by decide +kernel
theorem dX0_codeOf_22 : decode cX0_codeOf 22 = .ok (.ireturn, 1) := by decide +kernel
theorem dX0_codeOf_23 : decode cX0_codeOf 23 = .ok (.iload_n 1, 1) := by decide +kernel
theorem dX0_codeOf_24 : decode cX0_codeOf 24 = .ok (.iload_n 2, 1) := by decide +kernel
theorem dX0_codeOf_25 : decode cX0_codeOf 25 = .ok (.if_icmp .ge 18, 3) := by decide +kernel
theorem dX0_codeOf_28 : decode cX0_codeOf 28 = .ok (.iload_n 1, 1) := by decide +kernel
theorem dX0_codeOf_29 : decode cX0_codeOf 29 = .ok (.sipush 1600, 3) := by decide +kernel
theorem dX0_codeOf_32 : decode cX0_codeOf 32 = .ok (.imul, 1) := by decide +kernel
theorem dX0_codeOf_33 : decode cX0_codeOf 33 = .ok (.iload_n 2, 1) := by decide +kernel
theorem dX0_codeOf_34 : decode cX0_codeOf 34 = .ok (.bipush 40, 2) := by decide +kernel
theorem dX0_codeOf_36 : decode cX0_codeOf 36 = .ok (.imul, 1) := by decide +kernel
theorem dX0_codeOf_37 : decode cX0_codeOf 37 = .ok (.iadd, 1) := by decide +kernel
theorem dX0_codeOf_38 : decode cX0_codeOf 38 = .ok (.iload_n 0, 1) := by decide +kernel
theorem dX0_codeOf_39 : decode cX0_codeOf 39 = .ok (.iadd, 1) := by decide +kernel
theorem dX0_codeOf_40 : decode cX0_codeOf 40 = .ok (.goto 15, 3) := by decide +kernel
theorem dX0_codeOf_43 : decode cX0_codeOf 43 = .ok (.iload_n 2, 1) := by decide +kernel
theorem dX0_codeOf_44 : decode cX0_codeOf 44 = .ok (.sipush 1600, 3) := by decide +kernel
theorem dX0_codeOf_47 : decode cX0_codeOf 47 = .ok (.imul, 1) := by decide +kernel
theorem dX0_codeOf_48 : decode cX0_codeOf 48 = .ok (.iload_n 0, 1) := by decide +kernel
theorem dX0_codeOf_49 : decode cX0_codeOf 49 = .ok (.bipush 40, 2) := by decide +kernel
theorem dX0_codeOf_51 : decode cX0_codeOf 51 = .ok (.imul, 1) := by decide +kernel
theorem dX0_codeOf_52 : decode cX0_codeOf 52 = .ok (.iadd, 1) := by decide +kernel
theorem dX0_codeOf_53 : decode cX0_codeOf 53 = .ok (.iload_n 1, 1) := by decide +kernel
theorem dX0_codeOf_54 : decode cX0_codeOf 54 = .ok (.iadd, 1) := by decide +kernel
theorem dX0_codeOf_55 : decode cX0_codeOf 55 = .ok (.ireturn, 1) := by decide +kernel
theorem dX1_init_0 : decode cX1_init 0 = .ok (.aload_n 0, 1) := by decide +kernel
theorem dX1_init_1 : decode cX1_init 1 = .ok (.invokespecial 3, 3) := by decide +kernel
theorem dX1_init_4 : decode cX1_init 4 = .ok (.aload_n 0, 1) := by decide +kernel
theorem dX1_init_5 : decode cX1_init 5 = .ok (.bipush 80, 2) := by decide +kernel
theorem dX1_init_7 : decode cX1_init 7 = .ok (.newarray .int, 2) := by decide +kernel
theorem dX1_init_9 : decode cX1_init 9 = .ok (.putfield 9, 3) := by decide +kernel
theorem dX1_init_12 : decode cX1_init 12 = .ok (.aload_n 0, 1) := by decide +kernel
theorem dX1_init_13 : decode cX1_init 13 = .ok (.aload_n 1, 1) := by decide +kernel
theorem dX1_init_14 : decode cX1_init 14 = .ok (.putfield 15, 3) := by decide +kernel
theorem dX1_init_17 : decode cX1_init 17 = .ok (.return_, 1) := by decide +kernel
theorem dX1_trace_0 : decode cX1_trace 0 = .ok (.aload_n 0, 1) := by decide +kernel
theorem dX1_trace_1 : decode cX1_trace 1 = .ok (.iconst 0, 1) := by decide +kernel
theorem dX1_trace_2 : decode cX1_trace 2 = .ok (.putfield 19, 3) := by decide +kernel
theorem dX1_trace_5 : decode cX1_trace 5 = .ok (.iconst 0, 1) := by decide +kernel
theorem dX1_trace_6 : decode cX1_trace 6 = .ok (.istore_n 1, 1) := by decide +kernel
theorem dX1_trace_7 : decode cX1_trace 7 = .ok (.iload_n 1, 1) := by decide +kernel
theorem dX1_trace_8 : decode cX1_trace 8 = .ok (.aload_n 0, 1) := by decide +kernel
theorem dX1_trace_9 : decode cX1_trace 9 = .ok (.getfield 15, 3) := by decide +kernel
theorem dX1_trace_12 : decode cX1_trace 12 = .ok (.getfield 23, 3) := by decide +kernel
theorem dX1_trace_15 : decode cX1_trace 15 = .ok (.if_icmp .ge 23, 3) := by decide +kernel
theorem dX1_trace_18 : decode cX1_trace 18 = .ok (.aload_n 0, 1) := by decide +kernel
theorem dX1_trace_19 : decode cX1_trace 19 = .ok (.aload_n 0, 1) := by decide +kernel
theorem dX1_trace_20 : decode cX1_trace 20 = .ok (.getfield 15, 3) := by decide +kernel
theorem dX1_trace_23 : decode cX1_trace 23 = .ok (.getfield 28, 3) := by decide +kernel
theorem dX1_trace_26 : decode cX1_trace 26 = .ok (.iload_n 1, 1) := by decide +kernel
theorem dX1_trace_27 : decode cX1_trace 27 = .ok (.iaload, 1) := by decide +kernel
theorem dX1_trace_28 : decode cX1_trace 28 = .ok (.iconst 1, 1) := by decide +kernel
theorem dX1_trace_29 : decode cX1_trace 29 = .ok (.invokevirtual 31, 3) := by decide +kernel
theorem dX1_trace_32 : decode cX1_trace 32 = .ok (.iinc 1 1, 3) := by decide +kernel
theorem dX1_trace_35 : decode cX1_trace 35 = .ok (.goto (-28), 3) := by decide +kernel
theorem dX1_trace_38 : decode cX1_trace 38 = .ok (.aload_n 0, 1) := by decide +kernel
theorem dX1_trace_39 : decode cX1_trace 39 = .ok (.getfield 19, 3) := by decide +kernel
theorem dX1_trace_42 : decode cX1_trace 42 = .ok (.istore_n 1, 1) := by decide +kernel
theorem dX1_trace_43 : decode cX1_trace 43 = .ok (.aload_n 0, 1) := by decide +kernel
theorem dX1_trace_44 : decode cX1_trace 44 = .ok (.getfield 15, 3) := by decide +kernel
theorem dX1_trace_47 : decode cX1_trace 47 = .ok (.getfield 23, 3) := by decide +kernel
theorem dX1_trace_50 : decode cX1_trace 50 = .ok (.iconst 2, 1) := by decide +kernel
theorem dX1_trace_51 : decode cX1_trace 51 = .ok (.isub, 1) := by decide +kernel
theorem dX1_trace_52 : decode cX1_trace 52 = .ok (.istore_n 2, 1) := by decide +kernel
theorem dX1_trace_53 : decode cX1_trace 53 = .ok (.iload_n 2, 1) := by decide +kernel
theorem dX1_trace_54 : decode cX1_trace 54 = .ok (.ifCond .lt 23, 3) := by decide +kernel
theorem dX1_trace_57 : decode cX1_trace 57 = .ok (.aload_n 0, 1) := by decide +kernel
theorem dX1_trace_58 : decode cX1_trace 58 = .ok (.aload_n 0, 1) := by decide +kernel
theorem dX1_trace_59 : decode cX1_trace 59 = .ok (.getfield 15, 3) := by decide +kernel
theorem dX1_trace_62 : decode cX1_trace 62 = .ok (.getfield 28, 3) := by decide +kernel
theorem dX1_trace_65 : decode cX1_trace 65 = .ok (.iload_n 2, 1) := by decide +kernel
theorem dX1_trace_66 : decode cX1_trace 66 = .ok (.iaload, 1) := by decide +kernel
theorem dX1_trace_67 : decode cX1_trace 67 = .ok (.iload_n 1, 1) := by decide +kernel
theorem dX1_trace_68 : decode cX1_trace 68 = .ok (.invokevirtual 31, 3) := by decide +kernel
theorem dX1_trace_71 : decode cX1_trace 71 = .ok (.iinc 2 (-1), 3) := by decide +kernel
theorem dX1_trace_74 : decode cX1_trace 74 = .ok (.goto (-21), 3) := by decide +kernel
theorem dX1_trace_77 : decode cX1_trace 77 = .ok (.aload_n 0, 1) := by decide +kernel
theorem dX1_trace_78 : decode cX1_trace 78 = .ok (.getfield 19, 3) := by decide +kernel
theorem dX1_trace_81 : decode cX1_trace 81 = .ok (.iconst 1, 1) := by decide +kernel
theorem dX1_trace_82 : decode cX1_trace 82 = .ok (.if_icmp .le 13, 3) := by decide +kernel
theorem dX1_trace_85 : decode cX1_trace 85 = .ok (.aload_n 0, 1) := by decide +kernel
theorem dX1_trace_86 : decode cX1_trace 86 = .ok (.dup, 1) := by decide +kernel
theorem dX1_trace_87 : decode cX1_trace 87 = .ok (.getfield 19, 3) := by decide +kernel
theorem dX1_trace_90 : decode cX1_trace 90 = .ok (.iconst 1, 1) := by decide +kernel
theorem dX1_trace_91 : decode cX1_trace 91 = .ok (.isub, 1) := by decide +kernel
theorem dX1_trace_92 : decode cX1_trace 92 = .ok (.putfield 19, 3) := by decide +kernel
theorem dX1_trace_95 : decode cX1_trace 95 = .ok (.return_, 1) := by decide +kernel
theorem dX1_addCorner_0 : decode cX1_addCorner 0 = .ok (.aload_n 0, 1) := by decide +kernel
theorem dX1_addCorner_1 : decode cX1_addCorner 1 = .ok (.getfield 19, 3) := by decide +kernel
theorem dX1_addCorner_4 : decode cX1_addCorner 4 = .ok (.iload_n 2, 1) := by decide +kernel
theorem dX1_addCorner_5 : decode cX1_addCorner 5 = .ok (.if_icmp .le 59, 3) := by decide +kernel
theorem dX1_addCorner_8 : decode cX1_addCorner 8 = .ok (.aload_n 0, 1) := by decide +kernel
theorem dX1_addCorner_9 : decode cX1_addCorner 9 = .ok (.getfield 19, 3) := by decide +kernel
theorem dX1_addCorner_12 : decode cX1_addCorner 12 = .ok (.iconst 2, 1) := by decide +kernel
theorem dX1_addCorner_13 : decode cX1_addCorner 13 = .ok (.if_icmp .lt 51, 3) := by decide +kernel
theorem dX1_addCorner_16 : decode cX1_addCorner 16 = .ok (.aload_n 0, 1) := by decide +kernel
theorem dX1_addCorner_17 : decode cX1_addCorner 17 = .ok (.getfield 15, 3) := by decide +kernel
theorem dX1_addCorner_20 : decode cX1_addCorner 20 = .ok (.aload_n 0, 1) := by decide +kernel
theorem dX1_addCorner_21 : decode cX1_addCorner 21 = .ok (.getfield 9, 3) := by decide +kernel
theorem dX1_addCorner_24 : decode cX1_addCorner 24 = .ok (.aload_n 0, 1) := by decide +kernel
theorem dX1_addCorner_25 : decode cX1_addCorner 25 = .ok (.getfield 19, 3) := by decide +kernel
theorem dX1_addCorner_28 : decode cX1_addCorner 28 = .ok (.iconst 2, 1) := by decide +kernel
theorem dX1_addCorner_29 : decode cX1_addCorner 29 = .ok (.isub, 1) := by decide +kernel
theorem dX1_addCorner_30 : decode cX1_addCorner 30 = .ok (.iaload, 1) := by decide +kernel
theorem dX1_addCorner_31 : decode cX1_addCorner 31 = .ok (.aload_n 0, 1) := by decide +kernel
theorem dX1_addCorner_32 : decode cX1_addCorner 32 = .ok (.getfield 9, 3) := by decide +kernel
theorem dX1_addCorner_35 : decode cX1_addCorner 35 = .ok (.aload_n 0, 1) := by decide +kernel
theorem dX1_addCorner_36 : decode cX1_addCorner 36 = .ok (.getfield 19, 3) := by decide +kernel
theorem dX1_addCorner_39 : decode cX1_addCorner 39 = .ok (.iconst 1, 1) := by decide +kernel
theorem dX1_addCorner_40 : decode cX1_addCorner 40 = .ok (.isub, 1) := by decide +kernel
theorem dX1_addCorner_41 : decode cX1_addCorner 41 = .ok (.iaload, 1) := by decide +kernel
theorem dX1_addCorner_42 : decode cX1_addCorner 42 = .ok (.iload_n 1, 1) := by decide +kernel
theorem dX1_addCorner_43 : decode cX1_addCorner 43 = .ok (.invokevirtual 35, 3) := by decide +kernel
theorem dX1_addCorner_46 : decode cX1_addCorner 46 = .ok (.lconst 0, 1) := by decide +kernel
theorem dX1_addCorner_47 : decode cX1_addCorner 47 = .ok (.lcmp, 1) := by decide +kernel
theorem dX1_addCorner_48 : decode cX1_addCorner 48 = .ok (.ifCond .gt 16, 3) := by decide +kernel
theorem dX1_addCorner_51 : decode cX1_addCorner 51 = .ok (.aload_n 0, 1) := by decide +kernel
theorem dX1_addCorner_52 : decode cX1_addCorner 52 = .ok (.dup, 1) := by decide +kernel
theorem dX1_addCorner_53 : decode cX1_addCorner 53 = .ok (.getfield 19, 3) := by decide +kernel
theorem dX1_addCorner_56 : decode cX1_addCorner 56 = .ok (.iconst 1, 1) := by decide +kernel
theorem dX1_addCorner_57 : decode cX1_addCorner 57 = .ok (.isub, 1) := by decide +kernel
theorem dX1_addCorner_58 : decode cX1_addCorner 58 = .ok (.putfield 19, 3) := by decide +kernel
theorem dX1_addCorner_61 : decode cX1_addCorner 61 = .ok (.goto (-61), 3) := by decide +kernel
theorem dX1_addCorner_64 : decode cX1_addCorner 64 = .ok (.aload_n 0, 1) := by decide +kernel
theorem dX1_addCorner_65 : decode cX1_addCorner 65 = .ok (.getfield 19, 3) := by decide +kernel
theorem dX1_addCorner_68 : decode cX1_addCorner 68 = .ok (.aload_n 0, 1) := by decide +kernel
theorem dX1_addCorner_69 : decode cX1_addCorner 69 = .ok (.getfield 9, 3) := by decide +kernel
theorem dX1_addCorner_72 : decode cX1_addCorner 72 = .ok (.arraylength, 1) := by decide +kernel
theorem dX1_addCorner_73 : decode cX1_addCorner 73 = .ok (.if_icmp .ge 23, 3) := by decide +kernel
theorem dX1_addCorner_76 : decode cX1_addCorner 76 = .ok (.aload_n 0, 1) := by decide +kernel
theorem dX1_addCorner_77 : decode cX1_addCorner 77 = .ok (.getfield 9, 3) := by decide +kernel
theorem dX1_addCorner_80 : decode cX1_addCorner 80 = .ok (.aload_n 0, 1) := by decide +kernel
theorem dX1_addCorner_81 : decode cX1_addCorner 81 = .ok (.getfield 19, 3) := by decide +kernel
theorem dX1_addCorner_84 : decode cX1_addCorner 84 = .ok (.iload_n 1, 1) := by decide +kernel
theorem dX1_addCorner_85 : decode cX1_addCorner 85 = .ok (.iastore, 1) := by decide +kernel
theorem dX1_addCorner_86 : decode cX1_addCorner 86 = .ok (.aload_n 0, 1) := by decide +kernel
theorem dX1_addCorner_87 : decode cX1_addCorner 87 = .ok (.dup, 1) := by decide +kernel
theorem dX1_addCorner_88 : decode cX1_addCorner 88 = .ok (.getfield 19, 3) := by decide +kernel
theorem dX1_addCorner_91 : decode cX1_addCorner 91 = .ok (.iconst 1, 1) := by decide +kernel
theorem dX1_addCorner_92 : decode cX1_addCorner 92 = .ok (.iadd, 1) := by decide +kernel
theorem dX1_addCorner_93 : decode cX1_addCorner 93 = .ok (.putfield 19, 3) := by decide +kernel
theorem dX1_addCorner_96 : decode cX1_addCorner 96 = .ok (.return_, 1) := by decide +kernel
theorem dX1_hasCorner_0 : decode cX1_hasCorner 0 = .ok (.iconst 0, 1) := by decide +kernel
theorem dX1_hasCorner_1 : decode cX1_hasCorner 1 = .ok (.istore_n 2, 1) := by decide +kernel
theorem dX1_hasCorner_2 : decode cX1_hasCorner 2 = .ok (.iload_n 2, 1) := by decide +kernel
theorem dX1_hasCorner_3 : decode cX1_hasCorner 3 = .ok (.aload_n 0, 1) := by decide +kernel
theorem dX1_hasCorner_4 : decode cX1_hasCorner 4 = .ok (.getfield 19, 3) := by decide +kernel
theorem dX1_hasCorner_7 : decode cX1_hasCorner 7 = .ok (.if_icmp .ge 21, 3) := by decide +kernel
theorem dX1_hasCorner_10 : decode cX1_hasCorner 10 = .ok (.aload_n 0, 1) := by decide +kernel
theorem dX1_hasCorner_11 : decode cX1_hasCorner 11 = .ok (.getfield 9, 3) := by decide +kernel
theorem dX1_hasCorner_14 : decode cX1_hasCorner 14 = .ok (.iload_n 2, 1) := by decide +kernel
theorem dX1_hasCorner_15 : decode cX1_hasCorner 15 = .ok (.iaload, 1) := by decide +kernel
theorem dX1_hasCorner_16 : decode cX1_hasCorner 16 = .ok (.iload_n 1, 1) := by decide +kernel
theorem dX1_hasCorner_17 : decode cX1_hasCorner 17 = .ok (.if_icmp .ne 5, 3) := by decide +kernel
theorem dX1_hasCorner_20 : decode cX1_hasCorner 20 = .ok (.iconst 1, 1) := by decide +kernel
theorem dX1_hasCorner_21 : decode cX1_hasCorner 21 = .ok (.ireturn, 1) := by decide +kernel
theorem dX1_hasCorner_22 : decode cX1_hasCorner 22 = .ok (.iinc 2 1, 3) := by decide +kernel
theorem dX1_hasCorner_25 : decode cX1_hasCorner 25 = .ok (.goto (-23), 3) := by decide +kernel
theorem dX1_hasCorner_28 : decode cX1_hasCorner 28 = .ok (.iconst 0, 1) := by decide +kernel
theorem dX1_hasCorner_29 : decode cX1_hasCorner 29 = .ok (.ireturn, 1) := by decide +kernel
theorem dX1_twiceArea_0 : decode cX1_twiceArea 0 = .ok (.lconst 0, 1) := by decide +kernel
theorem dX1_twiceArea_1 : decode cX1_twiceArea 1 = .ok (.lstore_n 1, 1) := by decide +kernel
theorem dX1_twiceArea_2 : decode cX1_twiceArea 2 = .ok (.iconst 2, 1) := by decide +kernel
theorem dX1_twiceArea_3 : decode cX1_twiceArea 3 = .ok (.istore_n 3, 1) := by decide +kernel
theorem dX1_twiceArea_4 : decode cX1_twiceArea 4 = .ok (.iload_n 3, 1) := by decide +kernel
theorem dX1_twiceArea_5 : decode cX1_twiceArea 5 = .ok (.aload_n 0, 1) := by decide +kernel
theorem dX1_twiceArea_6 : decode cX1_twiceArea 6 = .ok (.getfield 19, 3) := by decide +kernel
theorem dX1_twiceArea_9 : decode cX1_twiceArea 9 = .ok (.if_icmp .ge 39, 3) := by decide +kernel
theorem dX1_twiceArea_12 : decode cX1_twiceArea 12 = .ok (.lload_n 1, 1) := by decide +kernel
theorem dX1_twiceArea_13 : decode cX1_twiceArea 13 = .ok (.aload_n 0, 1) := by decide +kernel
theorem dX1_twiceArea_14 : decode cX1_twiceArea 14 = .ok (.getfield 15, 3) := by decide +kernel
theorem dX1_twiceArea_17 : decode cX1_twiceArea 17 = .ok (.aload_n 0, 1) := by decide +kernel
theorem dX1_twiceArea_18 : decode cX1_twiceArea 18 = .ok (.getfield 9, 3) := by decide +kernel
theorem dX1_twiceArea_21 : decode cX1_twiceArea 21 = .ok (.iconst 0, 1) := by decide +kernel
theorem dX1_twiceArea_22 : decode cX1_twiceArea 22 = .ok (.iaload, 1) := by decide +kernel
theorem dX1_twiceArea_23 : decode cX1_twiceArea 23 = .ok (.aload_n 0, 1) := by decide +kernel
theorem dX1_twiceArea_24 : decode cX1_twiceArea 24 = .ok (.getfield 9, 3) := by decide +kernel
theorem dX1_twiceArea_27 : decode cX1_twiceArea 27 = .ok (.iload_n 3, 1) := by decide +kernel
theorem dX1_twiceArea_28 : decode cX1_twiceArea 28 = .ok (.iconst 1, 1) := by decide +kernel
theorem dX1_twiceArea_29 : decode cX1_twiceArea 29 = .ok (.isub, 1) := by decide +kernel
theorem dX1_twiceArea_30 : decode cX1_twiceArea 30 = .ok (.iaload, 1) := by decide +kernel
theorem dX1_twiceArea_31 : decode cX1_twiceArea 31 = .ok (.aload_n 0, 1) := by decide +kernel
theorem dX1_twiceArea_32 : decode cX1_twiceArea 32 = .ok (.getfield 9, 3) := by decide +kernel
theorem dX1_twiceArea_35 : decode cX1_twiceArea 35 = .ok (.iload_n 3, 1) := by decide +kernel
theorem dX1_twiceArea_36 : decode cX1_twiceArea 36 = .ok (.iaload, 1) := by decide +kernel
theorem dX1_twiceArea_37 : decode cX1_twiceArea 37 = .ok (.invokevirtual 35, 3) := by decide +kernel
theorem dX1_twiceArea_40 : decode cX1_twiceArea 40 = .ok (.ladd, 1) := by decide +kernel
theorem dX1_twiceArea_41 : decode cX1_twiceArea 41 = .ok (.lstore_n 1, 1) := by decide +kernel
theorem dX1_twiceArea_42 : decode cX1_twiceArea 42 = .ok (.iinc 3 1, 3) := by decide +kernel
theorem dX1_twiceArea_45 : decode cX1_twiceArea 45 = .ok (.goto (-41), 3) := by decide +kernel
theorem dX1_twiceArea_48 : decode cX1_twiceArea 48 = .ok (.lload_n 1, 1) := by decide +kernel
theorem dX1_twiceArea_49 : decode cX1_twiceArea 49 = .ok (.lreturn, 1) := by decide +kernel
