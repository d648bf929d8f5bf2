theorem dX3_init_0 : decode cX3_init 0 = .ok (.aload_n 0, 1) := by decide +kernel
theorem dX3_init_1 : decode cX3_init 1 = .ok (.invokespecial 3, 3) := by decide +kernel
theorem dX3_init_4 : decode cX3_init 4 = .ok (.aload_n 0, 1) := by decide +kernel
theorem dX3_init_5 : decode cX3_init 5 = .ok (.bipush 8, 2) := by decide +kernel
theorem dX3_init_7 : decode cX3_init 7 = .ok (.newarray .int, 2) := by decide +kernel
theorem dX3_init_9 : decode cX3_init 9 = .ok (.putfield 9, 3) := by decide +kernel
theorem dX3_init_12 : decode cX3_init 12 = .ok (.aload_n 0, 1) := by decide +kernel
theorem dX3_init_13 : decode cX3_init 13 = .ok (.bipush 8, 2) := by decide +kernel
theorem dX3_init_15 : decode cX3_init 15 = .ok (.newarray .int, 2) := by decide +kernel
theorem dX3_init_17 : decode cX3_init 17 = .ok (.putfield 15, 3) := by decide +kernel
theorem dX3_init_20 : decode cX3_init 20 = .ok (.aload_n 0, 1) := by decide +kernel
theorem dX3_init_21 : decode cX3_init 21 = .ok (.bipush 8, 2) := by decide +kernel
theorem dX3_init_23 : decode cX3_init 23 = .ok (.newarray .int, 2) := by decide +kernel
theorem dX3_init_25 : decode cX3_init 25 = .ok (.putfield 18, 3) := by decide +kernel
theorem dX3_init_28 : decode cX3_init 28 = .ok (.aload_n 0, 1) := by decide +kernel
theorem dX3_init_29 : decode cX3_init 29 = .ok (.bipush 8, 2) := by decide +kernel
theorem dX3_init_31 : decode cX3_init 31 = .ok (.bipush 8, 2) := by decide +kernel
theorem dX3_init_33 : decode cX3_init 33 = .ok (.multianewarray 21 2, 4) := by decide +kernel
theorem dX3_init_37 : decode cX3_init 37 = .ok (.putfield 23, 3) := by decide +kernel
theorem dX3_init_40 : decode cX3_init 40 = .ok (.aload_n 0, 1) := by decide +kernel
theorem dX3_init_41 : decode cX3_init 41 = .ok (.sipush 2048, 3) := by decide +kernel
theorem dX3_init_44 : decode cX3_init 44 = .ok (.newarray .int, 2) := by decide +kernel
theorem dX3_init_46 : decode cX3_init 46 = .ok (.putfield 26, 3) := by decide +kernel
theorem dX3_init_49 : decode cX3_init 49 = .ok (.aload_n 0, 1) := by decide +kernel
theorem dX3_init_50 : decode cX3_init 50 = .ok (.iconst 0, 1) := by decide +kernel
theorem dX3_init_51 : decode cX3_init 51 = .ok (.putfield 29, 3) := by decide +kernel
theorem dX3_init_54 : decode cX3_init 54 = .ok (.aload_n 0, 1) := by decide +kernel
theorem dX3_init_55 : decode cX3_init 55 = .ok (.bipush 24, 2) := by decide +kernel
theorem dX3_init_57 : decode cX3_init 57 = .ok (.newarray .int, 2) := by decide +kernel
theorem dX3_init_59 : decode cX3_init 59 = .ok (.putfield 33, 3) := by decide +kernel
theorem dX3_init_62 : decode cX3_init 62 = .ok (.aload_n 0, 1) := by decide +kernel
theorem dX3_init_63 : decode cX3_init 63 = .ok (.iconst 0, 1) := by decide +kernel
theorem dX3_init_64 : decode cX3_init 64 = .ok (.putfield 36, 3) := by decide +kernel
theorem dX3_init_67 : decode cX3_init 67 = .ok (.aload_n 0, 1) := by decide +kernel
theorem dX3_init_68 : decode cX3_init 68 = .ok (.iconst 0, 1) := by decide +kernel
theorem dX3_init_69 : decode cX3_init 69 = .ok (.putfield 39, 3) := by decide +kernel
theorem dX3_init_72 : decode cX3_init 72 = .ok (.aload_n 0, 1) := by decide +kernel
theorem dX3_init_73 : decode cX3_init 73 = .ok (.iconst 0, 1) := by decide +kernel
theorem dX3_init_74 : decode cX3_init 74 = .ok (.putfield 42, 3) := by decide +kernel
theorem dX3_init_77 : decode cX3_init 77 = .ok (.return_, 1) := by decide +kernel
theorem dX3_splitSet_0 : decode cX3_splitSet 0 = .ok (.aload_n 0, 1) := by decide +kernel
theorem dX3_splitSet_1 : decode cX3_splitSet 1 = .ok (.iconst 0, 1) := by decide +kernel
theorem dX3_splitSet_2 : decode cX3_splitSet 2 = .ok (.putfield 29, 3) := by decide +kernel
theorem dX3_splitSet_5 : decode cX3_splitSet 5 = .ok (.iconst 0, 1) := by decide +kernel
theorem dX3_splitSet_6 : decode cX3_splitSet 6 = .ok (.istore_n 3, 1) := by decide +kernel
theorem dX3_splitSet_7 : decode cX3_splitSet 7 = .ok (.iload_n 3, 1) := by decide +kernel
theorem dX3_splitSet_8 : decode cX3_splitSet 8 = .ok (.aload_n 1, 1) := by decide +kernel
theorem dX3_splitSet_9 : decode cX3_splitSet 9 = .ok (.getfield 45, 3) := by decide +kernel
theorem dX3_splitSet_12 : decode cX3_splitSet 12 = .ok (.if_icmp .ge 85, 3) := by decide +kernel
theorem dX3_splitSet_15 : decode cX3_splitSet 15 = .ok (.aload_n 1, 1) := by decide +kernel
theorem dX3_splitSet_16 : decode cX3_splitSet 16 = .ok (.iload_n 3, 1) := by decide +kernel
theorem dX3_splitSet_17 : decode cX3_splitSet 17 = .ok (.invokevirtual 48, 3) := by decide +kernel
theorem dX3_splitSet_20 : decode cX3_splitSet 20 = .ok (.iload_n 2, 1) := by decide +kernel
theorem dX3_splitSet_21 : decode cX3_splitSet 21 = .ok (.iand, 1) := by decide +kernel
theorem dX3_splitSet_22 : decode cX3_splitSet 22 = .ok (.istore 4, 2) := by decide +kernel
theorem dX3_splitSet_24 : decode cX3_splitSet 24 = .ok (.iload 4, 2) := by decide +kernel
theorem dX3_splitSet_26 : decode cX3_splitSet 26 = .ok (.invokestatic 52, 3) := by decide +kernel
theorem dX3_splitSet_29 : decode cX3_splitSet 29 = .ok (.iconst 1, 1) := by decide +kernel
theorem dX3_splitSet_30 : decode cX3_splitSet 30 = .ok (.iload_n 3, 1) := by decide +kernel
theorem dX3_splitSet_31 : decode cX3_splitSet 31 = .ok (.ishl, 1) := by decide +kernel
theorem dX3_splitSet_32 : decode cX3_splitSet 32 = .ok (.if_icmp .ne 59, 3) := by decide +kernel
theorem dX3_splitSet_35 : decode cX3_splitSet 35 = .ok (.aload_n 0, 1) := by decide +kernel
theorem dX3_splitSet_36 : decode cX3_splitSet 36 = .ok (.getfield 29, 3) := by decide +kernel
theorem dX3_splitSet_39 : decode cX3_splitSet 39 = .ok (.bipush 8, 2) := by decide +kernel
theorem dX3_splitSet_41 : decode cX3_splitSet 41 = .ok (.if_icmp .lt 5, 3) := by decide +kernel
theorem dX3_splitSet_44 : decode cX3_splitSet 44 = .ok (.iconst 0, 1) := by decide +kernel
theorem dX3_splitSet_45 : decode cX3_splitSet 45 = .ok (.ireturn, 1) := by decide +kernel
theorem dX3_splitSet_46 : decode cX3_splitSet 46 = .ok (.aload_n 0, 1) := by decide +kernel
theorem dX3_splitSet_47 : decode cX3_splitSet 47 = .ok (.getfield 9, 3) := by decide +kernel
theorem dX3_splitSet_50 : decode cX3_splitSet 50 = .ok (.aload_n 0, 1) := by decide +kernel
theorem dX3_splitSet_51 : decode cX3_splitSet 51 = .ok (.getfield 29, 3) := by decide +kernel
theorem dX3_splitSet_54 : decode cX3_splitSet 54 = .ok (.iload 4, 2) := by decide +kernel
theorem dX3_splitSet_56 : decode cX3_splitSet 56 = .ok (.iastore, 1) := by decide +kernel
theorem dX3_splitSet_57 : decode cX3_splitSet 57 = .ok (.aload_n 0, 1) := by decide +kernel
theorem dX3_splitSet_58 : decode cX3_splitSet 58 = .ok (.getfield 15, 3) := by decide +kernel
theorem dX3_splitSet_61 : decode cX3_splitSet 61 = .ok (.aload_n 0, 1) := by decide +kernel
theorem dX3_splitSet_62 : decode cX3_splitSet 62 = .ok (.getfield 29, 3) := by decide +kernel
theorem dX3_splitSet_65 : decode cX3_splitSet 65 = .ok (.iload_n 3, 1) := by decide +kernel
theorem dX3_splitSet_66 : decode cX3_splitSet 66 = .ok (.iastore, 1) := by decide +kernel
theorem dX3_splitSet_67 : decode cX3_splitSet 67 = .ok (.aload_n 0, 1) := by decide +kernel
theorem dX3_splitSet_68 : decode cX3_splitSet 68 = .ok (.getfield 18, 3) := by decide +kernel
theorem dX3_splitSet_71 : decode cX3_splitSet 71 = .ok (.aload_n 0, 1) := by decide +kernel
theorem dX3_splitSet_72 : decode cX3_splitSet 72 = .ok (.getfield 29, 3) := by decide +kernel
theorem dX3_splitSet_75 : decode cX3_splitSet 75 = .ok (.iload 4, 2) := by decide +kernel
theorem dX3_splitSet_77 : decode cX3_splitSet 77 = .ok (.invokestatic 55, 3) := by decide +kernel
theorem dX3_splitSet_80 : decode cX3_splitSet 80 = .ok (.iastore, 1) := by decide +kernel
theorem dX3_splitSet_81 : decode cX3_splitSet 81 = .ok (.aload_n 0, 1) := by decide +kernel
theorem dX3_splitSet_82 : decode cX3_splitSet 82 = .ok (.dup, 1) := by decide +kernel
theorem dX3_splitSet_83 : decode cX3_splitSet 83 = .ok (.getfield 29, 3) := by decide +kernel
theorem dX3_splitSet_86 : decode cX3_splitSet 86 = .ok (.iconst 1, 1) := by decide +kernel
theorem dX3_splitSet_87 : decode cX3_splitSet 87 = .ok (.iadd, 1) := by decide +kernel
theorem dX3_splitSet_88 : decode cX3_splitSet 88 = .ok (.putfield 29, 3) := by decide +kernel
theorem dX3_splitSet_91 : decode cX3_splitSet 91 = .ok (.iinc 3 1, 3) := by decide +kernel
theorem dX3_splitSet_94 : decode cX3_splitSet 94 = .ok (.goto (-87), 3) := by decide +kernel
theorem dX3_splitSet_97 : decode cX3_splitSet 97 = .ok (.iconst 1, 1) := by decide +kernel
theorem dX3_splitSet_98 : decode cX3_splitSet 98 = .ok (.ireturn, 1) := by decide +kernel
theorem dX3_arrange_0 : decode cX3_arrange 0 = .ok (.aload_n 0, 1) := by decide +kernel
theorem dX3_arrange_1 : decode cX3_arrange 1 = .ok (.aload_n 1, 1) := by decide +kernel
theorem dX3_arrange_2 : decode cX3_arrange 2 = .ok (.invokevirtual 58, 3) := by decide +kernel
theorem dX3_arrange_5 : decode cX3_arrange 5 = .ok (.aload_n 0, 1) := by decide +kernel
theorem dX3_arrange_6 : decode cX3_arrange 6 = .ok (.invokevirtual 62, 3) := by decide +kernel
theorem dX3_arrange_9 : decode cX3_arrange 9 = .ok (.aload_n 0, 1) := by decide +kernel
theorem dX3_arrange_10 : decode cX3_arrange 10 = .ok (.invokevirtual 65, 3) := by decide +kernel
theorem dX3_arrange_13 : decode cX3_arrange 13 = .ok (.aload_n 0, 1) := by decide +kernel
theorem dX3_arrange_14 : decode cX3_arrange 14 = .ok (.aload_n 1, 1) := by decide +kernel
theorem dX3_arrange_15 : decode cX3_arrange 15 = .ok (.invokevirtual 68, 3) := by decide +kernel
theorem dX3_arrange_18 : decode cX3_arrange 18 = .ok (.return_, 1) := by decide +kernel
theorem dX3_highestOf_0 : decode cX3_highestOf 0 = .ok (.iconst 0, 1) := by decide +kernel
theorem dX3_highestOf_1 : decode cX3_highestOf 1 = .ok (.istore_n 1, 1) := by decide +kernel
theorem dX3_highestOf_2 : decode cX3_highestOf 2 = .ok (.iconst 0, 1) := by decide +kernel
theorem dX3_highestOf_3 : decode cX3_highestOf 3 = .ok (.istore_n 2, 1) := by decide +kernel
theorem dX3_highestOf_4 : decode cX3_highestOf 4 = .ok (.iload_n 2, 1) := by decide +kernel
theorem dX3_highestOf_5 : decode cX3_highestOf 5 = .ok (.bipush 24, 2) := by decide +kernel
theorem dX3_highestOf_7 : decode cX3_highestOf 7 = .ok (.if_icmp .ge 19, 3) := by decide +kernel
theorem dX3_highestOf_10 : decode cX3_highestOf 10 = .ok (.iload_n 0, 1) := by decide +kernel
theorem dX3_highestOf_11 : decode cX3_highestOf 11 = .ok (.iload_n 2, 1) := by decide +kernel
theorem dX3_highestOf_12 : decode cX3_highestOf 12 = .ok (.invokestatic 71, 3) := by decide +kernel
theorem dX3_highestOf_15 : decode cX3_highestOf 15 = .ok (.ifCond .eq 5, 3) := by decide +kernel
theorem dX3_highestOf_18 : decode cX3_highestOf 18 = .ok (.iload_n 2, 1) := by decide +kernel
theorem dX3_highestOf_19 : decode cX3_highestOf 19 = .ok (.istore_n 1, 1) := by decide +kernel
theorem dX3_highestOf_20 : decode cX3_highestOf 20 = .ok (.iinc 2 1, 3) := by decide +kernel
theorem dX3_highestOf_23 : decode cX3_highestOf 23 = .ok (.goto (-19), 3) := by decide +kernel
theorem dX3_highestOf_26 : decode cX3_highestOf 26 = .ok (.iload_n 1, 1) := by decide +kernel
theorem dX3_highestOf_27 : decode cX3_highestOf 27 = .ok (.ireturn, 1) := by decide +kernel
theorem dX3_reckonJoinCosts_0 : decode cX3_reckonJoinCosts 0 = .ok (.iconst 0, 1) := by decide +kernel
theorem dX3_reckonJoinCosts_1 : decode cX3_reckonJoinCosts 1 = .ok (.istore_n 2, 1) := by decide +kernel
theorem dX3_reckonJoinCosts_2 : decode cX3_reckonJoinCosts 2 = .ok (.iload_n 2, 1) := by decide +kernel
theorem dX3_reckonJoinCosts_3 : decode cX3_reckonJoinCosts 3 = .ok (.aload_n 0, 1) := by decide +kernel
theorem dX3_reckonJoinCosts_4 : decode cX3_reckonJoinCosts 4 = .ok (.getfield 29, 3) := by decide +kernel
theorem dX3_reckonJoinCosts_7 : decode cX3_reckonJoinCosts 7 = .ok (.if_icmp .ge 77, 3) := by decide +kernel
theorem dX3_reckonJoinCosts_10 : decode cX3_reckonJoinCosts 10 = .ok (.iconst 0, 1) := by decide +kernel
theorem dX3_reckonJoinCosts_11 : decode cX3_reckonJoinCosts 11 = .ok (.istore_n 3, 1) := by decide +kernel
theorem dX3_reckonJoinCosts_12 : decode cX3_reckonJoinCosts 12 = .ok (.iload_n 3, 1) := by decide +kernel
theorem dX3_reckonJoinCosts_13 : decode cX3_reckonJoinCosts 13 = .ok (.aload_n 0, 1) := by decide +kernel
theorem dX3_reckonJoinCosts_14 : decode cX3_reckonJoinCosts 14 = .ok (.getfield 29, 3) := by decide +kernel
theorem dX3_reckonJoinCosts_17 : decode cX3_reckonJoinCosts 17 = .ok (.if_icmp .ge 61, 3) := by decide +kernel
theorem dX3_reckonJoinCosts_20 : decode cX3_reckonJoinCosts 20 = .ok (.aload_n 0, 1) := by decide +kernel
theorem dX3_reckonJoinCosts_21 : decode cX3_reckonJoinCosts 21 = .ok (.getfield 18, 3) := by decide +kernel
theorem dX3_reckonJoinCosts_24 : decode cX3_reckonJoinCosts 24 = .ok (.iload_n 2, 1) := by decide +kernel
theorem dX3_reckonJoinCosts_25 : decode cX3_reckonJoinCosts 25 = .ok (.iaload, 1) := by decide +kernel
theorem dX3_reckonJoinCosts_26 : decode cX3_reckonJoinCosts 26 = .ok (.istore 4, 2) := by decide +kernel
theorem dX3_reckonJoinCosts_28 : decode cX3_reckonJoinCosts 28 = .ok (.aload_n 0, 1) := by decide +kernel
theorem dX3_reckonJoinCosts_29 : decode cX3_reckonJoinCosts 29 = .ok (.getfield 15, 3) := by decide +kernel
theorem dX3_reckonJoinCosts_32 : decode cX3_reckonJoinCosts 32 = .ok (.iload_n 3, 1) := by decide +kernel
theorem dX3_reckonJoinCosts_33 : decode cX3_reckonJoinCosts 33 = .ok (.iaload, 1) := by decide +kernel
theorem dX3_reckonJoinCosts_34 : decode cX3_reckonJoinCosts 34 = .ok (.istore 5, 2) := by decide +kernel
theorem dX3_reckonJoinCosts_36 : decode cX3_reckonJoinCosts 36 = .ok (.aload_n 0, 1) := by decide +kernel
theorem dX3_reckonJoinCosts_37 : decode cX3_reckonJoinCosts 37 = .ok (.getfield 23, 3) := by decide +kernel
theorem dX3_reckonJoinCosts_40 : decode cX3_reckonJoinCosts 40 = .ok (.iload_n 2, 1) := by decide +kernel
theorem dX3_reckonJoinCosts_41 : decode cX3_reckonJoinCosts 41 = .ok (.aaload, 1) := by decide +kernel
theorem dX3_reckonJoinCosts_42 : decode cX3_reckonJoinCosts 42 = .ok (.iload_n 3, 1) := by decide +kernel
theorem dX3_reckonJoinCosts_43 : decode cX3_reckonJoinCosts 43 = .ok (.aload_n 1, 1) := by decide +kernel
theorem dX3_reckonJoinCosts_44 : decode cX3_reckonJoinCosts 44 = .ok (.iload 4, 2) := by decide +kernel
theorem dX3_reckonJoinCosts_46 : decode cX3_reckonJoinCosts 46 = .ok (.iload 5, 2) := by decide +kernel
theorem dX3_reckonJoinCosts_48 : decode cX3_reckonJoinCosts 48 = .ok (.invokestatic 75, 3) := by decide +kernel
theorem dX3_reckonJoinCosts_51 : decode cX3_reckonJoinCosts 51 = .ok (.invokestatic 79, 3) := by decide +kernel
theorem dX3_reckonJoinCosts_54 : decode cX3_reckonJoinCosts 54 = .ok (.bipush 32, 2) := by decide +kernel
theorem dX3_reckonJoinCosts_56 : decode cX3_reckonJoinCosts 56 = .ok (.imul, 1) := by decide +kernel
theorem dX3_reckonJoinCosts_57 : decode cX3_reckonJoinCosts 57 = .ok (.aload_n 1, 1) := by decide +kernel
theorem dX3_reckonJoinCosts_58 : decode cX3_reckonJoinCosts 58 = .ok (.iload 4, 2) := by decide +kernel
theorem dX3_reckonJoinCosts_60 : decode cX3_reckonJoinCosts 60 = .ok (.iload 5, 2) := by decide +kernel
theorem dX3_reckonJoinCosts_62 : decode cX3_reckonJoinCosts 62 = .ok (.invokestatic 83, 3) := by decide +kernel
theorem dX3_reckonJoinCosts_65 : decode cX3_reckonJoinCosts 65 = .ok (.invokestatic 79, 3) := by decide +kernel
theorem dX3_reckonJoinCosts_68 : decode cX3_reckonJoinCosts 68 = .ok (.iconst 1, 1) := by decide +kernel
theorem dX3_reckonJoinCosts_69 : decode cX3_reckonJoinCosts 69 = .ok (.imul, 1) := by decide +kernel
theorem dX3_reckonJoinCosts_70 : decode cX3_reckonJoinCosts 70 = .ok (.iadd, 1) := by decide +kernel
theorem dX3_reckonJoinCosts_71 : decode cX3_reckonJoinCosts 71 = .ok (.iastore, 1) := by decide +kernel
theorem dX3_reckonJoinCosts_72 : decode cX3_reckonJoinCosts 72 = .ok (.iinc 3 1, 3) := by decide +kernel
theorem dX3_reckonJoinCosts_75 : decode cX3_reckonJoinCosts 75 = .ok (.goto (-63), 3) := by decide +kernel
theorem dX3_reckonJoinCosts_78 : decode cX3_reckonJoinCosts 78 = .ok (.iinc 2 1, 3) := by decide +kernel
theorem dX3_reckonJoinCosts_81 : decode cX3_reckonJoinCosts 81 = .ok (.goto (-79), 3) := by decide +kernel
theorem dX3_reckonJoinCosts_84 : decode cX3_reckonJoinCosts 84 = .ok (.return_, 1) := by decide +kernel
theorem dX3_reckonRestCosts_0 : decode cX3_reckonRestCosts 0 = .ok (.iconst 1, 1) := by decide +kernel
theorem dX3_reckonRestCosts_1 : decode cX3_reckonRestCosts 1 = .ok (.istore_n 1, 1) := by decide +kernel
theorem dX3_reckonRestCosts_2 : decode cX3_reckonRestCosts 2 = .ok (.iload_n 1, 1) := by decide +kernel
theorem dX3_reckonRestCosts_3 : decode cX3_reckonRestCosts 3 = .ok (.iconst 1, 1) := by decide +kernel
theorem dX3_reckonRestCosts_4 : decode cX3_reckonRestCosts 4 = .ok (.aload_n 0, 1) := by decide +kernel
theorem dX3_reckonRestCosts_5 : decode cX3_reckonRestCosts 5 = .ok (.getfield 29, 3) := by decide +kernel
theorem dX3_reckonRestCosts_8 : decode cX3_reckonRestCosts 8 = .ok (.ishl, 1) := by decide +kernel
theorem dX3_reckonRestCosts_9 : decode cX3_reckonRestCosts 9 = .ok (.if_icmp .ge 58, 3) := by decide +kernel
theorem dX3_reckonRestCosts_12 : decode cX3_reckonRestCosts 12 = .ok (.iconst 0, 1) := by decide +kernel
theorem dX3_reckonRestCosts_13 : decode cX3_reckonRestCosts 13 = .ok (.istore_n 2, 1) := by decide +kernel
theorem dX3_reckonRestCosts_14 : decode cX3_reckonRestCosts 14 = .ok (.iload_n 2, 1) := by decide +kernel
theorem dX3_reckonRestCosts_15 : decode cX3_reckonRestCosts 15 = .ok (.aload_n 0, 1) := by decide +kernel
theorem dX3_reckonRestCosts_16 : decode cX3_reckonRestCosts 16 = .ok (.getfield 29, 3) := by decide +kernel
theorem dX3_reckonRestCosts_19 : decode cX3_reckonRestCosts 19 = .ok (.if_icmp .ge 42, 3) := by decide +kernel
theorem dX3_reckonRestCosts_22 : decode cX3_reckonRestCosts 22 = .ok (.iload_n 1, 1) := by decide +kernel
theorem dX3_reckonRestCosts_23 : decode cX3_reckonRestCosts 23 = .ok (.iload_n 2, 1) := by decide +kernel
theorem dX3_reckonRestCosts_24 : decode cX3_reckonRestCosts 24 = .ok (.invokestatic 71, 3) := by decide +kernel
theorem dX3_reckonRestCosts_27 : decode cX3_reckonRestCosts 27 = .ok (.ifCond .ne 28, 3) := by decide +kernel
theorem dX3_reckonRestCosts_30 : decode cX3_reckonRestCosts 30 = .ok (.aload_n 0, 1) := by decide +kernel
theorem dX3_reckonRestCosts_31 : decode cX3_reckonRestCosts 31 = .ok (.iload_n 2, 1) := by decide +kernel
theorem dX3_reckonRestCosts_32 : decode cX3_reckonRestCosts 32 = .ok (.iload_n 1, 1) := by decide +kernel
theorem dX3_reckonRestCosts_33 : decode cX3_reckonRestCosts 33 = .ok (.invokevirtual 86, 3) := by decide +kernel
theorem dX3_reckonRestCosts_36 : decode cX3_reckonRestCosts 36 = .ok (.istore_n 3, 1) := by decide +kernel
theorem dX3_reckonRestCosts_37 : decode cX3_reckonRestCosts 37 = .ok (.aload_n 0, 1) := by decide +kernel
theorem dX3_reckonRestCosts_38 : decode cX3_reckonRestCosts 38 = .ok (.getfield 26, 3) := by decide +kernel
theorem dX3_reckonRestCosts_41 : decode cX3_reckonRestCosts 41 = .ok (.iload_n 1, 1) := by decide +kernel
theorem dX3_reckonRestCosts_42 : decode cX3_reckonRestCosts 42 = .ok (.bipush 8, 2) := by decide +kernel
theorem dX3_reckonRestCosts_44 : decode cX3_reckonRestCosts 44 = .ok (.imul, 1) := by decide +kernel
theorem dX3_reckonRestCosts_45 : decode cX3_reckonRestCosts 45 = .ok (.iload_n 2, 1) := by decide +kernel
theorem dX3_reckonRestCosts_46 : decode cX3_reckonRestCosts 46 = .ok (.iadd, 1) := by decide +kernel
theorem dX3_reckonRestCosts_47 : decode cX3_reckonRestCosts 47 = .ok (.aload_n 0, 1) := by decide +kernel
theorem dX3_reckonRestCosts_48 : decode cX3_reckonRestCosts 48 = .ok (.iload_n 2, 1) := by decide +kernel
theorem dX3_reckonRestCosts_49 : decode cX3_reckonRestCosts 49 = .ok (.iload_n 1, 1) := by decide +kernel
theorem dX3_reckonRestCosts_50 : decode cX3_reckonRestCosts 50 = .ok (.iload_n 3, 1) := by decide +kernel
theorem dX3_reckonRestCosts_51 : decode cX3_reckonRestCosts 51 = .ok (.invokevirtual 90, 3) := by decide +kernel
theorem dX3_reckonRestCosts_54 : decode cX3_reckonRestCosts 54 = .ok (.iastore, 1) := by decide +kernel
theorem dX3_reckonRestCosts_55 : decode cX3_reckonRestCosts 55 = .ok (.iinc 2 1, 3) := by decide +kernel
theorem dX3_reckonRestCosts_58 : decode cX3_reckonRestCosts 58 = .ok (.goto (-44), 3) := by decide +kernel
theorem dX3_reckonRestCosts_61 : decode cX3_reckonRestCosts 61 = .ok (.iinc 1 1, 3) := by decide +kernel
theorem dX3_reckonRestCosts_64 : decode cX3_reckonRestCosts 64 = .ok (.goto (-62), 3) := by decide +kernel
theorem dX3_reckonRestCosts_67 : decode cX3_reckonRestCosts 67 = .ok (.return_, 1) := by decide +kernel
theorem dX3_costBehind_0 : decode cX3_costBehind 0 = .ok (.iload_n 1, 1) := by decide +kernel
theorem dX3_costBehind_1 : decode cX3_costBehind 1 = .ok (.ifCond .ge 7, 3) := by decide +kernel
theorem dX3_costBehind_4 : decode cX3_costBehind 4 = .ok (.iconst 0, 1) := by decide +kernel
theorem dX3_costBehind_5 : decode cX3_costBehind 5 = .ok (.goto 11, 3) := by decide +kernel
theorem dX3_costBehind_8 : decode cX3_costBehind 8 = .ok (.aload_n 0, 1) := by decide +kernel
theorem dX3_costBehind_9 : decode cX3_costBehind 9 = .ok (.getfield 23, 3) := by decide +kernel
theorem dX3_costBehind_12 : decode cX3_costBehind 12 = .ok (.iload_n 1, 1) := by decide +kernel
theorem dX3_costBehind_13 : decode cX3_costBehind 13 = .ok (.aaload, 1) := by decide +kernel
theorem dX3_costBehind_14 : decode cX3_costBehind 14 = .ok (.iload_n 3, 1) := by decide +kernel
theorem dX3_costBehind_15 : decode cX3_costBehind 15 = .ok (.iaload, 1) := by decide +kernel
theorem dX3_costBehind_16 : decode cX3_costBehind 16 = .ok (.istore 4, 2) := by decide +kernel
theorem dX3_costBehind_18 : decode cX3_costBehind 18 = .ok (.iload_n 2, 1) := by decide +kernel
theorem dX3_costBehind_19 : decode cX3_costBehind 19 = .ok (.iconst 1, 1) := by decide +kernel
theorem dX3_costBehind_20 : decode cX3_costBehind 20 = .ok (.iload_n 3, 1) := by decide +kernel
theorem dX3_costBehind_21 : decode cX3_costBehind 21 = .ok (.ishl, 1) := by decide +kernel
theorem dX3_costBehind_22 : decode cX3_costBehind 22 = .ok (.iconst (-1), 1) := by decide +kernel
theorem dX3_costBehind_23 : decode cX3_costBehind 23 = .ok (.ixor, 1) := by decide +kernel
theorem dX3_costBehind_24 : decode cX3_costBehind 24 = .ok (.iand, 1) := by decide +kernel
theorem dX3_costBehind_25 : decode cX3_costBehind 25 = .ok (.istore 5, 2) := by decide +kernel
theorem dX3_costBehind_27 : decode cX3_costBehind 27 = .ok (.iload 4, 2) := by decide +kernel
theorem dX3_costBehind_29 : decode cX3_costBehind 29 = .ok (.aload_n 0, 1) := by decide +kernel
theorem dX3_costBehind_30 : decode cX3_costBehind 30 = .ok (.getfield 26, 3) := by decide +kernel
theorem dX3_costBehind_33 : decode cX3_costBehind 33 = .ok (.iload 5, 2) := by decide +kernel
theorem dX3_costBehind_35 : decode cX3_costBehind 35 = .ok (.bipush 8, 2) := by decide +kernel
theorem dX3_costBehind_37 : decode cX3_costBehind 37 = .ok (.imul, 1) := by decide +kernel
theorem dX3_costBehind_38 : decode cX3_costBehind 38 = .ok (.iload_n 3, 1) := by decide +kernel
theorem dX3_costBehind_39 : decode cX3_costBehind 39 = .ok (.iadd, 1) := by decide +kernel
theorem dX3_costBehind_40 : decode cX3_costBehind 40 = .ok (.iaload, 1) := by decide +kernel
theorem dX3_costBehind_41 : decode cX3_costBehind 41 = .ok (.iadd, 1) := by decide +kernel
theorem dX3_costBehind_42 : decode cX3_costBehind 42 = .ok (.ireturn, 1) := by decide +kernel
theorem dX3_cheapestBehind_0 : decode cX3_cheapestBehind 0 = .ok (.iconst 0, 1) := by decide +kernel
theorem dX3_cheapestBehind_1 : decode cX3_cheapestBehind 1 = .ok (.istore_n 3, 1) := by decide +kernel
theorem dX3_cheapestBehind_2 : decode cX3_cheapestBehind 2 = .ok (.ldc 94, 2) := by decide +kernel
theorem dX3_cheapestBehind_4 : decode cX3_cheapestBehind 4 = .ok (.istore 4, 2) := by decide +kernel
theorem dX3_cheapestBehind_6 : decode cX3_cheapestBehind 6 = .ok (.iconst 0, 1) := by decide +kernel
theorem dX3_cheapestBehind_7 : decode cX3_cheapestBehind 7 = .ok (.istore 5, 2) := by decide +kernel
theorem dX3_cheapestBehind_9 : decode cX3_cheapestBehind 9 = .ok (.iload 5, 2) := by decide +kernel
theorem dX3_cheapestBehind_11 : decode cX3_cheapestBehind 11 = .ok (.aload_n 0, 1) := by decide +kernel
theorem dX3_cheapestBehind_12 : decode cX3_cheapestBehind 12 = .ok (.getfield 29, 3) := by decide +kernel
theorem dX3_cheapestBehind_15 : decode cX3_cheapestBehind 15 = .ok (.if_icmp .ge 47, 3) := by decide +kernel
theorem dX3_cheapestBehind_18 : decode cX3_cheapestBehind 18 = .ok (.iload_n 2, 1) := by decide +kernel
theorem dX3_cheapestBehind_19 : decode cX3_cheapestBehind 19 = .ok (.iload 5, 2) := by decide +kernel
theorem dX3_cheapestBehind_21 : decode cX3_cheapestBehind 21 = .ok (.invokestatic 71, 3) := by decide +kernel
theorem dX3_cheapestBehind_24 : decode cX3_cheapestBehind 24 = .ok (.ifCond .eq 14, 3) := by decide +kernel
theorem dX3_cheapestBehind_27 : decode cX3_cheapestBehind 27 = .ok (.aload_n 0, 1) := by decide +kernel
theorem dX3_cheapestBehind_28 : decode cX3_cheapestBehind 28 = .ok (.iload_n 1, 1) := by decide +kernel
theorem dX3_cheapestBehind_29 : decode cX3_cheapestBehind 29 = .ok (.iload_n 2, 1) := by decide +kernel
theorem dX3_cheapestBehind_30 : decode cX3_cheapestBehind 30 = .ok (.iload 5, 2) := by decide +kernel
theorem dX3_cheapestBehind_32 : decode cX3_cheapestBehind 32 = .ok (.invokevirtual 90, 3) := by decide +kernel
theorem dX3_cheapestBehind_35 : decode cX3_cheapestBehind 35 = .ok (.goto 5, 3) := by decide +kernel
theorem dX3_cheapestBehind_38 : decode cX3_cheapestBehind 38 = .ok (.ldc 94, 2) := by decide +kernel
theorem dX3_cheapestBehind_40 : decode cX3_cheapestBehind 40 = .ok (.istore 6, 2) := by decide +kernel
theorem dX3_cheapestBehind_42 : decode cX3_cheapestBehind 42 = .ok (.iload 6, 2) := by decide +kernel
theorem dX3_cheapestBehind_44 : decode cX3_cheapestBehind 44 = .ok (.iload 4, 2) := by decide +kernel
theorem dX3_cheapestBehind_46 : decode cX3_cheapestBehind 46 = .ok (.if_icmp .ge 10, 3) := by decide +kernel
theorem dX3_cheapestBehind_49 : decode cX3_cheapestBehind 49 = .ok (.iload 5, 2) := by decide +kernel
theorem dX3_cheapestBehind_51 : decode cX3_cheapestBehind 51 = .ok (.istore_n 3, 1) := by decide +kernel
theorem dX3_cheapestBehind_52 : decode cX3_cheapestBehind 52 = .ok (.iload 6, 2) := by decide +kernel
theorem dX3_cheapestBehind_54 : decode cX3_cheapestBehind 54 = .ok (.istore 4, 2) := by decide +kernel
theorem dX3_cheapestBehind_56 : decode cX3_cheapestBehind 56 = .ok (.iinc 5 1, 3) := by decide +kernel
theorem dX3_cheapestBehind_59 : decode cX3_cheapestBehind 59 = .ok (.goto (-50), 3) := by decide +kernel
theorem dX3_cheapestBehind_62 : decode cX3_cheapestBehind 62 = .ok (.iload_n 3, 1) := by decide +kernel
theorem dX3_cheapestBehind_63 : decode cX3_cheapestBehind 63 = .ok (.ireturn, 1) := by decide +kernel
theorem dX3_placeUnits_0 : decode cX3_placeUnits 0 = .ok (.aload_n 0, 1) := by decide +kernel
theorem dX3_placeUnits_1 : decode cX3_placeUnits 1 = .ok (.iconst 0, 1) := by decide +kernel
theorem dX3_placeUnits_2 : decode cX3_placeUnits 2 = .ok (.putfield 36, 3) := by decide +kernel
theorem dX3_placeUnits_5 : decode cX3_placeUnits 5 = .ok (.iconst 1, 1) := by decide +kernel
theorem dX3_placeUnits_6 : decode cX3_placeUnits 6 = .ok (.aload_n 0, 1) := by decide +kernel
theorem dX3_placeUnits_7 : decode cX3_placeUnits 7 = .ok (.getfield 29, 3) := by decide +kernel
theorem dX3_placeUnits_10 : decode cX3_placeUnits 10 = .ok (.ishl, 1) := by decide +kernel
theorem dX3_placeUnits_11 : decode cX3_placeUnits 11 = .ok (.iconst 1, 1) := by decide +kernel
theorem dX3_placeUnits_12 : decode cX3_placeUnits 12 = .ok (.isub, 1) := by decide +kernel
theorem dX3_placeUnits_13 : decode cX3_placeUnits 13 = .ok (.istore_n 1, 1) := by decide +kernel
theorem dX3_placeUnits_14 : decode cX3_placeUnits 14 = .ok (.iconst (-1), 1) := by decide +kernel
theorem dX3_placeUnits_15 : decode cX3_placeUnits 15 = .ok (.istore_n 2, 1) := by decide +kernel
theorem dX3_placeUnits_16 : decode cX3_placeUnits 16 = .ok (.iconst 0, 1) := by decide +kernel
theorem dX3_placeUnits_17 : decode cX3_placeUnits 17 = .ok (.istore_n 3, 1) := by decide +kernel
theorem dX3_placeUnits_18 : decode cX3_placeUnits 18 = .ok (.iload_n 3, 1) := by decide +kernel
theorem dX3_placeUnits_19 : decode cX3_placeUnits 19 = .ok (.aload_n 0, 1) := by decide +kernel
theorem dX3_placeUnits_20 : decode cX3_placeUnits 20 = .ok (.getfield 29, 3) := by decide +kernel
theorem dX3_placeUnits_23 : decode cX3_placeUnits 23 = .ok (.if_icmp .ge 34, 3) := by decide +kernel
theorem dX3_placeUnits_26 : decode cX3_placeUnits 26 = .ok (.aload_n 0, 1) := by decide +kernel
theorem dX3_placeUnits_27 : decode cX3_placeUnits 27 = .ok (.iload_n 2, 1) := by decide +kernel
theorem dX3_placeUnits_28 : decode cX3_placeUnits 28 = .ok (.iload_n 1, 1) := by decide +kernel
theorem dX3_placeUnits_29 : decode cX3_placeUnits 29 = .ok (.invokevirtual 86, 3) := by decide +kernel
theorem dX3_placeUnits_32 : decode cX3_placeUnits 32 = .ok (.istore_n 2, 1) := by decide +kernel
theorem dX3_placeUnits_33 : decode cX3_placeUnits 33 = .ok (.iload_n 1, 1) := by decide +kernel
theorem dX3_placeUnits_34 : decode cX3_placeUnits 34 = .ok (.iconst 1, 1) := by decide +kernel
theorem dX3_placeUnits_35 : decode cX3_placeUnits 35 = .ok (.iload_n 2, 1) := by decide +kernel
theorem dX3_placeUnits_36 : decode cX3_placeUnits 36 = .ok (.ishl, 1) := by decide +kernel
theorem dX3_placeUnits_37 : decode cX3_placeUnits 37 = .ok (.iconst (-1), 1) := by decide +kernel
theorem dX3_placeUnits_38 : decode cX3_placeUnits 38 = .ok (.ixor, 1) := by decide +kernel
theorem dX3_placeUnits_39 : decode cX3_placeUnits 39 = .ok (.iand, 1) := by decide +kernel
theorem dX3_placeUnits_40 : decode cX3_placeUnits 40 = .ok (.istore_n 1, 1) := by decide +kernel
theorem dX3_placeUnits_41 : decode cX3_placeUnits 41 = .ok (.aload_n 0, 1) := by decide +kernel
theorem dX3_placeUnits_42 : decode cX3_placeUnits 42 = .ok (.aload_n 0, 1) := by decide +kernel
theorem dX3_placeUnits_43 : decode cX3_placeUnits 43 = .ok (.getfield 9, 3) := by decide +kernel
theorem dX3_placeUnits_46 : decode cX3_placeUnits 46 = .ok (.iload_n 2, 1) := by decide +kernel
theorem dX3_placeUnits_47 : decode cX3_placeUnits 47 = .ok (.iaload, 1) := by decide +kernel
theorem dX3_placeUnits_48 : decode cX3_placeUnits 48 = .ok (.invokevirtual 95, 3) := by decide +kernel
theorem dX3_placeUnits_51 : decode cX3_placeUnits 51 = .ok (.iinc 3 1, 3) := by decide +kernel
theorem dX3_placeUnits_54 : decode cX3_placeUnits 54 = .ok (.goto (-36), 3) := by decide +kernel
theorem dX3_placeUnits_57 : decode cX3_placeUnits 57 = .ok (.return_, 1) := by decide +kernel
theorem dX3_placeQuestions_0 : decode cX3_placeQuestions 0 = .ok (.iconst 0, 1) := by decide +kernel
theorem dX3_placeQuestions_1 : decode cX3_placeQuestions 1 = .ok (.istore_n 2, 1) := by decide +kernel
theorem dX3_placeQuestions_2 : decode cX3_placeQuestions 2 = .ok (.iload_n 2, 1) := by decide +kernel
theorem dX3_placeQuestions_3 : decode cX3_placeQuestions 3 = .ok (.bipush 24, 2) := by decide +kernel
theorem dX3_placeQuestions_5 : decode cX3_placeQuestions 5 = .ok (.if_icmp .ge 46, 3) := by decide +kernel
theorem dX3_placeQuestions_8 : decode cX3_placeQuestions 8 = .ok (.aload_n 0, 1) := by decide +kernel
theorem dX3_placeQuestions_9 : decode cX3_placeQuestions 9 = .ok (.getfield 36, 3) := by decide +kernel
theorem dX3_placeQuestions_12 : decode cX3_placeQuestions 12 = .ok (.bipush 24, 2) := by decide +kernel
theorem dX3_placeQuestions_14 : decode cX3_placeQuestions 14 = .ok (.if_icmp .ge 37, 3) := by decide +kernel
theorem dX3_placeQuestions_17 : decode cX3_placeQuestions 17 = .ok (.iload_n 1, 1) := by decide +kernel
theorem dX3_placeQuestions_18 : decode cX3_placeQuestions 18 = .ok (.iload_n 2, 1) := by decide +kernel
theorem dX3_placeQuestions_19 : decode cX3_placeQuestions 19 = .ok (.invokestatic 71, 3) := by decide +kernel
theorem dX3_placeQuestions_22 : decode cX3_placeQuestions 22 = .ok (.ifCond .eq 23, 3) := by decide +kernel
theorem dX3_placeQuestions_25 : decode cX3_placeQuestions 25 = .ok (.aload_n 0, 1) := by decide +kernel
theorem dX3_placeQuestions_26 : decode cX3_placeQuestions 26 = .ok (.getfield 33, 3) := by decide +kernel
theorem dX3_placeQuestions_29 : decode cX3_placeQuestions 29 = .ok (.aload_n 0, 1) := by decide +kernel
theorem dX3_placeQuestions_30 : decode cX3_placeQuestions 30 = .ok (.getfield 36, 3) := by decide +kernel
theorem dX3_placeQuestions_33 : decode cX3_placeQuestions 33 = .ok (.iload_n 2, 1) := by decide +kernel
theorem dX3_placeQuestions_34 : decode cX3_placeQuestions 34 = .ok (.iastore, 1) := by decide +kernel
theorem dX3_placeQuestions_35 : decode cX3_placeQuestions 35 = .ok (.aload_n 0, 1) := by decide +kernel
theorem dX3_placeQuestions_36 : decode cX3_placeQuestions 36 = .ok (.dup, 1) := by decide +kernel
theorem dX3_placeQuestions_37 : decode cX3_placeQuestions 37 = .ok (.getfield 36, 3) := by decide +kernel
theorem dX3_placeQuestions_40 : decode cX3_placeQuestions 40 = .ok (.iconst 1, 1) := by decide +kernel
theorem dX3_placeQuestions_41 : decode cX3_placeQuestions 41 = .ok (.iadd, 1) := by decide +kernel
theorem dX3_placeQuestions_42 : decode cX3_placeQuestions 42 = .ok (.putfield 36, 3) := by decide +kernel
theorem dX3_placeQuestions_45 : decode cX3_placeQuestions 45 = .ok (.iinc 2 1, 3) := by decide +kernel
theorem dX3_placeQuestions_48 : decode cX3_placeQuestions 48 = .ok (.goto (-46), 3) := by decide +kernel
theorem dX3_placeQuestions_51 : decode cX3_placeQuestions 51 = .ok (.return_, 1) := by decide +kernel
theorem dX3_countSteps_0 : decode cX3_countSteps 0 = .ok (.aload_n 0, 1) := by decide +kernel
theorem dX3_countSteps_1 : decode cX3_countSteps 1 = .ok (.iconst 0, 1) := by decide +kernel
theorem dX3_countSteps_2 : decode cX3_countSteps 2 = .ok (.putfield 39, 3) := by decide +kernel
theorem dX3_countSteps_5 : decode cX3_countSteps 5 = .ok (.aload_n 0, 1) := by decide +kernel
theorem dX3_countSteps_6 : decode cX3_countSteps 6 = .ok (.iconst 0, 1) := by decide +kernel
theorem dX3_countSteps_7 : decode cX3_countSteps 7 = .ok (.putfield 42, 3) := by decide +kernel
theorem dX3_countSteps_10 : decode cX3_countSteps 10 = .ok (.iconst 1, 1) := by decide +kernel
theorem dX3_countSteps_11 : decode cX3_countSteps 11 = .ok (.istore_n 2, 1) := by decide +kernel
theorem dX3_countSteps_12 : decode cX3_countSteps 12 = .ok (.iload_n 2, 1) := by decide +kernel
theorem dX3_countSteps_13 : decode cX3_countSteps 13 = .ok (.aload_n 0, 1) := by decide +kernel
theorem dX3_countSteps_14 : decode cX3_countSteps 14 = .ok (.getfield 36, 3) := by decide +kernel
theorem dX3_countSteps_17 : decode cX3_countSteps 17 = .ok (.if_icmp .ge 69, 3) := by decide +kernel
theorem dX3_countSteps_20 : decode cX3_countSteps 20 = .ok (.aload_n 0, 1) := by decide +kernel
theorem dX3_countSteps_21 : decode cX3_countSteps 21 = .ok (.dup, 1) := by decide +kernel
theorem dX3_countSteps_22 : decode cX3_countSteps 22 = .ok (.getfield 39, 3) := by decide +kernel
theorem dX3_countSteps_25 : decode cX3_countSteps 25 = .ok (.aload_n 1, 1) := by decide +kernel
theorem dX3_countSteps_26 : decode cX3_countSteps 26 = .ok (.aload_n 0, 1) := by decide +kernel
theorem dX3_countSteps_27 : decode cX3_countSteps 27 = .ok (.getfield 33, 3) := by decide +kernel
theorem dX3_countSteps_30 : decode cX3_countSteps 30 = .ok (.iload_n 2, 1) := by decide +kernel
theorem dX3_countSteps_31 : decode cX3_countSteps 31 = .ok (.iconst 1, 1) := by decide +kernel
theorem dX3_countSteps_32 : decode cX3_countSteps 32 = .ok (.isub, 1) := by decide +kernel
theorem dX3_countSteps_33 : decode cX3_countSteps 33 = .ok (.iaload, 1) := by decide +kernel
theorem dX3_countSteps_34 : decode cX3_countSteps 34 = .ok (.aload_n 0, 1) := by decide +kernel
theorem dX3_countSteps_35 : decode cX3_countSteps 35 = .ok (.getfield 33, 3) := by decide +kernel
theorem dX3_countSteps_38 : decode cX3_countSteps 38 = .ok (.iload_n 2, 1) := by decide +kernel
theorem dX3_countSteps_39 : decode cX3_countSteps 39 = .ok (.iaload, 1) := by decide +kernel
theorem dX3_countSteps_40 : decode cX3_countSteps 40 = .ok (.invokestatic 75, 3) := by decide +kernel
theorem dX3_countSteps_43 : decode cX3_countSteps 43 = .ok (.invokestatic 79, 3) := by decide +kernel
theorem dX3_countSteps_46 : decode cX3_countSteps 46 = .ok (.iadd, 1) := by decide +kernel
theorem dX3_countSteps_47 : decode cX3_countSteps 47 = .ok (.putfield 39, 3) := by decide +kernel
theorem dX3_countSteps_50 : decode cX3_countSteps 50 = .ok (.aload_n 0, 1) := by decide +kernel
theorem dX3_countSteps_51 : decode cX3_countSteps 51 = .ok (.dup, 1) := by decide +kernel
theorem dX3_countSteps_52 : decode cX3_countSteps 52 = .ok (.getfield 42, 3) := by decide +kernel
theorem dX3_countSteps_55 : decode cX3_countSteps 55 = .ok (.aload_n 1, 1) := by decide +kernel
theorem dX3_countSteps_56 : decode cX3_countSteps 56 = .ok (.aload_n 0, 1) := by decide +kernel
theorem dX3_countSteps_57 : decode cX3_countSteps 57 = .ok (.getfield 33, 3) := by decide +kernel
theorem dX3_countSteps_60 : decode cX3_countSteps 60 = .ok (.iload_n 2, 1) := by decide +kernel
theorem dX3_countSteps_61 : decode cX3_countSteps 61 = .ok (.iconst 1, 1) := by decide +kernel
theorem dX3_countSteps_62 : decode cX3_countSteps 62 = .ok (.isub, 1) := by decide +kernel
theorem dX3_countSteps_63 : decode cX3_countSteps 63 = .ok (.iaload, 1) := by decide +kernel
theorem dX3_countSteps_64 : decode cX3_countSteps 64 = .ok (.aload_n 0, 1) := by decide +kernel
theorem dX3_countSteps_65 : decode cX3_countSteps 65 = .ok (.getfield 33, 3) := by decide +kernel
theorem dX3_countSteps_68 : decode cX3_countSteps 68 = .ok (.iload_n 2, 1) := by decide +kernel
theorem dX3_countSteps_69 : decode cX3_countSteps 69 = .ok (.iaload, 1) := by decide +kernel
theorem dX3_countSteps_70 : decode cX3_countSteps 70 = .ok (.invokestatic 83, 3) := by decide +kernel
theorem dX3_countSteps_73 : decode cX3_countSteps 73 = .ok (.invokestatic 79, 3) := by decide +kernel
theorem dX3_countSteps_76 : decode cX3_countSteps 76 = .ok (.iadd, 1) := by decide +kernel
theorem dX3_countSteps_77 : decode cX3_countSteps 77 = .ok (.putfield 42, 3) := by decide +kernel
theorem dX3_countSteps_80 : decode cX3_countSteps 80 = .ok (.iinc 2 1, 3) := by decide +kernel
theorem dX3_countSteps_83 : decode cX3_countSteps 83 = .ok (.goto (-71), 3) := by decide +kernel
theorem dX3_countSteps_86 : decode cX3_countSteps 86 = .ok (.return_, 1) := by decide +kernel
theorem dX3_isStepDown_0 : decode cX3_isStepDown 0 = .ok (.aload_n 0, 1) := by decide +kernel
theorem dX3_isStepDown_1 : decode cX3_isStepDown 1 = .ok (.getfield 99, 3) := by decide +kernel
theorem dX3_isStepDown_4 : decode cX3_isStepDown 4 = .ok (.iload_n 2, 1) := by decide +kernel
theorem dX3_isStepDown_5 : decode cX3_isStepDown 5 = .ok (.aaload, 1) := by decide +kernel
theorem dX3_isStepDown_6 : decode cX3_isStepDown 6 = .ok (.iconst 4, 1) := by decide +kernel
theorem dX3_isStepDown_7 : decode cX3_isStepDown 7 = .ok (.iaload, 1) := by decide +kernel
theorem dX3_isStepDown_8 : decode cX3_isStepDown 8 = .ok (.aload_n 0, 1) := by decide +kernel
theorem dX3_isStepDown_9 : decode cX3_isStepDown 9 = .ok (.getfield 99, 3) := by decide +kernel
theorem dX3_isStepDown_12 : decode cX3_isStepDown 12 = .ok (.iload_n 1, 1) := by decide +kernel
theorem dX3_isStepDown_13 : decode cX3_isStepDown 13 = .ok (.aaload, 1) := by decide +kernel
theorem dX3_isStepDown_14 : decode cX3_isStepDown 14 = .ok (.iconst 4, 1) := by decide +kernel
theorem dX3_isStepDown_15 : decode cX3_isStepDown 15 = .ok (.iaload, 1) := by decide +kernel
theorem dX3_isStepDown_16 : decode cX3_isStepDown 16 = .ok (.if_icmp .ge 7, 3) := by decide +kernel
theorem dX3_isStepDown_19 : decode cX3_isStepDown 19 = .ok (.iconst 1, 1) := by decide +kernel
theorem dX3_isStepDown_20 : decode cX3_isStepDown 20 = .ok (.goto 4, 3) := by decide +kernel
theorem dX3_isStepDown_23 : decode cX3_isStepDown 23 = .ok (.iconst 0, 1) := by decide +kernel
theorem dX3_isStepDown_24 : decode cX3_isStepDown 24 = .ok (.ireturn, 1) := by decide +kernel
theorem dX3_areAlike_0 : decode cX3_areAlike 0 = .ok (.aload_n 0, 1) := by decide +kernel
theorem dX3_areAlike_1 : decode cX3_areAlike 1 = .ok (.getfield 99, 3) := by decide +kernel
theorem dX3_areAlike_4 : decode cX3_areAlike 4 = .ok (.iload_n 2, 1) := by decide +kernel
theorem dX3_areAlike_5 : decode cX3_areAlike 5 = .ok (.aaload, 1) := by decide +kernel
theorem dX3_areAlike_6 : decode cX3_areAlike 6 = .ok (.iconst 0, 1) := by decide +kernel
theorem dX3_areAlike_7 : decode cX3_areAlike 7 = .ok (.iaload, 1) := by decide +kernel
theorem dX3_areAlike_8 : decode cX3_areAlike 8 = .ok (.aload_n 0, 1) := by decide +kernel
theorem dX3_areAlike_9 : decode cX3_areAlike 9 = .ok (.getfield 99, 3) := by decide +kernel
theorem dX3_areAlike_12 : decode cX3_areAlike 12 = .ok (.iload_n 1, 1) := by decide +kernel
theorem dX3_areAlike_13 : decode cX3_areAlike 13 = .ok (.aaload, 1) := by decide +kernel
theorem dX3_areAlike_14 : decode cX3_areAlike 14 = .ok (.iconst 0, 1) := by decide +kernel
theorem dX3_areAlike_15 : decode cX3_areAlike 15 = .ok (.iaload, 1) := by decide +kernel
theorem dX3_areAlike_16 : decode cX3_areAlike 16 = .ok (.if_icmp .ne 7, 3) := by decide +kernel
theorem dX3_areAlike_19 : decode cX3_areAlike 19 = .ok (.iconst 1, 1) := by decide +kernel
theorem dX3_areAlike_20 : decode cX3_areAlike 20 = .ok (.goto 4, 3) := by decide +kernel
theorem dX3_areAlike_23 : decode cX3_areAlike 23 = .ok (.iconst 0, 1) := by decide +kernel
theorem dX3_areAlike_24 : decode cX3_areAlike 24 = .ok (.ireturn, 1) := by decide +kernel
theorem dX6_init_0 : decode cX6_init 0 = .ok (.aload_n 0, 1) := by decide +kernel
theorem dX6_init_1 : decode cX6_init 1 = .ok (.aload_n 1, 1) := by decide +kernel
theorem dX6_init_2 : decode cX6_init 2 = .ok (.aload_n 2, 1) := by decide +kernel
theorem dX6_init_3 : decode cX6_init 3 = .ok (.invokespecial 3, 3) := by decide +kernel
theorem dX6_init_6 : decode cX6_init 6 = .ok (.aload_n 0, 1) := by decide +kernel
theorem dX6_init_7 : decode cX6_init 7 = .ok (.sipush 1024, 3) := by decide +kernel
theorem dX6_init_10 : decode cX6_init 10 = .ok (.newarray .int, 2) := by decide +kernel
theorem dX6_init_12 : decode cX6_init 12 = .ok (.putfield 9, 3) := by decide +kernel
theorem dX6_init_15 : decode cX6_init 15 = .ok (.aload_n 0, 1) := by decide +kernel
theorem dX6_init_16 : decode cX6_init 16 = .ok (.sipush 1024, 3) := by decide +kernel
theorem dX6_init_19 : decode cX6_init 19 = .ok (.newarray .int, 2) := by decide +kernel
theorem dX6_init_21 : decode cX6_init 21 = .ok (.putfield 15, 3) := by decide +kernel
theorem dX6_init_24 : decode cX6_init 24 = .ok (.aload_n 0, 1) := by decide +kernel
theorem dX6_init_25 : decode cX6_init 25 = .ok (.sipush 1024, 3) := by decide +kernel
theorem dX6_init_28 : decode cX6_init 28 = .ok (.newarray .int, 2) := by decide +kernel
theorem dX6_init_30 : decode cX6_init 30 = .ok (.putfield 18, 3) := by decide +kernel
theorem dX6_init_33 : decode cX6_init 33 = .ok (.aload_n 0, 1) := by decide +kernel
theorem dX6_init_34 : decode cX6_init 34 = .ok (.sipush 1024, 3) := by decide +kernel
theorem dX6_init_37 : decode cX6_init 37 = .ok (.newarray .int, 2) := by decide +kernel
theorem dX6_init_39 : decode cX6_init 39 = .ok (.putfield 21, 3) := by decide +kernel
theorem dX6_init_42 : decode cX6_init 42 = .ok (.aload_n 0, 1) := by decide +kernel
theorem dX6_init_43 : decode cX6_init 43 = .ok (.ldc 24, 2) := by decide +kernel
theorem dX6_init_45 : decode cX6_init 45 = .ok (.putfield 25, 3) := by decide +kernel
theorem dX6_init_48 : decode cX6_init 48 = .ok (.aload_n 0, 1) := by decide +kernel
theorem dX6_init_49 : decode cX6_init 49 = .ok (.iconst 0, 1) := by decide +kernel
theorem dX6_init_50 : decode cX6_init 50 = .ok (.putfield 29, 3) := by decide +kernel
theorem dX6_init_53 : decode cX6_init 53 = .ok (.aload_n 0, 1) := by decide +kernel
theorem dX6_init_54 : decode cX6_init 54 = .ok (.iconst 0, 1) := by decide +kernel
theorem dX6_init_55 : decode cX6_init 55 = .ok (.putfield 32, 3) := by decide +kernel
theorem dX6_init_58 : decode cX6_init 58 = .ok (.aload_n 0, 1) := by decide +kernel
theorem dX6_init_59 : decode cX6_init 59 = .ok (.iconst 0, 1) := by decide +kernel
theorem dX6_init_60 : decode cX6_init 60 = .ok (.putfield 35, 3) := by decide +kernel
theorem dX6_init_63 : decode cX6_init 63 = .ok (.return_, 1) := by decide +kernel
theorem dX6_findTwo_0 : decode cX6_findTwo 0 = .ok (.aload_n 0, 1) := by decide +kernel
theorem dX6_findTwo_1 : decode cX6_findTwo 1 = .ok (.ldc 24, 2) := by decide +kernel
theorem dX6_findTwo_3 : decode cX6_findTwo 3 = .ok (.putfield 25, 3) := by decide +kernel
theorem dX6_findTwo_6 : decode cX6_findTwo 6 = .ok (.aload_n 0, 1) := by decide +kernel
theorem dX6_findTwo_7 : decode cX6_findTwo 7 = .ok (.iconst 0, 1) := by decide +kernel
theorem dX6_findTwo_8 : decode cX6_findTwo 8 = .ok (.putfield 29, 3) := by decide +kernel
theorem dX6_findTwo_11 : decode cX6_findTwo 11 = .ok (.aload_n 0, 1) := by decide +kernel
theorem dX6_findTwo_12 : decode cX6_findTwo 12 = .ok (.iconst 0, 1) := by decide +kernel
theorem dX6_findTwo_13 : decode cX6_findTwo 13 = .ok (.putfield 32, 3) := by decide +kernel
theorem dX6_findTwo_16 : decode cX6_findTwo 16 = .ok (.aload_n 0, 1) := by decide +kernel
theorem dX6_findTwo_17 : decode cX6_findTwo 17 = .ok (.iconst 0, 1) := by decide +kernel
theorem dX6_findTwo_18 : decode cX6_findTwo 18 = .ok (.putfield 35, 3) := by decide +kernel
theorem dX6_findTwo_21 : decode cX6_findTwo 21 = .ok (.aload_n 0, 1) := by decide +kernel
theorem dX6_findTwo_22 : decode cX6_findTwo 22 = .ok (.getfield 9, 3) := by decide +kernel
theorem dX6_findTwo_25 : decode cX6_findTwo 25 = .ok (.iconst 0, 1) := by decide +kernel
theorem dX6_findTwo_26 : decode cX6_findTwo 26 = .ok (.invokestatic 38, 3) := by decide +kernel
theorem dX6_findTwo_29 : decode cX6_findTwo 29 = .ok (.aload_n 0, 1) := by decide +kernel
theorem dX6_findTwo_30 : decode cX6_findTwo 30 = .ok (.invokevirtual 44, 3) := by decide +kernel
theorem dX6_findTwo_33 : decode cX6_findTwo 33 = .ok (.iconst 1, 1) := by decide +kernel
theorem dX6_findTwo_34 : decode cX6_findTwo 34 = .ok (.aload_n 0, 1) := by decide +kernel
theorem dX6_findTwo_35 : decode cX6_findTwo 35 = .ok (.getfield 48, 3) := by decide +kernel
theorem dX6_findTwo_38 : decode cX6_findTwo 38 = .ok (.getfield 52, 3) := by decide +kernel
theorem dX6_findTwo_41 : decode cX6_findTwo 41 = .ok (.bipush 10, 2) := by decide +kernel
theorem dX6_findTwo_43 : decode cX6_findTwo 43 = .ok (.invokestatic 57, 3) := by decide +kernel
theorem dX6_findTwo_46 : decode cX6_findTwo 46 = .ok (.ishl, 1) := by decide +kernel
theorem dX6_findTwo_47 : decode cX6_findTwo 47 = .ok (.iconst 1, 1) := by decide +kernel
theorem dX6_findTwo_48 : decode cX6_findTwo 48 = .ok (.isub, 1) := by decide +kernel
theorem dX6_findTwo_49 : decode cX6_findTwo 49 = .ok (.istore_n 2, 1) := by decide +kernel
theorem dX6_findTwo_50 : decode cX6_findTwo 50 = .ok (.iconst 1, 1) := by decide +kernel
theorem dX6_findTwo_51 : decode cX6_findTwo 51 = .ok (.istore_n 3, 1) := by decide +kernel
theorem dX6_findTwo_52 : decode cX6_findTwo 52 = .ok (.iload_n 3, 1) := by decide +kernel
theorem dX6_findTwo_53 : decode cX6_findTwo 53 = .ok (.iload_n 2, 1) := by decide +kernel
theorem dX6_findTwo_54 : decode cX6_findTwo 54 = .ok (.if_icmp .gt 25, 3) := by decide +kernel
theorem dX6_findTwo_57 : decode cX6_findTwo 57 = .ok (.aload_n 0, 1) := by decide +kernel
theorem dX6_findTwo_58 : decode cX6_findTwo 58 = .ok (.getfield 9, 3) := by decide +kernel
theorem dX6_findTwo_61 : decode cX6_findTwo 61 = .ok (.iload_n 3, 1) := by decide +kernel
theorem dX6_findTwo_62 : decode cX6_findTwo 62 = .ok (.iaload, 1) := by decide +kernel
theorem dX6_findTwo_63 : decode cX6_findTwo 63 = .ok (.ifCond .eq 10, 3) := by decide +kernel
theorem dX6_findTwo_66 : decode cX6_findTwo 66 = .ok (.aload_n 0, 1) := by decide +kernel
theorem dX6_findTwo_67 : decode cX6_findTwo 67 = .ok (.iload_n 3, 1) := by decide +kernel
theorem dX6_findTwo_68 : decode cX6_findTwo 68 = .ok (.iload_n 2, 1) := by decide +kernel
theorem dX6_findTwo_69 : decode cX6_findTwo 69 = .ok (.iload_n 1, 1) := by decide +kernel
theorem dX6_findTwo_70 : decode cX6_findTwo 70 = .ok (.invokevirtual 63, 3) := by decide +kernel
theorem dX6_findTwo_73 : decode cX6_findTwo 73 = .ok (.iinc 3 1, 3) := by decide +kernel
theorem dX6_findTwo_76 : decode cX6_findTwo 76 = .ok (.goto (-24), 3) := by decide +kernel
theorem dX6_findTwo_79 : decode cX6_findTwo 79 = .ok (.return_, 1) := by decide +kernel
theorem dX6_isHopeless_0 : decode cX6_isHopeless 0 = .ok (.iload_n 1, 1) := by decide +kernel
theorem dX6_isHopeless_1 : decode cX6_isHopeless 1 = .ok (.bipush 10, 2) := by decide +kernel
theorem dX6_isHopeless_3 : decode cX6_isHopeless 3 = .ok (.if_icmp .gt 26, 3) := by decide +kernel
theorem dX6_isHopeless_6 : decode cX6_isHopeless 6 = .ok (.aload_n 0, 1) := by decide +kernel
theorem dX6_isHopeless_7 : decode cX6_isHopeless 7 = .ok (.getfield 67, 3) := by decide +kernel
theorem dX6_isHopeless_10 : decode cX6_isHopeless 10 = .ok (.aload_n 0, 1) := by decide +kernel
theorem dX6_isHopeless_11 : decode cX6_isHopeless 11 = .ok (.getfield 71, 3) := by decide +kernel
theorem dX6_isHopeless_14 : decode cX6_isHopeless 14 = .ok (.aload_n 0, 1) := by decide +kernel
theorem dX6_isHopeless_15 : decode cX6_isHopeless 15 = .ok (.getfield 48, 3) := by decide +kernel
theorem dX6_isHopeless_18 : decode cX6_isHopeless 18 = .ok (.getfield 74, 3) := by decide +kernel
theorem dX6_isHopeless_21 : decode cX6_isHopeless 21 = .ok (.iload_n 1, 1) := by decide +kernel
theorem dX6_isHopeless_22 : decode cX6_isHopeless 22 = .ok (.aaload, 1) := by decide +kernel
theorem dX6_isHopeless_23 : decode cX6_isHopeless 23 = .ok (.invokevirtual 78, 3) := by decide +kernel
theorem dX6_isHopeless_26 : decode cX6_isHopeless 26 = .ok (.ifCond .eq 7, 3) := by decide +kernel
theorem dX6_isHopeless_29 : decode cX6_isHopeless 29 = .ok (.iconst 1, 1) := by decide +kernel
theorem dX6_isHopeless_30 : decode cX6_isHopeless 30 = .ok (.goto 4, 3) := by decide +kernel
theorem dX6_isHopeless_33 : decode cX6_isHopeless 33 = .ok (.iconst 0, 1) := by decide +kernel
theorem dX6_isHopeless_34 : decode cX6_isHopeless 34 = .ok (.ireturn, 1) := by decide +kernel
theorem dX6_meet_0 : decode cX6_meet 0 = .ok (.aload_n 0, 1) := by decide +kernel
theorem dX6_meet_1 : decode cX6_meet 1 = .ok (.getfield 9, 3) := by decide +kernel
theorem dX6_meet_4 : decode cX6_meet 4 = .ok (.aload_n 0, 1) := by decide +kernel
theorem dX6_meet_5 : decode cX6_meet 5 = .ok (.getfield 84, 3) := by decide +kernel
theorem dX6_meet_8 : decode cX6_meet 8 = .ok (.aload_n 0, 1) := by decide +kernel
theorem dX6_meet_9 : decode cX6_meet 9 = .ok (.getfield 87, 3) := by decide +kernel
theorem dX6_meet_12 : decode cX6_meet 12 = .ok (.iastore, 1) := by decide +kernel
theorem dX6_meet_13 : decode cX6_meet 13 = .ok (.aload_n 0, 1) := by decide +kernel
theorem dX6_meet_14 : decode cX6_meet 14 = .ok (.getfield 15, 3) := by decide +kernel
theorem dX6_meet_17 : decode cX6_meet 17 = .ok (.aload_n 0, 1) := by decide +kernel
theorem dX6_meet_18 : decode cX6_meet 18 = .ok (.getfield 84, 3) := by decide +kernel
theorem dX6_meet_21 : decode cX6_meet 21 = .ok (.aload_n 0, 1) := by decide +kernel
theorem dX6_meet_22 : decode cX6_meet 22 = .ok (.getfield 71, 3) := by decide +kernel
theorem dX6_meet_25 : decode cX6_meet 25 = .ok (.iconst 1, 1) := by decide +kernel
theorem dX6_meet_26 : decode cX6_meet 26 = .ok (.iaload, 1) := by decide +kernel
theorem dX6_meet_27 : decode cX6_meet 27 = .ok (.iastore, 1) := by decide +kernel
theorem dX6_meet_28 : decode cX6_meet 28 = .ok (.aload_n 0, 1) := by decide +kernel
theorem dX6_meet_29 : decode cX6_meet 29 = .ok (.getfield 18, 3) := by decide +kernel
theorem dX6_meet_32 : decode cX6_meet 32 = .ok (.aload_n 0, 1) := by decide +kernel
theorem dX6_meet_33 : decode cX6_meet 33 = .ok (.getfield 84, 3) := by decide +kernel
theorem dX6_meet_36 : decode cX6_meet 36 = .ok (.aload_n 0, 1) := by decide +kernel
theorem dX6_meet_37 : decode cX6_meet 37 = .ok (.getfield 71, 3) := by decide +kernel
theorem dX6_meet_40 : decode cX6_meet 40 = .ok (.iconst 2, 1) := by decide +kernel
theorem dX6_meet_41 : decode cX6_meet 41 = .ok (.iaload, 1) := by decide +kernel
theorem dX6_meet_42 : decode cX6_meet 42 = .ok (.iastore, 1) := by decide +kernel
theorem dX6_meet_43 : decode cX6_meet 43 = .ok (.aload_n 0, 1) := by decide +kernel
theorem dX6_meet_44 : decode cX6_meet 44 = .ok (.getfield 21, 3) := by decide +kernel
theorem dX6_meet_47 : decode cX6_meet 47 = .ok (.aload_n 0, 1) := by decide +kernel
theorem dX6_meet_48 : decode cX6_meet 48 = .ok (.getfield 84, 3) := by decide +kernel
theorem dX6_meet_51 : decode cX6_meet 51 = .ok (.aload_n 0, 1) := by decide +kernel
theorem dX6_meet_52 : decode cX6_meet 52 = .ok (.getfield 67, 3) := by decide +kernel
theorem dX6_meet_55 : decode cX6_meet 55 = .ok (.aload_n 0, 1) := by decide +kernel
theorem dX6_meet_56 : decode cX6_meet 56 = .ok (.getfield 71, 3) := by decide +kernel
theorem dX6_meet_59 : decode cX6_meet 59 = .ok (.getstatic 90, 3) := by decide +kernel
theorem dX6_meet_62 : decode cX6_meet 62 = .ok (.invokevirtual 93, 3) := by decide +kernel
theorem dX6_meet_65 : decode cX6_meet 65 = .ok (.iastore, 1) := by decide +kernel
theorem dX6_meet_66 : decode cX6_meet 66 = .ok (.return_, 1) := by decide +kernel
theorem dX6_pairWithOthers_0 : decode cX6_pairWithOthers 0 = .ok (.iload_n 1, 1) := by decide +kernel
theorem dX6_pairWithOthers_1 : decode cX6_pairWithOthers 1 = .ok (.invokestatic 96, 3) := by decide +kernel
theorem dX6_pairWithOthers_4 : decode cX6_pairWithOthers 4 = .ok (.iconst 1, 1) := by decide +kernel
theorem dX6_pairWithOthers_5 : decode cX6_pairWithOthers 5 = .ok (.isub, 1) := by decide +kernel
theorem dX6_pairWithOthers_6 : decode cX6_pairWithOthers 6 = .ok (.istore 4, 2) := by decide +kernel
theorem dX6_pairWithOthers_8 : decode cX6_pairWithOthers 8 = .ok (.iload_n 2, 1) := by decide +kernel
theorem dX6_pairWithOthers_9 : decode cX6_pairWithOthers 9 = .ok (.iload_n 1, 1) := by decide +kernel
theorem dX6_pairWithOthers_10 : decode cX6_pairWithOthers 10 = .ok (.iconst (-1), 1) := by decide +kernel
theorem dX6_pairWithOthers_11 : decode cX6_pairWithOthers 11 = .ok (.ixor, 1) := by decide +kernel
theorem dX6_pairWithOthers_12 : decode cX6_pairWithOthers 12 = .ok (.iand, 1) := by decide +kernel
theorem dX6_pairWithOthers_13 : decode cX6_pairWithOthers 13 = .ok (.iload 4, 2) := by decide +kernel
theorem dX6_pairWithOthers_15 : decode cX6_pairWithOthers 15 = .ok (.iconst (-1), 1) := by decide +kernel
theorem dX6_pairWithOthers_16 : decode cX6_pairWithOthers 16 = .ok (.ixor, 1) := by decide +kernel
theorem dX6_pairWithOthers_17 : decode cX6_pairWithOthers 17 = .ok (.iand, 1) := by decide +kernel
theorem dX6_pairWithOthers_18 : decode cX6_pairWithOthers 18 = .ok (.istore 5, 2) := by decide +kernel
theorem dX6_pairWithOthers_20 : decode cX6_pairWithOthers 20 = .ok (.iload 5, 2) := by decide +kernel
theorem dX6_pairWithOthers_22 : decode cX6_pairWithOthers 22 = .ok (.istore 6, 2) := by decide +kernel
theorem dX6_pairWithOthers_24 : decode cX6_pairWithOthers 24 = .ok (.iload 6, 2) := by decide +kernel
theorem dX6_pairWithOthers_26 : decode cX6_pairWithOthers 26 = .ok (.ifCond .le 129, 3) := by decide +kernel
theorem dX6_pairWithOthers_29 : decode cX6_pairWithOthers 29 = .ok (.aload_n 0, 1) := by decide +kernel
theorem dX6_pairWithOthers_30 : decode cX6_pairWithOthers 30 = .ok (.getfield 9, 3) := by decide +kernel
theorem dX6_pairWithOthers_33 : decode cX6_pairWithOthers 33 = .ok (.iload 6, 2) := by decide +kernel
theorem dX6_pairWithOthers_35 : decode cX6_pairWithOthers 35 = .ok (.iaload, 1) := by decide +kernel
theorem dX6_pairWithOthers_36 : decode cX6_pairWithOthers 36 = .ok (.ifCond .eq 28, 3) := by decide +kernel
theorem dX6_pairWithOthers_39 : decode cX6_pairWithOthers 39 = .ok (.aload_n 0, 1) := by decide +kernel
theorem dX6_pairWithOthers_40 : decode cX6_pairWithOthers 40 = .ok (.getfield 21, 3) := by decide +kernel
theorem dX6_pairWithOthers_43 : decode cX6_pairWithOthers 43 = .ok (.iload_n 1, 1) := by decide +kernel
theorem dX6_pairWithOthers_44 : decode cX6_pairWithOthers 44 = .ok (.iaload, 1) := by decide +kernel
theorem dX6_pairWithOthers_45 : decode cX6_pairWithOthers 45 = .ok (.aload_n 0, 1) := by decide +kernel
theorem dX6_pairWithOthers_46 : decode cX6_pairWithOthers 46 = .ok (.getfield 21, 3) := by decide +kernel
theorem dX6_pairWithOthers_49 : decode cX6_pairWithOthers 49 = .ok (.iload 6, 2) := by decide +kernel
theorem dX6_pairWithOthers_51 : decode cX6_pairWithOthers 51 = .ok (.iaload, 1) := by decide +kernel
theorem dX6_pairWithOthers_52 : decode cX6_pairWithOthers 52 = .ok (.iadd, 1) := by decide +kernel
theorem dX6_pairWithOthers_53 : decode cX6_pairWithOthers 53 = .ok (.aload_n 0, 1) := by decide +kernel
theorem dX6_pairWithOthers_54 : decode cX6_pairWithOthers 54 = .ok (.getfield 25, 3) := by decide +kernel
theorem dX6_pairWithOthers_57 : decode cX6_pairWithOthers 57 = .ok (.if_icmp .gt 7, 3) := by decide +kernel
theorem dX6_pairWithOthers_60 : decode cX6_pairWithOthers 60 = .ok (.iconst 1, 1) := by decide +kernel
theorem dX6_pairWithOthers_61 : decode cX6_pairWithOthers 61 = .ok (.goto 4, 3) := by decide +kernel
theorem dX6_pairWithOthers_64 : decode cX6_pairWithOthers 64 = .ok (.iconst 0, 1) := by decide +kernel
theorem dX6_pairWithOthers_65 : decode cX6_pairWithOthers 65 = .ok (.istore 7, 2) := by decide +kernel
theorem dX6_pairWithOthers_67 : decode cX6_pairWithOthers 67 = .ok (.iload 7, 2) := by decide +kernel
theorem dX6_pairWithOthers_69 : decode cX6_pairWithOthers 69 = .ok (.ifCond .eq 74, 3) := by decide +kernel
theorem dX6_pairWithOthers_72 : decode cX6_pairWithOthers 72 = .ok (.aload_n 0, 1) := by decide +kernel
theorem dX6_pairWithOthers_73 : decode cX6_pairWithOthers 73 = .ok (.iload_n 1, 1) := by decide +kernel
theorem dX6_pairWithOthers_74 : decode cX6_pairWithOthers 74 = .ok (.iload 6, 2) := by decide +kernel
theorem dX6_pairWithOthers_76 : decode cX6_pairWithOthers 76 = .ok (.iload_n 3, 1) := by decide +kernel
theorem dX6_pairWithOthers_77 : decode cX6_pairWithOthers 77 = .ok (.invokevirtual 100, 3) := by decide +kernel
theorem dX6_pairWithOthers_80 : decode cX6_pairWithOthers 80 = .ok (.ifCond .eq 63, 3) := by decide +kernel
theorem dX6_pairWithOthers_83 : decode cX6_pairWithOthers 83 = .ok (.aload_n 0, 1) := by decide +kernel
theorem dX6_pairWithOthers_84 : decode cX6_pairWithOthers 84 = .ok (.iload_n 1, 1) := by decide +kernel
theorem dX6_pairWithOthers_85 : decode cX6_pairWithOthers 85 = .ok (.iload 6, 2) := by decide +kernel
theorem dX6_pairWithOthers_87 : decode cX6_pairWithOthers 87 = .ok (.invokevirtual 104, 3) := by decide +kernel
theorem dX6_pairWithOthers_90 : decode cX6_pairWithOthers 90 = .ok (.ifCond .eq 53, 3) := by decide +kernel
theorem dX6_pairWithOthers_93 : decode cX6_pairWithOthers 93 = .ok (.aload_n 0, 1) := by decide +kernel
theorem dX6_pairWithOthers_94 : decode cX6_pairWithOthers 94 = .ok (.aload_n 0, 1) := by decide +kernel
theorem dX6_pairWithOthers_95 : decode cX6_pairWithOthers 95 = .ok (.getfield 21, 3) := by decide +kernel
theorem dX6_pairWithOthers_98 : decode cX6_pairWithOthers 98 = .ok (.iload_n 1, 1) := by decide +kernel
theorem dX6_pairWithOthers_99 : decode cX6_pairWithOthers 99 = .ok (.iaload, 1) := by decide +kernel
theorem dX6_pairWithOthers_100 : decode cX6_pairWithOthers 100 = .ok (.aload_n 0, 1) := by decide +kernel
theorem dX6_pairWithOthers_101 : decode cX6_pairWithOthers 101 = .ok (.getfield 21, 3) := by decide +kernel
theorem dX6_pairWithOthers_104 : decode cX6_pairWithOthers 104 = .ok (.iload 6, 2) := by decide +kernel
theorem dX6_pairWithOthers_106 : decode cX6_pairWithOthers 106 = .ok (.iaload, 1) := by decide +kernel
theorem dX6_pairWithOthers_107 : decode cX6_pairWithOthers 107 = .ok (.iadd, 1) := by decide +kernel
theorem dX6_pairWithOthers_108 : decode cX6_pairWithOthers 108 = .ok (.putfield 25, 3) := by decide +kernel
theorem dX6_pairWithOthers_111 : decode cX6_pairWithOthers 111 = .ok (.aload_n 0, 1) := by decide +kernel
theorem dX6_pairWithOthers_112 : decode cX6_pairWithOthers 112 = .ok (.aload_n 0, 1) := by decide +kernel
theorem dX6_pairWithOthers_113 : decode cX6_pairWithOthers 113 = .ok (.iload_n 1, 1) := by decide +kernel
theorem dX6_pairWithOthers_114 : decode cX6_pairWithOthers 114 = .ok (.iload 6, 2) := by decide +kernel
theorem dX6_pairWithOthers_116 : decode cX6_pairWithOthers 116 = .ok (.invokevirtual 108, 3) := by decide +kernel
theorem dX6_pairWithOthers_119 : decode cX6_pairWithOthers 119 = .ok (.putfield 29, 3) := by decide +kernel
theorem dX6_pairWithOthers_122 : decode cX6_pairWithOthers 122 = .ok (.aload_n 0, 1) := by decide +kernel
theorem dX6_pairWithOthers_123 : decode cX6_pairWithOthers 123 = .ok (.aload_n 0, 1) := by decide +kernel
theorem dX6_pairWithOthers_124 : decode cX6_pairWithOthers 124 = .ok (.getfield 9, 3) := by decide +kernel
theorem dX6_pairWithOthers_127 : decode cX6_pairWithOthers 127 = .ok (.iload_n 1, 1) := by decide +kernel
theorem dX6_pairWithOthers_128 : decode cX6_pairWithOthers 128 = .ok (.iaload, 1) := by decide +kernel
theorem dX6_pairWithOthers_129 : decode cX6_pairWithOthers 129 = .ok (.putfield 32, 3) := by decide +kernel
theorem dX6_pairWithOthers_132 : decode cX6_pairWithOthers 132 = .ok (.aload_n 0, 1) := by decide +kernel
theorem dX6_pairWithOthers_133 : decode cX6_pairWithOthers 133 = .ok (.aload_n 0, 1) := by decide +kernel
theorem dX6_pairWithOthers_134 : decode cX6_pairWithOthers 134 = .ok (.getfield 9, 3) := by decide +kernel
theorem dX6_pairWithOthers_137 : decode cX6_pairWithOthers 137 = .ok (.iload 6, 2) := by decide +kernel
theorem dX6_pairWithOthers_139 : decode cX6_pairWithOthers 139 = .ok (.iaload, 1) := by decide +kernel
theorem dX6_pairWithOthers_140 : decode cX6_pairWithOthers 140 = .ok (.putfield 35, 3) := by decide +kernel
theorem dX6_pairWithOthers_143 : decode cX6_pairWithOthers 143 = .ok (.iload 6, 2) := by decide +kernel
theorem dX6_pairWithOthers_145 : decode cX6_pairWithOthers 145 = .ok (.iconst 1, 1) := by decide +kernel
theorem dX6_pairWithOthers_146 : decode cX6_pairWithOthers 146 = .ok (.isub, 1) := by decide +kernel
theorem dX6_pairWithOthers_147 : decode cX6_pairWithOthers 147 = .ok (.iload 5, 2) := by decide +kernel
theorem dX6_pairWithOthers_149 : decode cX6_pairWithOthers 149 = .ok (.iand, 1) := by decide +kernel
theorem dX6_pairWithOthers_150 : decode cX6_pairWithOthers 150 = .ok (.istore 6, 2) := by decide +kernel
theorem dX6_pairWithOthers_152 : decode cX6_pairWithOthers 152 = .ok (.goto (-128), 3) := by decide +kernel
theorem dX6_pairWithOthers_155 : decode cX6_pairWithOthers 155 = .ok (.return_, 1) := by decide +kernel
theorem dX6_areAlike_0 : decode cX6_areAlike 0 = .ok (.aload_n 0, 1) := by decide +kernel
theorem dX6_areAlike_1 : decode cX6_areAlike 1 = .ok (.getfield 18, 3) := by decide +kernel
theorem dX6_areAlike_4 : decode cX6_areAlike 4 = .ok (.iload_n 1, 1) := by decide +kernel
theorem dX6_areAlike_5 : decode cX6_areAlike 5 = .ok (.iaload, 1) := by decide +kernel
theorem dX6_areAlike_6 : decode cX6_areAlike 6 = .ok (.aload_n 0, 1) := by decide +kernel
theorem dX6_areAlike_7 : decode cX6_areAlike 7 = .ok (.getfield 18, 3) := by decide +kernel
theorem dX6_areAlike_10 : decode cX6_areAlike 10 = .ok (.iload_n 2, 1) := by decide +kernel
theorem dX6_areAlike_11 : decode cX6_areAlike 11 = .ok (.iaload, 1) := by decide +kernel
theorem dX6_areAlike_12 : decode cX6_areAlike 12 = .ok (.isub, 1) := by decide +kernel
theorem dX6_areAlike_13 : decode cX6_areAlike 13 = .ok (.invokestatic 111, 3) := by decide +kernel
theorem dX6_areAlike_16 : decode cX6_areAlike 16 = .ok (.iload_n 3, 1) := by decide +kernel
theorem dX6_areAlike_17 : decode cX6_areAlike 17 = .ok (.if_icmp .gt 27, 3) := by decide +kernel
theorem dX6_areAlike_20 : decode cX6_areAlike 20 = .ok (.aload_n 0, 1) := by decide +kernel
theorem dX6_areAlike_21 : decode cX6_areAlike 21 = .ok (.getfield 15, 3) := by decide +kernel
theorem dX6_areAlike_24 : decode cX6_areAlike 24 = .ok (.iload_n 1, 1) := by decide +kernel
theorem dX6_areAlike_25 : decode cX6_areAlike 25 = .ok (.iaload, 1) := by decide +kernel
theorem dX6_areAlike_26 : decode cX6_areAlike 26 = .ok (.aload_n 0, 1) := by decide +kernel
theorem dX6_areAlike_27 : decode cX6_areAlike 27 = .ok (.getfield 15, 3) := by decide +kernel
theorem dX6_areAlike_30 : decode cX6_areAlike 30 = .ok (.iload_n 2, 1) := by decide +kernel
theorem dX6_areAlike_31 : decode cX6_areAlike 31 = .ok (.iaload, 1) := by decide +kernel
theorem dX6_areAlike_32 : decode cX6_areAlike 32 = .ok (.isub, 1) := by decide +kernel
theorem dX6_areAlike_33 : decode cX6_areAlike 33 = .ok (.invokestatic 111, 3) := by decide +kernel
theorem dX6_areAlike_36 : decode cX6_areAlike 36 = .ok (.iload_n 3, 1) := by decide +kernel
theorem dX6_areAlike_37 : decode cX6_areAlike 37 = .ok (.if_icmp .gt 7, 3) := by decide +kernel
theorem dX6_areAlike_40 : decode cX6_areAlike 40 = .ok (.iconst 1, 1) := by decide +kernel
theorem dX6_areAlike_41 : decode cX6_areAlike 41 = .ok (.goto 4, 3) := by decide +kernel
theorem dX6_areAlike_44 : decode cX6_areAlike 44 = .ok (.iconst 0, 1) := by decide +kernel
theorem dX6_areAlike_45 : decode cX6_areAlike 45 = .ok (.ireturn, 1) := by decide +kernel
theorem dX6_isBetter_0 : decode cX6_isBetter 0 = .ok (.aload_n 0, 1) := by decide +kernel
theorem dX6_isBetter_1 : decode cX6_isBetter 1 = .ok (.getfield 21, 3) := by decide +kernel
theorem dX6_isBetter_4 : decode cX6_isBetter 4 = .ok (.iload_n 1, 1) := by decide +kernel
theorem dX6_isBetter_5 : decode cX6_isBetter 5 = .ok (.iaload, 1) := by decide +kernel
theorem dX6_isBetter_6 : decode cX6_isBetter 6 = .ok (.aload_n 0, 1) := by decide +kernel
theorem dX6_isBetter_7 : decode cX6_isBetter 7 = .ok (.getfield 21, 3) := by decide +kernel
theorem dX6_isBetter_10 : decode cX6_isBetter 10 = .ok (.iload_n 2, 1) := by decide +kernel
theorem dX6_isBetter_11 : decode cX6_isBetter 11 = .ok (.iaload, 1) := by decide +kernel
theorem dX6_isBetter_12 : decode cX6_isBetter 12 = .ok (.iadd, 1) := by decide +kernel
theorem dX6_isBetter_13 : decode cX6_isBetter 13 = .ok (.istore_n 3, 1) := by decide +kernel
theorem dX6_isBetter_14 : decode cX6_isBetter 14 = .ok (.iload_n 3, 1) := by decide +kernel
theorem dX6_isBetter_15 : decode cX6_isBetter 15 = .ok (.aload_n 0, 1) := by decide +kernel
theorem dX6_isBetter_16 : decode cX6_isBetter 16 = .ok (.getfield 25, 3) := by decide +kernel
theorem dX6_isBetter_19 : decode cX6_isBetter 19 = .ok (.if_icmp .eq 17, 3) := by decide +kernel
theorem dX6_isBetter_22 : decode cX6_isBetter 22 = .ok (.iload_n 3, 1) := by decide +kernel
theorem dX6_isBetter_23 : decode cX6_isBetter 23 = .ok (.aload_n 0, 1) := by decide +kernel
theorem dX6_isBetter_24 : decode cX6_isBetter 24 = .ok (.getfield 25, 3) := by decide +kernel
theorem dX6_isBetter_27 : decode cX6_isBetter 27 = .ok (.if_icmp .ge 7, 3) := by decide +kernel
theorem dX6_isBetter_30 : decode cX6_isBetter 30 = .ok (.iconst 1, 1) := by decide +kernel
theorem dX6_isBetter_31 : decode cX6_isBetter 31 = .ok (.goto 4, 3) := by decide +kernel
theorem dX6_isBetter_34 : decode cX6_isBetter 34 = .ok (.iconst 0, 1) := by decide +kernel
theorem dX6_isBetter_35 : decode cX6_isBetter 35 = .ok (.ireturn, 1) := by decide +kernel
theorem dX6_isBetter_36 : decode cX6_isBetter 36 = .ok (.aload_n 0, 1) := by decide +kernel
theorem dX6_isBetter_37 : decode cX6_isBetter 37 = .ok (.iload_n 1, 1) := by decide +kernel
theorem dX6_isBetter_38 : decode cX6_isBetter 38 = .ok (.iload_n 2, 1) := by decide +kernel
theorem dX6_isBetter_39 : decode cX6_isBetter 39 = .ok (.invokevirtual 108, 3) := by decide +kernel
theorem dX6_isBetter_42 : decode cX6_isBetter 42 = .ok (.istore 4, 2) := by decide +kernel
theorem dX6_isBetter_44 : decode cX6_isBetter 44 = .ok (.iload 4, 2) := by decide +kernel
theorem dX6_isBetter_46 : decode cX6_isBetter 46 = .ok (.aload_n 0, 1) := by decide +kernel
theorem dX6_isBetter_47 : decode cX6_isBetter 47 = .ok (.getfield 29, 3) := by decide +kernel
theorem dX6_isBetter_50 : decode cX6_isBetter 50 = .ok (.if_icmp .eq 18, 3) := by decide +kernel
theorem dX6_isBetter_53 : decode cX6_isBetter 53 = .ok (.iload 4, 2) := by decide +kernel
theorem dX6_isBetter_55 : decode cX6_isBetter 55 = .ok (.aload_n 0, 1) := by decide +kernel
theorem dX6_isBetter_56 : decode cX6_isBetter 56 = .ok (.getfield 29, 3) := by decide +kernel
theorem dX6_isBetter_59 : decode cX6_isBetter 59 = .ok (.if_icmp .ge 7, 3) := by decide +kernel
theorem dX6_isBetter_62 : decode cX6_isBetter 62 = .ok (.iconst 1, 1) := by decide +kernel
theorem dX6_isBetter_63 : decode cX6_isBetter 63 = .ok (.goto 4, 3) := by decide +kernel
theorem dX6_isBetter_66 : decode cX6_isBetter 66 = .ok (.iconst 0, 1) := by decide +kernel
theorem dX6_isBetter_67 : decode cX6_isBetter 67 = .ok (.ireturn, 1) := by decide +kernel
theorem dX6_isBetter_68 : decode cX6_isBetter 68 = .ok (.aload_n 0, 1) := by decide +kernel
theorem dX6_isBetter_69 : decode cX6_isBetter 69 = .ok (.getfield 9, 3) := by decide +kernel
theorem dX6_isBetter_72 : decode cX6_isBetter 72 = .ok (.iload_n 1, 1) := by decide +kernel
theorem dX6_isBetter_73 : decode cX6_isBetter 73 = .ok (.iaload, 1) := by decide +kernel
theorem dX6_isBetter_74 : decode cX6_isBetter 74 = .ok (.aload_n 0, 1) := by decide +kernel
theorem dX6_isBetter_75 : decode cX6_isBetter 75 = .ok (.getfield 32, 3) := by decide +kernel
theorem dX6_isBetter_78 : decode cX6_isBetter 78 = .ok (.if_icmp .eq 22, 3) := by decide +kernel
theorem dX6_isBetter_81 : decode cX6_isBetter 81 = .ok (.aload_n 0, 1) := by decide +kernel
theorem dX6_isBetter_82 : decode cX6_isBetter 82 = .ok (.getfield 9, 3) := by decide +kernel
theorem dX6_isBetter_85 : decode cX6_isBetter 85 = .ok (.iload_n 1, 1) := by decide +kernel
theorem dX6_isBetter_86 : decode cX6_isBetter 86 = .ok (.iaload, 1) := by decide +kernel
theorem dX6_isBetter_87 : decode cX6_isBetter 87 = .ok (.aload_n 0, 1) := by decide +kernel
theorem dX6_isBetter_88 : decode cX6_isBetter 88 = .ok (.getfield 32, 3) := by decide +kernel
theorem dX6_isBetter_91 : decode cX6_isBetter 91 = .ok (.if_icmp .le 7, 3) := by decide +kernel
theorem dX6_isBetter_94 : decode cX6_isBetter 94 = .ok (.iconst 1, 1) := by decide +kernel
theorem dX6_isBetter_95 : decode cX6_isBetter 95 = .ok (.goto 4, 3) := by decide +kernel
theorem dX6_isBetter_98 : decode cX6_isBetter 98 = .ok (.iconst 0, 1) := by decide +kernel
theorem dX6_isBetter_99 : decode cX6_isBetter 99 = .ok (.ireturn, 1) := by decide +kernel
theorem dX6_isBetter_100 : decode cX6_isBetter 100 = .ok (.aload_n 0, 1) := by decide +kernel
theorem dX6_isBetter_101 : decode cX6_isBetter 101 = .ok (.getfield 9, 3) := by decide +kernel
theorem dX6_isBetter_104 : decode cX6_isBetter 104 = .ok (.iload_n 2, 1) := by decide +kernel
theorem dX6_isBetter_105 : decode cX6_isBetter 105 = .ok (.iaload, 1) := by decide +kernel
theorem dX6_isBetter_106 : decode cX6_isBetter 106 = .ok (.aload_n 0, 1) := by decide +kernel
theorem dX6_isBetter_107 : decode cX6_isBetter 107 = .ok (.getfield 35, 3) := by decide +kernel
theorem dX6_isBetter_110 : decode cX6_isBetter 110 = .ok (.if_icmp .le 7, 3) := by decide +kernel
theorem dX6_isBetter_113 : decode cX6_isBetter 113 = .ok (.iconst 1, 1) := by decide +kernel
theorem dX6_isBetter_114 : decode cX6_isBetter 114 = .ok (.goto 4, 3) := by decide +kernel
theorem dX6_isBetter_117 : decode cX6_isBetter 117 = .ok (.iconst 0, 1) := by decide +kernel
theorem dX6_isBetter_118 : decode cX6_isBetter 118 = .ok (.ireturn, 1) := by decide +kernel
theorem dX6_countOfBoth_0 : decode cX6_countOfBoth 0 = .ok (.aload_n 0, 1) := by decide +kernel
theorem dX6_countOfBoth_1 : decode cX6_countOfBoth 1 = .ok (.getfield 9, 3) := by decide +kernel
theorem dX6_countOfBoth_4 : decode cX6_countOfBoth 4 = .ok (.iload_n 1, 1) := by decide +kernel
theorem dX6_countOfBoth_5 : decode cX6_countOfBoth 5 = .ok (.iaload, 1) := by decide +kernel
theorem dX6_countOfBoth_6 : decode cX6_countOfBoth 6 = .ok (.aload_n 0, 1) := by decide +kernel
theorem dX6_countOfBoth_7 : decode cX6_countOfBoth 7 = .ok (.getfield 9, 3) := by decide +kernel
theorem dX6_countOfBoth_10 : decode cX6_countOfBoth 10 = .ok (.iload_n 2, 1) := by decide +kernel
theorem dX6_countOfBoth_11 : decode cX6_countOfBoth 11 = .ok (.iaload, 1) := by decide +kernel
theorem dX6_countOfBoth_12 : decode cX6_countOfBoth 12 = .ok (.ior, 1) := by decide +kernel
theorem dX6_countOfBoth_13 : decode cX6_countOfBoth 13 = .ok (.invokestatic 114, 3) := by decide +kernel
theorem dX6_countOfBoth_16 : decode cX6_countOfBoth 16 = .ok (.ireturn, 1) := by decide +kernel
