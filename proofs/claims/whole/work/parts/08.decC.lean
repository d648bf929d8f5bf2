theorem dX8_init_0 : decode cX8_init 0 = .ok (.aload_n 0, 1) := by decide +kernel
theorem dX8_init_1 : decode cX8_init 1 = .ok (.invokespecial 3, 3) := by decide +kernel
theorem dX8_init_4 : decode cX8_init 4 = .ok (.aload_n 0, 1) := by decide +kernel
theorem dX8_init_5 : decode cX8_init 5 = .ok (.new 9, 3) := by decide +kernel
theorem dX8_init_8 : decode cX8_init 8 = .ok (.dup, 1) := by decide +kernel
theorem dX8_init_9 : decode cX8_init 9 = .ok (.invokespecial 11, 3) := by decide +kernel
theorem dX8_init_12 : decode cX8_init 12 = .ok (.putfield 12, 3) := by decide +kernel
theorem dX8_init_15 : decode cX8_init 15 = .ok (.aload_n 0, 1) := by decide +kernel
theorem dX8_init_16 : decode cX8_init 16 = .ok (.new 16, 3) := by decide +kernel
theorem dX8_init_19 : decode cX8_init 19 = .ok (.dup, 1) := by decide +kernel
theorem dX8_init_20 : decode cX8_init 20 = .ok (.invokespecial 18, 3) := by decide +kernel
theorem dX8_init_23 : decode cX8_init 23 = .ok (.putfield 19, 3) := by decide +kernel
theorem dX8_init_26 : decode cX8_init 26 = .ok (.aload_n 0, 1) := by decide +kernel
theorem dX8_init_27 : decode cX8_init 27 = .ok (.new 23, 3) := by decide +kernel
theorem dX8_init_30 : decode cX8_init 30 = .ok (.dup, 1) := by decide +kernel
theorem dX8_init_31 : decode cX8_init 31 = .ok (.invokespecial 25, 3) := by decide +kernel
theorem dX8_init_34 : decode cX8_init 34 = .ok (.putfield 26, 3) := by decide +kernel
theorem dX8_init_37 : decode cX8_init 37 = .ok (.aload_n 0, 1) := by decide +kernel
theorem dX8_init_38 : decode cX8_init 38 = .ok (.new 30, 3) := by decide +kernel
theorem dX8_init_41 : decode cX8_init 41 = .ok (.dup, 1) := by decide +kernel
theorem dX8_init_42 : decode cX8_init 42 = .ok (.aload_n 0, 1) := by decide +kernel
theorem dX8_init_43 : decode cX8_init 43 = .ok (.getfield 26, 3) := by decide +kernel
theorem dX8_init_46 : decode cX8_init 46 = .ok (.aload_n 0, 1) := by decide +kernel
theorem dX8_init_47 : decode cX8_init 47 = .ok (.getfield 19, 3) := by decide +kernel
theorem dX8_init_50 : decode cX8_init 50 = .ok (.invokespecial 32, 3) := by decide +kernel
theorem dX8_init_53 : decode cX8_init 53 = .ok (.putfield 35, 3) := by decide +kernel
theorem dX8_init_56 : decode cX8_init 56 = .ok (.aload_n 0, 1) := by decide +kernel
theorem dX8_init_57 : decode cX8_init 57 = .ok (.new 39, 3) := by decide +kernel
theorem dX8_init_60 : decode cX8_init 60 = .ok (.dup, 1) := by decide +kernel
theorem dX8_init_61 : decode cX8_init 61 = .ok (.aload_n 0, 1) := by decide +kernel
theorem dX8_init_62 : decode cX8_init 62 = .ok (.getfield 26, 3) := by decide +kernel
theorem dX8_init_65 : decode cX8_init 65 = .ok (.aload_n 0, 1) := by decide +kernel
theorem dX8_init_66 : decode cX8_init 66 = .ok (.getfield 19, 3) := by decide +kernel
theorem dX8_init_69 : decode cX8_init 69 = .ok (.invokespecial 41, 3) := by decide +kernel
theorem dX8_init_72 : decode cX8_init 72 = .ok (.putfield 42, 3) := by decide +kernel
theorem dX8_init_75 : decode cX8_init 75 = .ok (.aload_n 0, 1) := by decide +kernel
theorem dX8_init_76 : decode cX8_init 76 = .ok (.new 46, 3) := by decide +kernel
theorem dX8_init_79 : decode cX8_init 79 = .ok (.dup, 1) := by decide +kernel
theorem dX8_init_80 : decode cX8_init 80 = .ok (.aload_n 0, 1) := by decide +kernel
theorem dX8_init_81 : decode cX8_init 81 = .ok (.getfield 26, 3) := by decide +kernel
theorem dX8_init_84 : decode cX8_init 84 = .ok (.aload_n 0, 1) := by decide +kernel
theorem dX8_init_85 : decode cX8_init 85 = .ok (.getfield 19, 3) := by decide +kernel
theorem dX8_init_88 : decode cX8_init 88 = .ok (.invokespecial 48, 3) := by decide +kernel
theorem dX8_init_91 : decode cX8_init 91 = .ok (.putfield 49, 3) := by decide +kernel
theorem dX8_init_94 : decode cX8_init 94 = .ok (.aload_n 0, 1) := by decide +kernel
theorem dX8_init_95 : decode cX8_init 95 = .ok (.new 53, 3) := by decide +kernel
theorem dX8_init_98 : decode cX8_init 98 = .ok (.dup, 1) := by decide +kernel
theorem dX8_init_99 : decode cX8_init 99 = .ok (.invokespecial 55, 3) := by decide +kernel
theorem dX8_init_102 : decode cX8_init 102 = .ok (.putfield 56, 3) := by decide +kernel
theorem dX8_init_105 : decode cX8_init 105 = .ok (.aload_n 0, 1) := by decide +kernel
theorem dX8_init_106 : decode cX8_init 106 = .ok (.bipush 10, 2) := by decide +kernel
theorem dX8_init_108 : decode cX8_init 108 = .ok (.newarray .int, 2) := by decide +kernel
theorem dX8_init_110 : decode cX8_init 110 = .ok (.putfield 60, 3) := by decide +kernel
theorem dX8_init_113 : decode cX8_init 113 = .ok (.aload_n 0, 1) := by decide +kernel
theorem dX8_init_114 : decode cX8_init 114 = .ok (.iconst 0, 1) := by decide +kernel
theorem dX8_init_115 : decode cX8_init 115 = .ok (.putfield 64, 3) := by decide +kernel
theorem dX8_init_118 : decode cX8_init 118 = .ok (.return_, 1) := by decide +kernel
theorem dX8_question_0 : decode cX8_question 0 = .ok (.iload_n 1, 1) := by decide +kernel
theorem dX8_question_1 : decode cX8_question 1 = .ok (.iconst 0, 1) := by decide +kernel
theorem dX8_question_2 : decode cX8_question 2 = .ok (.iconst 3, 1) := by decide +kernel
theorem dX8_question_3 : decode cX8_question 3 = .ok (.invokestatic 68, 3) := by decide +kernel
theorem dX8_question_6 : decode cX8_question 6 = .ok (.ifCond .eq 16, 3) := by decide +kernel
theorem dX8_question_9 : decode cX8_question 9 = .ok (.iload_n 2, 1) := by decide +kernel
theorem dX8_question_10 : decode cX8_question 10 = .ok (.iconst 0, 1) := by decide +kernel
theorem dX8_question_11 : decode cX8_question 11 = .ok (.iconst 2, 1) := by decide +kernel
theorem dX8_question_12 : decode cX8_question 12 = .ok (.invokestatic 68, 3) := by decide +kernel
theorem dX8_question_15 : decode cX8_question 15 = .ok (.ifCond .eq 7, 3) := by decide +kernel
theorem dX8_question_18 : decode cX8_question 18 = .ok (.iconst 1, 1) := by decide +kernel
theorem dX8_question_19 : decode cX8_question 19 = .ok (.goto 4, 3) := by decide +kernel
theorem dX8_question_22 : decode cX8_question 22 = .ok (.iconst 0, 1) := by decide +kernel
theorem dX8_question_23 : decode cX8_question 23 = .ok (.istore 6, 2) := by decide +kernel
theorem dX8_question_25 : decode cX8_question 25 = .ok (.iload_n 3, 1) := by decide +kernel
theorem dX8_question_26 : decode cX8_question 26 = .ok (.iconst 1, 1) := by decide +kernel
theorem dX8_question_27 : decode cX8_question 27 = .ok (.bipush 60, 2) := by decide +kernel
theorem dX8_question_29 : decode cX8_question 29 = .ok (.invokestatic 68, 3) := by decide +kernel
theorem dX8_question_32 : decode cX8_question 32 = .ok (.ifCond .eq 29, 3) := by decide +kernel
theorem dX8_question_35 : decode cX8_question 35 = .ok (.iload 4, 2) := by decide +kernel
theorem dX8_question_37 : decode cX8_question 37 = .ok (.iconst 1, 1) := by decide +kernel
theorem dX8_question_38 : decode cX8_question 38 = .ok (.bipush 40, 2) := by decide +kernel
theorem dX8_question_40 : decode cX8_question 40 = .ok (.invokestatic 68, 3) := by decide +kernel
theorem dX8_question_43 : decode cX8_question 43 = .ok (.ifCond .eq 18, 3) := by decide +kernel
theorem dX8_question_46 : decode cX8_question 46 = .ok (.iload 5, 2) := by decide +kernel
theorem dX8_question_48 : decode cX8_question 48 = .ok (.iconst 1, 1) := by decide +kernel
theorem dX8_question_49 : decode cX8_question 49 = .ok (.bipush 9, 2) := by decide +kernel
theorem dX8_question_51 : decode cX8_question 51 = .ok (.invokestatic 68, 3) := by decide +kernel
theorem dX8_question_54 : decode cX8_question 54 = .ok (.ifCond .eq 7, 3) := by decide +kernel
theorem dX8_question_57 : decode cX8_question 57 = .ok (.iconst 1, 1) := by decide +kernel
theorem dX8_question_58 : decode cX8_question 58 = .ok (.goto 4, 3) := by decide +kernel
theorem dX8_question_61 : decode cX8_question 61 = .ok (.iconst 0, 1) := by decide +kernel
theorem dX8_question_62 : decode cX8_question 62 = .ok (.istore 7, 2) := by decide +kernel
theorem dX8_question_64 : decode cX8_question 64 = .ok (.iload 6, 2) := by decide +kernel
theorem dX8_question_66 : decode cX8_question 66 = .ok (.ifCond .eq 20, 3) := by decide +kernel
theorem dX8_question_69 : decode cX8_question 69 = .ok (.iload 7, 2) := by decide +kernel
theorem dX8_question_71 : decode cX8_question 71 = .ok (.ifCond .eq 15, 3) := by decide +kernel
theorem dX8_question_74 : decode cX8_question 74 = .ok (.aload_n 0, 1) := by decide +kernel
theorem dX8_question_75 : decode cX8_question 75 = .ok (.getfield 12, 3) := by decide +kernel
theorem dX8_question_78 : decode cX8_question 78 = .ok (.getfield 72, 3) := by decide +kernel
theorem dX8_question_81 : decode cX8_question 81 = .ok (.bipush 24, 2) := by decide +kernel
theorem dX8_question_83 : decode cX8_question 83 = .ok (.if_icmp .lt 5, 3) := by decide +kernel
theorem dX8_question_86 : decode cX8_question 86 = .ok (.iconst (-1), 1) := by decide +kernel
theorem dX8_question_87 : decode cX8_question 87 = .ok (.ireturn, 1) := by decide +kernel
theorem dX8_question_88 : decode cX8_question 88 = .ok (.aload_n 0, 1) := by decide +kernel
theorem dX8_question_89 : decode cX8_question 89 = .ok (.getfield 12, 3) := by decide +kernel
theorem dX8_question_92 : decode cX8_question 92 = .ok (.getfield 75, 3) := by decide +kernel
theorem dX8_question_95 : decode cX8_question 95 = .ok (.aload_n 0, 1) := by decide +kernel
theorem dX8_question_96 : decode cX8_question 96 = .ok (.getfield 12, 3) := by decide +kernel
theorem dX8_question_99 : decode cX8_question 99 = .ok (.getfield 72, 3) := by decide +kernel
theorem dX8_question_102 : decode cX8_question 102 = .ok (.aaload, 1) := by decide +kernel
theorem dX8_question_103 : decode cX8_question 103 = .ok (.astore 8, 2) := by decide +kernel
theorem dX8_question_105 : decode cX8_question 105 = .ok (.aload 8, 2) := by decide +kernel
theorem dX8_question_107 : decode cX8_question 107 = .ok (.iconst 0, 1) := by decide +kernel
theorem dX8_question_108 : decode cX8_question 108 = .ok (.iload_n 1, 1) := by decide +kernel
theorem dX8_question_109 : decode cX8_question 109 = .ok (.iastore, 1) := by decide +kernel
theorem dX8_question_110 : decode cX8_question 110 = .ok (.aload 8, 2) := by decide +kernel
theorem dX8_question_112 : decode cX8_question 112 = .ok (.iconst 1, 1) := by decide +kernel
theorem dX8_question_113 : decode cX8_question 113 = .ok (.iload_n 2, 1) := by decide +kernel
theorem dX8_question_114 : decode cX8_question 114 = .ok (.iastore, 1) := by decide +kernel
theorem dX8_question_115 : decode cX8_question 115 = .ok (.aload 8, 2) := by decide +kernel
theorem dX8_question_117 : decode cX8_question 117 = .ok (.iconst 2, 1) := by decide +kernel
theorem dX8_question_118 : decode cX8_question 118 = .ok (.iload_n 3, 1) := by decide +kernel
theorem dX8_question_119 : decode cX8_question 119 = .ok (.iastore, 1) := by decide +kernel
theorem dX8_question_120 : decode cX8_question 120 = .ok (.aload 8, 2) := by decide +kernel
theorem dX8_question_122 : decode cX8_question 122 = .ok (.iconst 3, 1) := by decide +kernel
theorem dX8_question_123 : decode cX8_question 123 = .ok (.iload 4, 2) := by decide +kernel
theorem dX8_question_125 : decode cX8_question 125 = .ok (.iastore, 1) := by decide +kernel
theorem dX8_question_126 : decode cX8_question 126 = .ok (.aload 8, 2) := by decide +kernel
theorem dX8_question_128 : decode cX8_question 128 = .ok (.iconst 4, 1) := by decide +kernel
theorem dX8_question_129 : decode cX8_question 129 = .ok (.iload 5, 2) := by decide +kernel
theorem dX8_question_131 : decode cX8_question 131 = .ok (.iastore, 1) := by decide +kernel
theorem dX8_question_132 : decode cX8_question 132 = .ok (.aload 8, 2) := by decide +kernel
theorem dX8_question_134 : decode cX8_question 134 = .ok (.iconst 5, 1) := by decide +kernel
theorem dX8_question_135 : decode cX8_question 135 = .ok (.iconst (-1), 1) := by decide +kernel
theorem dX8_question_136 : decode cX8_question 136 = .ok (.iastore, 1) := by decide +kernel
theorem dX8_question_137 : decode cX8_question 137 = .ok (.aload 8, 2) := by decide +kernel
theorem dX8_question_139 : decode cX8_question 139 = .ok (.bipush 6, 2) := by decide +kernel
theorem dX8_question_141 : decode cX8_question 141 = .ok (.iconst (-1), 1) := by decide +kernel
theorem dX8_question_142 : decode cX8_question 142 = .ok (.iastore, 1) := by decide +kernel
theorem dX8_question_143 : decode cX8_question 143 = .ok (.aload_n 0, 1) := by decide +kernel
theorem dX8_question_144 : decode cX8_question 144 = .ok (.getfield 12, 3) := by decide +kernel
theorem dX8_question_147 : decode cX8_question 147 = .ok (.dup, 1) := by decide +kernel
theorem dX8_question_148 : decode cX8_question 148 = .ok (.getfield 72, 3) := by decide +kernel
theorem dX8_question_151 : decode cX8_question 151 = .ok (.iconst 1, 1) := by decide +kernel
theorem dX8_question_152 : decode cX8_question 152 = .ok (.iadd, 1) := by decide +kernel
theorem dX8_question_153 : decode cX8_question 153 = .ok (.putfield 72, 3) := by decide +kernel
theorem dX8_question_156 : decode cX8_question 156 = .ok (.aload_n 0, 1) := by decide +kernel
theorem dX8_question_157 : decode cX8_question 157 = .ok (.getfield 12, 3) := by decide +kernel
theorem dX8_question_160 : decode cX8_question 160 = .ok (.getfield 72, 3) := by decide +kernel
theorem dX8_question_163 : decode cX8_question 163 = .ok (.iconst 1, 1) := by decide +kernel
theorem dX8_question_164 : decode cX8_question 164 = .ok (.isub, 1) := by decide +kernel
theorem dX8_question_165 : decode cX8_question 165 = .ok (.ireturn, 1) := by decide +kernel
theorem dX8_passage_0 : decode cX8_passage 0 = .ok (.aload_n 0, 1) := by decide +kernel
theorem dX8_passage_1 : decode cX8_passage 1 = .ok (.getfield 12, 3) := by decide +kernel
theorem dX8_passage_4 : decode cX8_passage 4 = .ok (.iload_n 1, 1) := by decide +kernel
theorem dX8_passage_5 : decode cX8_passage 5 = .ok (.invokevirtual 79, 3) := by decide +kernel
theorem dX8_passage_8 : decode cX8_passage 8 = .ok (.ifCond .eq 12, 3) := by decide +kernel
theorem dX8_passage_11 : decode cX8_passage 11 = .ok (.iload_n 2, 1) := by decide +kernel
theorem dX8_passage_12 : decode cX8_passage 12 = .ok (.iconst (-1), 1) := by decide +kernel
theorem dX8_passage_13 : decode cX8_passage 13 = .ok (.iconst 5, 1) := by decide +kernel
theorem dX8_passage_14 : decode cX8_passage 14 = .ok (.invokestatic 68, 3) := by decide +kernel
theorem dX8_passage_17 : decode cX8_passage 17 = .ok (.ifCond .ne 5, 3) := by decide +kernel
theorem dX8_passage_20 : decode cX8_passage 20 = .ok (.iconst 0, 1) := by decide +kernel
theorem dX8_passage_21 : decode cX8_passage 21 = .ok (.ireturn, 1) := by decide +kernel
theorem dX8_passage_22 : decode cX8_passage 22 = .ok (.aload_n 0, 1) := by decide +kernel
theorem dX8_passage_23 : decode cX8_passage 23 = .ok (.getfield 12, 3) := by decide +kernel
theorem dX8_passage_26 : decode cX8_passage 26 = .ok (.getfield 75, 3) := by decide +kernel
theorem dX8_passage_29 : decode cX8_passage 29 = .ok (.iload_n 1, 1) := by decide +kernel
theorem dX8_passage_30 : decode cX8_passage 30 = .ok (.aaload, 1) := by decide +kernel
theorem dX8_passage_31 : decode cX8_passage 31 = .ok (.iconst 5, 1) := by decide +kernel
theorem dX8_passage_32 : decode cX8_passage 32 = .ok (.iload_n 2, 1) := by decide +kernel
theorem dX8_passage_33 : decode cX8_passage 33 = .ok (.iastore, 1) := by decide +kernel
theorem dX8_passage_34 : decode cX8_passage 34 = .ok (.iconst 1, 1) := by decide +kernel
theorem dX8_passage_35 : decode cX8_passage 35 = .ok (.ireturn, 1) := by decide +kernel
theorem dX8_gives_0 : decode cX8_gives 0 = .ok (.aload_n 0, 1) := by decide +kernel
theorem dX8_gives_1 : decode cX8_gives 1 = .ok (.getfield 12, 3) := by decide +kernel
theorem dX8_gives_4 : decode cX8_gives 4 = .ok (.iload_n 1, 1) := by decide +kernel
theorem dX8_gives_5 : decode cX8_gives 5 = .ok (.invokevirtual 79, 3) := by decide +kernel
theorem dX8_gives_8 : decode cX8_gives 8 = .ok (.ifCond .eq 19, 3) := by decide +kernel
theorem dX8_gives_11 : decode cX8_gives 11 = .ok (.aload_n 0, 1) := by decide +kernel
theorem dX8_gives_12 : decode cX8_gives 12 = .ok (.getfield 12, 3) := by decide +kernel
theorem dX8_gives_15 : decode cX8_gives 15 = .ok (.iload_n 2, 1) := by decide +kernel
theorem dX8_gives_16 : decode cX8_gives 16 = .ok (.invokevirtual 79, 3) := by decide +kernel
theorem dX8_gives_19 : decode cX8_gives 19 = .ok (.ifCond .eq 8, 3) := by decide +kernel
theorem dX8_gives_22 : decode cX8_gives 22 = .ok (.iload_n 1, 1) := by decide +kernel
theorem dX8_gives_23 : decode cX8_gives 23 = .ok (.iload_n 2, 1) := by decide +kernel
theorem dX8_gives_24 : decode cX8_gives 24 = .ok (.if_icmp .ne 5, 3) := by decide +kernel
theorem dX8_gives_27 : decode cX8_gives 27 = .ok (.iconst 0, 1) := by decide +kernel
theorem dX8_gives_28 : decode cX8_gives 28 = .ok (.ireturn, 1) := by decide +kernel
theorem dX8_gives_29 : decode cX8_gives 29 = .ok (.aload_n 0, 1) := by decide +kernel
theorem dX8_gives_30 : decode cX8_gives 30 = .ok (.getfield 12, 3) := by decide +kernel
theorem dX8_gives_33 : decode cX8_gives 33 = .ok (.getfield 83, 3) := by decide +kernel
theorem dX8_gives_36 : decode cX8_gives 36 = .ok (.iload_n 1, 1) := by decide +kernel
theorem dX8_gives_37 : decode cX8_gives 37 = .ok (.iaload, 1) := by decide +kernel
theorem dX8_gives_38 : decode cX8_gives 38 = .ok (.iload_n 2, 1) := by decide +kernel
theorem dX8_gives_39 : decode cX8_gives 39 = .ok (.invokestatic 86, 3) := by decide +kernel
theorem dX8_gives_42 : decode cX8_gives 42 = .ok (.istore 4, 2) := by decide +kernel
theorem dX8_gives_44 : decode cX8_gives 44 = .ok (.iload 4, 2) := by decide +kernel
theorem dX8_gives_46 : decode cX8_gives 46 = .ok (.iload_n 3, 1) := by decide +kernel
theorem dX8_gives_47 : decode cX8_gives 47 = .ok (.if_icmp .ne 5, 3) := by decide +kernel
theorem dX8_gives_50 : decode cX8_gives 50 = .ok (.iconst 0, 1) := by decide +kernel
theorem dX8_gives_51 : decode cX8_gives 51 = .ok (.ireturn, 1) := by decide +kernel
theorem dX8_gives_52 : decode cX8_gives 52 = .ok (.aload_n 0, 1) := by decide +kernel
theorem dX8_gives_53 : decode cX8_gives 53 = .ok (.getfield 12, 3) := by decide +kernel
theorem dX8_gives_56 : decode cX8_gives 56 = .ok (.getfield 83, 3) := by decide +kernel
theorem dX8_gives_59 : decode cX8_gives 59 = .ok (.iload_n 1, 1) := by decide +kernel
theorem dX8_gives_60 : decode cX8_gives 60 = .ok (.dup2, 1) := by decide +kernel
theorem dX8_gives_61 : decode cX8_gives 61 = .ok (.iaload, 1) := by decide +kernel
theorem dX8_gives_62 : decode cX8_gives 62 = .ok (.iconst 1, 1) := by decide +kernel
theorem dX8_gives_63 : decode cX8_gives 63 = .ok (.iload_n 2, 1) := by decide +kernel
theorem dX8_gives_64 : decode cX8_gives 64 = .ok (.ishl, 1) := by decide +kernel
theorem dX8_gives_65 : decode cX8_gives 65 = .ok (.ixor, 1) := by decide +kernel
theorem dX8_gives_66 : decode cX8_gives 66 = .ok (.iastore, 1) := by decide +kernel
theorem dX8_gives_67 : decode cX8_gives 67 = .ok (.iconst 1, 1) := by decide +kernel
theorem dX8_gives_68 : decode cX8_gives 68 = .ok (.ireturn, 1) := by decide +kernel
theorem dX8_bound_0 : decode cX8_bound 0 = .ok (.iload_n 2, 1) := by decide +kernel
theorem dX8_bound_1 : decode cX8_bound 1 = .ok (.iconst 0, 1) := by decide +kernel
theorem dX8_bound_2 : decode cX8_bound 2 = .ok (.sipush 1000, 3) := by decide +kernel
theorem dX8_bound_5 : decode cX8_bound 5 = .ok (.invokestatic 68, 3) := by decide +kernel
theorem dX8_bound_8 : decode cX8_bound 8 = .ok (.ifCond .eq 18, 3) := by decide +kernel
theorem dX8_bound_11 : decode cX8_bound 11 = .ok (.iload_n 3, 1) := by decide +kernel
theorem dX8_bound_12 : decode cX8_bound 12 = .ok (.iconst 0, 1) := by decide +kernel
theorem dX8_bound_13 : decode cX8_bound 13 = .ok (.sipush 1000, 3) := by decide +kernel
theorem dX8_bound_16 : decode cX8_bound 16 = .ok (.invokestatic 68, 3) := by decide +kernel
theorem dX8_bound_19 : decode cX8_bound 19 = .ok (.ifCond .eq 7, 3) := by decide +kernel
theorem dX8_bound_22 : decode cX8_bound 22 = .ok (.iconst 1, 1) := by decide +kernel
theorem dX8_bound_23 : decode cX8_bound 23 = .ok (.goto 4, 3) := by decide +kernel
theorem dX8_bound_26 : decode cX8_bound 26 = .ok (.iconst 0, 1) := by decide +kernel
theorem dX8_bound_27 : decode cX8_bound 27 = .ok (.istore 4, 2) := by decide +kernel
theorem dX8_bound_29 : decode cX8_bound 29 = .ok (.iload_n 1, 1) := by decide +kernel
theorem dX8_bound_30 : decode cX8_bound 30 = .ok (.iconst 0, 1) := by decide +kernel
theorem dX8_bound_31 : decode cX8_bound 31 = .ok (.bipush 9, 2) := by decide +kernel
theorem dX8_bound_33 : decode cX8_bound 33 = .ok (.invokestatic 68, 3) := by decide +kernel
theorem dX8_bound_36 : decode cX8_bound 36 = .ok (.ifCond .eq 13, 3) := by decide +kernel
theorem dX8_bound_39 : decode cX8_bound 39 = .ok (.iload 4, 2) := by decide +kernel
theorem dX8_bound_41 : decode cX8_bound 41 = .ok (.ifCond .eq 8, 3) := by decide +kernel
theorem dX8_bound_44 : decode cX8_bound 44 = .ok (.iload_n 2, 1) := by decide +kernel
theorem dX8_bound_45 : decode cX8_bound 45 = .ok (.iload_n 3, 1) := by decide +kernel
theorem dX8_bound_46 : decode cX8_bound 46 = .ok (.if_icmp .le 5, 3) := by decide +kernel
theorem dX8_bound_49 : decode cX8_bound 49 = .ok (.iconst 0, 1) := by decide +kernel
theorem dX8_bound_50 : decode cX8_bound 50 = .ok (.ireturn, 1) := by decide +kernel
theorem dX8_bound_51 : decode cX8_bound 51 = .ok (.aload_n 0, 1) := by decide +kernel
theorem dX8_bound_52 : decode cX8_bound 52 = .ok (.getfield 19, 3) := by decide +kernel
theorem dX8_bound_55 : decode cX8_bound 55 = .ok (.getfield 90, 3) := by decide +kernel
theorem dX8_bound_58 : decode cX8_bound 58 = .ok (.iload_n 1, 1) := by decide +kernel
theorem dX8_bound_59 : decode cX8_bound 59 = .ok (.iload_n 2, 1) := by decide +kernel
theorem dX8_bound_60 : decode cX8_bound 60 = .ok (.iastore, 1) := by decide +kernel
theorem dX8_bound_61 : decode cX8_bound 61 = .ok (.aload_n 0, 1) := by decide +kernel
theorem dX8_bound_62 : decode cX8_bound 62 = .ok (.getfield 19, 3) := by decide +kernel
theorem dX8_bound_65 : decode cX8_bound 65 = .ok (.getfield 93, 3) := by decide +kernel
theorem dX8_bound_68 : decode cX8_bound 68 = .ok (.iload_n 1, 1) := by decide +kernel
theorem dX8_bound_69 : decode cX8_bound 69 = .ok (.iload_n 3, 1) := by decide +kernel
theorem dX8_bound_70 : decode cX8_bound 70 = .ok (.iastore, 1) := by decide +kernel
theorem dX8_bound_71 : decode cX8_bound 71 = .ok (.iconst 1, 1) := by decide +kernel
theorem dX8_bound_72 : decode cX8_bound 72 = .ok (.ireturn, 1) := by decide +kernel
theorem dX8_profile_0 : decode cX8_profile 0 = .ok (.iload_n 1, 1) := by decide +kernel
theorem dX8_profile_1 : decode cX8_profile 1 = .ok (.iconst 0, 1) := by decide +kernel
theorem dX8_profile_2 : decode cX8_profile 2 = .ok (.iconst 3, 1) := by decide +kernel
theorem dX8_profile_3 : decode cX8_profile 3 = .ok (.invokestatic 68, 3) := by decide +kernel
theorem dX8_profile_6 : decode cX8_profile 6 = .ok (.ifCond .eq 14, 3) := by decide +kernel
theorem dX8_profile_9 : decode cX8_profile 9 = .ok (.iload_n 2, 1) := by decide +kernel
theorem dX8_profile_10 : decode cX8_profile 10 = .ok (.iconst 0, 1) := by decide +kernel
theorem dX8_profile_11 : decode cX8_profile 11 = .ok (.sipush 1000, 3) := by decide +kernel
theorem dX8_profile_14 : decode cX8_profile 14 = .ok (.invokestatic 68, 3) := by decide +kernel
theorem dX8_profile_17 : decode cX8_profile 17 = .ok (.ifCond .ne 5, 3) := by decide +kernel
theorem dX8_profile_20 : decode cX8_profile 20 = .ok (.iconst 0, 1) := by decide +kernel
theorem dX8_profile_21 : decode cX8_profile 21 = .ok (.ireturn, 1) := by decide +kernel
theorem dX8_profile_22 : decode cX8_profile 22 = .ok (.aload_n 0, 1) := by decide +kernel
theorem dX8_profile_23 : decode cX8_profile 23 = .ok (.getfield 19, 3) := by decide +kernel
theorem dX8_profile_26 : decode cX8_profile 26 = .ok (.getfield 96, 3) := by decide +kernel
theorem dX8_profile_29 : decode cX8_profile 29 = .ok (.iload_n 1, 1) := by decide +kernel
theorem dX8_profile_30 : decode cX8_profile 30 = .ok (.iload_n 2, 1) := by decide +kernel
theorem dX8_profile_31 : decode cX8_profile 31 = .ok (.iastore, 1) := by decide +kernel
theorem dX8_profile_32 : decode cX8_profile 32 = .ok (.iconst 1, 1) := by decide +kernel
theorem dX8_profile_33 : decode cX8_profile 33 = .ok (.ireturn, 1) := by decide +kernel
theorem dX8_rest_0 : decode cX8_rest 0 = .ok (.iload_n 1, 1) := by decide +kernel
theorem dX8_rest_1 : decode cX8_rest 1 = .ok (.iconst 0, 1) := by decide +kernel
theorem dX8_rest_2 : decode cX8_rest 2 = .ok (.bipush 9, 2) := by decide +kernel
theorem dX8_rest_4 : decode cX8_rest 4 = .ok (.invokestatic 68, 3) := by decide +kernel
theorem dX8_rest_7 : decode cX8_rest 7 = .ok (.ifCond .ne 5, 3) := by decide +kernel
theorem dX8_rest_10 : decode cX8_rest 10 = .ok (.iconst 0, 1) := by decide +kernel
theorem dX8_rest_11 : decode cX8_rest 11 = .ok (.ireturn, 1) := by decide +kernel
theorem dX8_rest_12 : decode cX8_rest 12 = .ok (.aload_n 0, 1) := by decide +kernel
theorem dX8_rest_13 : decode cX8_rest 13 = .ok (.getfield 12, 3) := by decide +kernel
theorem dX8_rest_16 : decode cX8_rest 16 = .ok (.iload_n 1, 1) := by decide +kernel
theorem dX8_rest_17 : decode cX8_rest 17 = .ok (.putfield 99, 3) := by decide +kernel
theorem dX8_rest_20 : decode cX8_rest 20 = .ok (.iconst 1, 1) := by decide +kernel
theorem dX8_rest_21 : decode cX8_rest 21 = .ok (.ireturn, 1) := by decide +kernel
theorem dX8_term_0 : decode cX8_term 0 = .ok (.aload_n 0, 1) := by decide +kernel
theorem dX8_term_1 : decode cX8_term 1 = .ok (.getfield 12, 3) := by decide +kernel
theorem dX8_term_4 : decode cX8_term 4 = .ok (.getfield 102, 3) := by decide +kernel
theorem dX8_term_7 : decode cX8_term 7 = .ok (.sipush 1000, 3) := by decide +kernel
theorem dX8_term_10 : decode cX8_term 10 = .ok (.if_icmp .lt 5, 3) := by decide +kernel
theorem dX8_term_13 : decode cX8_term 13 = .ok (.iconst (-1), 1) := by decide +kernel
theorem dX8_term_14 : decode cX8_term 14 = .ok (.ireturn, 1) := by decide +kernel
theorem dX8_term_15 : decode cX8_term 15 = .ok (.aload_n 0, 1) := by decide +kernel
theorem dX8_term_16 : decode cX8_term 16 = .ok (.getfield 12, 3) := by decide +kernel
theorem dX8_term_19 : decode cX8_term 19 = .ok (.dup, 1) := by decide +kernel
theorem dX8_term_20 : decode cX8_term 20 = .ok (.getfield 102, 3) := by decide +kernel
theorem dX8_term_23 : decode cX8_term 23 = .ok (.iconst 1, 1) := by decide +kernel
theorem dX8_term_24 : decode cX8_term 24 = .ok (.iadd, 1) := by decide +kernel
theorem dX8_term_25 : decode cX8_term 25 = .ok (.putfield 102, 3) := by decide +kernel
theorem dX8_term_28 : decode cX8_term 28 = .ok (.aload_n 0, 1) := by decide +kernel
theorem dX8_term_29 : decode cX8_term 29 = .ok (.getfield 12, 3) := by decide +kernel
theorem dX8_term_32 : decode cX8_term 32 = .ok (.getfield 102, 3) := by decide +kernel
theorem dX8_term_35 : decode cX8_term 35 = .ok (.ireturn, 1) := by decide +kernel
theorem dX8_use_0 : decode cX8_use 0 = .ok (.aload_n 0, 1) := by decide +kernel
theorem dX8_use_1 : decode cX8_use 1 = .ok (.getfield 12, 3) := by decide +kernel
theorem dX8_use_4 : decode cX8_use 4 = .ok (.iload_n 1, 1) := by decide +kernel
theorem dX8_use_5 : decode cX8_use 5 = .ok (.invokevirtual 105, 3) := by decide +kernel
theorem dX8_use_8 : decode cX8_use 8 = .ok (.ifCond .ne 5, 3) := by decide +kernel
theorem dX8_use_11 : decode cX8_use 11 = .ok (.iconst 0, 1) := by decide +kernel
theorem dX8_use_12 : decode cX8_use 12 = .ok (.ireturn, 1) := by decide +kernel
theorem dX8_use_13 : decode cX8_use 13 = .ok (.iconst 0, 1) := by decide +kernel
theorem dX8_use_14 : decode cX8_use 14 = .ok (.istore_n 2, 1) := by decide +kernel
theorem dX8_use_15 : decode cX8_use 15 = .ok (.iload_n 2, 1) := by decide +kernel
theorem dX8_use_16 : decode cX8_use 16 = .ok (.aload_n 0, 1) := by decide +kernel
theorem dX8_use_17 : decode cX8_use 17 = .ok (.getfield 12, 3) := by decide +kernel
theorem dX8_use_20 : decode cX8_use 20 = .ok (.getfield 72, 3) := by decide +kernel
theorem dX8_use_23 : decode cX8_use 23 = .ok (.if_icmp .ge 36, 3) := by decide +kernel
theorem dX8_use_26 : decode cX8_use 26 = .ok (.iload_n 1, 1) := by decide +kernel
theorem dX8_use_27 : decode cX8_use 27 = .ok (.iload_n 2, 1) := by decide +kernel
theorem dX8_use_28 : decode cX8_use 28 = .ok (.invokestatic 86, 3) := by decide +kernel
theorem dX8_use_31 : decode cX8_use 31 = .ok (.ifCond .eq 22, 3) := by decide +kernel
theorem dX8_use_34 : decode cX8_use 34 = .ok (.aload_n 0, 1) := by decide +kernel
theorem dX8_use_35 : decode cX8_use 35 = .ok (.getfield 12, 3) := by decide +kernel
theorem dX8_use_38 : decode cX8_use 38 = .ok (.getfield 75, 3) := by decide +kernel
theorem dX8_use_41 : decode cX8_use 41 = .ok (.iload_n 2, 1) := by decide +kernel
theorem dX8_use_42 : decode cX8_use 42 = .ok (.aaload, 1) := by decide +kernel
theorem dX8_use_43 : decode cX8_use 43 = .ok (.bipush 6, 2) := by decide +kernel
theorem dX8_use_45 : decode cX8_use 45 = .ok (.aload_n 0, 1) := by decide +kernel
theorem dX8_use_46 : decode cX8_use 46 = .ok (.getfield 12, 3) := by decide +kernel
theorem dX8_use_49 : decode cX8_use 49 = .ok (.getfield 102, 3) := by decide +kernel
theorem dX8_use_52 : decode cX8_use 52 = .ok (.iastore, 1) := by decide +kernel
theorem dX8_use_53 : decode cX8_use 53 = .ok (.iinc 2 1, 3) := by decide +kernel
theorem dX8_use_56 : decode cX8_use 56 = .ok (.goto (-41), 3) := by decide +kernel
theorem dX8_use_59 : decode cX8_use 59 = .ok (.iconst 1, 1) := by decide +kernel
theorem dX8_use_60 : decode cX8_use 60 = .ok (.ireturn, 1) := by decide +kernel
theorem dX8_rests_0 : decode cX8_rests 0 = .ok (.aload_n 0, 1) := by decide +kernel
theorem dX8_rests_1 : decode cX8_rests 1 = .ok (.getfield 12, 3) := by decide +kernel
theorem dX8_rests_4 : decode cX8_rests 4 = .ok (.iload_n 1, 1) := by decide +kernel
theorem dX8_rests_5 : decode cX8_rests 5 = .ok (.invokevirtual 79, 3) := by decide +kernel
theorem dX8_rests_8 : decode cX8_rests 8 = .ok (.ifCond .ne 5, 3) := by decide +kernel
theorem dX8_rests_11 : decode cX8_rests 11 = .ok (.iconst (-1), 1) := by decide +kernel
theorem dX8_rests_12 : decode cX8_rests 12 = .ok (.ireturn, 1) := by decide +kernel
theorem dX8_rests_13 : decode cX8_rests 13 = .ok (.aload_n 0, 1) := by decide +kernel
theorem dX8_rests_14 : decode cX8_rests 14 = .ok (.getfield 12, 3) := by decide +kernel
theorem dX8_rests_17 : decode cX8_rests 17 = .ok (.iload_n 1, 1) := by decide +kernel
theorem dX8_rests_18 : decode cX8_rests 18 = .ok (.invokevirtual 108, 3) := by decide +kernel
theorem dX8_rests_21 : decode cX8_rests 21 = .ok (.invokestatic 111, 3) := by decide +kernel
theorem dX8_rests_24 : decode cX8_rests 24 = .ok (.ireturn, 1) := by decide +kernel
theorem dX8_look_0 : decode cX8_look 0 = .ok (.aload_n 0, 1) := by decide +kernel
theorem dX8_look_1 : decode cX8_look 1 = .ok (.getfield 12, 3) := by decide +kernel
theorem dX8_look_4 : decode cX8_look 4 = .ok (.iload_n 1, 1) := by decide +kernel
theorem dX8_look_5 : decode cX8_look 5 = .ok (.invokevirtual 105, 3) := by decide +kernel
theorem dX8_look_8 : decode cX8_look 8 = .ok (.ifCond .ne 5, 3) := by decide +kernel
theorem dX8_look_11 : decode cX8_look 11 = .ok (.iconst (-1), 1) := by decide +kernel
theorem dX8_look_12 : decode cX8_look 12 = .ok (.ireturn, 1) := by decide +kernel
theorem dX8_look_13 : decode cX8_look 13 = .ok (.aload_n 0, 1) := by decide +kernel
theorem dX8_look_14 : decode cX8_look 14 = .ok (.getfield 12, 3) := by decide +kernel
theorem dX8_look_17 : decode cX8_look 17 = .ok (.iload_n 1, 1) := by decide +kernel
theorem dX8_look_18 : decode cX8_look 18 = .ok (.aload_n 0, 1) := by decide +kernel
theorem dX8_look_19 : decode cX8_look 19 = .ok (.getfield 60, 3) := by decide +kernel
theorem dX8_look_22 : decode cX8_look 22 = .ok (.invokevirtual 115, 3) := by decide +kernel
theorem dX8_look_25 : decode cX8_look 25 = .ok (.iload_n 2, 1) := by decide +kernel
theorem dX8_look_26 : decode cX8_look 26 = .ok (.bipush 10, 2) := by decide +kernel
theorem dX8_look_28 : decode cX8_look 28 = .ok (.bipush 19, 2) := by decide +kernel
theorem dX8_look_30 : decode cX8_look 30 = .ok (.invokestatic 68, 3) := by decide +kernel
theorem dX8_look_33 : decode cX8_look 33 = .ok (.ifCond .eq 13, 3) := by decide +kernel
theorem dX8_look_36 : decode cX8_look 36 = .ok (.aload_n 0, 1) := by decide +kernel
theorem dX8_look_37 : decode cX8_look 37 = .ok (.getfield 60, 3) := by decide +kernel
theorem dX8_look_40 : decode cX8_look 40 = .ok (.iload_n 2, 1) := by decide +kernel
theorem dX8_look_41 : decode cX8_look 41 = .ok (.bipush 10, 2) := by decide +kernel
theorem dX8_look_43 : decode cX8_look 43 = .ok (.isub, 1) := by decide +kernel
theorem dX8_look_44 : decode cX8_look 44 = .ok (.iaload, 1) := by decide +kernel
theorem dX8_look_45 : decode cX8_look 45 = .ok (.ireturn, 1) := by decide +kernel
theorem dX8_look_46 : decode cX8_look 46 = .ok (.aload_n 0, 1) := by decide +kernel
theorem dX8_look_47 : decode cX8_look 47 = .ok (.getfield 19, 3) := by decide +kernel
theorem dX8_look_50 : decode cX8_look 50 = .ok (.aload_n 0, 1) := by decide +kernel
theorem dX8_look_51 : decode cX8_look 51 = .ok (.getfield 60, 3) := by decide +kernel
theorem dX8_look_54 : decode cX8_look 54 = .ok (.getstatic 119, 3) := by decide +kernel
theorem dX8_look_57 : decode cX8_look 57 = .ok (.invokevirtual 122, 3) := by decide +kernel
theorem dX8_look_60 : decode cX8_look 60 = .ok (.istore_n 3, 1) := by decide +kernel
theorem dX8_look_61 : decode cX8_look 61 = .ok (.iload_n 2, 1) := by decide +kernel
theorem dX8_look_62 : decode cX8_look 62 = .ok (.tableswitch 83 0 3 #[30, 42, 66, 81], 30) := by decide +kernel
theorem dX8_look_92 : decode cX8_look 92 = .ok (.aload_n 0, 1) := by decide +kernel
theorem dX8_look_93 : decode cX8_look 93 = .ok (.getfield 12, 3) := by decide +kernel
theorem dX8_look_96 : decode cX8_look 96 = .ok (.iload_n 1, 1) := by decide +kernel
theorem dX8_look_97 : decode cX8_look 97 = .ok (.invokevirtual 126, 3) := by decide +kernel
theorem dX8_look_100 : decode cX8_look 100 = .ok (.invokestatic 111, 3) := by decide +kernel
theorem dX8_look_103 : decode cX8_look 103 = .ok (.ireturn, 1) := by decide +kernel
theorem dX8_look_104 : decode cX8_look 104 = .ok (.aload_n 0, 1) := by decide +kernel
theorem dX8_look_105 : decode cX8_look 105 = .ok (.getfield 12, 3) := by decide +kernel
theorem dX8_look_108 : decode cX8_look 108 = .ok (.iload_n 1, 1) := by decide +kernel
theorem dX8_look_109 : decode cX8_look 109 = .ok (.invokevirtual 126, 3) := by decide +kernel
theorem dX8_look_112 : decode cX8_look 112 = .ok (.ifCond .eq 11, 3) := by decide +kernel
theorem dX8_look_115 : decode cX8_look 115 = .ok (.iload_n 3, 1) := by decide +kernel
theorem dX8_look_116 : decode cX8_look 116 = .ok (.ifCond .ne 7, 3) := by decide +kernel
theorem dX8_look_119 : decode cX8_look 119 = .ok (.iconst 1, 1) := by decide +kernel
theorem dX8_look_120 : decode cX8_look 120 = .ok (.goto 4, 3) := by decide +kernel
theorem dX8_look_123 : decode cX8_look 123 = .ok (.iconst 0, 1) := by decide +kernel
theorem dX8_look_124 : decode cX8_look 124 = .ok (.invokestatic 111, 3) := by decide +kernel
theorem dX8_look_127 : decode cX8_look 127 = .ok (.ireturn, 1) := by decide +kernel
theorem dX8_look_128 : decode cX8_look 128 = .ok (.aload_n 0, 1) := by decide +kernel
theorem dX8_look_129 : decode cX8_look 129 = .ok (.getfield 19, 3) := by decide +kernel
theorem dX8_look_132 : decode cX8_look 132 = .ok (.aload_n 0, 1) := by decide +kernel
theorem dX8_look_133 : decode cX8_look 133 = .ok (.getfield 60, 3) := by decide +kernel
theorem dX8_look_136 : decode cX8_look 136 = .ok (.getstatic 119, 3) := by decide +kernel
theorem dX8_look_139 : decode cX8_look 139 = .ok (.invokevirtual 129, 3) := by decide +kernel
theorem dX8_look_142 : decode cX8_look 142 = .ok (.ireturn, 1) := by decide +kernel
theorem dX8_look_143 : decode cX8_look 143 = .ok (.iload_n 3, 1) := by decide +kernel
theorem dX8_look_144 : decode cX8_look 144 = .ok (.ireturn, 1) := by decide +kernel
theorem dX8_look_145 : decode cX8_look 145 = .ok (.iconst (-1), 1) := by decide +kernel
theorem dX8_look_146 : decode cX8_look 146 = .ok (.ireturn, 1) := by decide +kernel
theorem dX8_best_0 : decode cX8_best 0 = .ok (.aload_n 0, 1) := by decide +kernel
theorem dX8_best_1 : decode cX8_best 1 = .ok (.getfield 12, 3) := by decide +kernel
theorem dX8_best_4 : decode cX8_best 4 = .ok (.invokevirtual 132, 3) := by decide +kernel
theorem dX8_best_7 : decode cX8_best 7 = .ok (.bipush 16, 2) := by decide +kernel
theorem dX8_best_9 : decode cX8_best 9 = .ok (.if_icmp .le 5, 3) := by decide +kernel
theorem dX8_best_12 : decode cX8_best 12 = .ok (.iconst (-1), 1) := by decide +kernel
theorem dX8_best_13 : decode cX8_best 13 = .ok (.ireturn, 1) := by decide +kernel
theorem dX8_best_14 : decode cX8_best 14 = .ok (.aload_n 0, 1) := by decide +kernel
theorem dX8_best_15 : decode cX8_best 15 = .ok (.getfield 26, 3) := by decide +kernel
theorem dX8_best_18 : decode cX8_best 18 = .ok (.aload_n 0, 1) := by decide +kernel
theorem dX8_best_19 : decode cX8_best 19 = .ok (.getfield 12, 3) := by decide +kernel
theorem dX8_best_22 : decode cX8_best 22 = .ok (.invokevirtual 136, 3) := by decide +kernel
theorem dX8_best_25 : decode cX8_best 25 = .ok (.aload_n 0, 1) := by decide +kernel
theorem dX8_best_26 : decode cX8_best 26 = .ok (.getfield 35, 3) := by decide +kernel
theorem dX8_best_29 : decode cX8_best 29 = .ok (.invokevirtual 140, 3) := by decide +kernel
theorem dX8_best_32 : decode cX8_best 32 = .ok (.ireturn, 1) := by decide +kernel
theorem dX8_why_0 : decode cX8_why 0 = .ok (.aload_n 0, 1) := by decide +kernel
theorem dX8_why_1 : decode cX8_why 1 = .ok (.getfield 12, 3) := by decide +kernel
theorem dX8_why_4 : decode cX8_why 4 = .ok (.invokevirtual 132, 3) := by decide +kernel
theorem dX8_why_7 : decode cX8_why 7 = .ok (.bipush 16, 2) := by decide +kernel
theorem dX8_why_9 : decode cX8_why 9 = .ok (.if_icmp .le 5, 3) := by decide +kernel
theorem dX8_why_12 : decode cX8_why 12 = .ok (.iconst (-1), 1) := by decide +kernel
theorem dX8_why_13 : decode cX8_why 13 = .ok (.ireturn, 1) := by decide +kernel
theorem dX8_why_14 : decode cX8_why 14 = .ok (.aload_n 0, 1) := by decide +kernel
theorem dX8_why_15 : decode cX8_why 15 = .ok (.getfield 26, 3) := by decide +kernel
theorem dX8_why_18 : decode cX8_why 18 = .ok (.aload_n 0, 1) := by decide +kernel
theorem dX8_why_19 : decode cX8_why 19 = .ok (.getfield 12, 3) := by decide +kernel
theorem dX8_why_22 : decode cX8_why 22 = .ok (.invokevirtual 136, 3) := by decide +kernel
theorem dX8_why_25 : decode cX8_why 25 = .ok (.aload_n 0, 1) := by decide +kernel
theorem dX8_why_26 : decode cX8_why 26 = .ok (.getfield 42, 3) := by decide +kernel
theorem dX8_why_29 : decode cX8_why 29 = .ok (.invokevirtual 143, 3) := by decide +kernel
theorem dX8_why_32 : decode cX8_why 32 = .ok (.ireturn, 1) := by decide +kernel
theorem dX8_versions_0 : decode cX8_versions 0 = .ok (.iload_n 1, 1) := by decide +kernel
theorem dX8_versions_1 : decode cX8_versions 1 = .ok (.iconst 0, 1) := by decide +kernel
theorem dX8_versions_2 : decode cX8_versions 2 = .ok (.sipush 1000, 3) := by decide +kernel
theorem dX8_versions_5 : decode cX8_versions 5 = .ok (.invokestatic 68, 3) := by decide +kernel
theorem dX8_versions_8 : decode cX8_versions 8 = .ok (.ifCond .eq 15, 3) := by decide +kernel
theorem dX8_versions_11 : decode cX8_versions 11 = .ok (.aload_n 0, 1) := by decide +kernel
theorem dX8_versions_12 : decode cX8_versions 12 = .ok (.getfield 12, 3) := by decide +kernel
theorem dX8_versions_15 : decode cX8_versions 15 = .ok (.invokevirtual 132, 3) := by decide +kernel
theorem dX8_versions_18 : decode cX8_versions 18 = .ok (.bipush 10, 2) := by decide +kernel
theorem dX8_versions_20 : decode cX8_versions 20 = .ok (.if_icmp .le 5, 3) := by decide +kernel
theorem dX8_versions_23 : decode cX8_versions 23 = .ok (.iconst (-1), 1) := by decide +kernel
theorem dX8_versions_24 : decode cX8_versions 24 = .ok (.ireturn, 1) := by decide +kernel
theorem dX8_versions_25 : decode cX8_versions 25 = .ok (.aload_n 0, 1) := by decide +kernel
theorem dX8_versions_26 : decode cX8_versions 26 = .ok (.getfield 26, 3) := by decide +kernel
theorem dX8_versions_29 : decode cX8_versions 29 = .ok (.aload_n 0, 1) := by decide +kernel
theorem dX8_versions_30 : decode cX8_versions 30 = .ok (.getfield 12, 3) := by decide +kernel
theorem dX8_versions_33 : decode cX8_versions 33 = .ok (.invokevirtual 136, 3) := by decide +kernel
theorem dX8_versions_36 : decode cX8_versions 36 = .ok (.aload_n 0, 1) := by decide +kernel
theorem dX8_versions_37 : decode cX8_versions 37 = .ok (.getfield 49, 3) := by decide +kernel
theorem dX8_versions_40 : decode cX8_versions 40 = .ok (.iload_n 1, 1) := by decide +kernel
theorem dX8_versions_41 : decode cX8_versions 41 = .ok (.invokevirtual 146, 3) := by decide +kernel
theorem dX8_versions_44 : decode cX8_versions 44 = .ok (.aload_n 0, 1) := by decide +kernel
theorem dX8_versions_45 : decode cX8_versions 45 = .ok (.aload_n 0, 1) := by decide +kernel
theorem dX8_versions_46 : decode cX8_versions 46 = .ok (.getfield 49, 3) := by decide +kernel
theorem dX8_versions_49 : decode cX8_versions 49 = .ok (.getfield 150, 3) := by decide +kernel
theorem dX8_versions_52 : decode cX8_versions 52 = .ok (.putfield 64, 3) := by decide +kernel
theorem dX8_versions_55 : decode cX8_versions 55 = .ok (.aload_n 0, 1) := by decide +kernel
theorem dX8_versions_56 : decode cX8_versions 56 = .ok (.getfield 49, 3) := by decide +kernel
theorem dX8_versions_59 : decode cX8_versions 59 = .ok (.getfield 153, 3) := by decide +kernel
theorem dX8_versions_62 : decode cX8_versions 62 = .ok (.ifCond .ne 8, 3) := by decide +kernel
theorem dX8_versions_65 : decode cX8_versions 65 = .ok (.bipush (-2), 2) := by decide +kernel
theorem dX8_versions_67 : decode cX8_versions 67 = .ok (.goto 10, 3) := by decide +kernel
theorem dX8_versions_70 : decode cX8_versions 70 = .ok (.aload_n 0, 1) := by decide +kernel
theorem dX8_versions_71 : decode cX8_versions 71 = .ok (.getfield 49, 3) := by decide +kernel
theorem dX8_versions_74 : decode cX8_versions 74 = .ok (.getfield 153, 3) := by decide +kernel
theorem dX8_versions_77 : decode cX8_versions 77 = .ok (.ireturn, 1) := by decide +kernel
theorem dX8_second_0 : decode cX8_second 0 = .ok (.aload_n 0, 1) := by decide +kernel
theorem dX8_second_1 : decode cX8_second 1 = .ok (.getfield 64, 3) := by decide +kernel
theorem dX8_second_4 : decode cX8_second 4 = .ok (.ireturn, 1) := by decide +kernel
theorem dX8_order_0 : decode cX8_order 0 = .ok (.aload_n 0, 1) := by decide +kernel
theorem dX8_order_1 : decode cX8_order 1 = .ok (.getfield 12, 3) := by decide +kernel
theorem dX8_order_4 : decode cX8_order 4 = .ok (.iload_n 1, 1) := by decide +kernel
theorem dX8_order_5 : decode cX8_order 5 = .ok (.invokevirtual 105, 3) := by decide +kernel
theorem dX8_order_8 : decode cX8_order 8 = .ok (.ifCond .eq 18, 3) := by decide +kernel
theorem dX8_order_11 : decode cX8_order 11 = .ok (.aload_n 0, 1) := by decide +kernel
theorem dX8_order_12 : decode cX8_order 12 = .ok (.getfield 56, 3) := by decide +kernel
theorem dX8_order_15 : decode cX8_order 15 = .ok (.aload_n 0, 1) := by decide +kernel
theorem dX8_order_16 : decode cX8_order 16 = .ok (.getfield 12, 3) := by decide +kernel
theorem dX8_order_19 : decode cX8_order 19 = .ok (.iload_n 1, 1) := by decide +kernel
theorem dX8_order_20 : decode cX8_order 20 = .ok (.invokevirtual 156, 3) := by decide +kernel
theorem dX8_order_23 : decode cX8_order 23 = .ok (.ifCond .ne 5, 3) := by decide +kernel
theorem dX8_order_26 : decode cX8_order 26 = .ok (.iconst (-1), 1) := by decide +kernel
theorem dX8_order_27 : decode cX8_order 27 = .ok (.ireturn, 1) := by decide +kernel
theorem dX8_order_28 : decode cX8_order 28 = .ok (.aload_n 0, 1) := by decide +kernel
theorem dX8_order_29 : decode cX8_order 29 = .ok (.getfield 56, 3) := by decide +kernel
theorem dX8_order_32 : decode cX8_order 32 = .ok (.aload_n 0, 1) := by decide +kernel
theorem dX8_order_33 : decode cX8_order 33 = .ok (.getfield 12, 3) := by decide +kernel
theorem dX8_order_36 : decode cX8_order 36 = .ok (.invokevirtual 160, 3) := by decide +kernel
theorem dX8_order_39 : decode cX8_order 39 = .ok (.aload_n 0, 1) := by decide +kernel
theorem dX8_order_40 : decode cX8_order 40 = .ok (.getfield 56, 3) := by decide +kernel
theorem dX8_order_43 : decode cX8_order 43 = .ok (.getfield 163, 3) := by decide +kernel
theorem dX8_order_46 : decode cX8_order 46 = .ok (.ireturn, 1) := by decide +kernel
theorem dX8_place_0 : decode cX8_place 0 = .ok (.iload_n 1, 1) := by decide +kernel
theorem dX8_place_1 : decode cX8_place 1 = .ok (.iconst 0, 1) := by decide +kernel
theorem dX8_place_2 : decode cX8_place 2 = .ok (.aload_n 0, 1) := by decide +kernel
theorem dX8_place_3 : decode cX8_place 3 = .ok (.getfield 56, 3) := by decide +kernel
theorem dX8_place_6 : decode cX8_place 6 = .ok (.getfield 166, 3) := by decide +kernel
theorem dX8_place_9 : decode cX8_place 9 = .ok (.iconst 1, 1) := by decide +kernel
theorem dX8_place_10 : decode cX8_place 10 = .ok (.isub, 1) := by decide +kernel
theorem dX8_place_11 : decode cX8_place 11 = .ok (.invokestatic 68, 3) := by decide +kernel
theorem dX8_place_14 : decode cX8_place 14 = .ok (.ifCond .ne 5, 3) := by decide +kernel
theorem dX8_place_17 : decode cX8_place 17 = .ok (.iconst (-1), 1) := by decide +kernel
theorem dX8_place_18 : decode cX8_place 18 = .ok (.ireturn, 1) := by decide +kernel
theorem dX8_place_19 : decode cX8_place 19 = .ok (.aload_n 0, 1) := by decide +kernel
theorem dX8_place_20 : decode cX8_place 20 = .ok (.getfield 56, 3) := by decide +kernel
theorem dX8_place_23 : decode cX8_place 23 = .ok (.getfield 169, 3) := by decide +kernel
theorem dX8_place_26 : decode cX8_place 26 = .ok (.iload_n 1, 1) := by decide +kernel
theorem dX8_place_27 : decode cX8_place 27 = .ok (.iaload, 1) := by decide +kernel
theorem dX8_place_28 : decode cX8_place 28 = .ok (.ireturn, 1) := by decide +kernel
theorem dX8_told_0 : decode cX8_told 0 = .ok (.aload_n 0, 1) := by decide +kernel
theorem dX8_told_1 : decode cX8_told 1 = .ok (.getfield 12, 3) := by decide +kernel
theorem dX8_told_4 : decode cX8_told 4 = .ok (.iload_n 1, 1) := by decide +kernel
theorem dX8_told_5 : decode cX8_told 5 = .ok (.invokevirtual 79, 3) := by decide +kernel
theorem dX8_told_8 : decode cX8_told 8 = .ok (.ifCond .eq 13, 3) := by decide +kernel
theorem dX8_told_11 : decode cX8_told 11 = .ok (.iload_n 2, 1) := by decide +kernel
theorem dX8_told_12 : decode cX8_told 12 = .ok (.iconst 0, 1) := by decide +kernel
theorem dX8_told_13 : decode cX8_told 13 = .ok (.bipush 6, 2) := by decide +kernel
theorem dX8_told_15 : decode cX8_told 15 = .ok (.invokestatic 68, 3) := by decide +kernel
theorem dX8_told_18 : decode cX8_told 18 = .ok (.ifCond .ne 5, 3) := by decide +kernel
theorem dX8_told_21 : decode cX8_told 21 = .ok (.iconst (-1), 1) := by decide +kernel
theorem dX8_told_22 : decode cX8_told 22 = .ok (.ireturn, 1) := by decide +kernel
theorem dX8_told_23 : decode cX8_told 23 = .ok (.aload_n 0, 1) := by decide +kernel
theorem dX8_told_24 : decode cX8_told 24 = .ok (.getfield 12, 3) := by decide +kernel
theorem dX8_told_27 : decode cX8_told 27 = .ok (.getfield 75, 3) := by decide +kernel
theorem dX8_told_30 : decode cX8_told 30 = .ok (.iload_n 1, 1) := by decide +kernel
theorem dX8_told_31 : decode cX8_told 31 = .ok (.aaload, 1) := by decide +kernel
theorem dX8_told_32 : decode cX8_told 32 = .ok (.iload_n 2, 1) := by decide +kernel
theorem dX8_told_33 : decode cX8_told 33 = .ok (.iaload, 1) := by decide +kernel
theorem dX8_told_34 : decode cX8_told 34 = .ok (.ireturn, 1) := by decide +kernel
theorem dX8_count_0 : decode cX8_count 0 = .ok (.iload_n 1, 1) := by decide +kernel
theorem dX8_count_1 : decode cX8_count 1 = .ok (.tableswitch 87 0 5 #[39, 47, 55, 63, 71, 79], 39) := by decide +kernel
theorem dX8_count_40 : decode cX8_count 40 = .ok (.aload_n 0, 1) := by decide +kernel
theorem dX8_count_41 : decode cX8_count 41 = .ok (.getfield 12, 3) := by decide +kernel
theorem dX8_count_44 : decode cX8_count 44 = .ok (.getfield 72, 3) := by decide +kernel
theorem dX8_count_47 : decode cX8_count 47 = .ok (.ireturn, 1) := by decide +kernel
theorem dX8_count_48 : decode cX8_count 48 = .ok (.aload_n 0, 1) := by decide +kernel
theorem dX8_count_49 : decode cX8_count 49 = .ok (.getfield 12, 3) := by decide +kernel
theorem dX8_count_52 : decode cX8_count 52 = .ok (.invokevirtual 132, 3) := by decide +kernel
theorem dX8_count_55 : decode cX8_count 55 = .ok (.ireturn, 1) := by decide +kernel
theorem dX8_count_56 : decode cX8_count 56 = .ok (.aload_n 0, 1) := by decide +kernel
theorem dX8_count_57 : decode cX8_count 57 = .ok (.getfield 12, 3) := by decide +kernel
theorem dX8_count_60 : decode cX8_count 60 = .ok (.getfield 102, 3) := by decide +kernel
theorem dX8_count_63 : decode cX8_count 63 = .ok (.ireturn, 1) := by decide +kernel
theorem dX8_count_64 : decode cX8_count 64 = .ok (.aload_n 0, 1) := by decide +kernel
theorem dX8_count_65 : decode cX8_count 65 = .ok (.getfield 12, 3) := by decide +kernel
theorem dX8_count_68 : decode cX8_count 68 = .ok (.getfield 99, 3) := by decide +kernel
theorem dX8_count_71 : decode cX8_count 71 = .ok (.ireturn, 1) := by decide +kernel
theorem dX8_count_72 : decode cX8_count 72 = .ok (.aload_n 0, 1) := by decide +kernel
theorem dX8_count_73 : decode cX8_count 73 = .ok (.getfield 56, 3) := by decide +kernel
theorem dX8_count_76 : decode cX8_count 76 = .ok (.getfield 172, 3) := by decide +kernel
theorem dX8_count_79 : decode cX8_count 79 = .ok (.ireturn, 1) := by decide +kernel
theorem dX8_count_80 : decode cX8_count 80 = .ok (.aload_n 0, 1) := by decide +kernel
theorem dX8_count_81 : decode cX8_count 81 = .ok (.getfield 56, 3) := by decide +kernel
theorem dX8_count_84 : decode cX8_count 84 = .ok (.getfield 166, 3) := by decide +kernel
theorem dX8_count_87 : decode cX8_count 87 = .ok (.ireturn, 1) := by decide +kernel
theorem dX8_count_88 : decode cX8_count 88 = .ok (.iconst (-1), 1) := by decide +kernel
theorem dX8_count_89 : decode cX8_count 89 = .ok (.ireturn, 1) := by decide +kernel
theorem dX8_within_0 : decode cX8_within 0 = .ok (.iload_n 0, 1) := by decide +kernel
theorem dX8_within_1 : decode cX8_within 1 = .ok (.iload_n 1, 1) := by decide +kernel
theorem dX8_within_2 : decode cX8_within 2 = .ok (.if_icmp .lt 12, 3) := by decide +kernel
theorem dX8_within_5 : decode cX8_within 5 = .ok (.iload_n 0, 1) := by decide +kernel
theorem dX8_within_6 : decode cX8_within 6 = .ok (.iload_n 2, 1) := by decide +kernel
theorem dX8_within_7 : decode cX8_within 7 = .ok (.if_icmp .gt 7, 3) := by decide +kernel
theorem dX8_within_10 : decode cX8_within 10 = .ok (.iconst 1, 1) := by decide +kernel
theorem dX8_within_11 : decode cX8_within 11 = .ok (.goto 4, 3) := by decide +kernel
theorem dX8_within_14 : decode cX8_within 14 = .ok (.iconst 0, 1) := by decide +kernel
theorem dX8_within_15 : decode cX8_within 15 = .ok (.ireturn, 1) := by decide +kernel
theorem dX8_oneIf_0 : decode cX8_oneIf 0 = .ok (.iload_n 0, 1) := by decide +kernel
theorem dX8_oneIf_1 : decode cX8_oneIf 1 = .ok (.ifCond .eq 7, 3) := by decide +kernel
theorem dX8_oneIf_4 : decode cX8_oneIf 4 = .ok (.iconst 1, 1) := by decide +kernel
theorem dX8_oneIf_5 : decode cX8_oneIf 5 = .ok (.goto 4, 3) := by decide +kernel
theorem dX8_oneIf_8 : decode cX8_oneIf 8 = .ok (.iconst 0, 1) := by decide +kernel
theorem dX8_oneIf_9 : decode cX8_oneIf 9 = .ok (.ireturn, 1) := by decide +kernel
theorem dX8_contains_0 : decode cX8_contains 0 = .ok (.iload_n 0, 1) := by decide +kernel
theorem dX8_contains_1 : decode cX8_contains 1 = .ok (.iload_n 1, 1) := by decide +kernel
theorem dX8_contains_2 : decode cX8_contains 2 = .ok (.iushr, 1) := by decide +kernel
theorem dX8_contains_3 : decode cX8_contains 3 = .ok (.iconst 1, 1) := by decide +kernel
theorem dX8_contains_4 : decode cX8_contains 4 = .ok (.iand, 1) := by decide +kernel
theorem dX8_contains_5 : decode cX8_contains 5 = .ok (.iconst 1, 1) := by decide +kernel
theorem dX8_contains_6 : decode cX8_contains 6 = .ok (.if_icmp .ne 7, 3) := by decide +kernel
theorem dX8_contains_9 : decode cX8_contains 9 = .ok (.iconst 1, 1) := by decide +kernel
theorem dX8_contains_10 : decode cX8_contains 10 = .ok (.goto 4, 3) := by decide +kernel
theorem dX8_contains_13 : decode cX8_contains 13 = .ok (.iconst 0, 1) := by decide +kernel
theorem dX8_contains_14 : decode cX8_contains 14 = .ok (.ireturn, 1) := by decide +kernel
theorem dX8_lowestOf_0 : decode cX8_lowestOf 0 = .ok (.iload_n 0, 1) := by decide +kernel
theorem dX8_lowestOf_1 : decode cX8_lowestOf 1 = .ok (.iload_n 0, 1) := by decide +kernel
theorem dX8_lowestOf_2 : decode cX8_lowestOf 2 = .ok (.ineg, 1) := by decide +kernel
theorem dX8_lowestOf_3 : decode cX8_lowestOf 3 = .ok (.iand, 1) := by decide +kernel
theorem dX8_lowestOf_4 : decode cX8_lowestOf 4 = .ok (.ireturn, 1) := by decide +kernel
