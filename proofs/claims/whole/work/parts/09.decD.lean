theorem dX9_init_0 : decode cX9_init 0 = .ok (.aload_n 0, 1) := by decide +kernel
theorem dX9_init_1 : decode cX9_init 1 = .ok (.invokespecial 1, 3) := by decide +kernel
theorem dX9_init_4 : decode cX9_init 4 = .ok (.aload_n 0, 1) := by decide +kernel
theorem dX9_init_5 : decode cX9_init 5 = .ok (.iconst 1, 1) := by decide +kernel
theorem dX9_init_6 : decode cX9_init 6 = .ok (.putfield 7, 3) := by decide +kernel
theorem dX9_init_9 : decode cX9_init 9 = .ok (.aload_n 0, 1) := by decide +kernel
theorem dX9_init_10 : decode cX9_init 10 = .ok (.bipush 24, 2) := by decide +kernel
theorem dX9_init_12 : decode cX9_init 12 = .ok (.newarray .int, 2) := by decide +kernel
theorem dX9_init_14 : decode cX9_init 14 = .ok (.putfield 13, 3) := by decide +kernel
theorem dX9_init_17 : decode cX9_init 17 = .ok (.aload_n 0, 1) := by decide +kernel
theorem dX9_init_18 : decode cX9_init 18 = .ok (.bipush 24, 2) := by decide +kernel
theorem dX9_init_20 : decode cX9_init 20 = .ok (.newarray .int, 2) := by decide +kernel
theorem dX9_init_22 : decode cX9_init 22 = .ok (.putfield 17, 3) := by decide +kernel
theorem dX9_init_25 : decode cX9_init 25 = .ok (.aload_n 0, 1) := by decide +kernel
theorem dX9_init_26 : decode cX9_init 26 = .ok (.bipush 24, 2) := by decide +kernel
theorem dX9_init_28 : decode cX9_init 28 = .ok (.newarray .int, 2) := by decide +kernel
theorem dX9_init_30 : decode cX9_init 30 = .ok (.putfield 20, 3) := by decide +kernel
theorem dX9_init_33 : decode cX9_init 33 = .ok (.aload_n 0, 1) := by decide +kernel
theorem dX9_init_34 : decode cX9_init 34 = .ok (.bipush 24, 2) := by decide +kernel
theorem dX9_init_36 : decode cX9_init 36 = .ok (.newarray .int, 2) := by decide +kernel
theorem dX9_init_38 : decode cX9_init 38 = .ok (.putfield 23, 3) := by decide +kernel
theorem dX9_init_41 : decode cX9_init 41 = .ok (.aload_n 0, 1) := by decide +kernel
theorem dX9_init_42 : decode cX9_init 42 = .ok (.bipush 24, 2) := by decide +kernel
theorem dX9_init_44 : decode cX9_init 44 = .ok (.newarray .int, 2) := by decide +kernel
theorem dX9_init_46 : decode cX9_init 46 = .ok (.putfield 26, 3) := by decide +kernel
theorem dX9_init_49 : decode cX9_init 49 = .ok (.aload_n 0, 1) := by decide +kernel
theorem dX9_init_50 : decode cX9_init 50 = .ok (.bipush 24, 2) := by decide +kernel
theorem dX9_init_52 : decode cX9_init 52 = .ok (.newarray .int, 2) := by decide +kernel
theorem dX9_init_54 : decode cX9_init 54 = .ok (.putfield 29, 3) := by decide +kernel
theorem dX9_init_57 : decode cX9_init 57 = .ok (.aload_n 0, 1) := by decide +kernel
theorem dX9_init_58 : decode cX9_init 58 = .ok (.bipush 24, 2) := by decide +kernel
theorem dX9_init_60 : decode cX9_init 60 = .ok (.newarray .int, 2) := by decide +kernel
theorem dX9_init_62 : decode cX9_init 62 = .ok (.putfield 32, 3) := by decide +kernel
theorem dX9_init_65 : decode cX9_init 65 = .ok (.aload_n 0, 1) := by decide +kernel
theorem dX9_init_66 : decode cX9_init 66 = .ok (.bipush 24, 2) := by decide +kernel
theorem dX9_init_68 : decode cX9_init 68 = .ok (.newarray .int, 2) := by decide +kernel
theorem dX9_init_70 : decode cX9_init 70 = .ok (.putfield 35, 3) := by decide +kernel
theorem dX9_init_73 : decode cX9_init 73 = .ok (.aload_n 0, 1) := by decide +kernel
theorem dX9_init_74 : decode cX9_init 74 = .ok (.bipush 10, 2) := by decide +kernel
theorem dX9_init_76 : decode cX9_init 76 = .ok (.newarray .int, 2) := by decide +kernel
theorem dX9_init_78 : decode cX9_init 78 = .ok (.putfield 38, 3) := by decide +kernel
theorem dX9_init_81 : decode cX9_init 81 = .ok (.aload_n 0, 1) := by decide +kernel
theorem dX9_init_82 : decode cX9_init 82 = .ok (.bipush 10, 2) := by decide +kernel
theorem dX9_init_84 : decode cX9_init 84 = .ok (.newarray .int, 2) := by decide +kernel
theorem dX9_init_86 : decode cX9_init 86 = .ok (.putfield 41, 3) := by decide +kernel
theorem dX9_init_89 : decode cX9_init 89 = .ok (.aload_n 0, 1) := by decide +kernel
theorem dX9_init_90 : decode cX9_init 90 = .ok (.iconst 4, 1) := by decide +kernel
theorem dX9_init_91 : decode cX9_init 91 = .ok (.newarray .int, 2) := by decide +kernel
theorem dX9_init_93 : decode cX9_init 93 = .ok (.putfield 44, 3) := by decide +kernel
theorem dX9_init_96 : decode cX9_init 96 = .ok (.aload_n 0, 1) := by decide +kernel
theorem dX9_init_97 : decode cX9_init 97 = .ok (.bipush 16, 2) := by decide +kernel
theorem dX9_init_99 : decode cX9_init 99 = .ok (.newarray .int, 2) := by decide +kernel
theorem dX9_init_101 : decode cX9_init 101 = .ok (.putfield 47, 3) := by decide +kernel
theorem dX9_init_104 : decode cX9_init 104 = .ok (.aload_n 0, 1) := by decide +kernel
theorem dX9_init_105 : decode cX9_init 105 = .ok (.ldc 50, 2) := by decide +kernel
theorem dX9_init_107 : decode cX9_init 107 = .ok (.newarray .int, 2) := by decide +kernel
theorem dX9_init_109 : decode cX9_init 109 = .ok (.putfield 51, 3) := by decide +kernel
theorem dX9_init_112 : decode cX9_init 112 = .ok (.aload_n 0, 1) := by decide +kernel
theorem dX9_init_113 : decode cX9_init 113 = .ok (.ldc 54, 2) := by decide +kernel
theorem dX9_init_115 : decode cX9_init 115 = .ok (.newarray .boolean, 2) := by decide +kernel
theorem dX9_init_117 : decode cX9_init 117 = .ok (.putfield 55, 3) := by decide +kernel
theorem dX9_init_120 : decode cX9_init 120 = .ok (.aload_n 0, 1) := by decide +kernel
theorem dX9_init_121 : decode cX9_init 121 = .ok (.ldc 54, 2) := by decide +kernel
theorem dX9_init_123 : decode cX9_init 123 = .ok (.newarray .int, 2) := by decide +kernel
theorem dX9_init_125 : decode cX9_init 125 = .ok (.putfield 59, 3) := by decide +kernel
theorem dX9_init_128 : decode cX9_init 128 = .ok (.aload_n 0, 1) := by decide +kernel
theorem dX9_init_129 : decode cX9_init 129 = .ok (.bipush 16, 2) := by decide +kernel
theorem dX9_init_131 : decode cX9_init 131 = .ok (.newarray .int, 2) := by decide +kernel
theorem dX9_init_133 : decode cX9_init 133 = .ok (.putfield 62, 3) := by decide +kernel
theorem dX9_init_136 : decode cX9_init 136 = .ok (.aload_n 0, 1) := by decide +kernel
theorem dX9_init_137 : decode cX9_init 137 = .ok (.bipush 16, 2) := by decide +kernel
theorem dX9_init_139 : decode cX9_init 139 = .ok (.newarray .int, 2) := by decide +kernel
theorem dX9_init_141 : decode cX9_init 141 = .ok (.putfield 65, 3) := by decide +kernel
theorem dX9_init_144 : decode cX9_init 144 = .ok (.aload_n 0, 1) := by decide +kernel
theorem dX9_init_145 : decode cX9_init 145 = .ok (.sipush 1024, 3) := by decide +kernel
theorem dX9_init_148 : decode cX9_init 148 = .ok (.newarray .boolean, 2) := by decide +kernel
theorem dX9_init_150 : decode cX9_init 150 = .ok (.putfield 68, 3) := by decide +kernel
theorem dX9_init_153 : decode cX9_init 153 = .ok (.aload_n 0, 1) := by decide +kernel
theorem dX9_init_154 : decode cX9_init 154 = .ok (.bipush 24, 2) := by decide +kernel
theorem dX9_init_156 : decode cX9_init 156 = .ok (.newarray .int, 2) := by decide +kernel
theorem dX9_init_158 : decode cX9_init 158 = .ok (.putfield 71, 3) := by decide +kernel
theorem dX9_init_161 : decode cX9_init 161 = .ok (.aload_n 0, 1) := by decide +kernel
theorem dX9_init_162 : decode cX9_init 162 = .ok (.bipush 8, 2) := by decide +kernel
theorem dX9_init_164 : decode cX9_init 164 = .ok (.newarray .int, 2) := by decide +kernel
theorem dX9_init_166 : decode cX9_init 166 = .ok (.putfield 74, 3) := by decide +kernel
theorem dX9_init_169 : decode cX9_init 169 = .ok (.aload_n 0, 1) := by decide +kernel
theorem dX9_init_170 : decode cX9_init 170 = .ok (.bipush 24, 2) := by decide +kernel
theorem dX9_init_172 : decode cX9_init 172 = .ok (.newarray .int, 2) := by decide +kernel
theorem dX9_init_174 : decode cX9_init 174 = .ok (.putfield 77, 3) := by decide +kernel
theorem dX9_init_177 : decode cX9_init 177 = .ok (.aload_n 0, 1) := by decide +kernel
theorem dX9_init_178 : decode cX9_init 178 = .ok (.bipush 24, 2) := by decide +kernel
theorem dX9_init_180 : decode cX9_init 180 = .ok (.newarray .int, 2) := by decide +kernel
theorem dX9_init_182 : decode cX9_init 182 = .ok (.putfield 80, 3) := by decide +kernel
theorem dX9_init_185 : decode cX9_init 185 = .ok (.iconst 0, 1) := by decide +kernel
theorem dX9_init_186 : decode cX9_init 186 = .ok (.istore_n 1, 1) := by decide +kernel
theorem dX9_init_187 : decode cX9_init 187 = .ok (.iload_n 1, 1) := by decide +kernel
theorem dX9_init_188 : decode cX9_init 188 = .ok (.bipush 10, 2) := by decide +kernel
theorem dX9_init_190 : decode cX9_init 190 = .ok (.if_icmp .ge 18, 3) := by decide +kernel
theorem dX9_init_193 : decode cX9_init 193 = .ok (.aload_n 0, 1) := by decide +kernel
theorem dX9_init_194 : decode cX9_init 194 = .ok (.getfield 41, 3) := by decide +kernel
theorem dX9_init_197 : decode cX9_init 197 = .ok (.iload_n 1, 1) := by decide +kernel
theorem dX9_init_198 : decode cX9_init 198 = .ok (.sipush 1000, 3) := by decide +kernel
theorem dX9_init_201 : decode cX9_init 201 = .ok (.iastore, 1) := by decide +kernel
theorem dX9_init_202 : decode cX9_init 202 = .ok (.iinc 1 1, 3) := by decide +kernel
theorem dX9_init_205 : decode cX9_init 205 = .ok (.goto (-18), 3) := by decide +kernel
theorem dX9_init_208 : decode cX9_init 208 = .ok (.return_, 1) := by decide +kernel
theorem dX9_lies_0 : decode cX9_lies 0 = .ok (.iload_n 0, 1) := by decide +kernel
theorem dX9_lies_1 : decode cX9_lies 1 = .ok (.iload_n 1, 1) := by decide +kernel
theorem dX9_lies_2 : decode cX9_lies 2 = .ok (.if_icmp .lt 12, 3) := by decide +kernel
theorem dX9_lies_5 : decode cX9_lies 5 = .ok (.iload_n 0, 1) := by decide +kernel
theorem dX9_lies_6 : decode cX9_lies 6 = .ok (.iload_n 2, 1) := by decide +kernel
theorem dX9_lies_7 : decode cX9_lies 7 = .ok (.if_icmp .gt 7, 3) := by decide +kernel
theorem dX9_lies_10 : decode cX9_lies 10 = .ok (.iconst 1, 1) := by decide +kernel
theorem dX9_lies_11 : decode cX9_lies 11 = .ok (.goto 4, 3) := by decide +kernel
theorem dX9_lies_14 : decode cX9_lies 14 = .ok (.iconst 0, 1) := by decide +kernel
theorem dX9_lies_15 : decode cX9_lies 15 = .ok (.ireturn, 1) := by decide +kernel
theorem dX9_isQuestion_0 : decode cX9_isQuestion 0 = .ok (.iload_n 1, 1) := by decide +kernel
theorem dX9_isQuestion_1 : decode cX9_isQuestion 1 = .ok (.iconst 0, 1) := by decide +kernel
theorem dX9_isQuestion_2 : decode cX9_isQuestion 2 = .ok (.aload_n 0, 1) := by decide +kernel
theorem dX9_isQuestion_3 : decode cX9_isQuestion 3 = .ok (.getfield 83, 3) := by decide +kernel
theorem dX9_isQuestion_6 : decode cX9_isQuestion 6 = .ok (.iconst 1, 1) := by decide +kernel
theorem dX9_isQuestion_7 : decode cX9_isQuestion 7 = .ok (.isub, 1) := by decide +kernel
theorem dX9_isQuestion_8 : decode cX9_isQuestion 8 = .ok (.invokestatic 86, 3) := by decide +kernel
theorem dX9_isQuestion_11 : decode cX9_isQuestion 11 = .ok (.ireturn, 1) := by decide +kernel
theorem dX9_isSet_0 : decode cX9_isSet 0 = .ok (.iload_n 1, 1) := by decide +kernel
theorem dX9_isSet_1 : decode cX9_isSet 1 = .ok (.iconst 0, 1) := by decide +kernel
theorem dX9_isSet_2 : decode cX9_isSet 2 = .ok (.iconst 1, 1) := by decide +kernel
theorem dX9_isSet_3 : decode cX9_isSet 3 = .ok (.aload_n 0, 1) := by decide +kernel
theorem dX9_isSet_4 : decode cX9_isSet 4 = .ok (.getfield 83, 3) := by decide +kernel
theorem dX9_isSet_7 : decode cX9_isSet 7 = .ok (.ishl, 1) := by decide +kernel
theorem dX9_isSet_8 : decode cX9_isSet 8 = .ok (.iconst 1, 1) := by decide +kernel
theorem dX9_isSet_9 : decode cX9_isSet 9 = .ok (.isub, 1) := by decide +kernel
theorem dX9_isSet_10 : decode cX9_isSet 10 = .ok (.invokestatic 86, 3) := by decide +kernel
theorem dX9_isSet_13 : decode cX9_isSet 13 = .ok (.ireturn, 1) := by decide +kernel
theorem dX9_has_0 : decode cX9_has 0 = .ok (.iload_n 0, 1) := by decide +kernel
theorem dX9_has_1 : decode cX9_has 1 = .ok (.iload_n 1, 1) := by decide +kernel
theorem dX9_has_2 : decode cX9_has 2 = .ok (.ishr, 1) := by decide +kernel
theorem dX9_has_3 : decode cX9_has 3 = .ok (.iconst 1, 1) := by decide +kernel
theorem dX9_has_4 : decode cX9_has 4 = .ok (.iand, 1) := by decide +kernel
theorem dX9_has_5 : decode cX9_has 5 = .ok (.iconst 1, 1) := by decide +kernel
theorem dX9_has_6 : decode cX9_has 6 = .ok (.if_icmp .ne 7, 3) := by decide +kernel
theorem dX9_has_9 : decode cX9_has 9 = .ok (.iconst 1, 1) := by decide +kernel
theorem dX9_has_10 : decode cX9_has 10 = .ok (.goto 4, 3) := by decide +kernel
theorem dX9_has_13 : decode cX9_has 13 = .ok (.iconst 0, 1) := by decide +kernel
theorem dX9_has_14 : decode cX9_has 14 = .ok (.ireturn, 1) := by decide +kernel
theorem dX9_size_0 : decode cX9_size 0 = .ok (.iconst 0, 1) := by decide +kernel
theorem dX9_size_1 : decode cX9_size 1 = .ok (.istore_n 1, 1) := by decide +kernel
theorem dX9_size_2 : decode cX9_size 2 = .ok (.iload_n 0, 1) := by decide +kernel
theorem dX9_size_3 : decode cX9_size 3 = .ok (.istore_n 2, 1) := by decide +kernel
theorem dX9_size_4 : decode cX9_size 4 = .ok (.iload_n 2, 1) := by decide +kernel
theorem dX9_size_5 : decode cX9_size 5 = .ok (.ifCond .eq 15, 3) := by decide +kernel
theorem dX9_size_8 : decode cX9_size 8 = .ok (.iinc 1 1, 3) := by decide +kernel
theorem dX9_size_11 : decode cX9_size 11 = .ok (.iload_n 2, 1) := by decide +kernel
theorem dX9_size_12 : decode cX9_size 12 = .ok (.iload_n 2, 1) := by decide +kernel
theorem dX9_size_13 : decode cX9_size 13 = .ok (.iconst 1, 1) := by decide +kernel
theorem dX9_size_14 : decode cX9_size 14 = .ok (.isub, 1) := by decide +kernel
theorem dX9_size_15 : decode cX9_size 15 = .ok (.iand, 1) := by decide +kernel
theorem dX9_size_16 : decode cX9_size 16 = .ok (.istore_n 2, 1) := by decide +kernel
theorem dX9_size_17 : decode cX9_size 17 = .ok (.goto (-13), 3) := by decide +kernel
theorem dX9_size_20 : decode cX9_size 20 = .ok (.iload_n 1, 1) := by decide +kernel
theorem dX9_size_21 : decode cX9_size 21 = .ok (.ireturn, 1) := by decide +kernel
theorem dX9_question_0 : decode cX9_question 0 = .ok (.aload_n 0, 1) := by decide +kernel
theorem dX9_question_1 : decode cX9_question 1 = .ok (.getfield 83, 3) := by decide +kernel
theorem dX9_question_4 : decode cX9_question 4 = .ok (.bipush 24, 2) := by decide +kernel
theorem dX9_question_6 : decode cX9_question 6 = .ok (.if_icmp .eq 53, 3) := by decide +kernel
theorem dX9_question_9 : decode cX9_question 9 = .ok (.iload_n 1, 1) := by decide +kernel
theorem dX9_question_10 : decode cX9_question 10 = .ok (.iconst 0, 1) := by decide +kernel
theorem dX9_question_11 : decode cX9_question 11 = .ok (.iconst 3, 1) := by decide +kernel
theorem dX9_question_12 : decode cX9_question 12 = .ok (.invokestatic 86, 3) := by decide +kernel
theorem dX9_question_15 : decode cX9_question 15 = .ok (.ifCond .eq 44, 3) := by decide +kernel
theorem dX9_question_18 : decode cX9_question 18 = .ok (.iload_n 2, 1) := by decide +kernel
theorem dX9_question_19 : decode cX9_question 19 = .ok (.iconst 0, 1) := by decide +kernel
theorem dX9_question_20 : decode cX9_question 20 = .ok (.iconst 2, 1) := by decide +kernel
theorem dX9_question_21 : decode cX9_question 21 = .ok (.invokestatic 86, 3) := by decide +kernel
theorem dX9_question_24 : decode cX9_question 24 = .ok (.ifCond .eq 35, 3) := by decide +kernel
theorem dX9_question_27 : decode cX9_question 27 = .ok (.iload_n 3, 1) := by decide +kernel
theorem dX9_question_28 : decode cX9_question 28 = .ok (.iconst 1, 1) := by decide +kernel
theorem dX9_question_29 : decode cX9_question 29 = .ok (.bipush 60, 2) := by decide +kernel
theorem dX9_question_31 : decode cX9_question 31 = .ok (.invokestatic 86, 3) := by decide +kernel
theorem dX9_question_34 : decode cX9_question 34 = .ok (.ifCond .eq 25, 3) := by decide +kernel
theorem dX9_question_37 : decode cX9_question 37 = .ok (.iload 4, 2) := by decide +kernel
theorem dX9_question_39 : decode cX9_question 39 = .ok (.iconst 1, 1) := by decide +kernel
theorem dX9_question_40 : decode cX9_question 40 = .ok (.bipush 40, 2) := by decide +kernel
theorem dX9_question_42 : decode cX9_question 42 = .ok (.invokestatic 86, 3) := by decide +kernel
theorem dX9_question_45 : decode cX9_question 45 = .ok (.ifCond .eq 14, 3) := by decide +kernel
theorem dX9_question_48 : decode cX9_question 48 = .ok (.iload 5, 2) := by decide +kernel
theorem dX9_question_50 : decode cX9_question 50 = .ok (.iconst 1, 1) := by decide +kernel
theorem dX9_question_51 : decode cX9_question 51 = .ok (.bipush 9, 2) := by decide +kernel
theorem dX9_question_53 : decode cX9_question 53 = .ok (.invokestatic 86, 3) := by decide +kernel
theorem dX9_question_56 : decode cX9_question 56 = .ok (.ifCond .ne 5, 3) := by decide +kernel
theorem dX9_question_59 : decode cX9_question 59 = .ok (.iconst (-1), 1) := by decide +kernel
theorem dX9_question_60 : decode cX9_question 60 = .ok (.ireturn, 1) := by decide +kernel
theorem dX9_question_61 : decode cX9_question 61 = .ok (.aload_n 0, 1) := by decide +kernel
theorem dX9_question_62 : decode cX9_question 62 = .ok (.getfield 13, 3) := by decide +kernel
theorem dX9_question_65 : decode cX9_question 65 = .ok (.aload_n 0, 1) := by decide +kernel
theorem dX9_question_66 : decode cX9_question 66 = .ok (.getfield 83, 3) := by decide +kernel
theorem dX9_question_69 : decode cX9_question 69 = .ok (.iload_n 1, 1) := by decide +kernel
theorem dX9_question_70 : decode cX9_question 70 = .ok (.iastore, 1) := by decide +kernel
theorem dX9_question_71 : decode cX9_question 71 = .ok (.aload_n 0, 1) := by decide +kernel
theorem dX9_question_72 : decode cX9_question 72 = .ok (.getfield 17, 3) := by decide +kernel
theorem dX9_question_75 : decode cX9_question 75 = .ok (.aload_n 0, 1) := by decide +kernel
theorem dX9_question_76 : decode cX9_question 76 = .ok (.getfield 83, 3) := by decide +kernel
theorem dX9_question_79 : decode cX9_question 79 = .ok (.iload_n 2, 1) := by decide +kernel
theorem dX9_question_80 : decode cX9_question 80 = .ok (.iastore, 1) := by decide +kernel
theorem dX9_question_81 : decode cX9_question 81 = .ok (.aload_n 0, 1) := by decide +kernel
theorem dX9_question_82 : decode cX9_question 82 = .ok (.getfield 20, 3) := by decide +kernel
theorem dX9_question_85 : decode cX9_question 85 = .ok (.aload_n 0, 1) := by decide +kernel
theorem dX9_question_86 : decode cX9_question 86 = .ok (.getfield 83, 3) := by decide +kernel
theorem dX9_question_89 : decode cX9_question 89 = .ok (.iload_n 3, 1) := by decide +kernel
theorem dX9_question_90 : decode cX9_question 90 = .ok (.iastore, 1) := by decide +kernel
theorem dX9_question_91 : decode cX9_question 91 = .ok (.aload_n 0, 1) := by decide +kernel
theorem dX9_question_92 : decode cX9_question 92 = .ok (.getfield 23, 3) := by decide +kernel
theorem dX9_question_95 : decode cX9_question 95 = .ok (.aload_n 0, 1) := by decide +kernel
theorem dX9_question_96 : decode cX9_question 96 = .ok (.getfield 83, 3) := by decide +kernel
theorem dX9_question_99 : decode cX9_question 99 = .ok (.iload 4, 2) := by decide +kernel
theorem dX9_question_101 : decode cX9_question 101 = .ok (.iastore, 1) := by decide +kernel
theorem dX9_question_102 : decode cX9_question 102 = .ok (.aload_n 0, 1) := by decide +kernel
theorem dX9_question_103 : decode cX9_question 103 = .ok (.getfield 26, 3) := by decide +kernel
theorem dX9_question_106 : decode cX9_question 106 = .ok (.aload_n 0, 1) := by decide +kernel
theorem dX9_question_107 : decode cX9_question 107 = .ok (.getfield 83, 3) := by decide +kernel
theorem dX9_question_110 : decode cX9_question 110 = .ok (.iload 5, 2) := by decide +kernel
theorem dX9_question_112 : decode cX9_question 112 = .ok (.iastore, 1) := by decide +kernel
theorem dX9_question_113 : decode cX9_question 113 = .ok (.aload_n 0, 1) := by decide +kernel
theorem dX9_question_114 : decode cX9_question 114 = .ok (.getfield 29, 3) := by decide +kernel
theorem dX9_question_117 : decode cX9_question 117 = .ok (.aload_n 0, 1) := by decide +kernel
theorem dX9_question_118 : decode cX9_question 118 = .ok (.getfield 83, 3) := by decide +kernel
theorem dX9_question_121 : decode cX9_question 121 = .ok (.iconst (-1), 1) := by decide +kernel
theorem dX9_question_122 : decode cX9_question 122 = .ok (.iastore, 1) := by decide +kernel
theorem dX9_question_123 : decode cX9_question 123 = .ok (.aload_n 0, 1) := by decide +kernel
theorem dX9_question_124 : decode cX9_question 124 = .ok (.getfield 32, 3) := by decide +kernel
theorem dX9_question_127 : decode cX9_question 127 = .ok (.aload_n 0, 1) := by decide +kernel
theorem dX9_question_128 : decode cX9_question 128 = .ok (.getfield 83, 3) := by decide +kernel
theorem dX9_question_131 : decode cX9_question 131 = .ok (.iconst (-1), 1) := by decide +kernel
theorem dX9_question_132 : decode cX9_question 132 = .ok (.iastore, 1) := by decide +kernel
theorem dX9_question_133 : decode cX9_question 133 = .ok (.aload_n 0, 1) := by decide +kernel
theorem dX9_question_134 : decode cX9_question 134 = .ok (.dup, 1) := by decide +kernel
theorem dX9_question_135 : decode cX9_question 135 = .ok (.getfield 83, 3) := by decide +kernel
theorem dX9_question_138 : decode cX9_question 138 = .ok (.iconst 1, 1) := by decide +kernel
theorem dX9_question_139 : decode cX9_question 139 = .ok (.iadd, 1) := by decide +kernel
theorem dX9_question_140 : decode cX9_question 140 = .ok (.putfield 83, 3) := by decide +kernel
theorem dX9_question_143 : decode cX9_question 143 = .ok (.aload_n 0, 1) := by decide +kernel
theorem dX9_question_144 : decode cX9_question 144 = .ok (.getfield 83, 3) := by decide +kernel
theorem dX9_question_147 : decode cX9_question 147 = .ok (.iconst 1, 1) := by decide +kernel
theorem dX9_question_148 : decode cX9_question 148 = .ok (.isub, 1) := by decide +kernel
theorem dX9_question_149 : decode cX9_question 149 = .ok (.ireturn, 1) := by decide +kernel
theorem dX9_passage_0 : decode cX9_passage 0 = .ok (.aload_n 0, 1) := by decide +kernel
theorem dX9_passage_1 : decode cX9_passage 1 = .ok (.iload_n 1, 1) := by decide +kernel
theorem dX9_passage_2 : decode cX9_passage 2 = .ok (.invokevirtual 90, 3) := by decide +kernel
theorem dX9_passage_5 : decode cX9_passage 5 = .ok (.ifCond .eq 12, 3) := by decide +kernel
theorem dX9_passage_8 : decode cX9_passage 8 = .ok (.iload_n 2, 1) := by decide +kernel
theorem dX9_passage_9 : decode cX9_passage 9 = .ok (.iconst (-1), 1) := by decide +kernel
theorem dX9_passage_10 : decode cX9_passage 10 = .ok (.iconst 5, 1) := by decide +kernel
theorem dX9_passage_11 : decode cX9_passage 11 = .ok (.invokestatic 86, 3) := by decide +kernel
theorem dX9_passage_14 : decode cX9_passage 14 = .ok (.ifCond .ne 5, 3) := by decide +kernel
theorem dX9_passage_17 : decode cX9_passage 17 = .ok (.iconst 0, 1) := by decide +kernel
theorem dX9_passage_18 : decode cX9_passage 18 = .ok (.ireturn, 1) := by decide +kernel
theorem dX9_passage_19 : decode cX9_passage 19 = .ok (.aload_n 0, 1) := by decide +kernel
theorem dX9_passage_20 : decode cX9_passage 20 = .ok (.getfield 29, 3) := by decide +kernel
theorem dX9_passage_23 : decode cX9_passage 23 = .ok (.iload_n 1, 1) := by decide +kernel
theorem dX9_passage_24 : decode cX9_passage 24 = .ok (.iload_n 2, 1) := by decide +kernel
theorem dX9_passage_25 : decode cX9_passage 25 = .ok (.iastore, 1) := by decide +kernel
theorem dX9_passage_26 : decode cX9_passage 26 = .ok (.iconst 1, 1) := by decide +kernel
theorem dX9_passage_27 : decode cX9_passage 27 = .ok (.ireturn, 1) := by decide +kernel
theorem dX9_gives_0 : decode cX9_gives 0 = .ok (.aload_n 0, 1) := by decide +kernel
theorem dX9_gives_1 : decode cX9_gives 1 = .ok (.iload_n 1, 1) := by decide +kernel
theorem dX9_gives_2 : decode cX9_gives 2 = .ok (.invokevirtual 90, 3) := by decide +kernel
theorem dX9_gives_5 : decode cX9_gives 5 = .ok (.ifCond .eq 30, 3) := by decide +kernel
theorem dX9_gives_8 : decode cX9_gives 8 = .ok (.aload_n 0, 1) := by decide +kernel
theorem dX9_gives_9 : decode cX9_gives 9 = .ok (.iload_n 2, 1) := by decide +kernel
theorem dX9_gives_10 : decode cX9_gives 10 = .ok (.invokevirtual 90, 3) := by decide +kernel
theorem dX9_gives_13 : decode cX9_gives 13 = .ok (.ifCond .eq 22, 3) := by decide +kernel
theorem dX9_gives_16 : decode cX9_gives 16 = .ok (.iload_n 1, 1) := by decide +kernel
theorem dX9_gives_17 : decode cX9_gives 17 = .ok (.iload_n 2, 1) := by decide +kernel
theorem dX9_gives_18 : decode cX9_gives 18 = .ok (.if_icmp .eq 17, 3) := by decide +kernel
theorem dX9_gives_21 : decode cX9_gives 21 = .ok (.aload_n 0, 1) := by decide +kernel
theorem dX9_gives_22 : decode cX9_gives 22 = .ok (.getfield 35, 3) := by decide +kernel
theorem dX9_gives_25 : decode cX9_gives 25 = .ok (.iload_n 1, 1) := by decide +kernel
theorem dX9_gives_26 : decode cX9_gives 26 = .ok (.iaload, 1) := by decide +kernel
theorem dX9_gives_27 : decode cX9_gives 27 = .ok (.iload_n 2, 1) := by decide +kernel
theorem dX9_gives_28 : decode cX9_gives 28 = .ok (.invokestatic 94, 3) := by decide +kernel
theorem dX9_gives_31 : decode cX9_gives 31 = .ok (.iload_n 3, 1) := by decide +kernel
theorem dX9_gives_32 : decode cX9_gives 32 = .ok (.if_icmp .ne 5, 3) := by decide +kernel
theorem dX9_gives_35 : decode cX9_gives 35 = .ok (.iconst 0, 1) := by decide +kernel
theorem dX9_gives_36 : decode cX9_gives 36 = .ok (.ireturn, 1) := by decide +kernel
theorem dX9_gives_37 : decode cX9_gives 37 = .ok (.aload_n 0, 1) := by decide +kernel
theorem dX9_gives_38 : decode cX9_gives 38 = .ok (.getfield 35, 3) := by decide +kernel
theorem dX9_gives_41 : decode cX9_gives 41 = .ok (.iload_n 1, 1) := by decide +kernel
theorem dX9_gives_42 : decode cX9_gives 42 = .ok (.dup2, 1) := by decide +kernel
theorem dX9_gives_43 : decode cX9_gives 43 = .ok (.iaload, 1) := by decide +kernel
theorem dX9_gives_44 : decode cX9_gives 44 = .ok (.iconst 1, 1) := by decide +kernel
theorem dX9_gives_45 : decode cX9_gives 45 = .ok (.iload_n 2, 1) := by decide +kernel
theorem dX9_gives_46 : decode cX9_gives 46 = .ok (.ishl, 1) := by decide +kernel
theorem dX9_gives_47 : decode cX9_gives 47 = .ok (.ixor, 1) := by decide +kernel
theorem dX9_gives_48 : decode cX9_gives 48 = .ok (.iastore, 1) := by decide +kernel
theorem dX9_gives_49 : decode cX9_gives 49 = .ok (.iconst 1, 1) := by decide +kernel
theorem dX9_gives_50 : decode cX9_gives 50 = .ok (.ireturn, 1) := by decide +kernel
theorem dX9_bound_0 : decode cX9_bound 0 = .ok (.iload_n 1, 1) := by decide +kernel
theorem dX9_bound_1 : decode cX9_bound 1 = .ok (.iconst 0, 1) := by decide +kernel
theorem dX9_bound_2 : decode cX9_bound 2 = .ok (.bipush 9, 2) := by decide +kernel
theorem dX9_bound_4 : decode cX9_bound 4 = .ok (.invokestatic 86, 3) := by decide +kernel
theorem dX9_bound_7 : decode cX9_bound 7 = .ok (.ifCond .eq 25, 3) := by decide +kernel
theorem dX9_bound_10 : decode cX9_bound 10 = .ok (.iload_n 2, 1) := by decide +kernel
theorem dX9_bound_11 : decode cX9_bound 11 = .ok (.iconst 0, 1) := by decide +kernel
theorem dX9_bound_12 : decode cX9_bound 12 = .ok (.sipush 1000, 3) := by decide +kernel
theorem dX9_bound_15 : decode cX9_bound 15 = .ok (.invokestatic 86, 3) := by decide +kernel
theorem dX9_bound_18 : decode cX9_bound 18 = .ok (.ifCond .eq 14, 3) := by decide +kernel
theorem dX9_bound_21 : decode cX9_bound 21 = .ok (.iload_n 3, 1) := by decide +kernel
theorem dX9_bound_22 : decode cX9_bound 22 = .ok (.iload_n 2, 1) := by decide +kernel
theorem dX9_bound_23 : decode cX9_bound 23 = .ok (.sipush 1000, 3) := by decide +kernel
theorem dX9_bound_26 : decode cX9_bound 26 = .ok (.invokestatic 86, 3) := by decide +kernel
theorem dX9_bound_29 : decode cX9_bound 29 = .ok (.ifCond .ne 5, 3) := by decide +kernel
theorem dX9_bound_32 : decode cX9_bound 32 = .ok (.iconst 0, 1) := by decide +kernel
theorem dX9_bound_33 : decode cX9_bound 33 = .ok (.ireturn, 1) := by decide +kernel
theorem dX9_bound_34 : decode cX9_bound 34 = .ok (.aload_n 0, 1) := by decide +kernel
theorem dX9_bound_35 : decode cX9_bound 35 = .ok (.getfield 38, 3) := by decide +kernel
theorem dX9_bound_38 : decode cX9_bound 38 = .ok (.iload_n 1, 1) := by decide +kernel
theorem dX9_bound_39 : decode cX9_bound 39 = .ok (.iload_n 2, 1) := by decide +kernel
theorem dX9_bound_40 : decode cX9_bound 40 = .ok (.iastore, 1) := by decide +kernel
theorem dX9_bound_41 : decode cX9_bound 41 = .ok (.aload_n 0, 1) := by decide +kernel
theorem dX9_bound_42 : decode cX9_bound 42 = .ok (.getfield 41, 3) := by decide +kernel
theorem dX9_bound_45 : decode cX9_bound 45 = .ok (.iload_n 1, 1) := by decide +kernel
theorem dX9_bound_46 : decode cX9_bound 46 = .ok (.iload_n 3, 1) := by decide +kernel
theorem dX9_bound_47 : decode cX9_bound 47 = .ok (.iastore, 1) := by decide +kernel
theorem dX9_bound_48 : decode cX9_bound 48 = .ok (.iconst 1, 1) := by decide +kernel
theorem dX9_bound_49 : decode cX9_bound 49 = .ok (.ireturn, 1) := by decide +kernel
theorem dX9_profile_0 : decode cX9_profile 0 = .ok (.iload_n 1, 1) := by decide +kernel
theorem dX9_profile_1 : decode cX9_profile 1 = .ok (.iconst 0, 1) := by decide +kernel
theorem dX9_profile_2 : decode cX9_profile 2 = .ok (.iconst 3, 1) := by decide +kernel
theorem dX9_profile_3 : decode cX9_profile 3 = .ok (.invokestatic 86, 3) := by decide +kernel
theorem dX9_profile_6 : decode cX9_profile 6 = .ok (.ifCond .eq 14, 3) := by decide +kernel
theorem dX9_profile_9 : decode cX9_profile 9 = .ok (.iload_n 2, 1) := by decide +kernel
theorem dX9_profile_10 : decode cX9_profile 10 = .ok (.iconst 0, 1) := by decide +kernel
theorem dX9_profile_11 : decode cX9_profile 11 = .ok (.sipush 1000, 3) := by decide +kernel
theorem dX9_profile_14 : decode cX9_profile 14 = .ok (.invokestatic 86, 3) := by decide +kernel
theorem dX9_profile_17 : decode cX9_profile 17 = .ok (.ifCond .ne 5, 3) := by decide +kernel
theorem dX9_profile_20 : decode cX9_profile 20 = .ok (.iconst 0, 1) := by decide +kernel
theorem dX9_profile_21 : decode cX9_profile 21 = .ok (.ireturn, 1) := by decide +kernel
theorem dX9_profile_22 : decode cX9_profile 22 = .ok (.aload_n 0, 1) := by decide +kernel
theorem dX9_profile_23 : decode cX9_profile 23 = .ok (.getfield 44, 3) := by decide +kernel
theorem dX9_profile_26 : decode cX9_profile 26 = .ok (.iload_n 1, 1) := by decide +kernel
theorem dX9_profile_27 : decode cX9_profile 27 = .ok (.iload_n 2, 1) := by decide +kernel
theorem dX9_profile_28 : decode cX9_profile 28 = .ok (.iastore, 1) := by decide +kernel
theorem dX9_profile_29 : decode cX9_profile 29 = .ok (.iconst 1, 1) := by decide +kernel
theorem dX9_profile_30 : decode cX9_profile 30 = .ok (.ireturn, 1) := by decide +kernel
theorem dX9_rest_0 : decode cX9_rest 0 = .ok (.iload_n 1, 1) := by decide +kernel
theorem dX9_rest_1 : decode cX9_rest 1 = .ok (.iconst 0, 1) := by decide +kernel
theorem dX9_rest_2 : decode cX9_rest 2 = .ok (.bipush 9, 2) := by decide +kernel
theorem dX9_rest_4 : decode cX9_rest 4 = .ok (.invokestatic 86, 3) := by decide +kernel
theorem dX9_rest_7 : decode cX9_rest 7 = .ok (.ifCond .ne 5, 3) := by decide +kernel
theorem dX9_rest_10 : decode cX9_rest 10 = .ok (.iconst 0, 1) := by decide +kernel
theorem dX9_rest_11 : decode cX9_rest 11 = .ok (.ireturn, 1) := by decide +kernel
theorem dX9_rest_12 : decode cX9_rest 12 = .ok (.aload_n 0, 1) := by decide +kernel
theorem dX9_rest_13 : decode cX9_rest 13 = .ok (.iload_n 1, 1) := by decide +kernel
theorem dX9_rest_14 : decode cX9_rest 14 = .ok (.putfield 98, 3) := by decide +kernel
theorem dX9_rest_17 : decode cX9_rest 17 = .ok (.iconst 1, 1) := by decide +kernel
theorem dX9_rest_18 : decode cX9_rest 18 = .ok (.ireturn, 1) := by decide +kernel
theorem dX9_term_0 : decode cX9_term 0 = .ok (.aload_n 0, 1) := by decide +kernel
theorem dX9_term_1 : decode cX9_term 1 = .ok (.getfield 7, 3) := by decide +kernel
theorem dX9_term_4 : decode cX9_term 4 = .ok (.sipush 1000, 3) := by decide +kernel
theorem dX9_term_7 : decode cX9_term 7 = .ok (.if_icmp .ne 5, 3) := by decide +kernel
theorem dX9_term_10 : decode cX9_term 10 = .ok (.iconst (-1), 1) := by decide +kernel
theorem dX9_term_11 : decode cX9_term 11 = .ok (.ireturn, 1) := by decide +kernel
theorem dX9_term_12 : decode cX9_term 12 = .ok (.aload_n 0, 1) := by decide +kernel
theorem dX9_term_13 : decode cX9_term 13 = .ok (.dup, 1) := by decide +kernel
theorem dX9_term_14 : decode cX9_term 14 = .ok (.getfield 7, 3) := by decide +kernel
theorem dX9_term_17 : decode cX9_term 17 = .ok (.iconst 1, 1) := by decide +kernel
theorem dX9_term_18 : decode cX9_term 18 = .ok (.iadd, 1) := by decide +kernel
theorem dX9_term_19 : decode cX9_term 19 = .ok (.putfield 7, 3) := by decide +kernel
theorem dX9_term_22 : decode cX9_term 22 = .ok (.aload_n 0, 1) := by decide +kernel
theorem dX9_term_23 : decode cX9_term 23 = .ok (.getfield 7, 3) := by decide +kernel
theorem dX9_term_26 : decode cX9_term 26 = .ok (.ireturn, 1) := by decide +kernel
theorem dX9_use_0 : decode cX9_use 0 = .ok (.aload_n 0, 1) := by decide +kernel
theorem dX9_use_1 : decode cX9_use 1 = .ok (.iload_n 1, 1) := by decide +kernel
theorem dX9_use_2 : decode cX9_use 2 = .ok (.invokevirtual 101, 3) := by decide +kernel
theorem dX9_use_5 : decode cX9_use 5 = .ok (.ifCond .ne 5, 3) := by decide +kernel
theorem dX9_use_8 : decode cX9_use 8 = .ok (.iconst 0, 1) := by decide +kernel
theorem dX9_use_9 : decode cX9_use 9 = .ok (.ireturn, 1) := by decide +kernel
theorem dX9_use_10 : decode cX9_use 10 = .ok (.iconst 0, 1) := by decide +kernel
theorem dX9_use_11 : decode cX9_use 11 = .ok (.istore_n 2, 1) := by decide +kernel
theorem dX9_use_12 : decode cX9_use 12 = .ok (.iload_n 2, 1) := by decide +kernel
theorem dX9_use_13 : decode cX9_use 13 = .ok (.aload_n 0, 1) := by decide +kernel
theorem dX9_use_14 : decode cX9_use 14 = .ok (.getfield 83, 3) := by decide +kernel
theorem dX9_use_17 : decode cX9_use 17 = .ok (.if_icmp .ge 27, 3) := by decide +kernel
theorem dX9_use_20 : decode cX9_use 20 = .ok (.iload_n 1, 1) := by decide +kernel
theorem dX9_use_21 : decode cX9_use 21 = .ok (.iload_n 2, 1) := by decide +kernel
theorem dX9_use_22 : decode cX9_use 22 = .ok (.invokestatic 94, 3) := by decide +kernel
theorem dX9_use_25 : decode cX9_use 25 = .ok (.ifCond .eq 13, 3) := by decide +kernel
theorem dX9_use_28 : decode cX9_use 28 = .ok (.aload_n 0, 1) := by decide +kernel
theorem dX9_use_29 : decode cX9_use 29 = .ok (.getfield 32, 3) := by decide +kernel
theorem dX9_use_32 : decode cX9_use 32 = .ok (.iload_n 2, 1) := by decide +kernel
theorem dX9_use_33 : decode cX9_use 33 = .ok (.aload_n 0, 1) := by decide +kernel
theorem dX9_use_34 : decode cX9_use 34 = .ok (.getfield 7, 3) := by decide +kernel
theorem dX9_use_37 : decode cX9_use 37 = .ok (.iastore, 1) := by decide +kernel
theorem dX9_use_38 : decode cX9_use 38 = .ok (.iinc 2 1, 3) := by decide +kernel
theorem dX9_use_41 : decode cX9_use 41 = .ok (.goto (-29), 3) := by decide +kernel
theorem dX9_use_44 : decode cX9_use 44 = .ok (.iconst 1, 1) := by decide +kernel
theorem dX9_use_45 : decode cX9_use 45 = .ok (.ireturn, 1) := by decide +kernel
theorem dX9_isResting_0 : decode cX9_isResting 0 = .ok (.aload_n 0, 1) := by decide +kernel
theorem dX9_isResting_1 : decode cX9_isResting 1 = .ok (.getfield 32, 3) := by decide +kernel
theorem dX9_isResting_4 : decode cX9_isResting 4 = .ok (.iload_n 1, 1) := by decide +kernel
theorem dX9_isResting_5 : decode cX9_isResting 5 = .ok (.iaload, 1) := by decide +kernel
theorem dX9_isResting_6 : decode cX9_isResting 6 = .ok (.iconst (-1), 1) := by decide +kernel
theorem dX9_isResting_7 : decode cX9_isResting 7 = .ok (.if_icmp .eq 38, 3) := by decide +kernel
theorem dX9_isResting_10 : decode cX9_isResting 10 = .ok (.aload_n 0, 1) := by decide +kernel
theorem dX9_isResting_11 : decode cX9_isResting 11 = .ok (.getfield 7, 3) := by decide +kernel
theorem dX9_isResting_14 : decode cX9_isResting 14 = .ok (.aload_n 0, 1) := by decide +kernel
theorem dX9_isResting_15 : decode cX9_isResting 15 = .ok (.getfield 32, 3) := by decide +kernel
theorem dX9_isResting_18 : decode cX9_isResting 18 = .ok (.iload_n 1, 1) := by decide +kernel
theorem dX9_isResting_19 : decode cX9_isResting 19 = .ok (.iaload, 1) := by decide +kernel
theorem dX9_isResting_20 : decode cX9_isResting 20 = .ok (.if_icmp .le 25, 3) := by decide +kernel
theorem dX9_isResting_23 : decode cX9_isResting 23 = .ok (.aload_n 0, 1) := by decide +kernel
theorem dX9_isResting_24 : decode cX9_isResting 24 = .ok (.getfield 7, 3) := by decide +kernel
theorem dX9_isResting_27 : decode cX9_isResting 27 = .ok (.aload_n 0, 1) := by decide +kernel
theorem dX9_isResting_28 : decode cX9_isResting 28 = .ok (.getfield 32, 3) := by decide +kernel
theorem dX9_isResting_31 : decode cX9_isResting 31 = .ok (.iload_n 1, 1) := by decide +kernel
theorem dX9_isResting_32 : decode cX9_isResting 32 = .ok (.iaload, 1) := by decide +kernel
theorem dX9_isResting_33 : decode cX9_isResting 33 = .ok (.isub, 1) := by decide +kernel
theorem dX9_isResting_34 : decode cX9_isResting 34 = .ok (.aload_n 0, 1) := by decide +kernel
theorem dX9_isResting_35 : decode cX9_isResting 35 = .ok (.getfield 98, 3) := by decide +kernel
theorem dX9_isResting_38 : decode cX9_isResting 38 = .ok (.if_icmp .gt 7, 3) := by decide +kernel
theorem dX9_isResting_41 : decode cX9_isResting 41 = .ok (.iconst 1, 1) := by decide +kernel
theorem dX9_isResting_42 : decode cX9_isResting 42 = .ok (.goto 4, 3) := by decide +kernel
theorem dX9_isResting_45 : decode cX9_isResting 45 = .ok (.iconst 0, 1) := by decide +kernel
theorem dX9_isResting_46 : decode cX9_isResting 46 = .ok (.ireturn, 1) := by decide +kernel
theorem dX9_rests_0 : decode cX9_rests 0 = .ok (.aload_n 0, 1) := by decide +kernel
theorem dX9_rests_1 : decode cX9_rests 1 = .ok (.iload_n 1, 1) := by decide +kernel
theorem dX9_rests_2 : decode cX9_rests 2 = .ok (.invokevirtual 90, 3) := by decide +kernel
theorem dX9_rests_5 : decode cX9_rests 5 = .ok (.ifCond .ne 7, 3) := by decide +kernel
theorem dX9_rests_8 : decode cX9_rests 8 = .ok (.iconst (-1), 1) := by decide +kernel
theorem dX9_rests_9 : decode cX9_rests 9 = .ok (.goto 16, 3) := by decide +kernel
theorem dX9_rests_12 : decode cX9_rests 12 = .ok (.aload_n 0, 1) := by decide +kernel
theorem dX9_rests_13 : decode cX9_rests 13 = .ok (.iload_n 1, 1) := by decide +kernel
theorem dX9_rests_14 : decode cX9_rests 14 = .ok (.invokevirtual 104, 3) := by decide +kernel
theorem dX9_rests_17 : decode cX9_rests 17 = .ok (.ifCond .eq 7, 3) := by decide +kernel
theorem dX9_rests_20 : decode cX9_rests 20 = .ok (.iconst 1, 1) := by decide +kernel
theorem dX9_rests_21 : decode cX9_rests 21 = .ok (.goto 4, 3) := by decide +kernel
theorem dX9_rests_24 : decode cX9_rests 24 = .ok (.iconst 0, 1) := by decide +kernel
theorem dX9_rests_25 : decode cX9_rests 25 = .ok (.ireturn, 1) := by decide +kernel
theorem dX9_adds_0 : decode cX9_adds 0 = .ok (.iload_n 2, 1) := by decide +kernel
theorem dX9_adds_1 : decode cX9_adds 1 = .ok (.ifCond .ne 5, 3) := by decide +kernel
theorem dX9_adds_4 : decode cX9_adds 4 = .ok (.iconst 1, 1) := by decide +kernel
theorem dX9_adds_5 : decode cX9_adds 5 = .ok (.ireturn, 1) := by decide +kernel
theorem dX9_adds_6 : decode cX9_adds 6 = .ok (.iload_n 2, 1) := by decide +kernel
theorem dX9_adds_7 : decode cX9_adds 7 = .ok (.iconst 1, 1) := by decide +kernel
theorem dX9_adds_8 : decode cX9_adds 8 = .ok (.if_icmp .ne 10, 3) := by decide +kernel
theorem dX9_adds_11 : decode cX9_adds 11 = .ok (.aload_n 0, 1) := by decide +kernel
theorem dX9_adds_12 : decode cX9_adds 12 = .ok (.getfield 20, 3) := by decide +kernel
theorem dX9_adds_15 : decode cX9_adds 15 = .ok (.iload_n 1, 1) := by decide +kernel
theorem dX9_adds_16 : decode cX9_adds 16 = .ok (.iaload, 1) := by decide +kernel
theorem dX9_adds_17 : decode cX9_adds 17 = .ok (.ireturn, 1) := by decide +kernel
theorem dX9_adds_18 : decode cX9_adds 18 = .ok (.iload_n 2, 1) := by decide +kernel
theorem dX9_adds_19 : decode cX9_adds 19 = .ok (.iconst 2, 1) := by decide +kernel
theorem dX9_adds_20 : decode cX9_adds 20 = .ok (.if_icmp .eq 40, 3) := by decide +kernel
theorem dX9_adds_23 : decode cX9_adds 23 = .ok (.iload_n 2, 1) := by decide +kernel
theorem dX9_adds_24 : decode cX9_adds 24 = .ok (.bipush 7, 2) := by decide +kernel
theorem dX9_adds_26 : decode cX9_adds 26 = .ok (.if_icmp .ge 15, 3) := by decide +kernel
theorem dX9_adds_29 : decode cX9_adds 29 = .ok (.aload_n 0, 1) := by decide +kernel
theorem dX9_adds_30 : decode cX9_adds 30 = .ok (.getfield 13, 3) := by decide +kernel
theorem dX9_adds_33 : decode cX9_adds 33 = .ok (.iload_n 1, 1) := by decide +kernel
theorem dX9_adds_34 : decode cX9_adds 34 = .ok (.iaload, 1) := by decide +kernel
theorem dX9_adds_35 : decode cX9_adds 35 = .ok (.iload_n 2, 1) := by decide +kernel
theorem dX9_adds_36 : decode cX9_adds 36 = .ok (.iconst 3, 1) := by decide +kernel
theorem dX9_adds_37 : decode cX9_adds 37 = .ok (.isub, 1) := by decide +kernel
theorem dX9_adds_38 : decode cX9_adds 38 = .ok (.if_icmp .eq 22, 3) := by decide +kernel
theorem dX9_adds_41 : decode cX9_adds 41 = .ok (.iload_n 2, 1) := by decide +kernel
theorem dX9_adds_42 : decode cX9_adds 42 = .ok (.bipush 6, 2) := by decide +kernel
theorem dX9_adds_44 : decode cX9_adds 44 = .ok (.if_icmp .le 25, 3) := by decide +kernel
theorem dX9_adds_47 : decode cX9_adds 47 = .ok (.aload_n 0, 1) := by decide +kernel
theorem dX9_adds_48 : decode cX9_adds 48 = .ok (.getfield 17, 3) := by decide +kernel
theorem dX9_adds_51 : decode cX9_adds 51 = .ok (.iload_n 1, 1) := by decide +kernel
theorem dX9_adds_52 : decode cX9_adds 52 = .ok (.iaload, 1) := by decide +kernel
theorem dX9_adds_53 : decode cX9_adds 53 = .ok (.iload_n 2, 1) := by decide +kernel
theorem dX9_adds_54 : decode cX9_adds 54 = .ok (.bipush 7, 2) := by decide +kernel
theorem dX9_adds_56 : decode cX9_adds 56 = .ok (.isub, 1) := by decide +kernel
theorem dX9_adds_57 : decode cX9_adds 57 = .ok (.if_icmp .ne 12, 3) := by decide +kernel
theorem dX9_adds_60 : decode cX9_adds 60 = .ok (.aload_n 0, 1) := by decide +kernel
theorem dX9_adds_61 : decode cX9_adds 61 = .ok (.getfield 23, 3) := by decide +kernel
theorem dX9_adds_64 : decode cX9_adds 64 = .ok (.iload_n 1, 1) := by decide +kernel
theorem dX9_adds_65 : decode cX9_adds 65 = .ok (.iaload, 1) := by decide +kernel
theorem dX9_adds_66 : decode cX9_adds 66 = .ok (.goto 4, 3) := by decide +kernel
theorem dX9_adds_69 : decode cX9_adds 69 = .ok (.iconst 0, 1) := by decide +kernel
theorem dX9_adds_70 : decode cX9_adds 70 = .ok (.ireturn, 1) := by decide +kernel
theorem dX9_sumOf_0 : decode cX9_sumOf 0 = .ok (.iconst 0, 1) := by decide +kernel
theorem dX9_sumOf_1 : decode cX9_sumOf 1 = .ok (.istore_n 3, 1) := by decide +kernel
theorem dX9_sumOf_2 : decode cX9_sumOf 2 = .ok (.iconst 0, 1) := by decide +kernel
theorem dX9_sumOf_3 : decode cX9_sumOf 3 = .ok (.istore 4, 2) := by decide +kernel
theorem dX9_sumOf_5 : decode cX9_sumOf 5 = .ok (.iload 4, 2) := by decide +kernel
theorem dX9_sumOf_7 : decode cX9_sumOf 7 = .ok (.aload_n 0, 1) := by decide +kernel
theorem dX9_sumOf_8 : decode cX9_sumOf 8 = .ok (.getfield 83, 3) := by decide +kernel
theorem dX9_sumOf_11 : decode cX9_sumOf 11 = .ok (.if_icmp .ge 32, 3) := by decide +kernel
theorem dX9_sumOf_14 : decode cX9_sumOf 14 = .ok (.iload_n 3, 1) := by decide +kernel
theorem dX9_sumOf_15 : decode cX9_sumOf 15 = .ok (.iload_n 1, 1) := by decide +kernel
theorem dX9_sumOf_16 : decode cX9_sumOf 16 = .ok (.iload 4, 2) := by decide +kernel
theorem dX9_sumOf_18 : decode cX9_sumOf 18 = .ok (.invokestatic 94, 3) := by decide +kernel
theorem dX9_sumOf_21 : decode cX9_sumOf 21 = .ok (.ifCond .eq 13, 3) := by decide +kernel
theorem dX9_sumOf_24 : decode cX9_sumOf 24 = .ok (.aload_n 0, 1) := by decide +kernel
theorem dX9_sumOf_25 : decode cX9_sumOf 25 = .ok (.iload 4, 2) := by decide +kernel
theorem dX9_sumOf_27 : decode cX9_sumOf 27 = .ok (.iload_n 2, 1) := by decide +kernel
theorem dX9_sumOf_28 : decode cX9_sumOf 28 = .ok (.invokevirtual 107, 3) := by decide +kernel
theorem dX9_sumOf_31 : decode cX9_sumOf 31 = .ok (.goto 4, 3) := by decide +kernel
theorem dX9_sumOf_34 : decode cX9_sumOf 34 = .ok (.iconst 0, 1) := by decide +kernel
theorem dX9_sumOf_35 : decode cX9_sumOf 35 = .ok (.iadd, 1) := by decide +kernel
theorem dX9_sumOf_36 : decode cX9_sumOf 36 = .ok (.istore_n 3, 1) := by decide +kernel
theorem dX9_sumOf_37 : decode cX9_sumOf 37 = .ok (.iinc 4 1, 3) := by decide +kernel
theorem dX9_sumOf_40 : decode cX9_sumOf 40 = .ok (.goto (-35), 3) := by decide +kernel
theorem dX9_sumOf_43 : decode cX9_sumOf 43 = .ok (.iload_n 3, 1) := by decide +kernel
theorem dX9_sumOf_44 : decode cX9_sumOf 44 = .ok (.ireturn, 1) := by decide +kernel
theorem dX9_isFit_0 : decode cX9_isFit 0 = .ok (.iconst 0, 1) := by decide +kernel
theorem dX9_isFit_1 : decode cX9_isFit 1 = .ok (.istore_n 2, 1) := by decide +kernel
theorem dX9_isFit_2 : decode cX9_isFit 2 = .ok (.iload_n 2, 1) := by decide +kernel
theorem dX9_isFit_3 : decode cX9_isFit 3 = .ok (.aload_n 0, 1) := by decide +kernel
theorem dX9_isFit_4 : decode cX9_isFit 4 = .ok (.getfield 83, 3) := by decide +kernel
theorem dX9_isFit_7 : decode cX9_isFit 7 = .ok (.if_icmp .ge 92, 3) := by decide +kernel
theorem dX9_isFit_10 : decode cX9_isFit 10 = .ok (.iload_n 1, 1) := by decide +kernel
theorem dX9_isFit_11 : decode cX9_isFit 11 = .ok (.iload_n 2, 1) := by decide +kernel
theorem dX9_isFit_12 : decode cX9_isFit 12 = .ok (.invokestatic 94, 3) := by decide +kernel
theorem dX9_isFit_15 : decode cX9_isFit 15 = .ok (.ifCond .ne 6, 3) := by decide +kernel
theorem dX9_isFit_18 : decode cX9_isFit 18 = .ok (.goto 75, 3) := by decide +kernel
theorem dX9_isFit_21 : decode cX9_isFit 21 = .ok (.aload_n 0, 1) := by decide +kernel
theorem dX9_isFit_22 : decode cX9_isFit 22 = .ok (.iload_n 2, 1) := by decide +kernel
theorem dX9_isFit_23 : decode cX9_isFit 23 = .ok (.invokevirtual 104, 3) := by decide +kernel
theorem dX9_isFit_26 : decode cX9_isFit 26 = .ok (.ifCond .ne 14, 3) := by decide +kernel
theorem dX9_isFit_29 : decode cX9_isFit 29 = .ok (.aload_n 0, 1) := by decide +kernel
theorem dX9_isFit_30 : decode cX9_isFit 30 = .ok (.getfield 35, 3) := by decide +kernel
theorem dX9_isFit_33 : decode cX9_isFit 33 = .ok (.iload_n 2, 1) := by decide +kernel
theorem dX9_isFit_34 : decode cX9_isFit 34 = .ok (.iaload, 1) := by decide +kernel
theorem dX9_isFit_35 : decode cX9_isFit 35 = .ok (.iload_n 1, 1) := by decide +kernel
theorem dX9_isFit_36 : decode cX9_isFit 36 = .ok (.iand, 1) := by decide +kernel
theorem dX9_isFit_37 : decode cX9_isFit 37 = .ok (.ifCond .eq 5, 3) := by decide +kernel
theorem dX9_isFit_40 : decode cX9_isFit 40 = .ok (.iconst 0, 1) := by decide +kernel
theorem dX9_isFit_41 : decode cX9_isFit 41 = .ok (.ireturn, 1) := by decide +kernel
theorem dX9_isFit_42 : decode cX9_isFit 42 = .ok (.iconst 0, 1) := by decide +kernel
theorem dX9_isFit_43 : decode cX9_isFit 43 = .ok (.istore_n 3, 1) := by decide +kernel
theorem dX9_isFit_44 : decode cX9_isFit 44 = .ok (.iload_n 3, 1) := by decide +kernel
theorem dX9_isFit_45 : decode cX9_isFit 45 = .ok (.aload_n 0, 1) := by decide +kernel
theorem dX9_isFit_46 : decode cX9_isFit 46 = .ok (.getfield 83, 3) := by decide +kernel
theorem dX9_isFit_49 : decode cX9_isFit 49 = .ok (.if_icmp .ge 44, 3) := by decide +kernel
theorem dX9_isFit_52 : decode cX9_isFit 52 = .ok (.aload_n 0, 1) := by decide +kernel
theorem dX9_isFit_53 : decode cX9_isFit 53 = .ok (.getfield 29, 3) := by decide +kernel
theorem dX9_isFit_56 : decode cX9_isFit 56 = .ok (.iload_n 2, 1) := by decide +kernel
theorem dX9_isFit_57 : decode cX9_isFit 57 = .ok (.iaload, 1) := by decide +kernel
theorem dX9_isFit_58 : decode cX9_isFit 58 = .ok (.iconst (-1), 1) := by decide +kernel
theorem dX9_isFit_59 : decode cX9_isFit 59 = .ok (.if_icmp .eq 28, 3) := by decide +kernel
theorem dX9_isFit_62 : decode cX9_isFit 62 = .ok (.aload_n 0, 1) := by decide +kernel
theorem dX9_isFit_63 : decode cX9_isFit 63 = .ok (.getfield 29, 3) := by decide +kernel
theorem dX9_isFit_66 : decode cX9_isFit 66 = .ok (.iload_n 3, 1) := by decide +kernel
theorem dX9_isFit_67 : decode cX9_isFit 67 = .ok (.iaload, 1) := by decide +kernel
theorem dX9_isFit_68 : decode cX9_isFit 68 = .ok (.aload_n 0, 1) := by decide +kernel
theorem dX9_isFit_69 : decode cX9_isFit 69 = .ok (.getfield 29, 3) := by decide +kernel
theorem dX9_isFit_72 : decode cX9_isFit 72 = .ok (.iload_n 2, 1) := by decide +kernel
theorem dX9_isFit_73 : decode cX9_isFit 73 = .ok (.iaload, 1) := by decide +kernel
theorem dX9_isFit_74 : decode cX9_isFit 74 = .ok (.if_icmp .ne 13, 3) := by decide +kernel
theorem dX9_isFit_77 : decode cX9_isFit 77 = .ok (.iload_n 1, 1) := by decide +kernel
theorem dX9_isFit_78 : decode cX9_isFit 78 = .ok (.iload_n 3, 1) := by decide +kernel
theorem dX9_isFit_79 : decode cX9_isFit 79 = .ok (.invokestatic 94, 3) := by decide +kernel
theorem dX9_isFit_82 : decode cX9_isFit 82 = .ok (.ifCond .ne 5, 3) := by decide +kernel
theorem dX9_isFit_85 : decode cX9_isFit 85 = .ok (.iconst 0, 1) := by decide +kernel
theorem dX9_isFit_86 : decode cX9_isFit 86 = .ok (.ireturn, 1) := by decide +kernel
theorem dX9_isFit_87 : decode cX9_isFit 87 = .ok (.iinc 3 1, 3) := by decide +kernel
theorem dX9_isFit_90 : decode cX9_isFit 90 = .ok (.goto (-46), 3) := by decide +kernel
theorem dX9_isFit_93 : decode cX9_isFit 93 = .ok (.iinc 2 1, 3) := by decide +kernel
theorem dX9_isFit_96 : decode cX9_isFit 96 = .ok (.goto (-94), 3) := by decide +kernel
theorem dX9_isFit_99 : decode cX9_isFit 99 = .ok (.iconst 1, 1) := by decide +kernel
theorem dX9_isFit_100 : decode cX9_isFit 100 = .ok (.ireturn, 1) := by decide +kernel
theorem dX9_brokenBy_0 : decode cX9_brokenBy 0 = .ok (.iconst 0, 1) := by decide +kernel
theorem dX9_brokenBy_1 : decode cX9_brokenBy 1 = .ok (.istore_n 2, 1) := by decide +kernel
theorem dX9_brokenBy_2 : decode cX9_brokenBy 2 = .ok (.iconst 0, 1) := by decide +kernel
theorem dX9_brokenBy_3 : decode cX9_brokenBy 3 = .ok (.istore_n 3, 1) := by decide +kernel
theorem dX9_brokenBy_4 : decode cX9_brokenBy 4 = .ok (.iload_n 3, 1) := by decide +kernel
theorem dX9_brokenBy_5 : decode cX9_brokenBy 5 = .ok (.bipush 10, 2) := by decide +kernel
theorem dX9_brokenBy_7 : decode cX9_brokenBy 7 = .ok (.if_icmp .ge 43, 3) := by decide +kernel
theorem dX9_brokenBy_10 : decode cX9_brokenBy 10 = .ok (.iload_n 2, 1) := by decide +kernel
theorem dX9_brokenBy_11 : decode cX9_brokenBy 11 = .ok (.aload_n 0, 1) := by decide +kernel
theorem dX9_brokenBy_12 : decode cX9_brokenBy 12 = .ok (.iload_n 1, 1) := by decide +kernel
theorem dX9_brokenBy_13 : decode cX9_brokenBy 13 = .ok (.iload_n 3, 1) := by decide +kernel
theorem dX9_brokenBy_14 : decode cX9_brokenBy 14 = .ok (.invokevirtual 111, 3) := by decide +kernel
theorem dX9_brokenBy_17 : decode cX9_brokenBy 17 = .ok (.aload_n 0, 1) := by decide +kernel
theorem dX9_brokenBy_18 : decode cX9_brokenBy 18 = .ok (.getfield 38, 3) := by decide +kernel
theorem dX9_brokenBy_21 : decode cX9_brokenBy 21 = .ok (.iload_n 3, 1) := by decide +kernel
theorem dX9_brokenBy_22 : decode cX9_brokenBy 22 = .ok (.iaload, 1) := by decide +kernel
theorem dX9_brokenBy_23 : decode cX9_brokenBy 23 = .ok (.aload_n 0, 1) := by decide +kernel
theorem dX9_brokenBy_24 : decode cX9_brokenBy 24 = .ok (.getfield 41, 3) := by decide +kernel
theorem dX9_brokenBy_27 : decode cX9_brokenBy 27 = .ok (.iload_n 3, 1) := by decide +kernel
theorem dX9_brokenBy_28 : decode cX9_brokenBy 28 = .ok (.iaload, 1) := by decide +kernel
theorem dX9_brokenBy_29 : decode cX9_brokenBy 29 = .ok (.invokestatic 86, 3) := by decide +kernel
theorem dX9_brokenBy_32 : decode cX9_brokenBy 32 = .ok (.ifCond .eq 7, 3) := by decide +kernel
theorem dX9_brokenBy_35 : decode cX9_brokenBy 35 = .ok (.iconst 0, 1) := by decide +kernel
theorem dX9_brokenBy_36 : decode cX9_brokenBy 36 = .ok (.goto 6, 3) := by decide +kernel
theorem dX9_brokenBy_39 : decode cX9_brokenBy 39 = .ok (.iconst 1, 1) := by decide +kernel
theorem dX9_brokenBy_40 : decode cX9_brokenBy 40 = .ok (.iload_n 3, 1) := by decide +kernel
theorem dX9_brokenBy_41 : decode cX9_brokenBy 41 = .ok (.ishl, 1) := by decide +kernel
theorem dX9_brokenBy_42 : decode cX9_brokenBy 42 = .ok (.ior, 1) := by decide +kernel
theorem dX9_brokenBy_43 : decode cX9_brokenBy 43 = .ok (.istore_n 2, 1) := by decide +kernel
theorem dX9_brokenBy_44 : decode cX9_brokenBy 44 = .ok (.iinc 3 1, 3) := by decide +kernel
theorem dX9_brokenBy_47 : decode cX9_brokenBy 47 = .ok (.goto (-43), 3) := by decide +kernel
theorem dX9_brokenBy_50 : decode cX9_brokenBy 50 = .ok (.iload_n 2, 1) := by decide +kernel
theorem dX9_brokenBy_51 : decode cX9_brokenBy 51 = .ok (.ireturn, 1) := by decide +kernel
theorem dX9_far_0 : decode cX9_far 0 = .ok (.iload_n 0, 1) := by decide +kernel
theorem dX9_far_1 : decode cX9_far 1 = .ok (.iload_n 1, 1) := by decide +kernel
theorem dX9_far_2 : decode cX9_far 2 = .ok (.if_icmp .ge 9, 3) := by decide +kernel
theorem dX9_far_5 : decode cX9_far 5 = .ok (.iload_n 1, 1) := by decide +kernel
theorem dX9_far_6 : decode cX9_far 6 = .ok (.iload_n 0, 1) := by decide +kernel
theorem dX9_far_7 : decode cX9_far 7 = .ok (.isub, 1) := by decide +kernel
theorem dX9_far_8 : decode cX9_far 8 = .ok (.goto 6, 3) := by decide +kernel
theorem dX9_far_11 : decode cX9_far 11 = .ok (.iload_n 0, 1) := by decide +kernel
theorem dX9_far_12 : decode cX9_far 12 = .ok (.iload_n 1, 1) := by decide +kernel
theorem dX9_far_13 : decode cX9_far 13 = .ok (.isub, 1) := by decide +kernel
theorem dX9_far_14 : decode cX9_far 14 = .ok (.ireturn, 1) := by decide +kernel
theorem dX9_spreadOf_0 : decode cX9_spreadOf 0 = .ok (.iconst 0, 1) := by decide +kernel
theorem dX9_spreadOf_1 : decode cX9_spreadOf 1 = .ok (.istore_n 2, 1) := by decide +kernel
theorem dX9_spreadOf_2 : decode cX9_spreadOf 2 = .ok (.iconst 0, 1) := by decide +kernel
theorem dX9_spreadOf_3 : decode cX9_spreadOf 3 = .ok (.istore_n 3, 1) := by decide +kernel
theorem dX9_spreadOf_4 : decode cX9_spreadOf 4 = .ok (.iload_n 3, 1) := by decide +kernel
theorem dX9_spreadOf_5 : decode cX9_spreadOf 5 = .ok (.iconst 4, 1) := by decide +kernel
theorem dX9_spreadOf_6 : decode cX9_spreadOf 6 = .ok (.if_icmp .ge 29, 3) := by decide +kernel
theorem dX9_spreadOf_9 : decode cX9_spreadOf 9 = .ok (.iload_n 2, 1) := by decide +kernel
theorem dX9_spreadOf_10 : decode cX9_spreadOf 10 = .ok (.aload_n 0, 1) := by decide +kernel
theorem dX9_spreadOf_11 : decode cX9_spreadOf 11 = .ok (.iload_n 1, 1) := by decide +kernel
theorem dX9_spreadOf_12 : decode cX9_spreadOf 12 = .ok (.iconst 3, 1) := by decide +kernel
theorem dX9_spreadOf_13 : decode cX9_spreadOf 13 = .ok (.iload_n 3, 1) := by decide +kernel
theorem dX9_spreadOf_14 : decode cX9_spreadOf 14 = .ok (.iadd, 1) := by decide +kernel
theorem dX9_spreadOf_15 : decode cX9_spreadOf 15 = .ok (.invokevirtual 111, 3) := by decide +kernel
theorem dX9_spreadOf_18 : decode cX9_spreadOf 18 = .ok (.aload_n 0, 1) := by decide +kernel
theorem dX9_spreadOf_19 : decode cX9_spreadOf 19 = .ok (.getfield 44, 3) := by decide +kernel
theorem dX9_spreadOf_22 : decode cX9_spreadOf 22 = .ok (.iload_n 3, 1) := by decide +kernel
theorem dX9_spreadOf_23 : decode cX9_spreadOf 23 = .ok (.iaload, 1) := by decide +kernel
theorem dX9_spreadOf_24 : decode cX9_spreadOf 24 = .ok (.invokestatic 114, 3) := by decide +kernel
theorem dX9_spreadOf_27 : decode cX9_spreadOf 27 = .ok (.iadd, 1) := by decide +kernel
theorem dX9_spreadOf_28 : decode cX9_spreadOf 28 = .ok (.istore_n 2, 1) := by decide +kernel
theorem dX9_spreadOf_29 : decode cX9_spreadOf 29 = .ok (.iinc 3 1, 3) := by decide +kernel
theorem dX9_spreadOf_32 : decode cX9_spreadOf 32 = .ok (.goto (-28), 3) := by decide +kernel
theorem dX9_spreadOf_35 : decode cX9_spreadOf 35 = .ok (.iload_n 2, 1) := by decide +kernel
theorem dX9_spreadOf_36 : decode cX9_spreadOf 36 = .ok (.ireturn, 1) := by decide +kernel
theorem dX9_look_0 : decode cX9_look 0 = .ok (.aload_n 0, 1) := by decide +kernel
theorem dX9_look_1 : decode cX9_look 1 = .ok (.iload_n 1, 1) := by decide +kernel
theorem dX9_look_2 : decode cX9_look 2 = .ok (.invokevirtual 101, 3) := by decide +kernel
theorem dX9_look_5 : decode cX9_look 5 = .ok (.ifCond .ne 5, 3) := by decide +kernel
theorem dX9_look_8 : decode cX9_look 8 = .ok (.iconst (-1), 1) := by decide +kernel
theorem dX9_look_9 : decode cX9_look 9 = .ok (.ireturn, 1) := by decide +kernel
theorem dX9_look_10 : decode cX9_look 10 = .ok (.iload_n 2, 1) := by decide +kernel
theorem dX9_look_11 : decode cX9_look 11 = .ok (.bipush 10, 2) := by decide +kernel
theorem dX9_look_13 : decode cX9_look 13 = .ok (.isub, 1) := by decide +kernel
theorem dX9_look_14 : decode cX9_look 14 = .ok (.iconst 0, 1) := by decide +kernel
theorem dX9_look_15 : decode cX9_look 15 = .ok (.bipush 9, 2) := by decide +kernel
theorem dX9_look_17 : decode cX9_look 17 = .ok (.invokestatic 86, 3) := by decide +kernel
theorem dX9_look_20 : decode cX9_look 20 = .ok (.ifCond .eq 13, 3) := by decide +kernel
theorem dX9_look_23 : decode cX9_look 23 = .ok (.aload_n 0, 1) := by decide +kernel
theorem dX9_look_24 : decode cX9_look 24 = .ok (.iload_n 1, 1) := by decide +kernel
theorem dX9_look_25 : decode cX9_look 25 = .ok (.iload_n 2, 1) := by decide +kernel
theorem dX9_look_26 : decode cX9_look 26 = .ok (.bipush 10, 2) := by decide +kernel
theorem dX9_look_28 : decode cX9_look 28 = .ok (.isub, 1) := by decide +kernel
theorem dX9_look_29 : decode cX9_look 29 = .ok (.invokevirtual 111, 3) := by decide +kernel
theorem dX9_look_32 : decode cX9_look 32 = .ok (.ireturn, 1) := by decide +kernel
theorem dX9_look_33 : decode cX9_look 33 = .ok (.iload_n 2, 1) := by decide +kernel
theorem dX9_look_34 : decode cX9_look 34 = .ok (.tableswitch 78 0 3 #[30, 44, 66, 72], 30) := by decide +kernel
theorem dX9_look_64 : decode cX9_look 64 = .ok (.aload_n 0, 1) := by decide +kernel
theorem dX9_look_65 : decode cX9_look 65 = .ok (.iload_n 1, 1) := by decide +kernel
theorem dX9_look_66 : decode cX9_look 66 = .ok (.invokevirtual 117, 3) := by decide +kernel
theorem dX9_look_69 : decode cX9_look 69 = .ok (.ifCond .eq 7, 3) := by decide +kernel
theorem dX9_look_72 : decode cX9_look 72 = .ok (.iconst 1, 1) := by decide +kernel
theorem dX9_look_73 : decode cX9_look 73 = .ok (.goto 4, 3) := by decide +kernel
theorem dX9_look_76 : decode cX9_look 76 = .ok (.iconst 0, 1) := by decide +kernel
theorem dX9_look_77 : decode cX9_look 77 = .ok (.ireturn, 1) := by decide +kernel
theorem dX9_look_78 : decode cX9_look 78 = .ok (.aload_n 0, 1) := by decide +kernel
theorem dX9_look_79 : decode cX9_look 79 = .ok (.iload_n 1, 1) := by decide +kernel
theorem dX9_look_80 : decode cX9_look 80 = .ok (.invokevirtual 117, 3) := by decide +kernel
theorem dX9_look_83 : decode cX9_look 83 = .ok (.ifCond .eq 15, 3) := by decide +kernel
theorem dX9_look_86 : decode cX9_look 86 = .ok (.aload_n 0, 1) := by decide +kernel
theorem dX9_look_87 : decode cX9_look 87 = .ok (.iload_n 1, 1) := by decide +kernel
theorem dX9_look_88 : decode cX9_look 88 = .ok (.invokevirtual 120, 3) := by decide +kernel
theorem dX9_look_91 : decode cX9_look 91 = .ok (.ifCond .ne 7, 3) := by decide +kernel
theorem dX9_look_94 : decode cX9_look 94 = .ok (.iconst 1, 1) := by decide +kernel
theorem dX9_look_95 : decode cX9_look 95 = .ok (.goto 4, 3) := by decide +kernel
theorem dX9_look_98 : decode cX9_look 98 = .ok (.iconst 0, 1) := by decide +kernel
theorem dX9_look_99 : decode cX9_look 99 = .ok (.ireturn, 1) := by decide +kernel
theorem dX9_look_100 : decode cX9_look 100 = .ok (.aload_n 0, 1) := by decide +kernel
theorem dX9_look_101 : decode cX9_look 101 = .ok (.iload_n 1, 1) := by decide +kernel
theorem dX9_look_102 : decode cX9_look 102 = .ok (.invokevirtual 124, 3) := by decide +kernel
theorem dX9_look_105 : decode cX9_look 105 = .ok (.ireturn, 1) := by decide +kernel
theorem dX9_look_106 : decode cX9_look 106 = .ok (.aload_n 0, 1) := by decide +kernel
theorem dX9_look_107 : decode cX9_look 107 = .ok (.iload_n 1, 1) := by decide +kernel
theorem dX9_look_108 : decode cX9_look 108 = .ok (.invokevirtual 120, 3) := by decide +kernel
theorem dX9_look_111 : decode cX9_look 111 = .ok (.ireturn, 1) := by decide +kernel
theorem dX9_look_112 : decode cX9_look 112 = .ok (.iconst (-1), 1) := by decide +kernel
theorem dX9_look_113 : decode cX9_look 113 = .ok (.ireturn, 1) := by decide +kernel
theorem dX9_atHand_0 : decode cX9_atHand 0 = .ok (.iconst 0, 1) := by decide +kernel
theorem dX9_atHand_1 : decode cX9_atHand 1 = .ok (.istore_n 1, 1) := by decide +kernel
theorem dX9_atHand_2 : decode cX9_atHand 2 = .ok (.iconst 0, 1) := by decide +kernel
theorem dX9_atHand_3 : decode cX9_atHand 3 = .ok (.istore_n 2, 1) := by decide +kernel
theorem dX9_atHand_4 : decode cX9_atHand 4 = .ok (.iload_n 2, 1) := by decide +kernel
theorem dX9_atHand_5 : decode cX9_atHand 5 = .ok (.aload_n 0, 1) := by decide +kernel
theorem dX9_atHand_6 : decode cX9_atHand 6 = .ok (.getfield 83, 3) := by decide +kernel
theorem dX9_atHand_9 : decode cX9_atHand 9 = .ok (.if_icmp .ge 36, 3) := by decide +kernel
theorem dX9_atHand_12 : decode cX9_atHand 12 = .ok (.aload_n 0, 1) := by decide +kernel
theorem dX9_atHand_13 : decode cX9_atHand 13 = .ok (.iload_n 2, 1) := by decide +kernel
theorem dX9_atHand_14 : decode cX9_atHand 14 = .ok (.invokevirtual 104, 3) := by decide +kernel
theorem dX9_atHand_17 : decode cX9_atHand 17 = .ok (.ifCond .eq 6, 3) := by decide +kernel
theorem dX9_atHand_20 : decode cX9_atHand 20 = .ok (.goto 19, 3) := by decide +kernel
theorem dX9_atHand_23 : decode cX9_atHand 23 = .ok (.iload_n 1, 1) := by decide +kernel
theorem dX9_atHand_24 : decode cX9_atHand 24 = .ok (.bipush 16, 2) := by decide +kernel
theorem dX9_atHand_26 : decode cX9_atHand 26 = .ok (.if_icmp .ge 10, 3) := by decide +kernel
theorem dX9_atHand_29 : decode cX9_atHand 29 = .ok (.aload_n 0, 1) := by decide +kernel
theorem dX9_atHand_30 : decode cX9_atHand 30 = .ok (.getfield 47, 3) := by decide +kernel
theorem dX9_atHand_33 : decode cX9_atHand 33 = .ok (.iload_n 1, 1) := by decide +kernel
theorem dX9_atHand_34 : decode cX9_atHand 34 = .ok (.iload_n 2, 1) := by decide +kernel
theorem dX9_atHand_35 : decode cX9_atHand 35 = .ok (.iastore, 1) := by decide +kernel
theorem dX9_atHand_36 : decode cX9_atHand 36 = .ok (.iinc 1 1, 3) := by decide +kernel
theorem dX9_atHand_39 : decode cX9_atHand 39 = .ok (.iinc 2 1, 3) := by decide +kernel
theorem dX9_atHand_42 : decode cX9_atHand 42 = .ok (.goto (-38), 3) := by decide +kernel
theorem dX9_atHand_45 : decode cX9_atHand 45 = .ok (.iload_n 1, 1) := by decide +kernel
theorem dX9_atHand_46 : decode cX9_atHand 46 = .ok (.ireturn, 1) := by decide +kernel
theorem dX9_areOnePassage_0 : decode cX9_areOnePassage 0 = .ok (.aload_n 0, 1) := by decide +kernel
theorem dX9_areOnePassage_1 : decode cX9_areOnePassage 1 = .ok (.getfield 29, 3) := by decide +kernel
theorem dX9_areOnePassage_4 : decode cX9_areOnePassage 4 = .ok (.iload_n 1, 1) := by decide +kernel
theorem dX9_areOnePassage_5 : decode cX9_areOnePassage 5 = .ok (.iaload, 1) := by decide +kernel
theorem dX9_areOnePassage_6 : decode cX9_areOnePassage 6 = .ok (.iconst (-1), 1) := by decide +kernel
theorem dX9_areOnePassage_7 : decode cX9_areOnePassage 7 = .ok (.if_icmp .eq 22, 3) := by decide +kernel
theorem dX9_areOnePassage_10 : decode cX9_areOnePassage 10 = .ok (.aload_n 0, 1) := by decide +kernel
theorem dX9_areOnePassage_11 : decode cX9_areOnePassage 11 = .ok (.getfield 29, 3) := by decide +kernel
theorem dX9_areOnePassage_14 : decode cX9_areOnePassage 14 = .ok (.iload_n 1, 1) := by decide +kernel
theorem dX9_areOnePassage_15 : decode cX9_areOnePassage 15 = .ok (.iaload, 1) := by decide +kernel
theorem dX9_areOnePassage_16 : decode cX9_areOnePassage 16 = .ok (.aload_n 0, 1) := by decide +kernel
theorem dX9_areOnePassage_17 : decode cX9_areOnePassage 17 = .ok (.getfield 29, 3) := by decide +kernel
theorem dX9_areOnePassage_20 : decode cX9_areOnePassage 20 = .ok (.iload_n 2, 1) := by decide +kernel
theorem dX9_areOnePassage_21 : decode cX9_areOnePassage 21 = .ok (.iaload, 1) := by decide +kernel
theorem dX9_areOnePassage_22 : decode cX9_areOnePassage 22 = .ok (.if_icmp .ne 7, 3) := by decide +kernel
theorem dX9_areOnePassage_25 : decode cX9_areOnePassage 25 = .ok (.iconst 1, 1) := by decide +kernel
theorem dX9_areOnePassage_26 : decode cX9_areOnePassage 26 = .ok (.goto 4, 3) := by decide +kernel
theorem dX9_areOnePassage_29 : decode cX9_areOnePassage 29 = .ok (.iconst 0, 1) := by decide +kernel
theorem dX9_areOnePassage_30 : decode cX9_areOnePassage 30 = .ok (.ireturn, 1) := by decide +kernel
theorem dX9_works_0 : decode cX9_works 0 = .ok (.aload_n 0, 1) := by decide +kernel
theorem dX9_works_1 : decode cX9_works 1 = .ok (.aload_n 0, 1) := by decide +kernel
theorem dX9_works_2 : decode cX9_works 2 = .ok (.invokevirtual 127, 3) := by decide +kernel
theorem dX9_works_5 : decode cX9_works 5 = .ok (.putfield 131, 3) := by decide +kernel
theorem dX9_works_8 : decode cX9_works 8 = .ok (.iconst 0, 1) := by decide +kernel
theorem dX9_works_9 : decode cX9_works 9 = .ok (.istore_n 1, 1) := by decide +kernel
theorem dX9_works_10 : decode cX9_works 10 = .ok (.iload_n 1, 1) := by decide +kernel
theorem dX9_works_11 : decode cX9_works 11 = .ok (.aload_n 0, 1) := by decide +kernel
theorem dX9_works_12 : decode cX9_works 12 = .ok (.getfield 131, 3) := by decide +kernel
theorem dX9_works_15 : decode cX9_works 15 = .ok (.if_icmp .ge 185, 3) := by decide +kernel
theorem dX9_works_18 : decode cX9_works 18 = .ok (.aload_n 0, 1) := by decide +kernel
theorem dX9_works_19 : decode cX9_works 19 = .ok (.getfield 62, 3) := by decide +kernel
theorem dX9_works_22 : decode cX9_works 22 = .ok (.iload_n 1, 1) := by decide +kernel
theorem dX9_works_23 : decode cX9_works 23 = .ok (.iconst 0, 1) := by decide +kernel
theorem dX9_works_24 : decode cX9_works 24 = .ok (.iastore, 1) := by decide +kernel
theorem dX9_works_25 : decode cX9_works 25 = .ok (.aload_n 0, 1) := by decide +kernel
theorem dX9_works_26 : decode cX9_works 26 = .ok (.getfield 65, 3) := by decide +kernel
theorem dX9_works_29 : decode cX9_works 29 = .ok (.iload_n 1, 1) := by decide +kernel
theorem dX9_works_30 : decode cX9_works 30 = .ok (.iconst 0, 1) := by decide +kernel
theorem dX9_works_31 : decode cX9_works 31 = .ok (.iastore, 1) := by decide +kernel
theorem dX9_works_32 : decode cX9_works 32 = .ok (.iconst 0, 1) := by decide +kernel
theorem dX9_works_33 : decode cX9_works 33 = .ok (.istore_n 2, 1) := by decide +kernel
theorem dX9_works_34 : decode cX9_works 34 = .ok (.iload_n 2, 1) := by decide +kernel
theorem dX9_works_35 : decode cX9_works 35 = .ok (.aload_n 0, 1) := by decide +kernel
theorem dX9_works_36 : decode cX9_works 36 = .ok (.getfield 131, 3) := by decide +kernel
theorem dX9_works_39 : decode cX9_works 39 = .ok (.if_icmp .ge 106, 3) := by decide +kernel
theorem dX9_works_42 : decode cX9_works 42 = .ok (.aload_n 0, 1) := by decide +kernel
theorem dX9_works_43 : decode cX9_works 43 = .ok (.getfield 62, 3) := by decide +kernel
theorem dX9_works_46 : decode cX9_works 46 = .ok (.iload_n 1, 1) := by decide +kernel
theorem dX9_works_47 : decode cX9_works 47 = .ok (.dup2, 1) := by decide +kernel
theorem dX9_works_48 : decode cX9_works 48 = .ok (.iaload, 1) := by decide +kernel
theorem dX9_works_49 : decode cX9_works 49 = .ok (.aload_n 0, 1) := by decide +kernel
theorem dX9_works_50 : decode cX9_works 50 = .ok (.getfield 35, 3) := by decide +kernel
theorem dX9_works_53 : decode cX9_works 53 = .ok (.aload_n 0, 1) := by decide +kernel
theorem dX9_works_54 : decode cX9_works 54 = .ok (.getfield 47, 3) := by decide +kernel
theorem dX9_works_57 : decode cX9_works 57 = .ok (.iload_n 1, 1) := by decide +kernel
theorem dX9_works_58 : decode cX9_works 58 = .ok (.iaload, 1) := by decide +kernel
theorem dX9_works_59 : decode cX9_works 59 = .ok (.iaload, 1) := by decide +kernel
theorem dX9_works_60 : decode cX9_works 60 = .ok (.aload_n 0, 1) := by decide +kernel
theorem dX9_works_61 : decode cX9_works 61 = .ok (.getfield 47, 3) := by decide +kernel
theorem dX9_works_64 : decode cX9_works 64 = .ok (.iload_n 2, 1) := by decide +kernel
theorem dX9_works_65 : decode cX9_works 65 = .ok (.iaload, 1) := by decide +kernel
theorem dX9_works_66 : decode cX9_works 66 = .ok (.invokestatic 94, 3) := by decide +kernel
theorem dX9_works_69 : decode cX9_works 69 = .ok (.ifCond .ne 26, 3) := by decide +kernel
theorem dX9_works_72 : decode cX9_works 72 = .ok (.aload_n 0, 1) := by decide +kernel
theorem dX9_works_73 : decode cX9_works 73 = .ok (.getfield 35, 3) := by decide +kernel
theorem dX9_works_76 : decode cX9_works 76 = .ok (.aload_n 0, 1) := by decide +kernel
theorem dX9_works_77 : decode cX9_works 77 = .ok (.getfield 47, 3) := by decide +kernel
theorem dX9_works_80 : decode cX9_works 80 = .ok (.iload_n 2, 1) := by decide +kernel
theorem dX9_works_81 : decode cX9_works 81 = .ok (.iaload, 1) := by decide +kernel
theorem dX9_works_82 : decode cX9_works 82 = .ok (.iaload, 1) := by decide +kernel
theorem dX9_works_83 : decode cX9_works 83 = .ok (.aload_n 0, 1) := by decide +kernel
theorem dX9_works_84 : decode cX9_works 84 = .ok (.getfield 47, 3) := by decide +kernel
theorem dX9_works_87 : decode cX9_works 87 = .ok (.iload_n 1, 1) := by decide +kernel
theorem dX9_works_88 : decode cX9_works 88 = .ok (.iaload, 1) := by decide +kernel
theorem dX9_works_89 : decode cX9_works 89 = .ok (.invokestatic 94, 3) := by decide +kernel
theorem dX9_works_92 : decode cX9_works 92 = .ok (.ifCond .eq 9, 3) := by decide +kernel
theorem dX9_works_95 : decode cX9_works 95 = .ok (.iconst 1, 1) := by decide +kernel
theorem dX9_works_96 : decode cX9_works 96 = .ok (.iload_n 2, 1) := by decide +kernel
theorem dX9_works_97 : decode cX9_works 97 = .ok (.ishl, 1) := by decide +kernel
theorem dX9_works_98 : decode cX9_works 98 = .ok (.goto 4, 3) := by decide +kernel
theorem dX9_works_101 : decode cX9_works 101 = .ok (.iconst 0, 1) := by decide +kernel
theorem dX9_works_102 : decode cX9_works 102 = .ok (.ior, 1) := by decide +kernel
theorem dX9_works_103 : decode cX9_works 103 = .ok (.iastore, 1) := by decide +kernel
theorem dX9_works_104 : decode cX9_works 104 = .ok (.aload_n 0, 1) := by decide +kernel
theorem dX9_works_105 : decode cX9_works 105 = .ok (.getfield 65, 3) := by decide +kernel
theorem dX9_works_108 : decode cX9_works 108 = .ok (.iload_n 1, 1) := by decide +kernel
theorem dX9_works_109 : decode cX9_works 109 = .ok (.dup2, 1) := by decide +kernel
theorem dX9_works_110 : decode cX9_works 110 = .ok (.iaload, 1) := by decide +kernel
theorem dX9_works_111 : decode cX9_works 111 = .ok (.aload_n 0, 1) := by decide +kernel
theorem dX9_works_112 : decode cX9_works 112 = .ok (.aload_n 0, 1) := by decide +kernel
theorem dX9_works_113 : decode cX9_works 113 = .ok (.getfield 47, 3) := by decide +kernel
theorem dX9_works_116 : decode cX9_works 116 = .ok (.iload_n 1, 1) := by decide +kernel
theorem dX9_works_117 : decode cX9_works 117 = .ok (.iaload, 1) := by decide +kernel
theorem dX9_works_118 : decode cX9_works 118 = .ok (.aload_n 0, 1) := by decide +kernel
theorem dX9_works_119 : decode cX9_works 119 = .ok (.getfield 47, 3) := by decide +kernel
theorem dX9_works_122 : decode cX9_works 122 = .ok (.iload_n 2, 1) := by decide +kernel
theorem dX9_works_123 : decode cX9_works 123 = .ok (.iaload, 1) := by decide +kernel
theorem dX9_works_124 : decode cX9_works 124 = .ok (.invokevirtual 134, 3) := by decide +kernel
theorem dX9_works_127 : decode cX9_works 127 = .ok (.ifCond .eq 9, 3) := by decide +kernel
theorem dX9_works_130 : decode cX9_works 130 = .ok (.iconst 1, 1) := by decide +kernel
theorem dX9_works_131 : decode cX9_works 131 = .ok (.iload_n 2, 1) := by decide +kernel
theorem dX9_works_132 : decode cX9_works 132 = .ok (.ishl, 1) := by decide +kernel
theorem dX9_works_133 : decode cX9_works 133 = .ok (.goto 4, 3) := by decide +kernel
theorem dX9_works_136 : decode cX9_works 136 = .ok (.iconst 0, 1) := by decide +kernel
theorem dX9_works_137 : decode cX9_works 137 = .ok (.ior, 1) := by decide +kernel
theorem dX9_works_138 : decode cX9_works 138 = .ok (.iastore, 1) := by decide +kernel
theorem dX9_works_139 : decode cX9_works 139 = .ok (.iinc 2 1, 3) := by decide +kernel
theorem dX9_works_142 : decode cX9_works 142 = .ok (.goto (-108), 3) := by decide +kernel
theorem dX9_works_145 : decode cX9_works 145 = .ok (.iconst 0, 1) := by decide +kernel
theorem dX9_works_146 : decode cX9_works 146 = .ok (.istore_n 2, 1) := by decide +kernel
theorem dX9_works_147 : decode cX9_works 147 = .ok (.iload_n 2, 1) := by decide +kernel
theorem dX9_works_148 : decode cX9_works 148 = .ok (.aload_n 0, 1) := by decide +kernel
theorem dX9_works_149 : decode cX9_works 149 = .ok (.getfield 83, 3) := by decide +kernel
theorem dX9_works_152 : decode cX9_works 152 = .ok (.if_icmp .ge 42, 3) := by decide +kernel
theorem dX9_works_155 : decode cX9_works 155 = .ok (.aload_n 0, 1) := by decide +kernel
theorem dX9_works_156 : decode cX9_works 156 = .ok (.iload_n 2, 1) := by decide +kernel
theorem dX9_works_157 : decode cX9_works 157 = .ok (.invokevirtual 104, 3) := by decide +kernel
theorem dX9_works_160 : decode cX9_works 160 = .ok (.ifCond .eq 28, 3) := by decide +kernel
theorem dX9_works_163 : decode cX9_works 163 = .ok (.aload_n 0, 1) := by decide +kernel
theorem dX9_works_164 : decode cX9_works 164 = .ok (.aload_n 0, 1) := by decide +kernel
theorem dX9_works_165 : decode cX9_works 165 = .ok (.getfield 47, 3) := by decide +kernel
theorem dX9_works_168 : decode cX9_works 168 = .ok (.iload_n 1, 1) := by decide +kernel
theorem dX9_works_169 : decode cX9_works 169 = .ok (.iaload, 1) := by decide +kernel
theorem dX9_works_170 : decode cX9_works 170 = .ok (.iload_n 2, 1) := by decide +kernel
theorem dX9_works_171 : decode cX9_works 171 = .ok (.invokevirtual 134, 3) := by decide +kernel
theorem dX9_works_174 : decode cX9_works 174 = .ok (.ifCond .eq 14, 3) := by decide +kernel
theorem dX9_works_177 : decode cX9_works 177 = .ok (.aload_n 0, 1) := by decide +kernel
theorem dX9_works_178 : decode cX9_works 178 = .ok (.getfield 65, 3) := by decide +kernel
theorem dX9_works_181 : decode cX9_works 181 = .ok (.iload_n 1, 1) := by decide +kernel
theorem dX9_works_182 : decode cX9_works 182 = .ok (.dup2, 1) := by decide +kernel
theorem dX9_works_183 : decode cX9_works 183 = .ok (.iaload, 1) := by decide +kernel
theorem dX9_works_184 : decode cX9_works 184 = .ok (.ldc 54, 2) := by decide +kernel
theorem dX9_works_186 : decode cX9_works 186 = .ok (.ior, 1) := by decide +kernel
theorem dX9_works_187 : decode cX9_works 187 = .ok (.iastore, 1) := by decide +kernel
theorem dX9_works_188 : decode cX9_works 188 = .ok (.iinc 2 1, 3) := by decide +kernel
theorem dX9_works_191 : decode cX9_works 191 = .ok (.goto (-44), 3) := by decide +kernel
theorem dX9_works_194 : decode cX9_works 194 = .ok (.iinc 1 1, 3) := by decide +kernel
theorem dX9_works_197 : decode cX9_works 197 = .ok (.goto (-187), 3) := by decide +kernel
theorem dX9_works_200 : decode cX9_works 200 = .ok (.iconst 0, 1) := by decide +kernel
theorem dX9_works_201 : decode cX9_works 201 = .ok (.istore_n 1, 1) := by decide +kernel
theorem dX9_works_202 : decode cX9_works 202 = .ok (.iload_n 1, 1) := by decide +kernel
theorem dX9_works_203 : decode cX9_works 203 = .ok (.iconst 1, 1) := by decide +kernel
theorem dX9_works_204 : decode cX9_works 204 = .ok (.aload_n 0, 1) := by decide +kernel
theorem dX9_works_205 : decode cX9_works 205 = .ok (.getfield 131, 3) := by decide +kernel
theorem dX9_works_208 : decode cX9_works 208 = .ok (.ishl, 1) := by decide +kernel
theorem dX9_works_209 : decode cX9_works 209 = .ok (.if_icmp .ge 233, 3) := by decide +kernel
theorem dX9_works_212 : decode cX9_works 212 = .ok (.iconst 0, 1) := by decide +kernel
theorem dX9_works_213 : decode cX9_works 213 = .ok (.istore_n 2, 1) := by decide +kernel
theorem dX9_works_214 : decode cX9_works 214 = .ok (.iload_n 2, 1) := by decide +kernel
theorem dX9_works_215 : decode cX9_works 215 = .ok (.aload_n 0, 1) := by decide +kernel
theorem dX9_works_216 : decode cX9_works 216 = .ok (.getfield 131, 3) := by decide +kernel
theorem dX9_works_219 : decode cX9_works 219 = .ok (.if_icmp .ge 17, 3) := by decide +kernel
theorem dX9_works_222 : decode cX9_works 222 = .ok (.iload_n 1, 1) := by decide +kernel
theorem dX9_works_223 : decode cX9_works 223 = .ok (.iload_n 2, 1) := by decide +kernel
theorem dX9_works_224 : decode cX9_works 224 = .ok (.invokestatic 94, 3) := by decide +kernel
theorem dX9_works_227 : decode cX9_works 227 = .ok (.ifCond .ne 9, 3) := by decide +kernel
theorem dX9_works_230 : decode cX9_works 230 = .ok (.iinc 2 1, 3) := by decide +kernel
theorem dX9_works_233 : decode cX9_works 233 = .ok (.goto (-19), 3) := by decide +kernel
theorem dX9_works_236 : decode cX9_works 236 = .ok (.iload_n 2, 1) := by decide +kernel
theorem dX9_works_237 : decode cX9_works 237 = .ok (.aload_n 0, 1) := by decide +kernel
theorem dX9_works_238 : decode cX9_works 238 = .ok (.getfield 131, 3) := by decide +kernel
theorem dX9_works_241 : decode cX9_works 241 = .ok (.if_icmp .ge 11, 3) := by decide +kernel
theorem dX9_works_244 : decode cX9_works 244 = .ok (.iload_n 1, 1) := by decide +kernel
theorem dX9_works_245 : decode cX9_works 245 = .ok (.iconst 1, 1) := by decide +kernel
theorem dX9_works_246 : decode cX9_works 246 = .ok (.iload_n 2, 1) := by decide +kernel
theorem dX9_works_247 : decode cX9_works 247 = .ok (.ishl, 1) := by decide +kernel
theorem dX9_works_248 : decode cX9_works 248 = .ok (.ixor, 1) := by decide +kernel
theorem dX9_works_249 : decode cX9_works 249 = .ok (.goto 4, 3) := by decide +kernel
theorem dX9_works_252 : decode cX9_works 252 = .ok (.iconst 0, 1) := by decide +kernel
theorem dX9_works_253 : decode cX9_works 253 = .ok (.istore_n 3, 1) := by decide +kernel
theorem dX9_works_254 : decode cX9_works 254 = .ok (.aload_n 0, 1) := by decide +kernel
theorem dX9_works_255 : decode cX9_works 255 = .ok (.getfield 59, 3) := by decide +kernel
theorem dX9_works_258 : decode cX9_works 258 = .ok (.iload_n 1, 1) := by decide +kernel
theorem dX9_works_259 : decode cX9_works 259 = .ok (.iconst 0, 1) := by decide +kernel
theorem dX9_works_260 : decode cX9_works 260 = .ok (.iastore, 1) := by decide +kernel
theorem dX9_works_261 : decode cX9_works 261 = .ok (.iconst 0, 1) := by decide +kernel
theorem dX9_works_262 : decode cX9_works 262 = .ok (.istore 4, 2) := by decide +kernel
theorem dX9_works_264 : decode cX9_works 264 = .ok (.iload 4, 2) := by decide +kernel
theorem dX9_works_266 : decode cX9_works 266 = .ok (.bipush 10, 2) := by decide +kernel
theorem dX9_works_268 : decode cX9_works 268 = .ok (.if_icmp .ge 101, 3) := by decide +kernel
theorem dX9_works_271 : decode cX9_works 271 = .ok (.iload_n 2, 1) := by decide +kernel
theorem dX9_works_272 : decode cX9_works 272 = .ok (.aload_n 0, 1) := by decide +kernel
theorem dX9_works_273 : decode cX9_works 273 = .ok (.getfield 131, 3) := by decide +kernel
theorem dX9_works_276 : decode cX9_works 276 = .ok (.if_icmp .ge 31, 3) := by decide +kernel
theorem dX9_works_279 : decode cX9_works 279 = .ok (.aload_n 0, 1) := by decide +kernel
theorem dX9_works_280 : decode cX9_works 280 = .ok (.getfield 51, 3) := by decide +kernel
theorem dX9_works_283 : decode cX9_works 283 = .ok (.bipush 10, 2) := by decide +kernel
theorem dX9_works_285 : decode cX9_works 285 = .ok (.iload_n 3, 1) := by decide +kernel
theorem dX9_works_286 : decode cX9_works 286 = .ok (.imul, 1) := by decide +kernel
theorem dX9_works_287 : decode cX9_works 287 = .ok (.iload 4, 2) := by decide +kernel
theorem dX9_works_289 : decode cX9_works 289 = .ok (.iadd, 1) := by decide +kernel
theorem dX9_works_290 : decode cX9_works 290 = .ok (.iaload, 1) := by decide +kernel
theorem dX9_works_291 : decode cX9_works 291 = .ok (.aload_n 0, 1) := by decide +kernel
theorem dX9_works_292 : decode cX9_works 292 = .ok (.aload_n 0, 1) := by decide +kernel
theorem dX9_works_293 : decode cX9_works 293 = .ok (.getfield 47, 3) := by decide +kernel
theorem dX9_works_296 : decode cX9_works 296 = .ok (.iload_n 2, 1) := by decide +kernel
theorem dX9_works_297 : decode cX9_works 297 = .ok (.iaload, 1) := by decide +kernel
theorem dX9_works_298 : decode cX9_works 298 = .ok (.iload 4, 2) := by decide +kernel
theorem dX9_works_300 : decode cX9_works 300 = .ok (.invokevirtual 107, 3) := by decide +kernel
theorem dX9_works_303 : decode cX9_works 303 = .ok (.iadd, 1) := by decide +kernel
theorem dX9_works_304 : decode cX9_works 304 = .ok (.goto 4, 3) := by decide +kernel
theorem dX9_works_307 : decode cX9_works 307 = .ok (.iconst 0, 1) := by decide +kernel
theorem dX9_works_308 : decode cX9_works 308 = .ok (.istore 5, 2) := by decide +kernel
theorem dX9_works_310 : decode cX9_works 310 = .ok (.aload_n 0, 1) := by decide +kernel
theorem dX9_works_311 : decode cX9_works 311 = .ok (.getfield 51, 3) := by decide +kernel
theorem dX9_works_314 : decode cX9_works 314 = .ok (.bipush 10, 2) := by decide +kernel
theorem dX9_works_316 : decode cX9_works 316 = .ok (.iload_n 1, 1) := by decide +kernel
theorem dX9_works_317 : decode cX9_works 317 = .ok (.imul, 1) := by decide +kernel
theorem dX9_works_318 : decode cX9_works 318 = .ok (.iload 4, 2) := by decide +kernel
theorem dX9_works_320 : decode cX9_works 320 = .ok (.iadd, 1) := by decide +kernel
theorem dX9_works_321 : decode cX9_works 321 = .ok (.iload 5, 2) := by decide +kernel
theorem dX9_works_323 : decode cX9_works 323 = .ok (.iastore, 1) := by decide +kernel
theorem dX9_works_324 : decode cX9_works 324 = .ok (.aload_n 0, 1) := by decide +kernel
theorem dX9_works_325 : decode cX9_works 325 = .ok (.getfield 59, 3) := by decide +kernel
theorem dX9_works_328 : decode cX9_works 328 = .ok (.iload_n 1, 1) := by decide +kernel
theorem dX9_works_329 : decode cX9_works 329 = .ok (.dup2, 1) := by decide +kernel
theorem dX9_works_330 : decode cX9_works 330 = .ok (.iaload, 1) := by decide +kernel
theorem dX9_works_331 : decode cX9_works 331 = .ok (.iload 5, 2) := by decide +kernel
theorem dX9_works_333 : decode cX9_works 333 = .ok (.aload_n 0, 1) := by decide +kernel
theorem dX9_works_334 : decode cX9_works 334 = .ok (.getfield 38, 3) := by decide +kernel
theorem dX9_works_337 : decode cX9_works 337 = .ok (.iload 4, 2) := by decide +kernel
theorem dX9_works_339 : decode cX9_works 339 = .ok (.iaload, 1) := by decide +kernel
theorem dX9_works_340 : decode cX9_works 340 = .ok (.aload_n 0, 1) := by decide +kernel
theorem dX9_works_341 : decode cX9_works 341 = .ok (.getfield 41, 3) := by decide +kernel
theorem dX9_works_344 : decode cX9_works 344 = .ok (.iload 4, 2) := by decide +kernel
theorem dX9_works_346 : decode cX9_works 346 = .ok (.iaload, 1) := by decide +kernel
theorem dX9_works_347 : decode cX9_works 347 = .ok (.invokestatic 86, 3) := by decide +kernel
theorem dX9_works_350 : decode cX9_works 350 = .ok (.ifCond .eq 7, 3) := by decide +kernel
theorem dX9_works_353 : decode cX9_works 353 = .ok (.iconst 0, 1) := by decide +kernel
theorem dX9_works_354 : decode cX9_works 354 = .ok (.goto 7, 3) := by decide +kernel
theorem dX9_works_357 : decode cX9_works 357 = .ok (.iconst 1, 1) := by decide +kernel
theorem dX9_works_358 : decode cX9_works 358 = .ok (.iload 4, 2) := by decide +kernel
theorem dX9_works_360 : decode cX9_works 360 = .ok (.ishl, 1) := by decide +kernel
theorem dX9_works_361 : decode cX9_works 361 = .ok (.ior, 1) := by decide +kernel
theorem dX9_works_362 : decode cX9_works 362 = .ok (.iastore, 1) := by decide +kernel
theorem dX9_works_363 : decode cX9_works 363 = .ok (.iinc 4 1, 3) := by decide +kernel
theorem dX9_works_366 : decode cX9_works 366 = .ok (.goto (-102), 3) := by decide +kernel
theorem dX9_works_369 : decode cX9_works 369 = .ok (.aload_n 0, 1) := by decide +kernel
theorem dX9_works_370 : decode cX9_works 370 = .ok (.getfield 55, 3) := by decide +kernel
theorem dX9_works_373 : decode cX9_works 373 = .ok (.iload_n 1, 1) := by decide +kernel
theorem dX9_works_374 : decode cX9_works 374 = .ok (.iconst 1, 1) := by decide +kernel
theorem dX9_works_375 : decode cX9_works 375 = .ok (.bastore, 1) := by decide +kernel
theorem dX9_works_376 : decode cX9_works 376 = .ok (.iconst 0, 1) := by decide +kernel
theorem dX9_works_377 : decode cX9_works 377 = .ok (.istore 4, 2) := by decide +kernel
theorem dX9_works_379 : decode cX9_works 379 = .ok (.iload 4, 2) := by decide +kernel
theorem dX9_works_381 : decode cX9_works 381 = .ok (.aload_n 0, 1) := by decide +kernel
theorem dX9_works_382 : decode cX9_works 382 = .ok (.getfield 131, 3) := by decide +kernel
theorem dX9_works_385 : decode cX9_works 385 = .ok (.if_icmp .ge 51, 3) := by decide +kernel
theorem dX9_works_388 : decode cX9_works 388 = .ok (.iload_n 1, 1) := by decide +kernel
theorem dX9_works_389 : decode cX9_works 389 = .ok (.iload 4, 2) := by decide +kernel
theorem dX9_works_391 : decode cX9_works 391 = .ok (.invokestatic 94, 3) := by decide +kernel
theorem dX9_works_394 : decode cX9_works 394 = .ok (.ifCond .eq 36, 3) := by decide +kernel
theorem dX9_works_397 : decode cX9_works 397 = .ok (.aload_n 0, 1) := by decide +kernel
theorem dX9_works_398 : decode cX9_works 398 = .ok (.getfield 62, 3) := by decide +kernel
theorem dX9_works_401 : decode cX9_works 401 = .ok (.iload 4, 2) := by decide +kernel
theorem dX9_works_403 : decode cX9_works 403 = .ok (.iaload, 1) := by decide +kernel
theorem dX9_works_404 : decode cX9_works 404 = .ok (.iload_n 1, 1) := by decide +kernel
theorem dX9_works_405 : decode cX9_works 405 = .ok (.iand, 1) := by decide +kernel
theorem dX9_works_406 : decode cX9_works 406 = .ok (.ifCond .ne 17, 3) := by decide +kernel
theorem dX9_works_409 : decode cX9_works 409 = .ok (.aload_n 0, 1) := by decide +kernel
theorem dX9_works_410 : decode cX9_works 410 = .ok (.getfield 65, 3) := by decide +kernel
theorem dX9_works_413 : decode cX9_works 413 = .ok (.iload 4, 2) := by decide +kernel
theorem dX9_works_415 : decode cX9_works 415 = .ok (.iaload, 1) := by decide +kernel
theorem dX9_works_416 : decode cX9_works 416 = .ok (.iload_n 1, 1) := by decide +kernel
theorem dX9_works_417 : decode cX9_works 417 = .ok (.iconst (-1), 1) := by decide +kernel
theorem dX9_works_418 : decode cX9_works 418 = .ok (.ixor, 1) := by decide +kernel
theorem dX9_works_419 : decode cX9_works 419 = .ok (.iand, 1) := by decide +kernel
theorem dX9_works_420 : decode cX9_works 420 = .ok (.ifCond .eq 10, 3) := by decide +kernel
theorem dX9_works_423 : decode cX9_works 423 = .ok (.aload_n 0, 1) := by decide +kernel
theorem dX9_works_424 : decode cX9_works 424 = .ok (.getfield 55, 3) := by decide +kernel
theorem dX9_works_427 : decode cX9_works 427 = .ok (.iload_n 1, 1) := by decide +kernel
theorem dX9_works_428 : decode cX9_works 428 = .ok (.iconst 0, 1) := by decide +kernel
theorem dX9_works_429 : decode cX9_works 429 = .ok (.bastore, 1) := by decide +kernel
theorem dX9_works_430 : decode cX9_works 430 = .ok (.iinc 4 1, 3) := by decide +kernel
theorem dX9_works_433 : decode cX9_works 433 = .ok (.goto (-54), 3) := by decide +kernel
theorem dX9_works_436 : decode cX9_works 436 = .ok (.iinc 1 1, 3) := by decide +kernel
theorem dX9_works_439 : decode cX9_works 439 = .ok (.goto (-237), 3) := by decide +kernel
theorem dX9_works_442 : decode cX9_works 442 = .ok (.return_, 1) := by decide +kernel
theorem dX9_isPaper_0 : decode cX9_isPaper 0 = .ok (.aload_n 0, 1) := by decide +kernel
theorem dX9_isPaper_1 : decode cX9_isPaper 1 = .ok (.getfield 55, 3) := by decide +kernel
theorem dX9_isPaper_4 : decode cX9_isPaper 4 = .ok (.iload_n 1, 1) := by decide +kernel
theorem dX9_isPaper_5 : decode cX9_isPaper 5 = .ok (.baload, 1) := by decide +kernel
theorem dX9_isPaper_6 : decode cX9_isPaper 6 = .ok (.ifCond .eq 16, 3) := by decide +kernel
theorem dX9_isPaper_9 : decode cX9_isPaper 9 = .ok (.aload_n 0, 1) := by decide +kernel
theorem dX9_isPaper_10 : decode cX9_isPaper 10 = .ok (.getfield 59, 3) := by decide +kernel
theorem dX9_isPaper_13 : decode cX9_isPaper 13 = .ok (.iload_n 1, 1) := by decide +kernel
theorem dX9_isPaper_14 : decode cX9_isPaper 14 = .ok (.iaload, 1) := by decide +kernel
theorem dX9_isPaper_15 : decode cX9_isPaper 15 = .ok (.ifCond .ne 7, 3) := by decide +kernel
theorem dX9_isPaper_18 : decode cX9_isPaper 18 = .ok (.iconst 1, 1) := by decide +kernel
theorem dX9_isPaper_19 : decode cX9_isPaper 19 = .ok (.goto 4, 3) := by decide +kernel
theorem dX9_isPaper_22 : decode cX9_isPaper 22 = .ok (.iconst 0, 1) := by decide +kernel
theorem dX9_isPaper_23 : decode cX9_isPaper 23 = .ok (.ireturn, 1) := by decide +kernel
theorem dX9_spread_0 : decode cX9_spread 0 = .ok (.iconst 0, 1) := by decide +kernel
theorem dX9_spread_1 : decode cX9_spread 1 = .ok (.istore_n 2, 1) := by decide +kernel
theorem dX9_spread_2 : decode cX9_spread 2 = .ok (.iconst 0, 1) := by decide +kernel
theorem dX9_spread_3 : decode cX9_spread 3 = .ok (.istore_n 3, 1) := by decide +kernel
theorem dX9_spread_4 : decode cX9_spread 4 = .ok (.iload_n 3, 1) := by decide +kernel
theorem dX9_spread_5 : decode cX9_spread 5 = .ok (.iconst 4, 1) := by decide +kernel
theorem dX9_spread_6 : decode cX9_spread 6 = .ok (.if_icmp .ge 34, 3) := by decide +kernel
theorem dX9_spread_9 : decode cX9_spread 9 = .ok (.iload_n 2, 1) := by decide +kernel
theorem dX9_spread_10 : decode cX9_spread 10 = .ok (.aload_n 0, 1) := by decide +kernel
theorem dX9_spread_11 : decode cX9_spread 11 = .ok (.getfield 51, 3) := by decide +kernel
theorem dX9_spread_14 : decode cX9_spread 14 = .ok (.bipush 10, 2) := by decide +kernel
theorem dX9_spread_16 : decode cX9_spread 16 = .ok (.iload_n 1, 1) := by decide +kernel
theorem dX9_spread_17 : decode cX9_spread 17 = .ok (.imul, 1) := by decide +kernel
theorem dX9_spread_18 : decode cX9_spread 18 = .ok (.iconst 3, 1) := by decide +kernel
theorem dX9_spread_19 : decode cX9_spread 19 = .ok (.iadd, 1) := by decide +kernel
theorem dX9_spread_20 : decode cX9_spread 20 = .ok (.iload_n 3, 1) := by decide +kernel
theorem dX9_spread_21 : decode cX9_spread 21 = .ok (.iadd, 1) := by decide +kernel
theorem dX9_spread_22 : decode cX9_spread 22 = .ok (.iaload, 1) := by decide +kernel
theorem dX9_spread_23 : decode cX9_spread 23 = .ok (.aload_n 0, 1) := by decide +kernel
theorem dX9_spread_24 : decode cX9_spread 24 = .ok (.getfield 44, 3) := by decide +kernel
theorem dX9_spread_27 : decode cX9_spread 27 = .ok (.iload_n 3, 1) := by decide +kernel
theorem dX9_spread_28 : decode cX9_spread 28 = .ok (.iaload, 1) := by decide +kernel
theorem dX9_spread_29 : decode cX9_spread 29 = .ok (.invokestatic 114, 3) := by decide +kernel
theorem dX9_spread_32 : decode cX9_spread 32 = .ok (.iadd, 1) := by decide +kernel
theorem dX9_spread_33 : decode cX9_spread 33 = .ok (.istore_n 2, 1) := by decide +kernel
theorem dX9_spread_34 : decode cX9_spread 34 = .ok (.iinc 3 1, 3) := by decide +kernel
theorem dX9_spread_37 : decode cX9_spread 37 = .ok (.goto (-33), 3) := by decide +kernel
theorem dX9_spread_40 : decode cX9_spread 40 = .ok (.iload_n 2, 1) := by decide +kernel
theorem dX9_spread_41 : decode cX9_spread 41 = .ok (.ireturn, 1) := by decide +kernel
theorem dX9_told_0 : decode cX9_told 0 = .ok (.iconst 0, 1) := by decide +kernel
theorem dX9_told_1 : decode cX9_told 1 = .ok (.istore_n 2, 1) := by decide +kernel
theorem dX9_told_2 : decode cX9_told 2 = .ok (.iconst 0, 1) := by decide +kernel
theorem dX9_told_3 : decode cX9_told 3 = .ok (.istore_n 3, 1) := by decide +kernel
theorem dX9_told_4 : decode cX9_told 4 = .ok (.iload_n 3, 1) := by decide +kernel
theorem dX9_told_5 : decode cX9_told 5 = .ok (.aload_n 0, 1) := by decide +kernel
theorem dX9_told_6 : decode cX9_told 6 = .ok (.getfield 131, 3) := by decide +kernel
theorem dX9_told_9 : decode cX9_told 9 = .ok (.if_icmp .ge 32, 3) := by decide +kernel
theorem dX9_told_12 : decode cX9_told 12 = .ok (.iload_n 2, 1) := by decide +kernel
theorem dX9_told_13 : decode cX9_told 13 = .ok (.iload_n 1, 1) := by decide +kernel
theorem dX9_told_14 : decode cX9_told 14 = .ok (.iload_n 3, 1) := by decide +kernel
theorem dX9_told_15 : decode cX9_told 15 = .ok (.invokestatic 94, 3) := by decide +kernel
theorem dX9_told_18 : decode cX9_told 18 = .ok (.ifCond .eq 14, 3) := by decide +kernel
theorem dX9_told_21 : decode cX9_told 21 = .ok (.iconst 1, 1) := by decide +kernel
theorem dX9_told_22 : decode cX9_told 22 = .ok (.aload_n 0, 1) := by decide +kernel
theorem dX9_told_23 : decode cX9_told 23 = .ok (.getfield 47, 3) := by decide +kernel
theorem dX9_told_26 : decode cX9_told 26 = .ok (.iload_n 3, 1) := by decide +kernel
theorem dX9_told_27 : decode cX9_told 27 = .ok (.iaload, 1) := by decide +kernel
theorem dX9_told_28 : decode cX9_told 28 = .ok (.ishl, 1) := by decide +kernel
theorem dX9_told_29 : decode cX9_told 29 = .ok (.goto 4, 3) := by decide +kernel
theorem dX9_told_32 : decode cX9_told 32 = .ok (.iconst 0, 1) := by decide +kernel
theorem dX9_told_33 : decode cX9_told 33 = .ok (.ior, 1) := by decide +kernel
theorem dX9_told_34 : decode cX9_told 34 = .ok (.istore_n 2, 1) := by decide +kernel
theorem dX9_told_35 : decode cX9_told 35 = .ok (.iinc 3 1, 3) := by decide +kernel
theorem dX9_told_38 : decode cX9_told 38 = .ok (.goto (-34), 3) := by decide +kernel
theorem dX9_told_41 : decode cX9_told 41 = .ok (.iload_n 2, 1) := by decide +kernel
theorem dX9_told_42 : decode cX9_told 42 = .ok (.ireturn, 1) := by decide +kernel
theorem dX9_isAhead_0 : decode cX9_isAhead 0 = .ok (.iload_n 0, 1) := by decide +kernel
theorem dX9_isAhead_1 : decode cX9_isAhead 1 = .ok (.iload_n 1, 1) := by decide +kernel
theorem dX9_isAhead_2 : decode cX9_isAhead 2 = .ok (.ixor, 1) := by decide +kernel
theorem dX9_isAhead_3 : decode cX9_isAhead 3 = .ok (.iload_n 0, 1) := by decide +kernel
theorem dX9_isAhead_4 : decode cX9_isAhead 4 = .ok (.iload_n 1, 1) := by decide +kernel
theorem dX9_isAhead_5 : decode cX9_isAhead 5 = .ok (.ixor, 1) := by decide +kernel
theorem dX9_isAhead_6 : decode cX9_isAhead 6 = .ok (.ineg, 1) := by decide +kernel
theorem dX9_isAhead_7 : decode cX9_isAhead 7 = .ok (.iand, 1) := by decide +kernel
theorem dX9_isAhead_8 : decode cX9_isAhead 8 = .ok (.istore_n 2, 1) := by decide +kernel
theorem dX9_isAhead_9 : decode cX9_isAhead 9 = .ok (.iload_n 0, 1) := by decide +kernel
theorem dX9_isAhead_10 : decode cX9_isAhead 10 = .ok (.iload_n 2, 1) := by decide +kernel
theorem dX9_isAhead_11 : decode cX9_isAhead 11 = .ok (.iand, 1) := by decide +kernel
theorem dX9_isAhead_12 : decode cX9_isAhead 12 = .ok (.ifCond .eq 7, 3) := by decide +kernel
theorem dX9_isAhead_15 : decode cX9_isAhead 15 = .ok (.iconst 1, 1) := by decide +kernel
theorem dX9_isAhead_16 : decode cX9_isAhead 16 = .ok (.goto 4, 3) := by decide +kernel
theorem dX9_isAhead_19 : decode cX9_isAhead 19 = .ok (.iconst 0, 1) := by decide +kernel
theorem dX9_isAhead_20 : decode cX9_isAhead 20 = .ok (.ireturn, 1) := by decide +kernel
theorem dX9_best_0 : decode cX9_best 0 = .ok (.aload_n 0, 1) := by decide +kernel
theorem dX9_best_1 : decode cX9_best 1 = .ok (.invokevirtual 127, 3) := by decide +kernel
theorem dX9_best_4 : decode cX9_best 4 = .ok (.bipush 16, 2) := by decide +kernel
theorem dX9_best_6 : decode cX9_best 6 = .ok (.if_icmp .le 5, 3) := by decide +kernel
theorem dX9_best_9 : decode cX9_best 9 = .ok (.iconst (-1), 1) := by decide +kernel
theorem dX9_best_10 : decode cX9_best 10 = .ok (.ireturn, 1) := by decide +kernel
theorem dX9_best_11 : decode cX9_best 11 = .ok (.aload_n 0, 1) := by decide +kernel
theorem dX9_best_12 : decode cX9_best 12 = .ok (.invokevirtual 137, 3) := by decide +kernel
theorem dX9_best_15 : decode cX9_best 15 = .ok (.iconst (-1), 1) := by decide +kernel
theorem dX9_best_16 : decode cX9_best 16 = .ok (.istore_n 1, 1) := by decide +kernel
theorem dX9_best_17 : decode cX9_best 17 = .ok (.iconst 0, 1) := by decide +kernel
theorem dX9_best_18 : decode cX9_best 18 = .ok (.istore_n 2, 1) := by decide +kernel
theorem dX9_best_19 : decode cX9_best 19 = .ok (.iconst 0, 1) := by decide +kernel
theorem dX9_best_20 : decode cX9_best 20 = .ok (.istore_n 3, 1) := by decide +kernel
theorem dX9_best_21 : decode cX9_best 21 = .ok (.iconst 0, 1) := by decide +kernel
theorem dX9_best_22 : decode cX9_best 22 = .ok (.istore 4, 2) := by decide +kernel
theorem dX9_best_24 : decode cX9_best 24 = .ok (.iload 4, 2) := by decide +kernel
theorem dX9_best_26 : decode cX9_best 26 = .ok (.iconst 1, 1) := by decide +kernel
theorem dX9_best_27 : decode cX9_best 27 = .ok (.aload_n 0, 1) := by decide +kernel
theorem dX9_best_28 : decode cX9_best 28 = .ok (.getfield 131, 3) := by decide +kernel
theorem dX9_best_31 : decode cX9_best 31 = .ok (.ishl, 1) := by decide +kernel
theorem dX9_best_32 : decode cX9_best 32 = .ok (.if_icmp .ge 91, 3) := by decide +kernel
theorem dX9_best_35 : decode cX9_best 35 = .ok (.aload_n 0, 1) := by decide +kernel
theorem dX9_best_36 : decode cX9_best 36 = .ok (.iload 4, 2) := by decide +kernel
theorem dX9_best_38 : decode cX9_best 38 = .ok (.invokevirtual 140, 3) := by decide +kernel
theorem dX9_best_41 : decode cX9_best 41 = .ok (.ifCond .ne 6, 3) := by decide +kernel
theorem dX9_best_44 : decode cX9_best 44 = .ok (.goto 73, 3) := by decide +kernel
theorem dX9_best_47 : decode cX9_best 47 = .ok (.aload_n 0, 1) := by decide +kernel
theorem dX9_best_48 : decode cX9_best 48 = .ok (.iload 4, 2) := by decide +kernel
theorem dX9_best_50 : decode cX9_best 50 = .ok (.invokevirtual 143, 3) := by decide +kernel
theorem dX9_best_53 : decode cX9_best 53 = .ok (.istore 5, 2) := by decide +kernel
theorem dX9_best_55 : decode cX9_best 55 = .ok (.aload_n 0, 1) := by decide +kernel
theorem dX9_best_56 : decode cX9_best 56 = .ok (.getfield 51, 3) := by decide +kernel
theorem dX9_best_59 : decode cX9_best 59 = .ok (.bipush 10, 2) := by decide +kernel
theorem dX9_best_61 : decode cX9_best 61 = .ok (.iload 4, 2) := by decide +kernel
theorem dX9_best_63 : decode cX9_best 63 = .ok (.imul, 1) := by decide +kernel
theorem dX9_best_64 : decode cX9_best 64 = .ok (.iaload, 1) := by decide +kernel
theorem dX9_best_65 : decode cX9_best 65 = .ok (.istore 6, 2) := by decide +kernel
theorem dX9_best_67 : decode cX9_best 67 = .ok (.iload_n 1, 1) := by decide +kernel
theorem dX9_best_68 : decode cX9_best 68 = .ok (.iconst (-1), 1) := by decide +kernel
theorem dX9_best_69 : decode cX9_best 69 = .ok (.if_icmp .eq 39, 3) := by decide +kernel
theorem dX9_best_72 : decode cX9_best 72 = .ok (.iload 5, 2) := by decide +kernel
theorem dX9_best_74 : decode cX9_best 74 = .ok (.iload_n 2, 1) := by decide +kernel
theorem dX9_best_75 : decode cX9_best 75 = .ok (.if_icmp .gt 42, 3) := by decide +kernel
theorem dX9_best_78 : decode cX9_best 78 = .ok (.iload 5, 2) := by decide +kernel
theorem dX9_best_80 : decode cX9_best 80 = .ok (.iload_n 2, 1) := by decide +kernel
theorem dX9_best_81 : decode cX9_best 81 = .ok (.if_icmp .ne 27, 3) := by decide +kernel
theorem dX9_best_84 : decode cX9_best 84 = .ok (.iload 6, 2) := by decide +kernel
theorem dX9_best_86 : decode cX9_best 86 = .ok (.iload_n 3, 1) := by decide +kernel
theorem dX9_best_87 : decode cX9_best 87 = .ok (.if_icmp .gt 30, 3) := by decide +kernel
theorem dX9_best_90 : decode cX9_best 90 = .ok (.iload 6, 2) := by decide +kernel
theorem dX9_best_92 : decode cX9_best 92 = .ok (.iload_n 3, 1) := by decide +kernel
theorem dX9_best_93 : decode cX9_best 93 = .ok (.if_icmp .ne 15, 3) := by decide +kernel
theorem dX9_best_96 : decode cX9_best 96 = .ok (.iload 4, 2) := by decide +kernel
theorem dX9_best_98 : decode cX9_best 98 = .ok (.iload_n 1, 1) := by decide +kernel
theorem dX9_best_99 : decode cX9_best 99 = .ok (.invokestatic 146, 3) := by decide +kernel
theorem dX9_best_102 : decode cX9_best 102 = .ok (.ifCond .ne 6, 3) := by decide +kernel
theorem dX9_best_105 : decode cX9_best 105 = .ok (.goto 12, 3) := by decide +kernel
theorem dX9_best_108 : decode cX9_best 108 = .ok (.iload 4, 2) := by decide +kernel
theorem dX9_best_110 : decode cX9_best 110 = .ok (.istore_n 1, 1) := by decide +kernel
theorem dX9_best_111 : decode cX9_best 111 = .ok (.iload 5, 2) := by decide +kernel
theorem dX9_best_113 : decode cX9_best 113 = .ok (.istore_n 2, 1) := by decide +kernel
theorem dX9_best_114 : decode cX9_best 114 = .ok (.iload 6, 2) := by decide +kernel
theorem dX9_best_116 : decode cX9_best 116 = .ok (.istore_n 3, 1) := by decide +kernel
theorem dX9_best_117 : decode cX9_best 117 = .ok (.iinc 4 1, 3) := by decide +kernel
theorem dX9_best_120 : decode cX9_best 120 = .ok (.goto (-96), 3) := by decide +kernel
theorem dX9_best_123 : decode cX9_best 123 = .ok (.iload_n 1, 1) := by decide +kernel
theorem dX9_best_124 : decode cX9_best 124 = .ok (.iconst (-1), 1) := by decide +kernel
theorem dX9_best_125 : decode cX9_best 125 = .ok (.if_icmp .ne 8, 3) := by decide +kernel
theorem dX9_best_128 : decode cX9_best 128 = .ok (.bipush (-2), 2) := by decide +kernel
theorem dX9_best_130 : decode cX9_best 130 = .ok (.goto 8, 3) := by decide +kernel
theorem dX9_best_133 : decode cX9_best 133 = .ok (.aload_n 0, 1) := by decide +kernel
theorem dX9_best_134 : decode cX9_best 134 = .ok (.iload_n 1, 1) := by decide +kernel
theorem dX9_best_135 : decode cX9_best 135 = .ok (.invokevirtual 149, 3) := by decide +kernel
theorem dX9_best_138 : decode cX9_best 138 = .ok (.ireturn, 1) := by decide +kernel
theorem dX9_isKept_0 : decode cX9_isKept 0 = .ok (.iconst 0, 1) := by decide +kernel
theorem dX9_isKept_1 : decode cX9_isKept 1 = .ok (.istore_n 2, 1) := by decide +kernel
theorem dX9_isKept_2 : decode cX9_isKept 2 = .ok (.iload_n 2, 1) := by decide +kernel
theorem dX9_isKept_3 : decode cX9_isKept 3 = .ok (.sipush 1024, 3) := by decide +kernel
theorem dX9_isKept_6 : decode cX9_isKept 6 = .ok (.if_icmp .ge 26, 3) := by decide +kernel
theorem dX9_isKept_9 : decode cX9_isKept 9 = .ok (.aload_n 0, 1) := by decide +kernel
theorem dX9_isKept_10 : decode cX9_isKept 10 = .ok (.getfield 68, 3) := by decide +kernel
theorem dX9_isKept_13 : decode cX9_isKept 13 = .ok (.iload_n 2, 1) := by decide +kernel
theorem dX9_isKept_14 : decode cX9_isKept 14 = .ok (.baload, 1) := by decide +kernel
theorem dX9_isKept_15 : decode cX9_isKept 15 = .ok (.ifCond .eq 11, 3) := by decide +kernel
theorem dX9_isKept_18 : decode cX9_isKept 18 = .ok (.iload_n 2, 1) := by decide +kernel
theorem dX9_isKept_19 : decode cX9_isKept 19 = .ok (.iload_n 1, 1) := by decide +kernel
theorem dX9_isKept_20 : decode cX9_isKept 20 = .ok (.iand, 1) := by decide +kernel
theorem dX9_isKept_21 : decode cX9_isKept 21 = .ok (.ifCond .ne 5, 3) := by decide +kernel
theorem dX9_isKept_24 : decode cX9_isKept 24 = .ok (.iconst 1, 1) := by decide +kernel
theorem dX9_isKept_25 : decode cX9_isKept 25 = .ok (.ireturn, 1) := by decide +kernel
theorem dX9_isKept_26 : decode cX9_isKept 26 = .ok (.iinc 2 1, 3) := by decide +kernel
theorem dX9_isKept_29 : decode cX9_isKept 29 = .ok (.goto (-27), 3) := by decide +kernel
theorem dX9_isKept_32 : decode cX9_isKept 32 = .ok (.iconst 0, 1) := by decide +kernel
theorem dX9_isKept_33 : decode cX9_isKept 33 = .ok (.ireturn, 1) := by decide +kernel
theorem dX9_why_0 : decode cX9_why 0 = .ok (.aload_n 0, 1) := by decide +kernel
theorem dX9_why_1 : decode cX9_why 1 = .ok (.invokevirtual 127, 3) := by decide +kernel
theorem dX9_why_4 : decode cX9_why 4 = .ok (.bipush 16, 2) := by decide +kernel
theorem dX9_why_6 : decode cX9_why 6 = .ok (.if_icmp .le 5, 3) := by decide +kernel
theorem dX9_why_9 : decode cX9_why 9 = .ok (.iconst (-1), 1) := by decide +kernel
theorem dX9_why_10 : decode cX9_why 10 = .ok (.ireturn, 1) := by decide +kernel
theorem dX9_why_11 : decode cX9_why 11 = .ok (.aload_n 0, 1) := by decide +kernel
theorem dX9_why_12 : decode cX9_why 12 = .ok (.invokevirtual 137, 3) := by decide +kernel
theorem dX9_why_15 : decode cX9_why 15 = .ok (.iconst 0, 1) := by decide +kernel
theorem dX9_why_16 : decode cX9_why 16 = .ok (.istore_n 1, 1) := by decide +kernel
theorem dX9_why_17 : decode cX9_why 17 = .ok (.iload_n 1, 1) := by decide +kernel
theorem dX9_why_18 : decode cX9_why 18 = .ok (.sipush 1024, 3) := by decide +kernel
theorem dX9_why_21 : decode cX9_why 21 = .ok (.if_icmp .ge 16, 3) := by decide +kernel
theorem dX9_why_24 : decode cX9_why 24 = .ok (.aload_n 0, 1) := by decide +kernel
theorem dX9_why_25 : decode cX9_why 25 = .ok (.getfield 68, 3) := by decide +kernel
theorem dX9_why_28 : decode cX9_why 28 = .ok (.iload_n 1, 1) := by decide +kernel
theorem dX9_why_29 : decode cX9_why 29 = .ok (.iconst 0, 1) := by decide +kernel
theorem dX9_why_30 : decode cX9_why 30 = .ok (.bastore, 1) := by decide +kernel
theorem dX9_why_31 : decode cX9_why 31 = .ok (.iinc 1 1, 3) := by decide +kernel
theorem dX9_why_34 : decode cX9_why 34 = .ok (.goto (-17), 3) := by decide +kernel
theorem dX9_why_37 : decode cX9_why 37 = .ok (.iconst 0, 1) := by decide +kernel
theorem dX9_why_38 : decode cX9_why 38 = .ok (.istore_n 1, 1) := by decide +kernel
theorem dX9_why_39 : decode cX9_why 39 = .ok (.iload_n 1, 1) := by decide +kernel
theorem dX9_why_40 : decode cX9_why 40 = .ok (.iconst 1, 1) := by decide +kernel
theorem dX9_why_41 : decode cX9_why 41 = .ok (.aload_n 0, 1) := by decide +kernel
theorem dX9_why_42 : decode cX9_why 42 = .ok (.getfield 131, 3) := by decide +kernel
theorem dX9_why_45 : decode cX9_why 45 = .ok (.ishl, 1) := by decide +kernel
theorem dX9_why_46 : decode cX9_why 46 = .ok (.if_icmp .ge 30, 3) := by decide +kernel
theorem dX9_why_49 : decode cX9_why 49 = .ok (.aload_n 0, 1) := by decide +kernel
theorem dX9_why_50 : decode cX9_why 50 = .ok (.getfield 55, 3) := by decide +kernel
theorem dX9_why_53 : decode cX9_why 53 = .ok (.iload_n 1, 1) := by decide +kernel
theorem dX9_why_54 : decode cX9_why 54 = .ok (.baload, 1) := by decide +kernel
theorem dX9_why_55 : decode cX9_why 55 = .ok (.ifCond .eq 15, 3) := by decide +kernel
theorem dX9_why_58 : decode cX9_why 58 = .ok (.aload_n 0, 1) := by decide +kernel
theorem dX9_why_59 : decode cX9_why 59 = .ok (.getfield 68, 3) := by decide +kernel
theorem dX9_why_62 : decode cX9_why 62 = .ok (.aload_n 0, 1) := by decide +kernel
theorem dX9_why_63 : decode cX9_why 63 = .ok (.getfield 59, 3) := by decide +kernel
theorem dX9_why_66 : decode cX9_why 66 = .ok (.iload_n 1, 1) := by decide +kernel
theorem dX9_why_67 : decode cX9_why 67 = .ok (.iaload, 1) := by decide +kernel
theorem dX9_why_68 : decode cX9_why 68 = .ok (.iconst 1, 1) := by decide +kernel
theorem dX9_why_69 : decode cX9_why 69 = .ok (.bastore, 1) := by decide +kernel
theorem dX9_why_70 : decode cX9_why 70 = .ok (.iinc 1 1, 3) := by decide +kernel
theorem dX9_why_73 : decode cX9_why 73 = .ok (.goto (-34), 3) := by decide +kernel
theorem dX9_why_76 : decode cX9_why 76 = .ok (.aload_n 0, 1) := by decide +kernel
theorem dX9_why_77 : decode cX9_why 77 = .ok (.getfield 68, 3) := by decide +kernel
theorem dX9_why_80 : decode cX9_why 80 = .ok (.iconst 0, 1) := by decide +kernel
theorem dX9_why_81 : decode cX9_why 81 = .ok (.baload, 1) := by decide +kernel
theorem dX9_why_82 : decode cX9_why 82 = .ok (.ifCond .eq 5, 3) := by decide +kernel
theorem dX9_why_85 : decode cX9_why 85 = .ok (.iconst 0, 1) := by decide +kernel
theorem dX9_why_86 : decode cX9_why 86 = .ok (.ireturn, 1) := by decide +kernel
theorem dX9_why_87 : decode cX9_why 87 = .ok (.sipush 1023, 3) := by decide +kernel
theorem dX9_why_90 : decode cX9_why 90 = .ok (.istore_n 1, 1) := by decide +kernel
theorem dX9_why_91 : decode cX9_why 91 = .ok (.sipush 1023, 3) := by decide +kernel
theorem dX9_why_94 : decode cX9_why 94 = .ok (.istore_n 2, 1) := by decide +kernel
theorem dX9_why_95 : decode cX9_why 95 = .ok (.iload_n 2, 1) := by decide +kernel
theorem dX9_why_96 : decode cX9_why 96 = .ok (.ifCond .le 30, 3) := by decide +kernel
theorem dX9_why_99 : decode cX9_why 99 = .ok (.iload_n 2, 1) := by decide +kernel
theorem dX9_why_100 : decode cX9_why 100 = .ok (.invokestatic 152, 3) := by decide +kernel
theorem dX9_why_103 : decode cX9_why 103 = .ok (.iload_n 1, 1) := by decide +kernel
theorem dX9_why_104 : decode cX9_why 104 = .ok (.invokestatic 152, 3) := by decide +kernel
theorem dX9_why_107 : decode cX9_why 107 = .ok (.if_icmp .gt 13, 3) := by decide +kernel
theorem dX9_why_110 : decode cX9_why 110 = .ok (.aload_n 0, 1) := by decide +kernel
theorem dX9_why_111 : decode cX9_why 111 = .ok (.iload_n 2, 1) := by decide +kernel
theorem dX9_why_112 : decode cX9_why 112 = .ok (.invokevirtual 155, 3) := by decide +kernel
theorem dX9_why_115 : decode cX9_why 115 = .ok (.ifCond .ne 5, 3) := by decide +kernel
theorem dX9_why_118 : decode cX9_why 118 = .ok (.iload_n 2, 1) := by decide +kernel
theorem dX9_why_119 : decode cX9_why 119 = .ok (.istore_n 1, 1) := by decide +kernel
theorem dX9_why_120 : decode cX9_why 120 = .ok (.iinc 2 (-1), 3) := by decide +kernel
theorem dX9_why_123 : decode cX9_why 123 = .ok (.goto (-28), 3) := by decide +kernel
theorem dX9_why_126 : decode cX9_why 126 = .ok (.iload_n 1, 1) := by decide +kernel
theorem dX9_why_127 : decode cX9_why 127 = .ok (.ireturn, 1) := by decide +kernel
theorem dX9_versions_0 : decode cX9_versions 0 = .ok (.iload_n 1, 1) := by decide +kernel
theorem dX9_versions_1 : decode cX9_versions 1 = .ok (.iconst 0, 1) := by decide +kernel
theorem dX9_versions_2 : decode cX9_versions 2 = .ok (.sipush 1000, 3) := by decide +kernel
theorem dX9_versions_5 : decode cX9_versions 5 = .ok (.invokestatic 86, 3) := by decide +kernel
theorem dX9_versions_8 : decode cX9_versions 8 = .ok (.ifCond .eq 12, 3) := by decide +kernel
theorem dX9_versions_11 : decode cX9_versions 11 = .ok (.aload_n 0, 1) := by decide +kernel
theorem dX9_versions_12 : decode cX9_versions 12 = .ok (.invokevirtual 127, 3) := by decide +kernel
theorem dX9_versions_15 : decode cX9_versions 15 = .ok (.bipush 10, 2) := by decide +kernel
theorem dX9_versions_17 : decode cX9_versions 17 = .ok (.if_icmp .le 5, 3) := by decide +kernel
theorem dX9_versions_20 : decode cX9_versions 20 = .ok (.iconst (-1), 1) := by decide +kernel
theorem dX9_versions_21 : decode cX9_versions 21 = .ok (.ireturn, 1) := by decide +kernel
theorem dX9_versions_22 : decode cX9_versions 22 = .ok (.aload_n 0, 1) := by decide +kernel
theorem dX9_versions_23 : decode cX9_versions 23 = .ok (.invokevirtual 137, 3) := by decide +kernel
theorem dX9_versions_26 : decode cX9_versions 26 = .ok (.aload_n 0, 1) := by decide +kernel
theorem dX9_versions_27 : decode cX9_versions 27 = .ok (.iconst 0, 1) := by decide +kernel
theorem dX9_versions_28 : decode cX9_versions 28 = .ok (.putfield 158, 3) := by decide +kernel
theorem dX9_versions_31 : decode cX9_versions 31 = .ok (.iconst 0, 1) := by decide +kernel
theorem dX9_versions_32 : decode cX9_versions 32 = .ok (.istore_n 2, 1) := by decide +kernel
theorem dX9_versions_33 : decode cX9_versions 33 = .ok (.iconst 0, 1) := by decide +kernel
theorem dX9_versions_34 : decode cX9_versions 34 = .ok (.istore_n 3, 1) := by decide +kernel
theorem dX9_versions_35 : decode cX9_versions 35 = .ok (.iconst 0, 1) := by decide +kernel
theorem dX9_versions_36 : decode cX9_versions 36 = .ok (.istore 4, 2) := by decide +kernel
theorem dX9_versions_38 : decode cX9_versions 38 = .ok (.iconst 0, 1) := by decide +kernel
theorem dX9_versions_39 : decode cX9_versions 39 = .ok (.istore 5, 2) := by decide +kernel
theorem dX9_versions_41 : decode cX9_versions 41 = .ok (.iconst 1, 1) := by decide +kernel
theorem dX9_versions_42 : decode cX9_versions 42 = .ok (.istore 6, 2) := by decide +kernel
theorem dX9_versions_44 : decode cX9_versions 44 = .ok (.iload 6, 2) := by decide +kernel
theorem dX9_versions_46 : decode cX9_versions 46 = .ok (.iconst 1, 1) := by decide +kernel
theorem dX9_versions_47 : decode cX9_versions 47 = .ok (.aload_n 0, 1) := by decide +kernel
theorem dX9_versions_48 : decode cX9_versions 48 = .ok (.getfield 131, 3) := by decide +kernel
theorem dX9_versions_51 : decode cX9_versions 51 = .ok (.ishl, 1) := by decide +kernel
theorem dX9_versions_52 : decode cX9_versions 52 = .ok (.if_icmp .ge 255, 3) := by decide +kernel
theorem dX9_versions_55 : decode cX9_versions 55 = .ok (.aload_n 0, 1) := by decide +kernel
theorem dX9_versions_56 : decode cX9_versions 56 = .ok (.iload 6, 2) := by decide +kernel
theorem dX9_versions_58 : decode cX9_versions 58 = .ok (.invokevirtual 140, 3) := by decide +kernel
theorem dX9_versions_61 : decode cX9_versions 61 = .ok (.ifCond .ne 6, 3) := by decide +kernel
theorem dX9_versions_64 : decode cX9_versions 64 = .ok (.goto 237, 3) := by decide +kernel
theorem dX9_versions_67 : decode cX9_versions 67 = .ok (.iconst 1, 1) := by decide +kernel
theorem dX9_versions_68 : decode cX9_versions 68 = .ok (.istore 7, 2) := by decide +kernel
theorem dX9_versions_70 : decode cX9_versions 70 = .ok (.iload 7, 2) := by decide +kernel
theorem dX9_versions_72 : decode cX9_versions 72 = .ok (.iconst 1, 1) := by decide +kernel
theorem dX9_versions_73 : decode cX9_versions 73 = .ok (.aload_n 0, 1) := by decide +kernel
theorem dX9_versions_74 : decode cX9_versions 74 = .ok (.getfield 131, 3) := by decide +kernel
theorem dX9_versions_77 : decode cX9_versions 77 = .ok (.ishl, 1) := by decide +kernel
theorem dX9_versions_78 : decode cX9_versions 78 = .ok (.if_icmp .ge 223, 3) := by decide +kernel
theorem dX9_versions_81 : decode cX9_versions 81 = .ok (.iload 6, 2) := by decide +kernel
theorem dX9_versions_83 : decode cX9_versions 83 = .ok (.iload 7, 2) := by decide +kernel
theorem dX9_versions_85 : decode cX9_versions 85 = .ok (.iand, 1) := by decide +kernel
theorem dX9_versions_86 : decode cX9_versions 86 = .ok (.ifCond .ne 209, 3) := by decide +kernel
theorem dX9_versions_89 : decode cX9_versions 89 = .ok (.aload_n 0, 1) := by decide +kernel
theorem dX9_versions_90 : decode cX9_versions 90 = .ok (.iload 7, 2) := by decide +kernel
theorem dX9_versions_92 : decode cX9_versions 92 = .ok (.invokevirtual 140, 3) := by decide +kernel
theorem dX9_versions_95 : decode cX9_versions 95 = .ok (.ifCond .eq 200, 3) := by decide +kernel
theorem dX9_versions_98 : decode cX9_versions 98 = .ok (.iload 6, 2) := by decide +kernel
theorem dX9_versions_100 : decode cX9_versions 100 = .ok (.iload 7, 2) := by decide +kernel
theorem dX9_versions_102 : decode cX9_versions 102 = .ok (.invokestatic 146, 3) := by decide +kernel
theorem dX9_versions_105 : decode cX9_versions 105 = .ok (.ifCond .ne 6, 3) := by decide +kernel
theorem dX9_versions_108 : decode cX9_versions 108 = .ok (.goto 187, 3) := by decide +kernel
theorem dX9_versions_111 : decode cX9_versions 111 = .ok (.aload_n 0, 1) := by decide +kernel
theorem dX9_versions_112 : decode cX9_versions 112 = .ok (.getfield 51, 3) := by decide +kernel
theorem dX9_versions_115 : decode cX9_versions 115 = .ok (.bipush 10, 2) := by decide +kernel
theorem dX9_versions_117 : decode cX9_versions 117 = .ok (.iload 6, 2) := by decide +kernel
theorem dX9_versions_119 : decode cX9_versions 119 = .ok (.imul, 1) := by decide +kernel
theorem dX9_versions_120 : decode cX9_versions 120 = .ok (.iconst 2, 1) := by decide +kernel
theorem dX9_versions_121 : decode cX9_versions 121 = .ok (.iadd, 1) := by decide +kernel
theorem dX9_versions_122 : decode cX9_versions 122 = .ok (.iaload, 1) := by decide +kernel
theorem dX9_versions_123 : decode cX9_versions 123 = .ok (.aload_n 0, 1) := by decide +kernel
theorem dX9_versions_124 : decode cX9_versions 124 = .ok (.getfield 51, 3) := by decide +kernel
theorem dX9_versions_127 : decode cX9_versions 127 = .ok (.bipush 10, 2) := by decide +kernel
theorem dX9_versions_129 : decode cX9_versions 129 = .ok (.iload 7, 2) := by decide +kernel
theorem dX9_versions_131 : decode cX9_versions 131 = .ok (.imul, 1) := by decide +kernel
theorem dX9_versions_132 : decode cX9_versions 132 = .ok (.iconst 2, 1) := by decide +kernel
theorem dX9_versions_133 : decode cX9_versions 133 = .ok (.iadd, 1) := by decide +kernel
theorem dX9_versions_134 : decode cX9_versions 134 = .ok (.iaload, 1) := by decide +kernel
theorem dX9_versions_135 : decode cX9_versions 135 = .ok (.invokestatic 114, 3) := by decide +kernel
theorem dX9_versions_138 : decode cX9_versions 138 = .ok (.iload_n 1, 1) := by decide +kernel
theorem dX9_versions_139 : decode cX9_versions 139 = .ok (.if_icmp .gt 156, 3) := by decide +kernel
theorem dX9_versions_142 : decode cX9_versions 142 = .ok (.aload_n 0, 1) := by decide +kernel
theorem dX9_versions_143 : decode cX9_versions 143 = .ok (.getfield 51, 3) := by decide +kernel
theorem dX9_versions_146 : decode cX9_versions 146 = .ok (.bipush 10, 2) := by decide +kernel
theorem dX9_versions_148 : decode cX9_versions 148 = .ok (.iload 6, 2) := by decide +kernel
theorem dX9_versions_150 : decode cX9_versions 150 = .ok (.imul, 1) := by decide +kernel
theorem dX9_versions_151 : decode cX9_versions 151 = .ok (.iconst 1, 1) := by decide +kernel
theorem dX9_versions_152 : decode cX9_versions 152 = .ok (.iadd, 1) := by decide +kernel
theorem dX9_versions_153 : decode cX9_versions 153 = .ok (.iaload, 1) := by decide +kernel
theorem dX9_versions_154 : decode cX9_versions 154 = .ok (.aload_n 0, 1) := by decide +kernel
theorem dX9_versions_155 : decode cX9_versions 155 = .ok (.getfield 51, 3) := by decide +kernel
theorem dX9_versions_158 : decode cX9_versions 158 = .ok (.bipush 10, 2) := by decide +kernel
theorem dX9_versions_160 : decode cX9_versions 160 = .ok (.iload 7, 2) := by decide +kernel
theorem dX9_versions_162 : decode cX9_versions 162 = .ok (.imul, 1) := by decide +kernel
theorem dX9_versions_163 : decode cX9_versions 163 = .ok (.iconst 1, 1) := by decide +kernel
theorem dX9_versions_164 : decode cX9_versions 164 = .ok (.iadd, 1) := by decide +kernel
theorem dX9_versions_165 : decode cX9_versions 165 = .ok (.iaload, 1) := by decide +kernel
theorem dX9_versions_166 : decode cX9_versions 166 = .ok (.invokestatic 114, 3) := by decide +kernel
theorem dX9_versions_169 : decode cX9_versions 169 = .ok (.iload_n 1, 1) := by decide +kernel
theorem dX9_versions_170 : decode cX9_versions 170 = .ok (.if_icmp .le 6, 3) := by decide +kernel
theorem dX9_versions_173 : decode cX9_versions 173 = .ok (.goto 122, 3) := by decide +kernel
theorem dX9_versions_176 : decode cX9_versions 176 = .ok (.aload_n 0, 1) := by decide +kernel
theorem dX9_versions_177 : decode cX9_versions 177 = .ok (.iload 6, 2) := by decide +kernel
theorem dX9_versions_179 : decode cX9_versions 179 = .ok (.invokevirtual 143, 3) := by decide +kernel
theorem dX9_versions_182 : decode cX9_versions 182 = .ok (.aload_n 0, 1) := by decide +kernel
theorem dX9_versions_183 : decode cX9_versions 183 = .ok (.iload 7, 2) := by decide +kernel
theorem dX9_versions_185 : decode cX9_versions 185 = .ok (.invokevirtual 143, 3) := by decide +kernel
theorem dX9_versions_188 : decode cX9_versions 188 = .ok (.iadd, 1) := by decide +kernel
theorem dX9_versions_189 : decode cX9_versions 189 = .ok (.istore 8, 2) := by decide +kernel
theorem dX9_versions_191 : decode cX9_versions 191 = .ok (.aload_n 0, 1) := by decide +kernel
theorem dX9_versions_192 : decode cX9_versions 192 = .ok (.getfield 51, 3) := by decide +kernel
theorem dX9_versions_195 : decode cX9_versions 195 = .ok (.bipush 10, 2) := by decide +kernel
theorem dX9_versions_197 : decode cX9_versions 197 = .ok (.iload 6, 2) := by decide +kernel
theorem dX9_versions_199 : decode cX9_versions 199 = .ok (.imul, 1) := by decide +kernel
theorem dX9_versions_200 : decode cX9_versions 200 = .ok (.iaload, 1) := by decide +kernel
theorem dX9_versions_201 : decode cX9_versions 201 = .ok (.aload_n 0, 1) := by decide +kernel
theorem dX9_versions_202 : decode cX9_versions 202 = .ok (.getfield 51, 3) := by decide +kernel
theorem dX9_versions_205 : decode cX9_versions 205 = .ok (.bipush 10, 2) := by decide +kernel
theorem dX9_versions_207 : decode cX9_versions 207 = .ok (.iload 7, 2) := by decide +kernel
theorem dX9_versions_209 : decode cX9_versions 209 = .ok (.imul, 1) := by decide +kernel
theorem dX9_versions_210 : decode cX9_versions 210 = .ok (.iaload, 1) := by decide +kernel
theorem dX9_versions_211 : decode cX9_versions 211 = .ok (.iadd, 1) := by decide +kernel
theorem dX9_versions_212 : decode cX9_versions 212 = .ok (.istore 9, 2) := by decide +kernel
theorem dX9_versions_214 : decode cX9_versions 214 = .ok (.iload_n 2, 1) := by decide +kernel
theorem dX9_versions_215 : decode cX9_versions 215 = .ok (.ifCond .le 27, 3) := by decide +kernel
theorem dX9_versions_218 : decode cX9_versions 218 = .ok (.iload 8, 2) := by decide +kernel
theorem dX9_versions_220 : decode cX9_versions 220 = .ok (.iload 4, 2) := by decide +kernel
theorem dX9_versions_222 : decode cX9_versions 222 = .ok (.if_icmp .gt 73, 3) := by decide +kernel
theorem dX9_versions_225 : decode cX9_versions 225 = .ok (.iload 8, 2) := by decide +kernel
theorem dX9_versions_227 : decode cX9_versions 227 = .ok (.iload 4, 2) := by decide +kernel
theorem dX9_versions_229 : decode cX9_versions 229 = .ok (.if_icmp .ne 13, 3) := by decide +kernel
theorem dX9_versions_232 : decode cX9_versions 232 = .ok (.iload 9, 2) := by decide +kernel
theorem dX9_versions_234 : decode cX9_versions 234 = .ok (.iload 5, 2) := by decide +kernel
theorem dX9_versions_236 : decode cX9_versions 236 = .ok (.if_icmp .le 6, 3) := by decide +kernel
theorem dX9_versions_239 : decode cX9_versions 239 = .ok (.goto 56, 3) := by decide +kernel
theorem dX9_versions_242 : decode cX9_versions 242 = .ok (.iload_n 2, 1) := by decide +kernel
theorem dX9_versions_243 : decode cX9_versions 243 = .ok (.ifCond .le 38, 3) := by decide +kernel
theorem dX9_versions_246 : decode cX9_versions 246 = .ok (.iload 8, 2) := by decide +kernel
theorem dX9_versions_248 : decode cX9_versions 248 = .ok (.iload 4, 2) := by decide +kernel
theorem dX9_versions_250 : decode cX9_versions 250 = .ok (.if_icmp .ne 31, 3) := by decide +kernel
theorem dX9_versions_253 : decode cX9_versions 253 = .ok (.iload 9, 2) := by decide +kernel
theorem dX9_versions_255 : decode cX9_versions 255 = .ok (.iload 5, 2) := by decide +kernel
theorem dX9_versions_257 : decode cX9_versions 257 = .ok (.if_icmp .ne 24, 3) := by decide +kernel
theorem dX9_versions_260 : decode cX9_versions 260 = .ok (.iload 6, 2) := by decide +kernel
theorem dX9_versions_262 : decode cX9_versions 262 = .ok (.iload_n 2, 1) := by decide +kernel
theorem dX9_versions_263 : decode cX9_versions 263 = .ok (.if_icmp .lt 32, 3) := by decide +kernel
theorem dX9_versions_266 : decode cX9_versions 266 = .ok (.iload 6, 2) := by decide +kernel
theorem dX9_versions_268 : decode cX9_versions 268 = .ok (.iload_n 2, 1) := by decide +kernel
theorem dX9_versions_269 : decode cX9_versions 269 = .ok (.if_icmp .ne 12, 3) := by decide +kernel
theorem dX9_versions_272 : decode cX9_versions 272 = .ok (.iload 7, 2) := by decide +kernel
theorem dX9_versions_274 : decode cX9_versions 274 = .ok (.iload_n 3, 1) := by decide +kernel
theorem dX9_versions_275 : decode cX9_versions 275 = .ok (.if_icmp .ge 6, 3) := by decide +kernel
theorem dX9_versions_278 : decode cX9_versions 278 = .ok (.goto 17, 3) := by decide +kernel
theorem dX9_versions_281 : decode cX9_versions 281 = .ok (.iload 6, 2) := by decide +kernel
theorem dX9_versions_283 : decode cX9_versions 283 = .ok (.istore_n 2, 1) := by decide +kernel
theorem dX9_versions_284 : decode cX9_versions 284 = .ok (.iload 7, 2) := by decide +kernel
theorem dX9_versions_286 : decode cX9_versions 286 = .ok (.istore_n 3, 1) := by decide +kernel
theorem dX9_versions_287 : decode cX9_versions 287 = .ok (.iload 8, 2) := by decide +kernel
theorem dX9_versions_289 : decode cX9_versions 289 = .ok (.istore 4, 2) := by decide +kernel
theorem dX9_versions_291 : decode cX9_versions 291 = .ok (.iload 9, 2) := by decide +kernel
theorem dX9_versions_293 : decode cX9_versions 293 = .ok (.istore 5, 2) := by decide +kernel
theorem dX9_versions_295 : decode cX9_versions 295 = .ok (.iinc 7 1, 3) := by decide +kernel
theorem dX9_versions_298 : decode cX9_versions 298 = .ok (.goto (-228), 3) := by decide +kernel
theorem dX9_versions_301 : decode cX9_versions 301 = .ok (.iinc 6 1, 3) := by decide +kernel
theorem dX9_versions_304 : decode cX9_versions 304 = .ok (.goto (-260), 3) := by decide +kernel
theorem dX9_versions_307 : decode cX9_versions 307 = .ok (.aload_n 0, 1) := by decide +kernel
theorem dX9_versions_308 : decode cX9_versions 308 = .ok (.aload_n 0, 1) := by decide +kernel
theorem dX9_versions_309 : decode cX9_versions 309 = .ok (.iload_n 3, 1) := by decide +kernel
theorem dX9_versions_310 : decode cX9_versions 310 = .ok (.invokevirtual 149, 3) := by decide +kernel
theorem dX9_versions_313 : decode cX9_versions 313 = .ok (.putfield 158, 3) := by decide +kernel
theorem dX9_versions_316 : decode cX9_versions 316 = .ok (.iload_n 2, 1) := by decide +kernel
theorem dX9_versions_317 : decode cX9_versions 317 = .ok (.ifCond .ne 8, 3) := by decide +kernel
theorem dX9_versions_320 : decode cX9_versions 320 = .ok (.bipush (-2), 2) := by decide +kernel
theorem dX9_versions_322 : decode cX9_versions 322 = .ok (.goto 8, 3) := by decide +kernel
theorem dX9_versions_325 : decode cX9_versions 325 = .ok (.aload_n 0, 1) := by decide +kernel
theorem dX9_versions_326 : decode cX9_versions 326 = .ok (.iload_n 2, 1) := by decide +kernel
theorem dX9_versions_327 : decode cX9_versions 327 = .ok (.invokevirtual 149, 3) := by decide +kernel
theorem dX9_versions_330 : decode cX9_versions 330 = .ok (.ireturn, 1) := by decide +kernel
theorem dX9_second_0 : decode cX9_second 0 = .ok (.aload_n 0, 1) := by decide +kernel
theorem dX9_second_1 : decode cX9_second 1 = .ok (.getfield 158, 3) := by decide +kernel
theorem dX9_second_4 : decode cX9_second 4 = .ok (.ireturn, 1) := by decide +kernel
theorem dX9_nextRow_0 : decode cX9_nextRow 0 = .ok (.aload_n 0, 1) := by decide +kernel
theorem dX9_nextRow_1 : decode cX9_nextRow 1 = .ok (.getfield 161, 3) := by decide +kernel
theorem dX9_nextRow_4 : decode cX9_nextRow 4 = .ok (.iconst 2, 1) := by decide +kernel
theorem dX9_nextRow_5 : decode cX9_nextRow 5 = .ok (.isub, 1) := by decide +kernel
theorem dX9_nextRow_6 : decode cX9_nextRow 6 = .ok (.istore_n 1, 1) := by decide +kernel
theorem dX9_nextRow_7 : decode cX9_nextRow 7 = .ok (.iload_n 1, 1) := by decide +kernel
theorem dX9_nextRow_8 : decode cX9_nextRow 8 = .ok (.ifCond .lt 26, 3) := by decide +kernel
theorem dX9_nextRow_11 : decode cX9_nextRow 11 = .ok (.aload_n 0, 1) := by decide +kernel
theorem dX9_nextRow_12 : decode cX9_nextRow 12 = .ok (.getfield 74, 3) := by decide +kernel
theorem dX9_nextRow_15 : decode cX9_nextRow 15 = .ok (.iload_n 1, 1) := by decide +kernel
theorem dX9_nextRow_16 : decode cX9_nextRow 16 = .ok (.iaload, 1) := by decide +kernel
theorem dX9_nextRow_17 : decode cX9_nextRow 17 = .ok (.aload_n 0, 1) := by decide +kernel
theorem dX9_nextRow_18 : decode cX9_nextRow 18 = .ok (.getfield 74, 3) := by decide +kernel
theorem dX9_nextRow_21 : decode cX9_nextRow 21 = .ok (.iload_n 1, 1) := by decide +kernel
theorem dX9_nextRow_22 : decode cX9_nextRow 22 = .ok (.iconst 1, 1) := by decide +kernel
theorem dX9_nextRow_23 : decode cX9_nextRow 23 = .ok (.iadd, 1) := by decide +kernel
theorem dX9_nextRow_24 : decode cX9_nextRow 24 = .ok (.iaload, 1) := by decide +kernel
theorem dX9_nextRow_25 : decode cX9_nextRow 25 = .ok (.if_icmp .le 9, 3) := by decide +kernel
theorem dX9_nextRow_28 : decode cX9_nextRow 28 = .ok (.iinc 1 (-1), 3) := by decide +kernel
theorem dX9_nextRow_31 : decode cX9_nextRow 31 = .ok (.goto (-24), 3) := by decide +kernel
theorem dX9_nextRow_34 : decode cX9_nextRow 34 = .ok (.iload_n 1, 1) := by decide +kernel
theorem dX9_nextRow_35 : decode cX9_nextRow 35 = .ok (.ifCond .ge 5, 3) := by decide +kernel
theorem dX9_nextRow_38 : decode cX9_nextRow 38 = .ok (.iconst 0, 1) := by decide +kernel
theorem dX9_nextRow_39 : decode cX9_nextRow 39 = .ok (.ireturn, 1) := by decide +kernel
theorem dX9_nextRow_40 : decode cX9_nextRow 40 = .ok (.aload_n 0, 1) := by decide +kernel
theorem dX9_nextRow_41 : decode cX9_nextRow 41 = .ok (.getfield 161, 3) := by decide +kernel
theorem dX9_nextRow_44 : decode cX9_nextRow 44 = .ok (.iconst 1, 1) := by decide +kernel
theorem dX9_nextRow_45 : decode cX9_nextRow 45 = .ok (.isub, 1) := by decide +kernel
theorem dX9_nextRow_46 : decode cX9_nextRow 46 = .ok (.istore_n 2, 1) := by decide +kernel
theorem dX9_nextRow_47 : decode cX9_nextRow 47 = .ok (.aload_n 0, 1) := by decide +kernel
theorem dX9_nextRow_48 : decode cX9_nextRow 48 = .ok (.getfield 74, 3) := by decide +kernel
theorem dX9_nextRow_51 : decode cX9_nextRow 51 = .ok (.iload_n 2, 1) := by decide +kernel
theorem dX9_nextRow_52 : decode cX9_nextRow 52 = .ok (.iaload, 1) := by decide +kernel
theorem dX9_nextRow_53 : decode cX9_nextRow 53 = .ok (.aload_n 0, 1) := by decide +kernel
theorem dX9_nextRow_54 : decode cX9_nextRow 54 = .ok (.getfield 74, 3) := by decide +kernel
theorem dX9_nextRow_57 : decode cX9_nextRow 57 = .ok (.iload_n 1, 1) := by decide +kernel
theorem dX9_nextRow_58 : decode cX9_nextRow 58 = .ok (.iaload, 1) := by decide +kernel
theorem dX9_nextRow_59 : decode cX9_nextRow 59 = .ok (.if_icmp .ge 9, 3) := by decide +kernel
theorem dX9_nextRow_62 : decode cX9_nextRow 62 = .ok (.iinc 2 (-1), 3) := by decide +kernel
theorem dX9_nextRow_65 : decode cX9_nextRow 65 = .ok (.goto (-18), 3) := by decide +kernel
theorem dX9_nextRow_68 : decode cX9_nextRow 68 = .ok (.aload_n 0, 1) := by decide +kernel
theorem dX9_nextRow_69 : decode cX9_nextRow 69 = .ok (.getfield 74, 3) := by decide +kernel
theorem dX9_nextRow_72 : decode cX9_nextRow 72 = .ok (.iload_n 1, 1) := by decide +kernel
theorem dX9_nextRow_73 : decode cX9_nextRow 73 = .ok (.iaload, 1) := by decide +kernel
theorem dX9_nextRow_74 : decode cX9_nextRow 74 = .ok (.istore_n 3, 1) := by decide +kernel
theorem dX9_nextRow_75 : decode cX9_nextRow 75 = .ok (.aload_n 0, 1) := by decide +kernel
theorem dX9_nextRow_76 : decode cX9_nextRow 76 = .ok (.getfield 74, 3) := by decide +kernel
theorem dX9_nextRow_79 : decode cX9_nextRow 79 = .ok (.iload_n 1, 1) := by decide +kernel
theorem dX9_nextRow_80 : decode cX9_nextRow 80 = .ok (.aload_n 0, 1) := by decide +kernel
theorem dX9_nextRow_81 : decode cX9_nextRow 81 = .ok (.getfield 74, 3) := by decide +kernel
theorem dX9_nextRow_84 : decode cX9_nextRow 84 = .ok (.iload_n 2, 1) := by decide +kernel
theorem dX9_nextRow_85 : decode cX9_nextRow 85 = .ok (.iaload, 1) := by decide +kernel
theorem dX9_nextRow_86 : decode cX9_nextRow 86 = .ok (.iastore, 1) := by decide +kernel
theorem dX9_nextRow_87 : decode cX9_nextRow 87 = .ok (.aload_n 0, 1) := by decide +kernel
theorem dX9_nextRow_88 : decode cX9_nextRow 88 = .ok (.getfield 74, 3) := by decide +kernel
theorem dX9_nextRow_91 : decode cX9_nextRow 91 = .ok (.iload_n 2, 1) := by decide +kernel
theorem dX9_nextRow_92 : decode cX9_nextRow 92 = .ok (.iload_n 3, 1) := by decide +kernel
theorem dX9_nextRow_93 : decode cX9_nextRow 93 = .ok (.iastore, 1) := by decide +kernel
theorem dX9_nextRow_94 : decode cX9_nextRow 94 = .ok (.iload_n 1, 1) := by decide +kernel
theorem dX9_nextRow_95 : decode cX9_nextRow 95 = .ok (.iconst 1, 1) := by decide +kernel
theorem dX9_nextRow_96 : decode cX9_nextRow 96 = .ok (.iadd, 1) := by decide +kernel
theorem dX9_nextRow_97 : decode cX9_nextRow 97 = .ok (.istore 4, 2) := by decide +kernel
theorem dX9_nextRow_99 : decode cX9_nextRow 99 = .ok (.aload_n 0, 1) := by decide +kernel
theorem dX9_nextRow_100 : decode cX9_nextRow 100 = .ok (.getfield 161, 3) := by decide +kernel
theorem dX9_nextRow_103 : decode cX9_nextRow 103 = .ok (.iconst 1, 1) := by decide +kernel
theorem dX9_nextRow_104 : decode cX9_nextRow 104 = .ok (.isub, 1) := by decide +kernel
theorem dX9_nextRow_105 : decode cX9_nextRow 105 = .ok (.istore 5, 2) := by decide +kernel
theorem dX9_nextRow_107 : decode cX9_nextRow 107 = .ok (.iload 4, 2) := by decide +kernel
theorem dX9_nextRow_109 : decode cX9_nextRow 109 = .ok (.iload 5, 2) := by decide +kernel
theorem dX9_nextRow_111 : decode cX9_nextRow 111 = .ok (.if_icmp .ge 42, 3) := by decide +kernel
theorem dX9_nextRow_114 : decode cX9_nextRow 114 = .ok (.aload_n 0, 1) := by decide +kernel
theorem dX9_nextRow_115 : decode cX9_nextRow 115 = .ok (.getfield 74, 3) := by decide +kernel
theorem dX9_nextRow_118 : decode cX9_nextRow 118 = .ok (.iload 4, 2) := by decide +kernel
theorem dX9_nextRow_120 : decode cX9_nextRow 120 = .ok (.iaload, 1) := by decide +kernel
theorem dX9_nextRow_121 : decode cX9_nextRow 121 = .ok (.istore_n 3, 1) := by decide +kernel
theorem dX9_nextRow_122 : decode cX9_nextRow 122 = .ok (.aload_n 0, 1) := by decide +kernel
theorem dX9_nextRow_123 : decode cX9_nextRow 123 = .ok (.getfield 74, 3) := by decide +kernel
theorem dX9_nextRow_126 : decode cX9_nextRow 126 = .ok (.iload 4, 2) := by decide +kernel
theorem dX9_nextRow_128 : decode cX9_nextRow 128 = .ok (.aload_n 0, 1) := by decide +kernel
theorem dX9_nextRow_129 : decode cX9_nextRow 129 = .ok (.getfield 74, 3) := by decide +kernel
theorem dX9_nextRow_132 : decode cX9_nextRow 132 = .ok (.iload 5, 2) := by decide +kernel
theorem dX9_nextRow_134 : decode cX9_nextRow 134 = .ok (.iaload, 1) := by decide +kernel
theorem dX9_nextRow_135 : decode cX9_nextRow 135 = .ok (.iastore, 1) := by decide +kernel
theorem dX9_nextRow_136 : decode cX9_nextRow 136 = .ok (.aload_n 0, 1) := by decide +kernel
theorem dX9_nextRow_137 : decode cX9_nextRow 137 = .ok (.getfield 74, 3) := by decide +kernel
theorem dX9_nextRow_140 : decode cX9_nextRow 140 = .ok (.iload 5, 2) := by decide +kernel
theorem dX9_nextRow_142 : decode cX9_nextRow 142 = .ok (.iload_n 3, 1) := by decide +kernel
theorem dX9_nextRow_143 : decode cX9_nextRow 143 = .ok (.iastore, 1) := by decide +kernel
theorem dX9_nextRow_144 : decode cX9_nextRow 144 = .ok (.iinc 4 1, 3) := by decide +kernel
theorem dX9_nextRow_147 : decode cX9_nextRow 147 = .ok (.iinc 5 (-1), 3) := by decide +kernel
theorem dX9_nextRow_150 : decode cX9_nextRow 150 = .ok (.goto (-43), 3) := by decide +kernel
theorem dX9_nextRow_153 : decode cX9_nextRow 153 = .ok (.iconst 1, 1) := by decide +kernel
theorem dX9_nextRow_154 : decode cX9_nextRow 154 = .ok (.ireturn, 1) := by decide +kernel
theorem dX9_lays_0 : decode cX9_lays 0 = .ok (.iconst 0, 1) := by decide +kernel
theorem dX9_lays_1 : decode cX9_lays 1 = .ok (.istore_n 2, 1) := by decide +kernel
theorem dX9_lays_2 : decode cX9_lays 2 = .ok (.iconst 0, 1) := by decide +kernel
theorem dX9_lays_3 : decode cX9_lays 3 = .ok (.istore_n 3, 1) := by decide +kernel
theorem dX9_lays_4 : decode cX9_lays 4 = .ok (.iload_n 3, 1) := by decide +kernel
theorem dX9_lays_5 : decode cX9_lays 5 = .ok (.aload_n 0, 1) := by decide +kernel
theorem dX9_lays_6 : decode cX9_lays 6 = .ok (.getfield 161, 3) := by decide +kernel
theorem dX9_lays_9 : decode cX9_lays 9 = .ok (.if_icmp .ge 82, 3) := by decide +kernel
theorem dX9_lays_12 : decode cX9_lays 12 = .ok (.aload_n 0, 1) := by decide +kernel
theorem dX9_lays_13 : decode cX9_lays 13 = .ok (.getfield 71, 3) := by decide +kernel
theorem dX9_lays_16 : decode cX9_lays 16 = .ok (.aload_n 0, 1) := by decide +kernel
theorem dX9_lays_17 : decode cX9_lays 17 = .ok (.getfield 74, 3) := by decide +kernel
theorem dX9_lays_20 : decode cX9_lays 20 = .ok (.iload_n 3, 1) := by decide +kernel
theorem dX9_lays_21 : decode cX9_lays 21 = .ok (.iaload, 1) := by decide +kernel
theorem dX9_lays_22 : decode cX9_lays 22 = .ok (.iaload, 1) := by decide +kernel
theorem dX9_lays_23 : decode cX9_lays 23 = .ok (.istore 4, 2) := by decide +kernel
theorem dX9_lays_25 : decode cX9_lays 25 = .ok (.iload 4, 2) := by decide +kernel
theorem dX9_lays_27 : decode cX9_lays 27 = .ok (.istore 5, 2) := by decide +kernel
theorem dX9_lays_29 : decode cX9_lays 29 = .ok (.iload 5, 2) := by decide +kernel
theorem dX9_lays_31 : decode cX9_lays 31 = .ok (.aload_n 0, 1) := by decide +kernel
theorem dX9_lays_32 : decode cX9_lays 32 = .ok (.getfield 83, 3) := by decide +kernel
theorem dX9_lays_35 : decode cX9_lays 35 = .ok (.if_icmp .ge 50, 3) := by decide +kernel
theorem dX9_lays_38 : decode cX9_lays 38 = .ok (.iload_n 1, 1) := by decide +kernel
theorem dX9_lays_39 : decode cX9_lays 39 = .ok (.iload 5, 2) := by decide +kernel
theorem dX9_lays_41 : decode cX9_lays 41 = .ok (.invokestatic 94, 3) := by decide +kernel
theorem dX9_lays_44 : decode cX9_lays 44 = .ok (.ifCond .eq 35, 3) := by decide +kernel
theorem dX9_lays_47 : decode cX9_lays 47 = .ok (.iload 5, 2) := by decide +kernel
theorem dX9_lays_49 : decode cX9_lays 49 = .ok (.iload 4, 2) := by decide +kernel
theorem dX9_lays_51 : decode cX9_lays 51 = .ok (.if_icmp .eq 17, 3) := by decide +kernel
theorem dX9_lays_54 : decode cX9_lays 54 = .ok (.aload_n 0, 1) := by decide +kernel
theorem dX9_lays_55 : decode cX9_lays 55 = .ok (.iload 4, 2) := by decide +kernel
theorem dX9_lays_57 : decode cX9_lays 57 = .ok (.iload 5, 2) := by decide +kernel
theorem dX9_lays_59 : decode cX9_lays 59 = .ok (.invokevirtual 134, 3) := by decide +kernel
theorem dX9_lays_62 : decode cX9_lays 62 = .ok (.ifCond .ne 6, 3) := by decide +kernel
theorem dX9_lays_65 : decode cX9_lays 65 = .ok (.goto 14, 3) := by decide +kernel
theorem dX9_lays_68 : decode cX9_lays 68 = .ok (.aload_n 0, 1) := by decide +kernel
theorem dX9_lays_69 : decode cX9_lays 69 = .ok (.getfield 80, 3) := by decide +kernel
theorem dX9_lays_72 : decode cX9_lays 72 = .ok (.iload_n 2, 1) := by decide +kernel
theorem dX9_lays_73 : decode cX9_lays 73 = .ok (.iload 5, 2) := by decide +kernel
theorem dX9_lays_75 : decode cX9_lays 75 = .ok (.iastore, 1) := by decide +kernel
theorem dX9_lays_76 : decode cX9_lays 76 = .ok (.iinc 2 1, 3) := by decide +kernel
theorem dX9_lays_79 : decode cX9_lays 79 = .ok (.iinc 5 1, 3) := by decide +kernel
theorem dX9_lays_82 : decode cX9_lays 82 = .ok (.goto (-53), 3) := by decide +kernel
theorem dX9_lays_85 : decode cX9_lays 85 = .ok (.iinc 3 1, 3) := by decide +kernel
theorem dX9_lays_88 : decode cX9_lays 88 = .ok (.goto (-84), 3) := by decide +kernel
theorem dX9_lays_91 : decode cX9_lays 91 = .ok (.return_, 1) := by decide +kernel
theorem dX9_order_0 : decode cX9_order 0 = .ok (.aload_n 0, 1) := by decide +kernel
theorem dX9_order_1 : decode cX9_order 1 = .ok (.iload_n 1, 1) := by decide +kernel
theorem dX9_order_2 : decode cX9_order 2 = .ok (.invokevirtual 101, 3) := by decide +kernel
theorem dX9_order_5 : decode cX9_order 5 = .ok (.ifCond .ne 5, 3) := by decide +kernel
theorem dX9_order_8 : decode cX9_order 8 = .ok (.iconst (-1), 1) := by decide +kernel
theorem dX9_order_9 : decode cX9_order 9 = .ok (.ireturn, 1) := by decide +kernel
theorem dX9_order_10 : decode cX9_order 10 = .ok (.iconst 0, 1) := by decide +kernel
theorem dX9_order_11 : decode cX9_order 11 = .ok (.istore_n 2, 1) := by decide +kernel
theorem dX9_order_12 : decode cX9_order 12 = .ok (.iconst 0, 1) := by decide +kernel
theorem dX9_order_13 : decode cX9_order 13 = .ok (.istore_n 3, 1) := by decide +kernel
theorem dX9_order_14 : decode cX9_order 14 = .ok (.iload_n 3, 1) := by decide +kernel
theorem dX9_order_15 : decode cX9_order 15 = .ok (.aload_n 0, 1) := by decide +kernel
theorem dX9_order_16 : decode cX9_order 16 = .ok (.getfield 83, 3) := by decide +kernel
theorem dX9_order_19 : decode cX9_order 19 = .ok (.if_icmp .ge 80, 3) := by decide +kernel
theorem dX9_order_22 : decode cX9_order 22 = .ok (.iload_n 1, 1) := by decide +kernel
theorem dX9_order_23 : decode cX9_order 23 = .ok (.iload_n 3, 1) := by decide +kernel
theorem dX9_order_24 : decode cX9_order 24 = .ok (.invokestatic 94, 3) := by decide +kernel
theorem dX9_order_27 : decode cX9_order 27 = .ok (.istore 4, 2) := by decide +kernel
theorem dX9_order_29 : decode cX9_order 29 = .ok (.iconst 0, 1) := by decide +kernel
theorem dX9_order_30 : decode cX9_order 30 = .ok (.istore 5, 2) := by decide +kernel
theorem dX9_order_32 : decode cX9_order 32 = .ok (.iload 5, 2) := by decide +kernel
theorem dX9_order_34 : decode cX9_order 34 = .ok (.iload_n 3, 1) := by decide +kernel
theorem dX9_order_35 : decode cX9_order 35 = .ok (.if_icmp .ge 40, 3) := by decide +kernel
theorem dX9_order_38 : decode cX9_order 38 = .ok (.iload 4, 2) := by decide +kernel
theorem dX9_order_40 : decode cX9_order 40 = .ok (.ifCond .eq 26, 3) := by decide +kernel
theorem dX9_order_43 : decode cX9_order 43 = .ok (.iload_n 1, 1) := by decide +kernel
theorem dX9_order_44 : decode cX9_order 44 = .ok (.iload 5, 2) := by decide +kernel
theorem dX9_order_46 : decode cX9_order 46 = .ok (.invokestatic 94, 3) := by decide +kernel
theorem dX9_order_49 : decode cX9_order 49 = .ok (.ifCond .eq 13, 3) := by decide +kernel
theorem dX9_order_52 : decode cX9_order 52 = .ok (.aload_n 0, 1) := by decide +kernel
theorem dX9_order_53 : decode cX9_order 53 = .ok (.iload_n 3, 1) := by decide +kernel
theorem dX9_order_54 : decode cX9_order 54 = .ok (.iload 5, 2) := by decide +kernel
theorem dX9_order_56 : decode cX9_order 56 = .ok (.invokevirtual 134, 3) := by decide +kernel
theorem dX9_order_59 : decode cX9_order 59 = .ok (.ifCond .ne 7, 3) := by decide +kernel
theorem dX9_order_62 : decode cX9_order 62 = .ok (.iconst 1, 1) := by decide +kernel
theorem dX9_order_63 : decode cX9_order 63 = .ok (.goto 4, 3) := by decide +kernel
theorem dX9_order_66 : decode cX9_order 66 = .ok (.iconst 0, 1) := by decide +kernel
theorem dX9_order_67 : decode cX9_order 67 = .ok (.istore 4, 2) := by decide +kernel
theorem dX9_order_69 : decode cX9_order 69 = .ok (.iinc 5 1, 3) := by decide +kernel
theorem dX9_order_72 : decode cX9_order 72 = .ok (.goto (-40), 3) := by decide +kernel
theorem dX9_order_75 : decode cX9_order 75 = .ok (.iload 4, 2) := by decide +kernel
theorem dX9_order_77 : decode cX9_order 77 = .ok (.ifCond .ne 6, 3) := by decide +kernel
theorem dX9_order_80 : decode cX9_order 80 = .ok (.goto 13, 3) := by decide +kernel
theorem dX9_order_83 : decode cX9_order 83 = .ok (.aload_n 0, 1) := by decide +kernel
theorem dX9_order_84 : decode cX9_order 84 = .ok (.getfield 71, 3) := by decide +kernel
theorem dX9_order_87 : decode cX9_order 87 = .ok (.iload_n 2, 1) := by decide +kernel
theorem dX9_order_88 : decode cX9_order 88 = .ok (.iload_n 3, 1) := by decide +kernel
theorem dX9_order_89 : decode cX9_order 89 = .ok (.iastore, 1) := by decide +kernel
theorem dX9_order_90 : decode cX9_order 90 = .ok (.iinc 2 1, 3) := by decide +kernel
theorem dX9_order_93 : decode cX9_order 93 = .ok (.iinc 3 1, 3) := by decide +kernel
theorem dX9_order_96 : decode cX9_order 96 = .ok (.goto (-82), 3) := by decide +kernel
theorem dX9_order_99 : decode cX9_order 99 = .ok (.iload_n 2, 1) := by decide +kernel
theorem dX9_order_100 : decode cX9_order 100 = .ok (.bipush 8, 2) := by decide +kernel
theorem dX9_order_102 : decode cX9_order 102 = .ok (.if_icmp .le 5, 3) := by decide +kernel
theorem dX9_order_105 : decode cX9_order 105 = .ok (.iconst (-1), 1) := by decide +kernel
theorem dX9_order_106 : decode cX9_order 106 = .ok (.ireturn, 1) := by decide +kernel
theorem dX9_order_107 : decode cX9_order 107 = .ok (.aload_n 0, 1) := by decide +kernel
theorem dX9_order_108 : decode cX9_order 108 = .ok (.iload_n 2, 1) := by decide +kernel
theorem dX9_order_109 : decode cX9_order 109 = .ok (.putfield 161, 3) := by decide +kernel
theorem dX9_order_112 : decode cX9_order 112 = .ok (.aload_n 0, 1) := by decide +kernel
theorem dX9_order_113 : decode cX9_order 113 = .ok (.iload_n 1, 1) := by decide +kernel
theorem dX9_order_114 : decode cX9_order 114 = .ok (.invokestatic 152, 3) := by decide +kernel
theorem dX9_order_117 : decode cX9_order 117 = .ok (.putfield 164, 3) := by decide +kernel
theorem dX9_order_120 : decode cX9_order 120 = .ok (.iconst 0, 1) := by decide +kernel
theorem dX9_order_121 : decode cX9_order 121 = .ok (.istore_n 3, 1) := by decide +kernel
theorem dX9_order_122 : decode cX9_order 122 = .ok (.iload_n 3, 1) := by decide +kernel
theorem dX9_order_123 : decode cX9_order 123 = .ok (.aload_n 0, 1) := by decide +kernel
theorem dX9_order_124 : decode cX9_order 124 = .ok (.getfield 161, 3) := by decide +kernel
theorem dX9_order_127 : decode cX9_order 127 = .ok (.if_icmp .ge 16, 3) := by decide +kernel
theorem dX9_order_130 : decode cX9_order 130 = .ok (.aload_n 0, 1) := by decide +kernel
theorem dX9_order_131 : decode cX9_order 131 = .ok (.getfield 74, 3) := by decide +kernel
theorem dX9_order_134 : decode cX9_order 134 = .ok (.iload_n 3, 1) := by decide +kernel
theorem dX9_order_135 : decode cX9_order 135 = .ok (.iload_n 3, 1) := by decide +kernel
theorem dX9_order_136 : decode cX9_order 136 = .ok (.iastore, 1) := by decide +kernel
theorem dX9_order_137 : decode cX9_order 137 = .ok (.iinc 3 1, 3) := by decide +kernel
theorem dX9_order_140 : decode cX9_order 140 = .ok (.goto (-18), 3) := by decide +kernel
theorem dX9_order_143 : decode cX9_order 143 = .ok (.iconst (-1), 1) := by decide +kernel
theorem dX9_order_144 : decode cX9_order 144 = .ok (.istore_n 3, 1) := by decide +kernel
theorem dX9_order_145 : decode cX9_order 145 = .ok (.iconst 1, 1) := by decide +kernel
theorem dX9_order_146 : decode cX9_order 146 = .ok (.istore 4, 2) := by decide +kernel
theorem dX9_order_148 : decode cX9_order 148 = .ok (.iload 4, 2) := by decide +kernel
theorem dX9_order_150 : decode cX9_order 150 = .ok (.ifCond .eq 186, 3) := by decide +kernel
theorem dX9_order_153 : decode cX9_order 153 = .ok (.aload_n 0, 1) := by decide +kernel
theorem dX9_order_154 : decode cX9_order 154 = .ok (.iload_n 1, 1) := by decide +kernel
theorem dX9_order_155 : decode cX9_order 155 = .ok (.invokevirtual 167, 3) := by decide +kernel
theorem dX9_order_158 : decode cX9_order 158 = .ok (.iconst 0, 1) := by decide +kernel
theorem dX9_order_159 : decode cX9_order 159 = .ok (.istore 5, 2) := by decide +kernel
theorem dX9_order_161 : decode cX9_order 161 = .ok (.iconst 0, 1) := by decide +kernel
theorem dX9_order_162 : decode cX9_order 162 = .ok (.istore 6, 2) := by decide +kernel
theorem dX9_order_164 : decode cX9_order 164 = .ok (.iconst 1, 1) := by decide +kernel
theorem dX9_order_165 : decode cX9_order 165 = .ok (.istore 7, 2) := by decide +kernel
theorem dX9_order_167 : decode cX9_order 167 = .ok (.iload 7, 2) := by decide +kernel
theorem dX9_order_169 : decode cX9_order 169 = .ok (.aload_n 0, 1) := by decide +kernel
theorem dX9_order_170 : decode cX9_order 170 = .ok (.getfield 164, 3) := by decide +kernel
theorem dX9_order_173 : decode cX9_order 173 = .ok (.if_icmp .ge 87, 3) := by decide +kernel
theorem dX9_order_176 : decode cX9_order 176 = .ok (.iload 5, 2) := by decide +kernel
theorem dX9_order_178 : decode cX9_order 178 = .ok (.aload_n 0, 1) := by decide +kernel
theorem dX9_order_179 : decode cX9_order 179 = .ok (.getfield 26, 3) := by decide +kernel
theorem dX9_order_182 : decode cX9_order 182 = .ok (.aload_n 0, 1) := by decide +kernel
theorem dX9_order_183 : decode cX9_order 183 = .ok (.getfield 80, 3) := by decide +kernel
theorem dX9_order_186 : decode cX9_order 186 = .ok (.iload 7, 2) := by decide +kernel
theorem dX9_order_188 : decode cX9_order 188 = .ok (.iaload, 1) := by decide +kernel
theorem dX9_order_189 : decode cX9_order 189 = .ok (.iaload, 1) := by decide +kernel
theorem dX9_order_190 : decode cX9_order 190 = .ok (.aload_n 0, 1) := by decide +kernel
theorem dX9_order_191 : decode cX9_order 191 = .ok (.getfield 26, 3) := by decide +kernel
theorem dX9_order_194 : decode cX9_order 194 = .ok (.aload_n 0, 1) := by decide +kernel
theorem dX9_order_195 : decode cX9_order 195 = .ok (.getfield 80, 3) := by decide +kernel
theorem dX9_order_198 : decode cX9_order 198 = .ok (.iload 7, 2) := by decide +kernel
theorem dX9_order_200 : decode cX9_order 200 = .ok (.iconst 1, 1) := by decide +kernel
theorem dX9_order_201 : decode cX9_order 201 = .ok (.isub, 1) := by decide +kernel
theorem dX9_order_202 : decode cX9_order 202 = .ok (.iaload, 1) := by decide +kernel
theorem dX9_order_203 : decode cX9_order 203 = .ok (.iaload, 1) := by decide +kernel
theorem dX9_order_204 : decode cX9_order 204 = .ok (.if_icmp .ge 7, 3) := by decide +kernel
theorem dX9_order_207 : decode cX9_order 207 = .ok (.iconst 1, 1) := by decide +kernel
theorem dX9_order_208 : decode cX9_order 208 = .ok (.goto 4, 3) := by decide +kernel
theorem dX9_order_211 : decode cX9_order 211 = .ok (.iconst 0, 1) := by decide +kernel
theorem dX9_order_212 : decode cX9_order 212 = .ok (.iadd, 1) := by decide +kernel
theorem dX9_order_213 : decode cX9_order 213 = .ok (.istore 5, 2) := by decide +kernel
theorem dX9_order_215 : decode cX9_order 215 = .ok (.iload 6, 2) := by decide +kernel
theorem dX9_order_217 : decode cX9_order 217 = .ok (.aload_n 0, 1) := by decide +kernel
theorem dX9_order_218 : decode cX9_order 218 = .ok (.getfield 13, 3) := by decide +kernel
theorem dX9_order_221 : decode cX9_order 221 = .ok (.aload_n 0, 1) := by decide +kernel
theorem dX9_order_222 : decode cX9_order 222 = .ok (.getfield 80, 3) := by decide +kernel
theorem dX9_order_225 : decode cX9_order 225 = .ok (.iload 7, 2) := by decide +kernel
theorem dX9_order_227 : decode cX9_order 227 = .ok (.iaload, 1) := by decide +kernel
theorem dX9_order_228 : decode cX9_order 228 = .ok (.iaload, 1) := by decide +kernel
theorem dX9_order_229 : decode cX9_order 229 = .ok (.aload_n 0, 1) := by decide +kernel
theorem dX9_order_230 : decode cX9_order 230 = .ok (.getfield 13, 3) := by decide +kernel
theorem dX9_order_233 : decode cX9_order 233 = .ok (.aload_n 0, 1) := by decide +kernel
theorem dX9_order_234 : decode cX9_order 234 = .ok (.getfield 80, 3) := by decide +kernel
theorem dX9_order_237 : decode cX9_order 237 = .ok (.iload 7, 2) := by decide +kernel
theorem dX9_order_239 : decode cX9_order 239 = .ok (.iconst 1, 1) := by decide +kernel
theorem dX9_order_240 : decode cX9_order 240 = .ok (.isub, 1) := by decide +kernel
theorem dX9_order_241 : decode cX9_order 241 = .ok (.iaload, 1) := by decide +kernel
theorem dX9_order_242 : decode cX9_order 242 = .ok (.iaload, 1) := by decide +kernel
theorem dX9_order_243 : decode cX9_order 243 = .ok (.if_icmp .ne 7, 3) := by decide +kernel
theorem dX9_order_246 : decode cX9_order 246 = .ok (.iconst 1, 1) := by decide +kernel
theorem dX9_order_247 : decode cX9_order 247 = .ok (.goto 4, 3) := by decide +kernel
theorem dX9_order_250 : decode cX9_order 250 = .ok (.iconst 0, 1) := by decide +kernel
theorem dX9_order_251 : decode cX9_order 251 = .ok (.iadd, 1) := by decide +kernel
theorem dX9_order_252 : decode cX9_order 252 = .ok (.istore 6, 2) := by decide +kernel
theorem dX9_order_254 : decode cX9_order 254 = .ok (.iinc 7 1, 3) := by decide +kernel
theorem dX9_order_257 : decode cX9_order 257 = .ok (.goto (-90), 3) := by decide +kernel
theorem dX9_order_260 : decode cX9_order 260 = .ok (.iload_n 3, 1) := by decide +kernel
theorem dX9_order_261 : decode cX9_order 261 = .ok (.iconst (-1), 1) := by decide +kernel
theorem dX9_order_262 : decode cX9_order 262 = .ok (.if_icmp .eq 24, 3) := by decide +kernel
theorem dX9_order_265 : decode cX9_order 265 = .ok (.iload 5, 2) := by decide +kernel
theorem dX9_order_267 : decode cX9_order 267 = .ok (.iload_n 3, 1) := by decide +kernel
theorem dX9_order_268 : decode cX9_order 268 = .ok (.if_icmp .lt 18, 3) := by decide +kernel
theorem dX9_order_271 : decode cX9_order 271 = .ok (.iload 5, 2) := by decide +kernel
theorem dX9_order_273 : decode cX9_order 273 = .ok (.iload_n 3, 1) := by decide +kernel
theorem dX9_order_274 : decode cX9_order 274 = .ok (.if_icmp .ne 53, 3) := by decide +kernel
theorem dX9_order_277 : decode cX9_order 277 = .ok (.iload 6, 2) := by decide +kernel
theorem dX9_order_279 : decode cX9_order 279 = .ok (.aload_n 0, 1) := by decide +kernel
theorem dX9_order_280 : decode cX9_order 280 = .ok (.getfield 171, 3) := by decide +kernel
theorem dX9_order_283 : decode cX9_order 283 = .ok (.if_icmp .ge 44, 3) := by decide +kernel
theorem dX9_order_286 : decode cX9_order 286 = .ok (.iload 5, 2) := by decide +kernel
theorem dX9_order_288 : decode cX9_order 288 = .ok (.istore_n 3, 1) := by decide +kernel
theorem dX9_order_289 : decode cX9_order 289 = .ok (.aload_n 0, 1) := by decide +kernel
theorem dX9_order_290 : decode cX9_order 290 = .ok (.iload 6, 2) := by decide +kernel
theorem dX9_order_292 : decode cX9_order 292 = .ok (.putfield 171, 3) := by decide +kernel
theorem dX9_order_295 : decode cX9_order 295 = .ok (.iconst 0, 1) := by decide +kernel
theorem dX9_order_296 : decode cX9_order 296 = .ok (.istore 7, 2) := by decide +kernel
theorem dX9_order_298 : decode cX9_order 298 = .ok (.iload 7, 2) := by decide +kernel
theorem dX9_order_300 : decode cX9_order 300 = .ok (.aload_n 0, 1) := by decide +kernel
theorem dX9_order_301 : decode cX9_order 301 = .ok (.getfield 164, 3) := by decide +kernel
theorem dX9_order_304 : decode cX9_order 304 = .ok (.if_icmp .ge 23, 3) := by decide +kernel
theorem dX9_order_307 : decode cX9_order 307 = .ok (.aload_n 0, 1) := by decide +kernel
theorem dX9_order_308 : decode cX9_order 308 = .ok (.getfield 77, 3) := by decide +kernel
theorem dX9_order_311 : decode cX9_order 311 = .ok (.iload 7, 2) := by decide +kernel
theorem dX9_order_313 : decode cX9_order 313 = .ok (.aload_n 0, 1) := by decide +kernel
theorem dX9_order_314 : decode cX9_order 314 = .ok (.getfield 80, 3) := by decide +kernel
theorem dX9_order_317 : decode cX9_order 317 = .ok (.iload 7, 2) := by decide +kernel
theorem dX9_order_319 : decode cX9_order 319 = .ok (.iaload, 1) := by decide +kernel
theorem dX9_order_320 : decode cX9_order 320 = .ok (.iastore, 1) := by decide +kernel
theorem dX9_order_321 : decode cX9_order 321 = .ok (.iinc 7 1, 3) := by decide +kernel
theorem dX9_order_324 : decode cX9_order 324 = .ok (.goto (-26), 3) := by decide +kernel
theorem dX9_order_327 : decode cX9_order 327 = .ok (.aload_n 0, 1) := by decide +kernel
theorem dX9_order_328 : decode cX9_order 328 = .ok (.invokevirtual 174, 3) := by decide +kernel
theorem dX9_order_331 : decode cX9_order 331 = .ok (.istore 4, 2) := by decide +kernel
theorem dX9_order_333 : decode cX9_order 333 = .ok (.goto (-185), 3) := by decide +kernel
theorem dX9_order_336 : decode cX9_order 336 = .ok (.iload_n 3, 1) := by decide +kernel
theorem dX9_order_337 : decode cX9_order 337 = .ok (.ireturn, 1) := by decide +kernel
theorem dX9_place_0 : decode cX9_place 0 = .ok (.iload_n 1, 1) := by decide +kernel
theorem dX9_place_1 : decode cX9_place 1 = .ok (.iconst 0, 1) := by decide +kernel
theorem dX9_place_2 : decode cX9_place 2 = .ok (.aload_n 0, 1) := by decide +kernel
theorem dX9_place_3 : decode cX9_place 3 = .ok (.getfield 164, 3) := by decide +kernel
theorem dX9_place_6 : decode cX9_place 6 = .ok (.iconst 1, 1) := by decide +kernel
theorem dX9_place_7 : decode cX9_place 7 = .ok (.isub, 1) := by decide +kernel
theorem dX9_place_8 : decode cX9_place 8 = .ok (.invokestatic 86, 3) := by decide +kernel
theorem dX9_place_11 : decode cX9_place 11 = .ok (.ifCond .eq 12, 3) := by decide +kernel
theorem dX9_place_14 : decode cX9_place 14 = .ok (.aload_n 0, 1) := by decide +kernel
theorem dX9_place_15 : decode cX9_place 15 = .ok (.getfield 77, 3) := by decide +kernel
theorem dX9_place_18 : decode cX9_place 18 = .ok (.iload_n 1, 1) := by decide +kernel
theorem dX9_place_19 : decode cX9_place 19 = .ok (.iaload, 1) := by decide +kernel
theorem dX9_place_20 : decode cX9_place 20 = .ok (.goto 4, 3) := by decide +kernel
theorem dX9_place_23 : decode cX9_place 23 = .ok (.iconst (-1), 1) := by decide +kernel
theorem dX9_place_24 : decode cX9_place 24 = .ok (.ireturn, 1) := by decide +kernel
theorem dX9_told__0 : decode cX9_told_ 0 = .ok (.aload_n 0, 1) := by decide +kernel
theorem dX9_told__1 : decode cX9_told_ 1 = .ok (.iload_n 1, 1) := by decide +kernel
theorem dX9_told__2 : decode cX9_told_ 2 = .ok (.invokevirtual 90, 3) := by decide +kernel
theorem dX9_told__5 : decode cX9_told_ 5 = .ok (.ifCond .ne 5, 3) := by decide +kernel
theorem dX9_told__8 : decode cX9_told_ 8 = .ok (.iconst (-1), 1) := by decide +kernel
theorem dX9_told__9 : decode cX9_told_ 9 = .ok (.ireturn, 1) := by decide +kernel
theorem dX9_told__10 : decode cX9_told_ 10 = .ok (.iload_n 2, 1) := by decide +kernel
theorem dX9_told__11 : decode cX9_told_ 11 = .ok (.tableswitch 90 0 6 #[41, 48, 55, 62, 69, 76, 83], 41) := by decide +kernel
theorem dX9_told__52 : decode cX9_told_ 52 = .ok (.aload_n 0, 1) := by decide +kernel
theorem dX9_told__53 : decode cX9_told_ 53 = .ok (.getfield 13, 3) := by decide +kernel
theorem dX9_told__56 : decode cX9_told_ 56 = .ok (.iload_n 1, 1) := by decide +kernel
theorem dX9_told__57 : decode cX9_told_ 57 = .ok (.iaload, 1) := by decide +kernel
theorem dX9_told__58 : decode cX9_told_ 58 = .ok (.ireturn, 1) := by decide +kernel
theorem dX9_told__59 : decode cX9_told_ 59 = .ok (.aload_n 0, 1) := by decide +kernel
theorem dX9_told__60 : decode cX9_told_ 60 = .ok (.getfield 17, 3) := by decide +kernel
theorem dX9_told__63 : decode cX9_told_ 63 = .ok (.iload_n 1, 1) := by decide +kernel
theorem dX9_told__64 : decode cX9_told_ 64 = .ok (.iaload, 1) := by decide +kernel
theorem dX9_told__65 : decode cX9_told_ 65 = .ok (.ireturn, 1) := by decide +kernel
theorem dX9_told__66 : decode cX9_told_ 66 = .ok (.aload_n 0, 1) := by decide +kernel
theorem dX9_told__67 : decode cX9_told_ 67 = .ok (.getfield 20, 3) := by decide +kernel
theorem dX9_told__70 : decode cX9_told_ 70 = .ok (.iload_n 1, 1) := by decide +kernel
theorem dX9_told__71 : decode cX9_told_ 71 = .ok (.iaload, 1) := by decide +kernel
theorem dX9_told__72 : decode cX9_told_ 72 = .ok (.ireturn, 1) := by decide +kernel
theorem dX9_told__73 : decode cX9_told_ 73 = .ok (.aload_n 0, 1) := by decide +kernel
theorem dX9_told__74 : decode cX9_told_ 74 = .ok (.getfield 23, 3) := by decide +kernel
theorem dX9_told__77 : decode cX9_told_ 77 = .ok (.iload_n 1, 1) := by decide +kernel
theorem dX9_told__78 : decode cX9_told_ 78 = .ok (.iaload, 1) := by decide +kernel
theorem dX9_told__79 : decode cX9_told_ 79 = .ok (.ireturn, 1) := by decide +kernel
theorem dX9_told__80 : decode cX9_told_ 80 = .ok (.aload_n 0, 1) := by decide +kernel
theorem dX9_told__81 : decode cX9_told_ 81 = .ok (.getfield 26, 3) := by decide +kernel
theorem dX9_told__84 : decode cX9_told_ 84 = .ok (.iload_n 1, 1) := by decide +kernel
theorem dX9_told__85 : decode cX9_told_ 85 = .ok (.iaload, 1) := by decide +kernel
theorem dX9_told__86 : decode cX9_told_ 86 = .ok (.ireturn, 1) := by decide +kernel
theorem dX9_told__87 : decode cX9_told_ 87 = .ok (.aload_n 0, 1) := by decide +kernel
theorem dX9_told__88 : decode cX9_told_ 88 = .ok (.getfield 29, 3) := by decide +kernel
theorem dX9_told__91 : decode cX9_told_ 91 = .ok (.iload_n 1, 1) := by decide +kernel
theorem dX9_told__92 : decode cX9_told_ 92 = .ok (.iaload, 1) := by decide +kernel
theorem dX9_told__93 : decode cX9_told_ 93 = .ok (.ireturn, 1) := by decide +kernel
theorem dX9_told__94 : decode cX9_told_ 94 = .ok (.aload_n 0, 1) := by decide +kernel
theorem dX9_told__95 : decode cX9_told_ 95 = .ok (.getfield 32, 3) := by decide +kernel
theorem dX9_told__98 : decode cX9_told_ 98 = .ok (.iload_n 1, 1) := by decide +kernel
theorem dX9_told__99 : decode cX9_told_ 99 = .ok (.iaload, 1) := by decide +kernel
theorem dX9_told__100 : decode cX9_told_ 100 = .ok (.ireturn, 1) := by decide +kernel
theorem dX9_told__101 : decode cX9_told_ 101 = .ok (.iconst (-1), 1) := by decide +kernel
theorem dX9_told__102 : decode cX9_told_ 102 = .ok (.ireturn, 1) := by decide +kernel
theorem dX9_count_0 : decode cX9_count 0 = .ok (.iload_n 1, 1) := by decide +kernel
theorem dX9_count_1 : decode cX9_count 1 = .ok (.tableswitch 69 0 5 #[39, 44, 49, 54, 59, 64], 39) := by decide +kernel
theorem dX9_count_40 : decode cX9_count 40 = .ok (.aload_n 0, 1) := by decide +kernel
theorem dX9_count_41 : decode cX9_count 41 = .ok (.getfield 83, 3) := by decide +kernel
theorem dX9_count_44 : decode cX9_count 44 = .ok (.ireturn, 1) := by decide +kernel
theorem dX9_count_45 : decode cX9_count 45 = .ok (.aload_n 0, 1) := by decide +kernel
theorem dX9_count_46 : decode cX9_count 46 = .ok (.invokevirtual 127, 3) := by decide +kernel
theorem dX9_count_49 : decode cX9_count 49 = .ok (.ireturn, 1) := by decide +kernel
theorem dX9_count_50 : decode cX9_count 50 = .ok (.aload_n 0, 1) := by decide +kernel
theorem dX9_count_51 : decode cX9_count 51 = .ok (.getfield 7, 3) := by decide +kernel
theorem dX9_count_54 : decode cX9_count 54 = .ok (.ireturn, 1) := by decide +kernel
theorem dX9_count_55 : decode cX9_count 55 = .ok (.aload_n 0, 1) := by decide +kernel
theorem dX9_count_56 : decode cX9_count 56 = .ok (.getfield 98, 3) := by decide +kernel
theorem dX9_count_59 : decode cX9_count 59 = .ok (.ireturn, 1) := by decide +kernel
theorem dX9_count_60 : decode cX9_count 60 = .ok (.aload_n 0, 1) := by decide +kernel
theorem dX9_count_61 : decode cX9_count 61 = .ok (.getfield 171, 3) := by decide +kernel
theorem dX9_count_64 : decode cX9_count 64 = .ok (.ireturn, 1) := by decide +kernel
theorem dX9_count_65 : decode cX9_count 65 = .ok (.aload_n 0, 1) := by decide +kernel
theorem dX9_count_66 : decode cX9_count 66 = .ok (.getfield 164, 3) := by decide +kernel
theorem dX9_count_69 : decode cX9_count 69 = .ok (.ireturn, 1) := by decide +kernel
theorem dX9_count_70 : decode cX9_count 70 = .ok (.iconst (-1), 1) := by decide +kernel
theorem dX9_count_71 : decode cX9_count 71 = .ok (.ireturn, 1) := by decide +kernel
