theorem dX0_init_0 : decode cX0_init 0 = .ok (.aload_n 0, 1) := by decide +kernel
theorem dX0_init_1 : decode cX0_init 1 = .ok (.invokespecial 3, 3) := by decide +kernel
theorem dX0_init_4 : decode cX0_init 4 = .ok (.aload_n 0, 1) := by decide +kernel
theorem dX0_init_5 : decode cX0_init 5 = .ok (.bipush 24, 2) := by decide +kernel
theorem dX0_init_7 : decode cX0_init 7 = .ok (.bipush 7, 2) := by decide +kernel
theorem dX0_init_9 : decode cX0_init 9 = .ok (.multianewarray 9 2, 4) := by decide +kernel
theorem dX0_init_13 : decode cX0_init 13 = .ok (.putfield 11, 3) := by decide +kernel
theorem dX0_init_16 : decode cX0_init 16 = .ok (.aload_n 0, 1) := by decide +kernel
theorem dX0_init_17 : decode cX0_init 17 = .ok (.bipush 24, 2) := by decide +kernel
theorem dX0_init_19 : decode cX0_init 19 = .ok (.newarray .int, 2) := by decide +kernel
theorem dX0_init_21 : decode cX0_init 21 = .ok (.putfield 16, 3) := by decide +kernel
theorem dX0_init_24 : decode cX0_init 24 = .ok (.aload_n 0, 1) := by decide +kernel
theorem dX0_init_25 : decode cX0_init 25 = .ok (.iconst 0, 1) := by decide +kernel
theorem dX0_init_26 : decode cX0_init 26 = .ok (.putfield 20, 3) := by decide +kernel
theorem dX0_init_29 : decode cX0_init 29 = .ok (.aload_n 0, 1) := by decide +kernel
theorem dX0_init_30 : decode cX0_init 30 = .ok (.iconst 1, 1) := by decide +kernel
theorem dX0_init_31 : decode cX0_init 31 = .ok (.putfield 24, 3) := by decide +kernel
theorem dX0_init_34 : decode cX0_init 34 = .ok (.aload_n 0, 1) := by decide +kernel
theorem dX0_init_35 : decode cX0_init 35 = .ok (.iconst 0, 1) := by decide +kernel
theorem dX0_init_36 : decode cX0_init 36 = .ok (.putfield 27, 3) := by decide +kernel
theorem dX0_init_39 : decode cX0_init 39 = .ok (.return_, 1) := by decide +kernel
theorem dX0_has_0 : decode cX0_has 0 = .ok (.iload_n 1, 1) := by decide +kernel
theorem dX0_has_1 : decode cX0_has 1 = .ok (.iconst 0, 1) := by decide +kernel
theorem dX0_has_2 : decode cX0_has 2 = .ok (.aload_n 0, 1) := by decide +kernel
theorem dX0_has_3 : decode cX0_has 3 = .ok (.getfield 20, 3) := by decide +kernel
theorem dX0_has_6 : decode cX0_has 6 = .ok (.iconst 1, 1) := by decide +kernel
theorem dX0_has_7 : decode cX0_has 7 = .ok (.isub, 1) := by decide +kernel
theorem dX0_has_8 : decode cX0_has 8 = .ok (.invokestatic 30, 3) := by decide +kernel
theorem dX0_has_11 : decode cX0_has 11 = .ok (.ireturn, 1) := by decide +kernel
theorem dX0_hasAll_0 : decode cX0_hasAll 0 = .ok (.iload_n 1, 1) := by decide +kernel
theorem dX0_hasAll_1 : decode cX0_hasAll 1 = .ok (.aload_n 0, 1) := by decide +kernel
theorem dX0_hasAll_2 : decode cX0_hasAll 2 = .ok (.getfield 20, 3) := by decide +kernel
theorem dX0_hasAll_5 : decode cX0_hasAll 5 = .ok (.iushr, 1) := by decide +kernel
theorem dX0_hasAll_6 : decode cX0_hasAll 6 = .ok (.ifCond .ne 7, 3) := by decide +kernel
theorem dX0_hasAll_9 : decode cX0_hasAll 9 = .ok (.iconst 1, 1) := by decide +kernel
theorem dX0_hasAll_10 : decode cX0_hasAll 10 = .ok (.goto 4, 3) := by decide +kernel
theorem dX0_hasAll_13 : decode cX0_hasAll 13 = .ok (.iconst 0, 1) := by decide +kernel
theorem dX0_hasAll_14 : decode cX0_hasAll 14 = .ok (.ireturn, 1) := by decide +kernel
theorem dX0_isResting_0 : decode cX0_isResting 0 = .ok (.aload_n 0, 1) := by decide +kernel
theorem dX0_isResting_1 : decode cX0_isResting 1 = .ok (.getfield 11, 3) := by decide +kernel
theorem dX0_isResting_4 : decode cX0_isResting 4 = .ok (.iload_n 1, 1) := by decide +kernel
theorem dX0_isResting_5 : decode cX0_isResting 5 = .ok (.aaload, 1) := by decide +kernel
theorem dX0_isResting_6 : decode cX0_isResting 6 = .ok (.bipush 6, 2) := by decide +kernel
theorem dX0_isResting_8 : decode cX0_isResting 8 = .ok (.iaload, 1) := by decide +kernel
theorem dX0_isResting_9 : decode cX0_isResting 9 = .ok (.istore_n 2, 1) := by decide +kernel
theorem dX0_isResting_10 : decode cX0_isResting 10 = .ok (.iload_n 2, 1) := by decide +kernel
theorem dX0_isResting_11 : decode cX0_isResting 11 = .ok (.iconst (-1), 1) := by decide +kernel
theorem dX0_isResting_12 : decode cX0_isResting 12 = .ok (.if_icmp .eq 28, 3) := by decide +kernel
theorem dX0_isResting_15 : decode cX0_isResting 15 = .ok (.aload_n 0, 1) := by decide +kernel
theorem dX0_isResting_16 : decode cX0_isResting 16 = .ok (.getfield 24, 3) := by decide +kernel
theorem dX0_isResting_19 : decode cX0_isResting 19 = .ok (.iload_n 2, 1) := by decide +kernel
theorem dX0_isResting_20 : decode cX0_isResting 20 = .ok (.if_icmp .le 20, 3) := by decide +kernel
theorem dX0_isResting_23 : decode cX0_isResting 23 = .ok (.aload_n 0, 1) := by decide +kernel
theorem dX0_isResting_24 : decode cX0_isResting 24 = .ok (.getfield 24, 3) := by decide +kernel
theorem dX0_isResting_27 : decode cX0_isResting 27 = .ok (.iload_n 2, 1) := by decide +kernel
theorem dX0_isResting_28 : decode cX0_isResting 28 = .ok (.isub, 1) := by decide +kernel
theorem dX0_isResting_29 : decode cX0_isResting 29 = .ok (.aload_n 0, 1) := by decide +kernel
theorem dX0_isResting_30 : decode cX0_isResting 30 = .ok (.getfield 27, 3) := by decide +kernel
theorem dX0_isResting_33 : decode cX0_isResting 33 = .ok (.if_icmp .gt 7, 3) := by decide +kernel
theorem dX0_isResting_36 : decode cX0_isResting 36 = .ok (.iconst 1, 1) := by decide +kernel
theorem dX0_isResting_37 : decode cX0_isResting 37 = .ok (.goto 4, 3) := by decide +kernel
theorem dX0_isResting_40 : decode cX0_isResting 40 = .ok (.iconst 0, 1) := by decide +kernel
theorem dX0_isResting_41 : decode cX0_isResting 41 = .ok (.ireturn, 1) := by decide +kernel
theorem dX0_countAtHand_0 : decode cX0_countAtHand 0 = .ok (.iconst 0, 1) := by decide +kernel
theorem dX0_countAtHand_1 : decode cX0_countAtHand 1 = .ok (.istore_n 1, 1) := by decide +kernel
theorem dX0_countAtHand_2 : decode cX0_countAtHand 2 = .ok (.iconst 0, 1) := by decide +kernel
theorem dX0_countAtHand_3 : decode cX0_countAtHand 3 = .ok (.istore_n 2, 1) := by decide +kernel
theorem dX0_countAtHand_4 : decode cX0_countAtHand 4 = .ok (.iload_n 2, 1) := by decide +kernel
theorem dX0_countAtHand_5 : decode cX0_countAtHand 5 = .ok (.aload_n 0, 1) := by decide +kernel
theorem dX0_countAtHand_6 : decode cX0_countAtHand 6 = .ok (.getfield 20, 3) := by decide +kernel
theorem dX0_countAtHand_9 : decode cX0_countAtHand 9 = .ok (.if_icmp .ge 25, 3) := by decide +kernel
theorem dX0_countAtHand_12 : decode cX0_countAtHand 12 = .ok (.iload_n 1, 1) := by decide +kernel
theorem dX0_countAtHand_13 : decode cX0_countAtHand 13 = .ok (.aload_n 0, 1) := by decide +kernel
theorem dX0_countAtHand_14 : decode cX0_countAtHand 14 = .ok (.iload_n 2, 1) := by decide +kernel
theorem dX0_countAtHand_15 : decode cX0_countAtHand 15 = .ok (.invokevirtual 34, 3) := by decide +kernel
theorem dX0_countAtHand_18 : decode cX0_countAtHand 18 = .ok (.ifCond .eq 7, 3) := by decide +kernel
theorem dX0_countAtHand_21 : decode cX0_countAtHand 21 = .ok (.iconst 0, 1) := by decide +kernel
theorem dX0_countAtHand_22 : decode cX0_countAtHand 22 = .ok (.goto 4, 3) := by decide +kernel
theorem dX0_countAtHand_25 : decode cX0_countAtHand 25 = .ok (.iconst 1, 1) := by decide +kernel
theorem dX0_countAtHand_26 : decode cX0_countAtHand 26 = .ok (.iadd, 1) := by decide +kernel
theorem dX0_countAtHand_27 : decode cX0_countAtHand 27 = .ok (.istore_n 1, 1) := by decide +kernel
theorem dX0_countAtHand_28 : decode cX0_countAtHand 28 = .ok (.iinc 2 1, 3) := by decide +kernel
theorem dX0_countAtHand_31 : decode cX0_countAtHand 31 = .ok (.goto (-27), 3) := by decide +kernel
theorem dX0_countAtHand_34 : decode cX0_countAtHand 34 = .ok (.iload_n 1, 1) := by decide +kernel
theorem dX0_countAtHand_35 : decode cX0_countAtHand 35 = .ok (.ireturn, 1) := by decide +kernel
theorem dX0_wholeOf_0 : decode cX0_wholeOf 0 = .ok (.aload_n 0, 1) := by decide +kernel
theorem dX0_wholeOf_1 : decode cX0_wholeOf 1 = .ok (.getfield 11, 3) := by decide +kernel
theorem dX0_wholeOf_4 : decode cX0_wholeOf 4 = .ok (.iload_n 1, 1) := by decide +kernel
theorem dX0_wholeOf_5 : decode cX0_wholeOf 5 = .ok (.aaload, 1) := by decide +kernel
theorem dX0_wholeOf_6 : decode cX0_wholeOf 6 = .ok (.iconst 5, 1) := by decide +kernel
theorem dX0_wholeOf_7 : decode cX0_wholeOf 7 = .ok (.iaload, 1) := by decide +kernel
theorem dX0_wholeOf_8 : decode cX0_wholeOf 8 = .ok (.istore_n 2, 1) := by decide +kernel
theorem dX0_wholeOf_9 : decode cX0_wholeOf 9 = .ok (.iconst 1, 1) := by decide +kernel
theorem dX0_wholeOf_10 : decode cX0_wholeOf 10 = .ok (.iload_n 1, 1) := by decide +kernel
theorem dX0_wholeOf_11 : decode cX0_wholeOf 11 = .ok (.ishl, 1) := by decide +kernel
theorem dX0_wholeOf_12 : decode cX0_wholeOf 12 = .ok (.istore_n 3, 1) := by decide +kernel
theorem dX0_wholeOf_13 : decode cX0_wholeOf 13 = .ok (.iconst 0, 1) := by decide +kernel
theorem dX0_wholeOf_14 : decode cX0_wholeOf 14 = .ok (.istore 4, 2) := by decide +kernel
theorem dX0_wholeOf_16 : decode cX0_wholeOf 16 = .ok (.iload_n 2, 1) := by decide +kernel
theorem dX0_wholeOf_17 : decode cX0_wholeOf 17 = .ok (.iconst (-1), 1) := by decide +kernel
theorem dX0_wholeOf_18 : decode cX0_wholeOf 18 = .ok (.if_icmp .eq 38, 3) := by decide +kernel
theorem dX0_wholeOf_21 : decode cX0_wholeOf 21 = .ok (.iload 4, 2) := by decide +kernel
theorem dX0_wholeOf_23 : decode cX0_wholeOf 23 = .ok (.aload_n 0, 1) := by decide +kernel
theorem dX0_wholeOf_24 : decode cX0_wholeOf 24 = .ok (.getfield 20, 3) := by decide +kernel
theorem dX0_wholeOf_27 : decode cX0_wholeOf 27 = .ok (.if_icmp .ge 29, 3) := by decide +kernel
theorem dX0_wholeOf_30 : decode cX0_wholeOf 30 = .ok (.aload_n 0, 1) := by decide +kernel
theorem dX0_wholeOf_31 : decode cX0_wholeOf 31 = .ok (.getfield 11, 3) := by decide +kernel
theorem dX0_wholeOf_34 : decode cX0_wholeOf 34 = .ok (.iload 4, 2) := by decide +kernel
theorem dX0_wholeOf_36 : decode cX0_wholeOf 36 = .ok (.aaload, 1) := by decide +kernel
theorem dX0_wholeOf_37 : decode cX0_wholeOf 37 = .ok (.iconst 5, 1) := by decide +kernel
theorem dX0_wholeOf_38 : decode cX0_wholeOf 38 = .ok (.iaload, 1) := by decide +kernel
theorem dX0_wholeOf_39 : decode cX0_wholeOf 39 = .ok (.iload_n 2, 1) := by decide +kernel
theorem dX0_wholeOf_40 : decode cX0_wholeOf 40 = .ok (.if_icmp .ne 10, 3) := by decide +kernel
theorem dX0_wholeOf_43 : decode cX0_wholeOf 43 = .ok (.iload_n 3, 1) := by decide +kernel
theorem dX0_wholeOf_44 : decode cX0_wholeOf 44 = .ok (.iconst 1, 1) := by decide +kernel
theorem dX0_wholeOf_45 : decode cX0_wholeOf 45 = .ok (.iload 4, 2) := by decide +kernel
theorem dX0_wholeOf_47 : decode cX0_wholeOf 47 = .ok (.ishl, 1) := by decide +kernel
theorem dX0_wholeOf_48 : decode cX0_wholeOf 48 = .ok (.ior, 1) := by decide +kernel
theorem dX0_wholeOf_49 : decode cX0_wholeOf 49 = .ok (.istore_n 3, 1) := by decide +kernel
theorem dX0_wholeOf_50 : decode cX0_wholeOf 50 = .ok (.iinc 4 1, 3) := by decide +kernel
theorem dX0_wholeOf_53 : decode cX0_wholeOf 53 = .ok (.goto (-37), 3) := by decide +kernel
theorem dX0_wholeOf_56 : decode cX0_wholeOf 56 = .ok (.iload_n 3, 1) := by decide +kernel
theorem dX0_wholeOf_57 : decode cX0_wholeOf 57 = .ok (.ireturn, 1) := by decide +kernel
theorem dX0_isFit_0 : decode cX0_isFit 0 = .ok (.iconst 0, 1) := by decide +kernel
theorem dX0_isFit_1 : decode cX0_isFit 1 = .ok (.istore_n 2, 1) := by decide +kernel
theorem dX0_isFit_2 : decode cX0_isFit 2 = .ok (.iload_n 2, 1) := by decide +kernel
theorem dX0_isFit_3 : decode cX0_isFit 3 = .ok (.aload_n 0, 1) := by decide +kernel
theorem dX0_isFit_4 : decode cX0_isFit 4 = .ok (.getfield 20, 3) := by decide +kernel
theorem dX0_isFit_7 : decode cX0_isFit 7 = .ok (.if_icmp .ge 28, 3) := by decide +kernel
theorem dX0_isFit_10 : decode cX0_isFit 10 = .ok (.iload_n 1, 1) := by decide +kernel
theorem dX0_isFit_11 : decode cX0_isFit 11 = .ok (.iload_n 2, 1) := by decide +kernel
theorem dX0_isFit_12 : decode cX0_isFit 12 = .ok (.invokestatic 38, 3) := by decide +kernel
theorem dX0_isFit_15 : decode cX0_isFit 15 = .ok (.ifCond .eq 14, 3) := by decide +kernel
theorem dX0_isFit_18 : decode cX0_isFit 18 = .ok (.aload_n 0, 1) := by decide +kernel
theorem dX0_isFit_19 : decode cX0_isFit 19 = .ok (.iload_n 1, 1) := by decide +kernel
theorem dX0_isFit_20 : decode cX0_isFit 20 = .ok (.iload_n 2, 1) := by decide +kernel
theorem dX0_isFit_21 : decode cX0_isFit 21 = .ok (.invokevirtual 42, 3) := by decide +kernel
theorem dX0_isFit_24 : decode cX0_isFit 24 = .ok (.ifCond .ne 5, 3) := by decide +kernel
theorem dX0_isFit_27 : decode cX0_isFit 27 = .ok (.iconst 0, 1) := by decide +kernel
theorem dX0_isFit_28 : decode cX0_isFit 28 = .ok (.ireturn, 1) := by decide +kernel
theorem dX0_isFit_29 : decode cX0_isFit 29 = .ok (.iinc 2 1, 3) := by decide +kernel
theorem dX0_isFit_32 : decode cX0_isFit 32 = .ok (.goto (-30), 3) := by decide +kernel
theorem dX0_isFit_35 : decode cX0_isFit 35 = .ok (.iconst 1, 1) := by decide +kernel
theorem dX0_isFit_36 : decode cX0_isFit 36 = .ok (.ireturn, 1) := by decide +kernel
theorem dX0_fitsInto_0 : decode cX0_fitsInto 0 = .ok (.aload_n 0, 1) := by decide +kernel
theorem dX0_fitsInto_1 : decode cX0_fitsInto 1 = .ok (.iload_n 2, 1) := by decide +kernel
theorem dX0_fitsInto_2 : decode cX0_fitsInto 2 = .ok (.invokevirtual 34, 3) := by decide +kernel
theorem dX0_fitsInto_5 : decode cX0_fitsInto 5 = .ok (.ifCond .ne 30, 3) := by decide +kernel
theorem dX0_fitsInto_8 : decode cX0_fitsInto 8 = .ok (.aload_n 0, 1) := by decide +kernel
theorem dX0_fitsInto_9 : decode cX0_fitsInto 9 = .ok (.getfield 16, 3) := by decide +kernel
theorem dX0_fitsInto_12 : decode cX0_fitsInto 12 = .ok (.iload_n 2, 1) := by decide +kernel
theorem dX0_fitsInto_13 : decode cX0_fitsInto 13 = .ok (.iaload, 1) := by decide +kernel
theorem dX0_fitsInto_14 : decode cX0_fitsInto 14 = .ok (.iload_n 1, 1) := by decide +kernel
theorem dX0_fitsInto_15 : decode cX0_fitsInto 15 = .ok (.iand, 1) := by decide +kernel
theorem dX0_fitsInto_16 : decode cX0_fitsInto 16 = .ok (.ifCond .ne 19, 3) := by decide +kernel
theorem dX0_fitsInto_19 : decode cX0_fitsInto 19 = .ok (.aload_n 0, 1) := by decide +kernel
theorem dX0_fitsInto_20 : decode cX0_fitsInto 20 = .ok (.iload_n 2, 1) := by decide +kernel
theorem dX0_fitsInto_21 : decode cX0_fitsInto 21 = .ok (.invokevirtual 45, 3) := by decide +kernel
theorem dX0_fitsInto_24 : decode cX0_fitsInto 24 = .ok (.iload_n 1, 1) := by decide +kernel
theorem dX0_fitsInto_25 : decode cX0_fitsInto 25 = .ok (.iconst (-1), 1) := by decide +kernel
theorem dX0_fitsInto_26 : decode cX0_fitsInto 26 = .ok (.ixor, 1) := by decide +kernel
theorem dX0_fitsInto_27 : decode cX0_fitsInto 27 = .ok (.iand, 1) := by decide +kernel
theorem dX0_fitsInto_28 : decode cX0_fitsInto 28 = .ok (.ifCond .ne 7, 3) := by decide +kernel
theorem dX0_fitsInto_31 : decode cX0_fitsInto 31 = .ok (.iconst 1, 1) := by decide +kernel
theorem dX0_fitsInto_32 : decode cX0_fitsInto 32 = .ok (.goto 4, 3) := by decide +kernel
theorem dX0_fitsInto_35 : decode cX0_fitsInto 35 = .ok (.iconst 0, 1) := by decide +kernel
theorem dX0_fitsInto_36 : decode cX0_fitsInto 36 = .ok (.ireturn, 1) := by decide +kernel
theorem dX0_clashesWith_0 : decode cX0_clashesWith 0 = .ok (.iconst 0, 1) := by decide +kernel
theorem dX0_clashesWith_1 : decode cX0_clashesWith 1 = .ok (.istore_n 2, 1) := by decide +kernel
theorem dX0_clashesWith_2 : decode cX0_clashesWith 2 = .ok (.iconst 0, 1) := by decide +kernel
theorem dX0_clashesWith_3 : decode cX0_clashesWith 3 = .ok (.istore_n 3, 1) := by decide +kernel
theorem dX0_clashesWith_4 : decode cX0_clashesWith 4 = .ok (.iload_n 3, 1) := by decide +kernel
theorem dX0_clashesWith_5 : decode cX0_clashesWith 5 = .ok (.aload_n 0, 1) := by decide +kernel
theorem dX0_clashesWith_6 : decode cX0_clashesWith 6 = .ok (.getfield 20, 3) := by decide +kernel
theorem dX0_clashesWith_9 : decode cX0_clashesWith 9 = .ok (.if_icmp .ge 43, 3) := by decide +kernel
theorem dX0_clashesWith_12 : decode cX0_clashesWith 12 = .ok (.iload_n 1, 1) := by decide +kernel
theorem dX0_clashesWith_13 : decode cX0_clashesWith 13 = .ok (.iload_n 3, 1) := by decide +kernel
theorem dX0_clashesWith_14 : decode cX0_clashesWith 14 = .ok (.invokestatic 38, 3) := by decide +kernel
theorem dX0_clashesWith_17 : decode cX0_clashesWith 17 = .ok (.ifCond .eq 12, 3) := by decide +kernel
theorem dX0_clashesWith_20 : decode cX0_clashesWith 20 = .ok (.iload_n 2, 1) := by decide +kernel
theorem dX0_clashesWith_21 : decode cX0_clashesWith 21 = .ok (.aload_n 0, 1) := by decide +kernel
theorem dX0_clashesWith_22 : decode cX0_clashesWith 22 = .ok (.getfield 16, 3) := by decide +kernel
theorem dX0_clashesWith_25 : decode cX0_clashesWith 25 = .ok (.iload_n 3, 1) := by decide +kernel
theorem dX0_clashesWith_26 : decode cX0_clashesWith 26 = .ok (.iaload, 1) := by decide +kernel
theorem dX0_clashesWith_27 : decode cX0_clashesWith 27 = .ok (.ior, 1) := by decide +kernel
theorem dX0_clashesWith_28 : decode cX0_clashesWith 28 = .ok (.istore_n 2, 1) := by decide +kernel
theorem dX0_clashesWith_29 : decode cX0_clashesWith 29 = .ok (.aload_n 0, 1) := by decide +kernel
theorem dX0_clashesWith_30 : decode cX0_clashesWith 30 = .ok (.getfield 16, 3) := by decide +kernel
theorem dX0_clashesWith_33 : decode cX0_clashesWith 33 = .ok (.iload_n 3, 1) := by decide +kernel
theorem dX0_clashesWith_34 : decode cX0_clashesWith 34 = .ok (.iaload, 1) := by decide +kernel
theorem dX0_clashesWith_35 : decode cX0_clashesWith 35 = .ok (.iload_n 1, 1) := by decide +kernel
theorem dX0_clashesWith_36 : decode cX0_clashesWith 36 = .ok (.iand, 1) := by decide +kernel
theorem dX0_clashesWith_37 : decode cX0_clashesWith 37 = .ok (.ifCond .eq 9, 3) := by decide +kernel
theorem dX0_clashesWith_40 : decode cX0_clashesWith 40 = .ok (.iload_n 2, 1) := by decide +kernel
theorem dX0_clashesWith_41 : decode cX0_clashesWith 41 = .ok (.iconst 1, 1) := by decide +kernel
theorem dX0_clashesWith_42 : decode cX0_clashesWith 42 = .ok (.iload_n 3, 1) := by decide +kernel
theorem dX0_clashesWith_43 : decode cX0_clashesWith 43 = .ok (.ishl, 1) := by decide +kernel
theorem dX0_clashesWith_44 : decode cX0_clashesWith 44 = .ok (.ior, 1) := by decide +kernel
theorem dX0_clashesWith_45 : decode cX0_clashesWith 45 = .ok (.istore_n 2, 1) := by decide +kernel
theorem dX0_clashesWith_46 : decode cX0_clashesWith 46 = .ok (.iinc 3 1, 3) := by decide +kernel
theorem dX0_clashesWith_49 : decode cX0_clashesWith 49 = .ok (.goto (-45), 3) := by decide +kernel
theorem dX0_clashesWith_52 : decode cX0_clashesWith 52 = .ok (.iload_n 2, 1) := by decide +kernel
theorem dX0_clashesWith_53 : decode cX0_clashesWith 53 = .ok (.ireturn, 1) := by decide +kernel
theorem dX0_sumUp_0 : decode cX0_sumUp 0 = .ok (.iconst 0, 1) := by decide +kernel
theorem dX0_sumUp_1 : decode cX0_sumUp 1 = .ok (.istore_n 3, 1) := by decide +kernel
theorem dX0_sumUp_2 : decode cX0_sumUp 2 = .ok (.iload_n 3, 1) := by decide +kernel
theorem dX0_sumUp_3 : decode cX0_sumUp 3 = .ok (.bipush 10, 2) := by decide +kernel
theorem dX0_sumUp_5 : decode cX0_sumUp 5 = .ok (.if_icmp .ge 57, 3) := by decide +kernel
theorem dX0_sumUp_8 : decode cX0_sumUp 8 = .ok (.aload_n 2, 1) := by decide +kernel
theorem dX0_sumUp_9 : decode cX0_sumUp 9 = .ok (.iload_n 3, 1) := by decide +kernel
theorem dX0_sumUp_10 : decode cX0_sumUp 10 = .ok (.iconst 0, 1) := by decide +kernel
theorem dX0_sumUp_11 : decode cX0_sumUp 11 = .ok (.iastore, 1) := by decide +kernel
theorem dX0_sumUp_12 : decode cX0_sumUp 12 = .ok (.iconst 0, 1) := by decide +kernel
theorem dX0_sumUp_13 : decode cX0_sumUp 13 = .ok (.istore 4, 2) := by decide +kernel
theorem dX0_sumUp_15 : decode cX0_sumUp 15 = .ok (.iload 4, 2) := by decide +kernel
theorem dX0_sumUp_17 : decode cX0_sumUp 17 = .ok (.aload_n 0, 1) := by decide +kernel
theorem dX0_sumUp_18 : decode cX0_sumUp 18 = .ok (.getfield 20, 3) := by decide +kernel
theorem dX0_sumUp_21 : decode cX0_sumUp 21 = .ok (.if_icmp .ge 35, 3) := by decide +kernel
theorem dX0_sumUp_24 : decode cX0_sumUp 24 = .ok (.aload_n 2, 1) := by decide +kernel
theorem dX0_sumUp_25 : decode cX0_sumUp 25 = .ok (.iload_n 3, 1) := by decide +kernel
theorem dX0_sumUp_26 : decode cX0_sumUp 26 = .ok (.dup2, 1) := by decide +kernel
theorem dX0_sumUp_27 : decode cX0_sumUp 27 = .ok (.iaload, 1) := by decide +kernel
theorem dX0_sumUp_28 : decode cX0_sumUp 28 = .ok (.iload_n 1, 1) := by decide +kernel
theorem dX0_sumUp_29 : decode cX0_sumUp 29 = .ok (.iload 4, 2) := by decide +kernel
theorem dX0_sumUp_31 : decode cX0_sumUp 31 = .ok (.invokestatic 38, 3) := by decide +kernel
theorem dX0_sumUp_34 : decode cX0_sumUp 34 = .ok (.ifCond .eq 13, 3) := by decide +kernel
theorem dX0_sumUp_37 : decode cX0_sumUp 37 = .ok (.aload_n 0, 1) := by decide +kernel
theorem dX0_sumUp_38 : decode cX0_sumUp 38 = .ok (.iload 4, 2) := by decide +kernel
theorem dX0_sumUp_40 : decode cX0_sumUp 40 = .ok (.iload_n 3, 1) := by decide +kernel
theorem dX0_sumUp_41 : decode cX0_sumUp 41 = .ok (.invokevirtual 49, 3) := by decide +kernel
theorem dX0_sumUp_44 : decode cX0_sumUp 44 = .ok (.goto 4, 3) := by decide +kernel
theorem dX0_sumUp_47 : decode cX0_sumUp 47 = .ok (.iconst 0, 1) := by decide +kernel
theorem dX0_sumUp_48 : decode cX0_sumUp 48 = .ok (.iadd, 1) := by decide +kernel
theorem dX0_sumUp_49 : decode cX0_sumUp 49 = .ok (.iastore, 1) := by decide +kernel
theorem dX0_sumUp_50 : decode cX0_sumUp 50 = .ok (.iinc 4 1, 3) := by decide +kernel
theorem dX0_sumUp_53 : decode cX0_sumUp 53 = .ok (.goto (-38), 3) := by decide +kernel
theorem dX0_sumUp_56 : decode cX0_sumUp 56 = .ok (.iinc 3 1, 3) := by decide +kernel
theorem dX0_sumUp_59 : decode cX0_sumUp 59 = .ok (.goto (-57), 3) := by decide +kernel
theorem dX0_sumUp_62 : decode cX0_sumUp 62 = .ok (.return_, 1) := by decide +kernel
theorem dX0_weightOf_0 : decode cX0_weightOf 0 = .ok (.aload_n 0, 1) := by decide +kernel
theorem dX0_weightOf_1 : decode cX0_weightOf 1 = .ok (.getfield 11, 3) := by decide +kernel
theorem dX0_weightOf_4 : decode cX0_weightOf 4 = .ok (.iload_n 1, 1) := by decide +kernel
theorem dX0_weightOf_5 : decode cX0_weightOf 5 = .ok (.aaload, 1) := by decide +kernel
theorem dX0_weightOf_6 : decode cX0_weightOf 6 = .ok (.iconst 3, 1) := by decide +kernel
theorem dX0_weightOf_7 : decode cX0_weightOf 7 = .ok (.iaload, 1) := by decide +kernel
theorem dX0_weightOf_8 : decode cX0_weightOf 8 = .ok (.istore_n 3, 1) := by decide +kernel
theorem dX0_weightOf_9 : decode cX0_weightOf 9 = .ok (.iload_n 2, 1) := by decide +kernel
theorem dX0_weightOf_10 : decode cX0_weightOf 10 = .ok (.ifCond .ne 5, 3) := by decide +kernel
theorem dX0_weightOf_13 : decode cX0_weightOf 13 = .ok (.iconst 1, 1) := by decide +kernel
theorem dX0_weightOf_14 : decode cX0_weightOf 14 = .ok (.ireturn, 1) := by decide +kernel
theorem dX0_weightOf_15 : decode cX0_weightOf 15 = .ok (.iload_n 2, 1) := by decide +kernel
theorem dX0_weightOf_16 : decode cX0_weightOf 16 = .ok (.iconst 1, 1) := by decide +kernel
theorem dX0_weightOf_17 : decode cX0_weightOf 17 = .ok (.if_icmp .ne 12, 3) := by decide +kernel
theorem dX0_weightOf_20 : decode cX0_weightOf 20 = .ok (.aload_n 0, 1) := by decide +kernel
theorem dX0_weightOf_21 : decode cX0_weightOf 21 = .ok (.getfield 11, 3) := by decide +kernel
theorem dX0_weightOf_24 : decode cX0_weightOf 24 = .ok (.iload_n 1, 1) := by decide +kernel
theorem dX0_weightOf_25 : decode cX0_weightOf 25 = .ok (.aaload, 1) := by decide +kernel
theorem dX0_weightOf_26 : decode cX0_weightOf 26 = .ok (.iconst 2, 1) := by decide +kernel
theorem dX0_weightOf_27 : decode cX0_weightOf 27 = .ok (.iaload, 1) := by decide +kernel
theorem dX0_weightOf_28 : decode cX0_weightOf 28 = .ok (.ireturn, 1) := by decide +kernel
theorem dX0_weightOf_29 : decode cX0_weightOf 29 = .ok (.iload_n 2, 1) := by decide +kernel
theorem dX0_weightOf_30 : decode cX0_weightOf 30 = .ok (.iconst 2, 1) := by decide +kernel
theorem dX0_weightOf_31 : decode cX0_weightOf 31 = .ok (.if_icmp .ne 5, 3) := by decide +kernel
theorem dX0_weightOf_34 : decode cX0_weightOf 34 = .ok (.iload_n 3, 1) := by decide +kernel
theorem dX0_weightOf_35 : decode cX0_weightOf 35 = .ok (.ireturn, 1) := by decide +kernel
theorem dX0_weightOf_36 : decode cX0_weightOf 36 = .ok (.iload_n 2, 1) := by decide +kernel
theorem dX0_weightOf_37 : decode cX0_weightOf 37 = .ok (.bipush 7, 2) := by decide +kernel
theorem dX0_weightOf_39 : decode cX0_weightOf 39 = .ok (.if_icmp .ge 23, 3) := by decide +kernel
theorem dX0_weightOf_42 : decode cX0_weightOf 42 = .ok (.aload_n 0, 1) := by decide +kernel
theorem dX0_weightOf_43 : decode cX0_weightOf 43 = .ok (.getfield 11, 3) := by decide +kernel
theorem dX0_weightOf_46 : decode cX0_weightOf 46 = .ok (.iload_n 1, 1) := by decide +kernel
theorem dX0_weightOf_47 : decode cX0_weightOf 47 = .ok (.aaload, 1) := by decide +kernel
theorem dX0_weightOf_48 : decode cX0_weightOf 48 = .ok (.iconst 0, 1) := by decide +kernel
theorem dX0_weightOf_49 : decode cX0_weightOf 49 = .ok (.iaload, 1) := by decide +kernel
theorem dX0_weightOf_50 : decode cX0_weightOf 50 = .ok (.iload_n 2, 1) := by decide +kernel
theorem dX0_weightOf_51 : decode cX0_weightOf 51 = .ok (.iconst 3, 1) := by decide +kernel
theorem dX0_weightOf_52 : decode cX0_weightOf 52 = .ok (.isub, 1) := by decide +kernel
theorem dX0_weightOf_53 : decode cX0_weightOf 53 = .ok (.if_icmp .ne 7, 3) := by decide +kernel
theorem dX0_weightOf_56 : decode cX0_weightOf 56 = .ok (.iload_n 3, 1) := by decide +kernel
theorem dX0_weightOf_57 : decode cX0_weightOf 57 = .ok (.goto 4, 3) := by decide +kernel
theorem dX0_weightOf_60 : decode cX0_weightOf 60 = .ok (.iconst 0, 1) := by decide +kernel
theorem dX0_weightOf_61 : decode cX0_weightOf 61 = .ok (.ireturn, 1) := by decide +kernel
theorem dX0_weightOf_62 : decode cX0_weightOf 62 = .ok (.aload_n 0, 1) := by decide +kernel
theorem dX0_weightOf_63 : decode cX0_weightOf 63 = .ok (.getfield 11, 3) := by decide +kernel
theorem dX0_weightOf_66 : decode cX0_weightOf 66 = .ok (.iload_n 1, 1) := by decide +kernel
theorem dX0_weightOf_67 : decode cX0_weightOf 67 = .ok (.aaload, 1) := by decide +kernel
theorem dX0_weightOf_68 : decode cX0_weightOf 68 = .ok (.iconst 1, 1) := by decide +kernel
theorem dX0_weightOf_69 : decode cX0_weightOf 69 = .ok (.iaload, 1) := by decide +kernel
theorem dX0_weightOf_70 : decode cX0_weightOf 70 = .ok (.iload_n 2, 1) := by decide +kernel
theorem dX0_weightOf_71 : decode cX0_weightOf 71 = .ok (.bipush 7, 2) := by decide +kernel
theorem dX0_weightOf_73 : decode cX0_weightOf 73 = .ok (.isub, 1) := by decide +kernel
theorem dX0_weightOf_74 : decode cX0_weightOf 74 = .ok (.if_icmp .ne 7, 3) := by decide +kernel
theorem dX0_weightOf_77 : decode cX0_weightOf 77 = .ok (.iload_n 3, 1) := by decide +kernel
theorem dX0_weightOf_78 : decode cX0_weightOf 78 = .ok (.goto 4, 3) := by decide +kernel
theorem dX0_weightOf_81 : decode cX0_weightOf 81 = .ok (.iconst 0, 1) := by decide +kernel
theorem dX0_weightOf_82 : decode cX0_weightOf 82 = .ok (.ireturn, 1) := by decide +kernel
theorem dX1_init_0 : decode cX1_init 0 = .ok (.aload_n 0, 1) := by decide +kernel
theorem dX1_init_1 : decode cX1_init 1 = .ok (.aload_n 1, 1) := by decide +kernel
theorem dX1_init_2 : decode cX1_init 2 = .ok (.aload_n 2, 1) := by decide +kernel
theorem dX1_init_3 : decode cX1_init 3 = .ok (.invokespecial 3, 3) := by decide +kernel
theorem dX1_init_6 : decode cX1_init 6 = .ok (.aload_n 0, 1) := by decide +kernel
theorem dX1_init_7 : decode cX1_init 7 = .ok (.bipush (-2), 2) := by decide +kernel
theorem dX1_init_9 : decode cX1_init 9 = .ok (.putfield 9, 3) := by decide +kernel
theorem dX1_init_12 : decode cX1_init 12 = .ok (.aload_n 0, 1) := by decide +kernel
theorem dX1_init_13 : decode cX1_init 13 = .ok (.ldc 15, 2) := by decide +kernel
theorem dX1_init_15 : decode cX1_init 15 = .ok (.putfield 16, 3) := by decide +kernel
theorem dX1_init_18 : decode cX1_init 18 = .ok (.aload_n 0, 1) := by decide +kernel
theorem dX1_init_19 : decode cX1_init 19 = .ok (.iconst 0, 1) := by decide +kernel
theorem dX1_init_20 : decode cX1_init 20 = .ok (.putfield 19, 3) := by decide +kernel
theorem dX1_init_23 : decode cX1_init 23 = .ok (.return_, 1) := by decide +kernel
theorem dX1_findBest_0 : decode cX1_findBest 0 = .ok (.aload_n 0, 1) := by decide +kernel
theorem dX1_findBest_1 : decode cX1_findBest 1 = .ok (.bipush (-2), 2) := by decide +kernel
theorem dX1_findBest_3 : decode cX1_findBest 3 = .ok (.putfield 9, 3) := by decide +kernel
theorem dX1_findBest_6 : decode cX1_findBest 6 = .ok (.aload_n 0, 1) := by decide +kernel
theorem dX1_findBest_7 : decode cX1_findBest 7 = .ok (.ldc 15, 2) := by decide +kernel
theorem dX1_findBest_9 : decode cX1_findBest 9 = .ok (.putfield 16, 3) := by decide +kernel
theorem dX1_findBest_12 : decode cX1_findBest 12 = .ok (.aload_n 0, 1) := by decide +kernel
theorem dX1_findBest_13 : decode cX1_findBest 13 = .ok (.iconst 0, 1) := by decide +kernel
theorem dX1_findBest_14 : decode cX1_findBest 14 = .ok (.putfield 19, 3) := by decide +kernel
theorem dX1_findBest_17 : decode cX1_findBest 17 = .ok (.aload_n 0, 1) := by decide +kernel
theorem dX1_findBest_18 : decode cX1_findBest 18 = .ok (.invokevirtual 22, 3) := by decide +kernel
theorem dX1_findBest_21 : decode cX1_findBest 21 = .ok (.aload_n 0, 1) := by decide +kernel
theorem dX1_findBest_22 : decode cX1_findBest 22 = .ok (.getfield 9, 3) := by decide +kernel
theorem dX1_findBest_25 : decode cX1_findBest 25 = .ok (.ireturn, 1) := by decide +kernel
theorem dX1_isHopeless_0 : decode cX1_isHopeless 0 = .ok (.aload_n 0, 1) := by decide +kernel
theorem dX1_isHopeless_1 : decode cX1_isHopeless 1 = .ok (.getfield 26, 3) := by decide +kernel
theorem dX1_isHopeless_4 : decode cX1_isHopeless 4 = .ok (.aload_n 0, 1) := by decide +kernel
theorem dX1_isHopeless_5 : decode cX1_isHopeless 5 = .ok (.getfield 30, 3) := by decide +kernel
theorem dX1_isHopeless_8 : decode cX1_isHopeless 8 = .ok (.aload_n 0, 1) := by decide +kernel
theorem dX1_isHopeless_9 : decode cX1_isHopeless 9 = .ok (.getfield 34, 3) := by decide +kernel
theorem dX1_isHopeless_12 : decode cX1_isHopeless 12 = .ok (.getfield 38, 3) := by decide +kernel
theorem dX1_isHopeless_15 : decode cX1_isHopeless 15 = .ok (.iload_n 1, 1) := by decide +kernel
theorem dX1_isHopeless_16 : decode cX1_isHopeless 16 = .ok (.aaload, 1) := by decide +kernel
theorem dX1_isHopeless_17 : decode cX1_isHopeless 17 = .ok (.invokevirtual 44, 3) := by decide +kernel
theorem dX1_isHopeless_20 : decode cX1_isHopeless 20 = .ok (.ifCond .eq 5, 3) := by decide +kernel
theorem dX1_isHopeless_23 : decode cX1_isHopeless 23 = .ok (.iconst 1, 1) := by decide +kernel
theorem dX1_isHopeless_24 : decode cX1_isHopeless 24 = .ok (.ireturn, 1) := by decide +kernel
theorem dX1_isHopeless_25 : decode cX1_isHopeless 25 = .ok (.aload_n 0, 1) := by decide +kernel
theorem dX1_isHopeless_26 : decode cX1_isHopeless 26 = .ok (.getfield 26, 3) := by decide +kernel
theorem dX1_isHopeless_29 : decode cX1_isHopeless 29 = .ok (.aload_n 0, 1) := by decide +kernel
theorem dX1_isHopeless_30 : decode cX1_isHopeless 30 = .ok (.getfield 30, 3) := by decide +kernel
theorem dX1_isHopeless_33 : decode cX1_isHopeless 33 = .ok (.aload_n 0, 1) := by decide +kernel
theorem dX1_isHopeless_34 : decode cX1_isHopeless 34 = .ok (.getfield 34, 3) := by decide +kernel
theorem dX1_isHopeless_37 : decode cX1_isHopeless 37 = .ok (.getfield 38, 3) := by decide +kernel
theorem dX1_isHopeless_40 : decode cX1_isHopeless 40 = .ok (.iload_n 1, 1) := by decide +kernel
theorem dX1_isHopeless_41 : decode cX1_isHopeless 41 = .ok (.aaload, 1) := by decide +kernel
theorem dX1_isHopeless_42 : decode cX1_isHopeless 42 = .ok (.invokevirtual 50, 3) := by decide +kernel
theorem dX1_isHopeless_45 : decode cX1_isHopeless 45 = .ok (.istore_n 2, 1) := by decide +kernel
theorem dX1_isHopeless_46 : decode cX1_isHopeless 46 = .ok (.iload_n 2, 1) := by decide +kernel
theorem dX1_isHopeless_47 : decode cX1_isHopeless 47 = .ok (.aload_n 0, 1) := by decide +kernel
theorem dX1_isHopeless_48 : decode cX1_isHopeless 48 = .ok (.getfield 16, 3) := by decide +kernel
theorem dX1_isHopeless_51 : decode cX1_isHopeless 51 = .ok (.if_icmp .gt 24, 3) := by decide +kernel
theorem dX1_isHopeless_54 : decode cX1_isHopeless 54 = .ok (.iload_n 2, 1) := by decide +kernel
theorem dX1_isHopeless_55 : decode cX1_isHopeless 55 = .ok (.aload_n 0, 1) := by decide +kernel
theorem dX1_isHopeless_56 : decode cX1_isHopeless 56 = .ok (.getfield 16, 3) := by decide +kernel
theorem dX1_isHopeless_59 : decode cX1_isHopeless 59 = .ok (.if_icmp .ne 20, 3) := by decide +kernel
theorem dX1_isHopeless_62 : decode cX1_isHopeless 62 = .ok (.aload_n 0, 1) := by decide +kernel
theorem dX1_isHopeless_63 : decode cX1_isHopeless 63 = .ok (.getfield 30, 3) := by decide +kernel
theorem dX1_isHopeless_66 : decode cX1_isHopeless 66 = .ok (.iconst 0, 1) := by decide +kernel
theorem dX1_isHopeless_67 : decode cX1_isHopeless 67 = .ok (.iaload, 1) := by decide +kernel
theorem dX1_isHopeless_68 : decode cX1_isHopeless 68 = .ok (.aload_n 0, 1) := by decide +kernel
theorem dX1_isHopeless_69 : decode cX1_isHopeless 69 = .ok (.getfield 19, 3) := by decide +kernel
theorem dX1_isHopeless_72 : decode cX1_isHopeless 72 = .ok (.if_icmp .lt 7, 3) := by decide +kernel
theorem dX1_isHopeless_75 : decode cX1_isHopeless 75 = .ok (.iconst 1, 1) := by decide +kernel
theorem dX1_isHopeless_76 : decode cX1_isHopeless 76 = .ok (.goto 4, 3) := by decide +kernel
theorem dX1_isHopeless_79 : decode cX1_isHopeless 79 = .ok (.iconst 0, 1) := by decide +kernel
theorem dX1_isHopeless_80 : decode cX1_isHopeless 80 = .ok (.ireturn, 1) := by decide +kernel
theorem dX1_meet_0 : decode cX1_meet 0 = .ok (.aload_n 0, 1) := by decide +kernel
theorem dX1_meet_1 : decode cX1_meet 1 = .ok (.aload_n 0, 1) := by decide +kernel
theorem dX1_meet_2 : decode cX1_meet 2 = .ok (.getfield 53, 3) := by decide +kernel
theorem dX1_meet_5 : decode cX1_meet 5 = .ok (.putfield 9, 3) := by decide +kernel
theorem dX1_meet_8 : decode cX1_meet 8 = .ok (.aload_n 0, 1) := by decide +kernel
theorem dX1_meet_9 : decode cX1_meet 9 = .ok (.aload_n 0, 1) := by decide +kernel
theorem dX1_meet_10 : decode cX1_meet 10 = .ok (.getfield 26, 3) := by decide +kernel
theorem dX1_meet_13 : decode cX1_meet 13 = .ok (.aload_n 0, 1) := by decide +kernel
theorem dX1_meet_14 : decode cX1_meet 14 = .ok (.getfield 30, 3) := by decide +kernel
theorem dX1_meet_17 : decode cX1_meet 17 = .ok (.getstatic 56, 3) := by decide +kernel
theorem dX1_meet_20 : decode cX1_meet 20 = .ok (.invokevirtual 50, 3) := by decide +kernel
theorem dX1_meet_23 : decode cX1_meet 23 = .ok (.putfield 16, 3) := by decide +kernel
theorem dX1_meet_26 : decode cX1_meet 26 = .ok (.aload_n 0, 1) := by decide +kernel
theorem dX1_meet_27 : decode cX1_meet 27 = .ok (.aload_n 0, 1) := by decide +kernel
theorem dX1_meet_28 : decode cX1_meet 28 = .ok (.getfield 30, 3) := by decide +kernel
theorem dX1_meet_31 : decode cX1_meet 31 = .ok (.iconst 0, 1) := by decide +kernel
theorem dX1_meet_32 : decode cX1_meet 32 = .ok (.iaload, 1) := by decide +kernel
theorem dX1_meet_33 : decode cX1_meet 33 = .ok (.putfield 19, 3) := by decide +kernel
theorem dX1_meet_36 : decode cX1_meet 36 = .ok (.return_, 1) := by decide +kernel
theorem dX2_init_0 : decode cX2_init 0 = .ok (.aload_n 0, 1) := by decide +kernel
theorem dX2_init_1 : decode cX2_init 1 = .ok (.invokespecial 3, 3) := by decide +kernel
theorem dX2_init_4 : decode cX2_init 4 = .ok (.aload_n 0, 1) := by decide +kernel
theorem dX2_init_5 : decode cX2_init 5 = .ok (.bipush 10, 2) := by decide +kernel
theorem dX2_init_7 : decode cX2_init 7 = .ok (.newarray .int, 2) := by decide +kernel
theorem dX2_init_9 : decode cX2_init 9 = .ok (.putfield 9, 3) := by decide +kernel
theorem dX2_init_12 : decode cX2_init 12 = .ok (.aload_n 0, 1) := by decide +kernel
theorem dX2_init_13 : decode cX2_init 13 = .ok (.bipush 10, 2) := by decide +kernel
theorem dX2_init_15 : decode cX2_init 15 = .ok (.newarray .int, 2) := by decide +kernel
theorem dX2_init_17 : decode cX2_init 17 = .ok (.putfield 15, 3) := by decide +kernel
theorem dX2_init_20 : decode cX2_init 20 = .ok (.aload_n 0, 1) := by decide +kernel
theorem dX2_init_21 : decode cX2_init 21 = .ok (.iconst 4, 1) := by decide +kernel
theorem dX2_init_22 : decode cX2_init 22 = .ok (.newarray .int, 2) := by decide +kernel
theorem dX2_init_24 : decode cX2_init 24 = .ok (.putfield 18, 3) := by decide +kernel
theorem dX2_init_27 : decode cX2_init 27 = .ok (.aload_n 0, 1) := by decide +kernel
theorem dX2_init_28 : decode cX2_init 28 = .ok (.getfield 15, 3) := by decide +kernel
theorem dX2_init_31 : decode cX2_init 31 = .ok (.sipush 1000, 3) := by decide +kernel
theorem dX2_init_34 : decode cX2_init 34 = .ok (.invokestatic 21, 3) := by decide +kernel
theorem dX2_init_37 : decode cX2_init 37 = .ok (.return_, 1) := by decide +kernel
theorem dX2_surelyBroken_0 : decode cX2_surelyBroken 0 = .ok (.iconst 0, 1) := by decide +kernel
theorem dX2_surelyBroken_1 : decode cX2_surelyBroken 1 = .ok (.istore_n 3, 1) := by decide +kernel
theorem dX2_surelyBroken_2 : decode cX2_surelyBroken 2 = .ok (.iconst 0, 1) := by decide +kernel
theorem dX2_surelyBroken_3 : decode cX2_surelyBroken 3 = .ok (.istore 4, 2) := by decide +kernel
theorem dX2_surelyBroken_5 : decode cX2_surelyBroken 5 = .ok (.iload 4, 2) := by decide +kernel
theorem dX2_surelyBroken_7 : decode cX2_surelyBroken 7 = .ok (.bipush 10, 2) := by decide +kernel
theorem dX2_surelyBroken_9 : decode cX2_surelyBroken 9 = .ok (.if_icmp .ge 49, 3) := by decide +kernel
theorem dX2_surelyBroken_12 : decode cX2_surelyBroken 12 = .ok (.aload_n 1, 1) := by decide +kernel
theorem dX2_surelyBroken_13 : decode cX2_surelyBroken 13 = .ok (.iload 4, 2) := by decide +kernel
theorem dX2_surelyBroken_15 : decode cX2_surelyBroken 15 = .ok (.iaload, 1) := by decide +kernel
theorem dX2_surelyBroken_16 : decode cX2_surelyBroken 16 = .ok (.aload_n 0, 1) := by decide +kernel
theorem dX2_surelyBroken_17 : decode cX2_surelyBroken 17 = .ok (.getfield 15, 3) := by decide +kernel
theorem dX2_surelyBroken_20 : decode cX2_surelyBroken 20 = .ok (.iload 4, 2) := by decide +kernel
theorem dX2_surelyBroken_22 : decode cX2_surelyBroken 22 = .ok (.iaload, 1) := by decide +kernel
theorem dX2_surelyBroken_23 : decode cX2_surelyBroken 23 = .ok (.if_icmp .gt 22, 3) := by decide +kernel
theorem dX2_surelyBroken_26 : decode cX2_surelyBroken 26 = .ok (.aload_n 1, 1) := by decide +kernel
theorem dX2_surelyBroken_27 : decode cX2_surelyBroken 27 = .ok (.iload 4, 2) := by decide +kernel
theorem dX2_surelyBroken_29 : decode cX2_surelyBroken 29 = .ok (.iaload, 1) := by decide +kernel
theorem dX2_surelyBroken_30 : decode cX2_surelyBroken 30 = .ok (.aload_n 2, 1) := by decide +kernel
theorem dX2_surelyBroken_31 : decode cX2_surelyBroken 31 = .ok (.iload 4, 2) := by decide +kernel
theorem dX2_surelyBroken_33 : decode cX2_surelyBroken 33 = .ok (.iaload, 1) := by decide +kernel
theorem dX2_surelyBroken_34 : decode cX2_surelyBroken 34 = .ok (.iadd, 1) := by decide +kernel
theorem dX2_surelyBroken_35 : decode cX2_surelyBroken 35 = .ok (.aload_n 0, 1) := by decide +kernel
theorem dX2_surelyBroken_36 : decode cX2_surelyBroken 36 = .ok (.getfield 9, 3) := by decide +kernel
theorem dX2_surelyBroken_39 : decode cX2_surelyBroken 39 = .ok (.iload 4, 2) := by decide +kernel
theorem dX2_surelyBroken_41 : decode cX2_surelyBroken 41 = .ok (.iaload, 1) := by decide +kernel
theorem dX2_surelyBroken_42 : decode cX2_surelyBroken 42 = .ok (.if_icmp .ge 10, 3) := by decide +kernel
theorem dX2_surelyBroken_45 : decode cX2_surelyBroken 45 = .ok (.iload_n 3, 1) := by decide +kernel
theorem dX2_surelyBroken_46 : decode cX2_surelyBroken 46 = .ok (.iconst 1, 1) := by decide +kernel
theorem dX2_surelyBroken_47 : decode cX2_surelyBroken 47 = .ok (.iload 4, 2) := by decide +kernel
theorem dX2_surelyBroken_49 : decode cX2_surelyBroken 49 = .ok (.ishl, 1) := by decide +kernel
theorem dX2_surelyBroken_50 : decode cX2_surelyBroken 50 = .ok (.ior, 1) := by decide +kernel
theorem dX2_surelyBroken_51 : decode cX2_surelyBroken 51 = .ok (.istore_n 3, 1) := by decide +kernel
theorem dX2_surelyBroken_52 : decode cX2_surelyBroken 52 = .ok (.iinc 4 1, 3) := by decide +kernel
theorem dX2_surelyBroken_55 : decode cX2_surelyBroken 55 = .ok (.goto (-50), 3) := by decide +kernel
theorem dX2_surelyBroken_58 : decode cX2_surelyBroken 58 = .ok (.iload_n 3, 1) := by decide +kernel
theorem dX2_surelyBroken_59 : decode cX2_surelyBroken 59 = .ok (.ireturn, 1) := by decide +kernel
theorem dX2_leastSpread_0 : decode cX2_leastSpread 0 = .ok (.iconst 0, 1) := by decide +kernel
theorem dX2_leastSpread_1 : decode cX2_leastSpread 1 = .ok (.istore_n 3, 1) := by decide +kernel
theorem dX2_leastSpread_2 : decode cX2_leastSpread 2 = .ok (.iconst 0, 1) := by decide +kernel
theorem dX2_leastSpread_3 : decode cX2_leastSpread 3 = .ok (.istore 4, 2) := by decide +kernel
theorem dX2_leastSpread_5 : decode cX2_leastSpread 5 = .ok (.iload 4, 2) := by decide +kernel
theorem dX2_leastSpread_7 : decode cX2_leastSpread 7 = .ok (.iconst 4, 1) := by decide +kernel
theorem dX2_leastSpread_8 : decode cX2_leastSpread 8 = .ok (.if_icmp .ge 58, 3) := by decide +kernel
theorem dX2_leastSpread_11 : decode cX2_leastSpread 11 = .ok (.aload_n 1, 1) := by decide +kernel
theorem dX2_leastSpread_12 : decode cX2_leastSpread 12 = .ok (.iconst 3, 1) := by decide +kernel
theorem dX2_leastSpread_13 : decode cX2_leastSpread 13 = .ok (.iload 4, 2) := by decide +kernel
theorem dX2_leastSpread_15 : decode cX2_leastSpread 15 = .ok (.iadd, 1) := by decide +kernel
theorem dX2_leastSpread_16 : decode cX2_leastSpread 16 = .ok (.iaload, 1) := by decide +kernel
theorem dX2_leastSpread_17 : decode cX2_leastSpread 17 = .ok (.istore 5, 2) := by decide +kernel
theorem dX2_leastSpread_19 : decode cX2_leastSpread 19 = .ok (.iload 5, 2) := by decide +kernel
theorem dX2_leastSpread_21 : decode cX2_leastSpread 21 = .ok (.aload_n 2, 1) := by decide +kernel
theorem dX2_leastSpread_22 : decode cX2_leastSpread 22 = .ok (.iconst 3, 1) := by decide +kernel
theorem dX2_leastSpread_23 : decode cX2_leastSpread 23 = .ok (.iload 4, 2) := by decide +kernel
theorem dX2_leastSpread_25 : decode cX2_leastSpread 25 = .ok (.iadd, 1) := by decide +kernel
theorem dX2_leastSpread_26 : decode cX2_leastSpread 26 = .ok (.iaload, 1) := by decide +kernel
theorem dX2_leastSpread_27 : decode cX2_leastSpread 27 = .ok (.iadd, 1) := by decide +kernel
theorem dX2_leastSpread_28 : decode cX2_leastSpread 28 = .ok (.istore 6, 2) := by decide +kernel
theorem dX2_leastSpread_30 : decode cX2_leastSpread 30 = .ok (.iload_n 3, 1) := by decide +kernel
theorem dX2_leastSpread_31 : decode cX2_leastSpread 31 = .ok (.iconst 0, 1) := by decide +kernel
theorem dX2_leastSpread_32 : decode cX2_leastSpread 32 = .ok (.iload 5, 2) := by decide +kernel
theorem dX2_leastSpread_34 : decode cX2_leastSpread 34 = .ok (.aload_n 0, 1) := by decide +kernel
theorem dX2_leastSpread_35 : decode cX2_leastSpread 35 = .ok (.getfield 18, 3) := by decide +kernel
theorem dX2_leastSpread_38 : decode cX2_leastSpread 38 = .ok (.iload 4, 2) := by decide +kernel
theorem dX2_leastSpread_40 : decode cX2_leastSpread 40 = .ok (.iaload, 1) := by decide +kernel
theorem dX2_leastSpread_41 : decode cX2_leastSpread 41 = .ok (.isub, 1) := by decide +kernel
theorem dX2_leastSpread_42 : decode cX2_leastSpread 42 = .ok (.aload_n 0, 1) := by decide +kernel
theorem dX2_leastSpread_43 : decode cX2_leastSpread 43 = .ok (.getfield 18, 3) := by decide +kernel
theorem dX2_leastSpread_46 : decode cX2_leastSpread 46 = .ok (.iload 4, 2) := by decide +kernel
theorem dX2_leastSpread_48 : decode cX2_leastSpread 48 = .ok (.iaload, 1) := by decide +kernel
theorem dX2_leastSpread_49 : decode cX2_leastSpread 49 = .ok (.iload 6, 2) := by decide +kernel
theorem dX2_leastSpread_51 : decode cX2_leastSpread 51 = .ok (.isub, 1) := by decide +kernel
theorem dX2_leastSpread_52 : decode cX2_leastSpread 52 = .ok (.invokestatic 27, 3) := by decide +kernel
theorem dX2_leastSpread_55 : decode cX2_leastSpread 55 = .ok (.invokestatic 27, 3) := by decide +kernel
theorem dX2_leastSpread_58 : decode cX2_leastSpread 58 = .ok (.iadd, 1) := by decide +kernel
theorem dX2_leastSpread_59 : decode cX2_leastSpread 59 = .ok (.istore_n 3, 1) := by decide +kernel
theorem dX2_leastSpread_60 : decode cX2_leastSpread 60 = .ok (.iinc 4 1, 3) := by decide +kernel
theorem dX2_leastSpread_63 : decode cX2_leastSpread 63 = .ok (.goto (-58), 3) := by decide +kernel
theorem dX2_leastSpread_66 : decode cX2_leastSpread 66 = .ok (.iload_n 3, 1) := by decide +kernel
theorem dX2_leastSpread_67 : decode cX2_leastSpread 67 = .ok (.ireturn, 1) := by decide +kernel
theorem dX4_init_0 : decode cX4_init 0 = .ok (.aload_n 0, 1) := by decide +kernel
theorem dX4_init_1 : decode cX4_init 1 = .ok (.invokespecial 3, 3) := by decide +kernel
theorem dX4_init_4 : decode cX4_init 4 = .ok (.aload_n 0, 1) := by decide +kernel
theorem dX4_init_5 : decode cX4_init 5 = .ok (.bipush 10, 2) := by decide +kernel
theorem dX4_init_7 : decode cX4_init 7 = .ok (.newarray .int, 2) := by decide +kernel
theorem dX4_init_9 : decode cX4_init 9 = .ok (.putfield 9, 3) := by decide +kernel
theorem dX4_init_12 : decode cX4_init 12 = .ok (.aload_n 0, 1) := by decide +kernel
theorem dX4_init_13 : decode cX4_init 13 = .ok (.iconst 0, 1) := by decide +kernel
theorem dX4_init_14 : decode cX4_init 14 = .ok (.putfield 15, 3) := by decide +kernel
theorem dX4_init_17 : decode cX4_init 17 = .ok (.aload_n 0, 1) := by decide +kernel
theorem dX4_init_18 : decode cX4_init 18 = .ok (.iconst 0, 1) := by decide +kernel
theorem dX4_init_19 : decode cX4_init 19 = .ok (.putfield 19, 3) := by decide +kernel
theorem dX4_init_22 : decode cX4_init 22 = .ok (.aload_n 0, 1) := by decide +kernel
theorem dX4_init_23 : decode cX4_init 23 = .ok (.aload_n 1, 1) := by decide +kernel
theorem dX4_init_24 : decode cX4_init 24 = .ok (.putfield 22, 3) := by decide +kernel
theorem dX4_init_27 : decode cX4_init 27 = .ok (.aload_n 0, 1) := by decide +kernel
theorem dX4_init_28 : decode cX4_init 28 = .ok (.aload_n 2, 1) := by decide +kernel
theorem dX4_init_29 : decode cX4_init 29 = .ok (.putfield 26, 3) := by decide +kernel
theorem dX4_init_32 : decode cX4_init 32 = .ok (.return_, 1) := by decide +kernel
theorem dX4_walkAll_0 : decode cX4_walkAll 0 = .ok (.aload_n 0, 1) := by decide +kernel
theorem dX4_walkAll_1 : decode cX4_walkAll 1 = .ok (.iconst 0, 1) := by decide +kernel
theorem dX4_walkAll_2 : decode cX4_walkAll 2 = .ok (.invokestatic 30, 3) := by decide +kernel
theorem dX4_walkAll_5 : decode cX4_walkAll 5 = .ok (.return_, 1) := by decide +kernel
theorem dX4_walk_0 : decode cX4_walk 0 = .ok (.iload_n 1, 1) := by decide +kernel
theorem dX4_walk_1 : decode cX4_walk 1 = .ok (.aload_n 0, 1) := by decide +kernel
theorem dX4_walk_2 : decode cX4_walk 2 = .ok (.getfield 22, 3) := by decide +kernel
theorem dX4_walk_5 : decode cX4_walk 5 = .ok (.getfield 34, 3) := by decide +kernel
theorem dX4_walk_8 : decode cX4_walk 8 = .ok (.if_icmp .gt 11, 3) := by decide +kernel
theorem dX4_walk_11 : decode cX4_walk 11 = .ok (.aload_n 0, 1) := by decide +kernel
theorem dX4_walk_12 : decode cX4_walk 12 = .ok (.iload_n 1, 1) := by decide +kernel
theorem dX4_walk_13 : decode cX4_walk 13 = .ok (.invokevirtual 39, 3) := by decide +kernel
theorem dX4_walk_16 : decode cX4_walk 16 = .ok (.ifCond .eq 4, 3) := by decide +kernel
theorem dX4_walk_19 : decode cX4_walk 19 = .ok (.return_, 1) := by decide +kernel
theorem dX4_walk_20 : decode cX4_walk 20 = .ok (.iload_n 1, 1) := by decide +kernel
theorem dX4_walk_21 : decode cX4_walk 21 = .ok (.aload_n 0, 1) := by decide +kernel
theorem dX4_walk_22 : decode cX4_walk 22 = .ok (.getfield 22, 3) := by decide +kernel
theorem dX4_walk_25 : decode cX4_walk 25 = .ok (.getfield 34, 3) := by decide +kernel
theorem dX4_walk_28 : decode cX4_walk 28 = .ok (.if_icmp .ne 8, 3) := by decide +kernel
theorem dX4_walk_31 : decode cX4_walk 31 = .ok (.aload_n 0, 1) := by decide +kernel
theorem dX4_walk_32 : decode cX4_walk 32 = .ok (.invokevirtual 43, 3) := by decide +kernel
theorem dX4_walk_35 : decode cX4_walk 35 = .ok (.return_, 1) := by decide +kernel
theorem dX4_walk_36 : decode cX4_walk 36 = .ok (.aload_n 0, 1) := by decide +kernel
theorem dX4_walk_37 : decode cX4_walk 37 = .ok (.getfield 22, 3) := by decide +kernel
theorem dX4_walk_40 : decode cX4_walk 40 = .ok (.getfield 46, 3) := by decide +kernel
theorem dX4_walk_43 : decode cX4_walk 43 = .ok (.iload_n 1, 1) := by decide +kernel
theorem dX4_walk_44 : decode cX4_walk 44 = .ok (.iaload, 1) := by decide +kernel
theorem dX4_walk_45 : decode cX4_walk 45 = .ok (.aload_n 0, 1) := by decide +kernel
theorem dX4_walk_46 : decode cX4_walk 46 = .ok (.getfield 15, 3) := by decide +kernel
theorem dX4_walk_49 : decode cX4_walk 49 = .ok (.iand, 1) := by decide +kernel
theorem dX4_walk_50 : decode cX4_walk 50 = .ok (.ifCond .ne 20, 3) := by decide +kernel
theorem dX4_walk_53 : decode cX4_walk 53 = .ok (.aload_n 0, 1) := by decide +kernel
theorem dX4_walk_54 : decode cX4_walk 54 = .ok (.iload_n 1, 1) := by decide +kernel
theorem dX4_walk_55 : decode cX4_walk 55 = .ok (.invokevirtual 49, 3) := by decide +kernel
theorem dX4_walk_58 : decode cX4_walk 58 = .ok (.aload_n 0, 1) := by decide +kernel
theorem dX4_walk_59 : decode cX4_walk 59 = .ok (.iload_n 1, 1) := by decide +kernel
theorem dX4_walk_60 : decode cX4_walk 60 = .ok (.iconst 1, 1) := by decide +kernel
theorem dX4_walk_61 : decode cX4_walk 61 = .ok (.iadd, 1) := by decide +kernel
theorem dX4_walk_62 : decode cX4_walk 62 = .ok (.invokestatic 30, 3) := by decide +kernel
theorem dX4_walk_65 : decode cX4_walk 65 = .ok (.aload_n 0, 1) := by decide +kernel
theorem dX4_walk_66 : decode cX4_walk 66 = .ok (.iload_n 1, 1) := by decide +kernel
theorem dX4_walk_67 : decode cX4_walk 67 = .ok (.invokevirtual 53, 3) := by decide +kernel
theorem dX4_walk_70 : decode cX4_walk 70 = .ok (.aload_n 0, 1) := by decide +kernel
theorem dX4_walk_71 : decode cX4_walk 71 = .ok (.iload_n 1, 1) := by decide +kernel
theorem dX4_walk_72 : decode cX4_walk 72 = .ok (.iconst 1, 1) := by decide +kernel
theorem dX4_walk_73 : decode cX4_walk 73 = .ok (.iadd, 1) := by decide +kernel
theorem dX4_walk_74 : decode cX4_walk 74 = .ok (.invokestatic 30, 3) := by decide +kernel
theorem dX4_walk_77 : decode cX4_walk 77 = .ok (.return_, 1) := by decide +kernel
theorem dX4_take_0 : decode cX4_take 0 = .ok (.aload_n 0, 1) := by decide +kernel
theorem dX4_take_1 : decode cX4_take 1 = .ok (.dup, 1) := by decide +kernel
theorem dX4_take_2 : decode cX4_take 2 = .ok (.getfield 15, 3) := by decide +kernel
theorem dX4_take_5 : decode cX4_take 5 = .ok (.aload_n 0, 1) := by decide +kernel
theorem dX4_take_6 : decode cX4_take 6 = .ok (.getfield 22, 3) := by decide +kernel
theorem dX4_take_9 : decode cX4_take 9 = .ok (.getfield 56, 3) := by decide +kernel
theorem dX4_take_12 : decode cX4_take 12 = .ok (.iload_n 1, 1) := by decide +kernel
theorem dX4_take_13 : decode cX4_take 13 = .ok (.iaload, 1) := by decide +kernel
theorem dX4_take_14 : decode cX4_take 14 = .ok (.ior, 1) := by decide +kernel
theorem dX4_take_15 : decode cX4_take 15 = .ok (.putfield 15, 3) := by decide +kernel
theorem dX4_take_18 : decode cX4_take 18 = .ok (.aload_n 0, 1) := by decide +kernel
theorem dX4_take_19 : decode cX4_take 19 = .ok (.dup, 1) := by decide +kernel
theorem dX4_take_20 : decode cX4_take 20 = .ok (.getfield 19, 3) := by decide +kernel
theorem dX4_take_23 : decode cX4_take 23 = .ok (.iconst 1, 1) := by decide +kernel
theorem dX4_take_24 : decode cX4_take 24 = .ok (.iload_n 1, 1) := by decide +kernel
theorem dX4_take_25 : decode cX4_take 25 = .ok (.ishl, 1) := by decide +kernel
theorem dX4_take_26 : decode cX4_take 26 = .ok (.ior, 1) := by decide +kernel
theorem dX4_take_27 : decode cX4_take 27 = .ok (.putfield 19, 3) := by decide +kernel
theorem dX4_take_30 : decode cX4_take 30 = .ok (.iconst 0, 1) := by decide +kernel
theorem dX4_take_31 : decode cX4_take 31 = .ok (.istore_n 2, 1) := by decide +kernel
theorem dX4_take_32 : decode cX4_take 32 = .ok (.iload_n 2, 1) := by decide +kernel
theorem dX4_take_33 : decode cX4_take 33 = .ok (.bipush 10, 2) := by decide +kernel
theorem dX4_take_35 : decode cX4_take 35 = .ok (.if_icmp .ge 29, 3) := by decide +kernel
theorem dX4_take_38 : decode cX4_take 38 = .ok (.aload_n 0, 1) := by decide +kernel
theorem dX4_take_39 : decode cX4_take 39 = .ok (.getfield 9, 3) := by decide +kernel
theorem dX4_take_42 : decode cX4_take 42 = .ok (.iload_n 2, 1) := by decide +kernel
theorem dX4_take_43 : decode cX4_take 43 = .ok (.dup2, 1) := by decide +kernel
theorem dX4_take_44 : decode cX4_take 44 = .ok (.iaload, 1) := by decide +kernel
theorem dX4_take_45 : decode cX4_take 45 = .ok (.aload_n 0, 1) := by decide +kernel
theorem dX4_take_46 : decode cX4_take 46 = .ok (.getfield 22, 3) := by decide +kernel
theorem dX4_take_49 : decode cX4_take 49 = .ok (.getfield 59, 3) := by decide +kernel
theorem dX4_take_52 : decode cX4_take 52 = .ok (.iload_n 1, 1) := by decide +kernel
theorem dX4_take_53 : decode cX4_take 53 = .ok (.aaload, 1) := by decide +kernel
theorem dX4_take_54 : decode cX4_take 54 = .ok (.iload_n 2, 1) := by decide +kernel
theorem dX4_take_55 : decode cX4_take 55 = .ok (.iaload, 1) := by decide +kernel
theorem dX4_take_56 : decode cX4_take 56 = .ok (.iadd, 1) := by decide +kernel
theorem dX4_take_57 : decode cX4_take 57 = .ok (.iastore, 1) := by decide +kernel
theorem dX4_take_58 : decode cX4_take 58 = .ok (.iinc 2 1, 3) := by decide +kernel
theorem dX4_take_61 : decode cX4_take 61 = .ok (.goto (-29), 3) := by decide +kernel
theorem dX4_take_64 : decode cX4_take 64 = .ok (.return_, 1) := by decide +kernel
theorem dX4_drop_0 : decode cX4_drop 0 = .ok (.aload_n 0, 1) := by decide +kernel
theorem dX4_drop_1 : decode cX4_drop 1 = .ok (.dup, 1) := by decide +kernel
theorem dX4_drop_2 : decode cX4_drop 2 = .ok (.getfield 15, 3) := by decide +kernel
theorem dX4_drop_5 : decode cX4_drop 5 = .ok (.aload_n 0, 1) := by decide +kernel
theorem dX4_drop_6 : decode cX4_drop 6 = .ok (.getfield 22, 3) := by decide +kernel
theorem dX4_drop_9 : decode cX4_drop 9 = .ok (.getfield 56, 3) := by decide +kernel
theorem dX4_drop_12 : decode cX4_drop 12 = .ok (.iload_n 1, 1) := by decide +kernel
theorem dX4_drop_13 : decode cX4_drop 13 = .ok (.iaload, 1) := by decide +kernel
theorem dX4_drop_14 : decode cX4_drop 14 = .ok (.iconst (-1), 1) := by decide +kernel
theorem dX4_drop_15 : decode cX4_drop 15 = .ok (.ixor, 1) := by decide +kernel
theorem dX4_drop_16 : decode cX4_drop 16 = .ok (.iand, 1) := by decide +kernel
theorem dX4_drop_17 : decode cX4_drop 17 = .ok (.putfield 15, 3) := by decide +kernel
theorem dX4_drop_20 : decode cX4_drop 20 = .ok (.aload_n 0, 1) := by decide +kernel
theorem dX4_drop_21 : decode cX4_drop 21 = .ok (.dup, 1) := by decide +kernel
theorem dX4_drop_22 : decode cX4_drop 22 = .ok (.getfield 19, 3) := by decide +kernel
theorem dX4_drop_25 : decode cX4_drop 25 = .ok (.iconst 1, 1) := by decide +kernel
theorem dX4_drop_26 : decode cX4_drop 26 = .ok (.iload_n 1, 1) := by decide +kernel
theorem dX4_drop_27 : decode cX4_drop 27 = .ok (.ishl, 1) := by decide +kernel
theorem dX4_drop_28 : decode cX4_drop 28 = .ok (.iconst (-1), 1) := by decide +kernel
theorem dX4_drop_29 : decode cX4_drop 29 = .ok (.ixor, 1) := by decide +kernel
theorem dX4_drop_30 : decode cX4_drop 30 = .ok (.iand, 1) := by decide +kernel
theorem dX4_drop_31 : decode cX4_drop 31 = .ok (.putfield 19, 3) := by decide +kernel
theorem dX4_drop_34 : decode cX4_drop 34 = .ok (.iconst 0, 1) := by decide +kernel
theorem dX4_drop_35 : decode cX4_drop 35 = .ok (.istore_n 2, 1) := by decide +kernel
theorem dX4_drop_36 : decode cX4_drop 36 = .ok (.iload_n 2, 1) := by decide +kernel
theorem dX4_drop_37 : decode cX4_drop 37 = .ok (.bipush 10, 2) := by decide +kernel
theorem dX4_drop_39 : decode cX4_drop 39 = .ok (.if_icmp .ge 29, 3) := by decide +kernel
theorem dX4_drop_42 : decode cX4_drop 42 = .ok (.aload_n 0, 1) := by decide +kernel
theorem dX4_drop_43 : decode cX4_drop 43 = .ok (.getfield 9, 3) := by decide +kernel
theorem dX4_drop_46 : decode cX4_drop 46 = .ok (.iload_n 2, 1) := by decide +kernel
theorem dX4_drop_47 : decode cX4_drop 47 = .ok (.dup2, 1) := by decide +kernel
theorem dX4_drop_48 : decode cX4_drop 48 = .ok (.iaload, 1) := by decide +kernel
theorem dX4_drop_49 : decode cX4_drop 49 = .ok (.aload_n 0, 1) := by decide +kernel
theorem dX4_drop_50 : decode cX4_drop 50 = .ok (.getfield 22, 3) := by decide +kernel
theorem dX4_drop_53 : decode cX4_drop 53 = .ok (.getfield 59, 3) := by decide +kernel
theorem dX4_drop_56 : decode cX4_drop 56 = .ok (.iload_n 1, 1) := by decide +kernel
theorem dX4_drop_57 : decode cX4_drop 57 = .ok (.aaload, 1) := by decide +kernel
theorem dX4_drop_58 : decode cX4_drop 58 = .ok (.iload_n 2, 1) := by decide +kernel
theorem dX4_drop_59 : decode cX4_drop 59 = .ok (.iaload, 1) := by decide +kernel
theorem dX4_drop_60 : decode cX4_drop 60 = .ok (.isub, 1) := by decide +kernel
theorem dX4_drop_61 : decode cX4_drop 61 = .ok (.iastore, 1) := by decide +kernel
theorem dX4_drop_62 : decode cX4_drop 62 = .ok (.iinc 2 1, 3) := by decide +kernel
theorem dX4_drop_65 : decode cX4_drop 65 = .ok (.goto (-29), 3) := by decide +kernel
theorem dX4_drop_68 : decode cX4_drop 68 = .ok (.return_, 1) := by decide +kernel
theorem dX5_init_0 : decode cX5_init 0 = .ok (.aload_n 0, 1) := by decide +kernel
theorem dX5_init_1 : decode cX5_init 1 = .ok (.invokespecial 3, 3) := by decide +kernel
theorem dX5_init_4 : decode cX5_init 4 = .ok (.aload_n 0, 1) := by decide +kernel
theorem dX5_init_5 : decode cX5_init 5 = .ok (.bipush 16, 2) := by decide +kernel
theorem dX5_init_7 : decode cX5_init 7 = .ok (.newarray .int, 2) := by decide +kernel
theorem dX5_init_9 : decode cX5_init 9 = .ok (.putfield 9, 3) := by decide +kernel
theorem dX5_init_12 : decode cX5_init 12 = .ok (.aload_n 0, 1) := by decide +kernel
theorem dX5_init_13 : decode cX5_init 13 = .ok (.bipush 16, 2) := by decide +kernel
theorem dX5_init_15 : decode cX5_init 15 = .ok (.newarray .int, 2) := by decide +kernel
theorem dX5_init_17 : decode cX5_init 17 = .ok (.putfield 15, 3) := by decide +kernel
theorem dX5_init_20 : decode cX5_init 20 = .ok (.aload_n 0, 1) := by decide +kernel
theorem dX5_init_21 : decode cX5_init 21 = .ok (.bipush 16, 2) := by decide +kernel
theorem dX5_init_23 : decode cX5_init 23 = .ok (.bipush 10, 2) := by decide +kernel
theorem dX5_init_25 : decode cX5_init 25 = .ok (.multianewarray 18 2, 4) := by decide +kernel
theorem dX5_init_29 : decode cX5_init 29 = .ok (.putfield 20, 3) := by decide +kernel
theorem dX5_init_32 : decode cX5_init 32 = .ok (.aload_n 0, 1) := by decide +kernel
theorem dX5_init_33 : decode cX5_init 33 = .ok (.bipush 17, 2) := by decide +kernel
theorem dX5_init_35 : decode cX5_init 35 = .ok (.bipush 10, 2) := by decide +kernel
theorem dX5_init_37 : decode cX5_init 37 = .ok (.multianewarray 18 2, 4) := by decide +kernel
theorem dX5_init_41 : decode cX5_init 41 = .ok (.putfield 23, 3) := by decide +kernel
theorem dX5_init_44 : decode cX5_init 44 = .ok (.aload_n 0, 1) := by decide +kernel
theorem dX5_init_45 : decode cX5_init 45 = .ok (.iconst 0, 1) := by decide +kernel
theorem dX5_init_46 : decode cX5_init 46 = .ok (.putfield 26, 3) := by decide +kernel
theorem dX5_init_49 : decode cX5_init 49 = .ok (.return_, 1) := by decide +kernel
theorem dX5_splitBank_0 : decode cX5_splitBank 0 = .ok (.aload_n 0, 1) := by decide +kernel
theorem dX5_splitBank_1 : decode cX5_splitBank 1 = .ok (.iconst 0, 1) := by decide +kernel
theorem dX5_splitBank_2 : decode cX5_splitBank 2 = .ok (.putfield 26, 3) := by decide +kernel
theorem dX5_splitBank_5 : decode cX5_splitBank 5 = .ok (.iconst 0, 1) := by decide +kernel
theorem dX5_splitBank_6 : decode cX5_splitBank 6 = .ok (.istore_n 2, 1) := by decide +kernel
theorem dX5_splitBank_7 : decode cX5_splitBank 7 = .ok (.iload_n 2, 1) := by decide +kernel
theorem dX5_splitBank_8 : decode cX5_splitBank 8 = .ok (.aload_n 1, 1) := by decide +kernel
theorem dX5_splitBank_9 : decode cX5_splitBank 9 = .ok (.getfield 30, 3) := by decide +kernel
theorem dX5_splitBank_12 : decode cX5_splitBank 12 = .ok (.if_icmp .ge 90, 3) := by decide +kernel
theorem dX5_splitBank_15 : decode cX5_splitBank 15 = .ok (.aload_n 0, 1) := by decide +kernel
theorem dX5_splitBank_16 : decode cX5_splitBank 16 = .ok (.getfield 26, 3) := by decide +kernel
theorem dX5_splitBank_19 : decode cX5_splitBank 19 = .ok (.bipush 16, 2) := by decide +kernel
theorem dX5_splitBank_21 : decode cX5_splitBank 21 = .ok (.if_icmp .ge 81, 3) := by decide +kernel
theorem dX5_splitBank_24 : decode cX5_splitBank 24 = .ok (.aload_n 1, 1) := by decide +kernel
theorem dX5_splitBank_25 : decode cX5_splitBank 25 = .ok (.iload_n 2, 1) := by decide +kernel
theorem dX5_splitBank_26 : decode cX5_splitBank 26 = .ok (.invokevirtual 33, 3) := by decide +kernel
theorem dX5_splitBank_29 : decode cX5_splitBank 29 = .ok (.istore_n 3, 1) := by decide +kernel
theorem dX5_splitBank_30 : decode cX5_splitBank 30 = .ok (.iload_n 3, 1) := by decide +kernel
theorem dX5_splitBank_31 : decode cX5_splitBank 31 = .ok (.invokestatic 37, 3) := by decide +kernel
theorem dX5_splitBank_34 : decode cX5_splitBank 34 = .ok (.iconst 1, 1) := by decide +kernel
theorem dX5_splitBank_35 : decode cX5_splitBank 35 = .ok (.iload_n 2, 1) := by decide +kernel
theorem dX5_splitBank_36 : decode cX5_splitBank 36 = .ok (.ishl, 1) := by decide +kernel
theorem dX5_splitBank_37 : decode cX5_splitBank 37 = .ok (.if_icmp .ne 59, 3) := by decide +kernel
theorem dX5_splitBank_40 : decode cX5_splitBank 40 = .ok (.aload_n 1, 1) := by decide +kernel
theorem dX5_splitBank_41 : decode cX5_splitBank 41 = .ok (.iload_n 3, 1) := by decide +kernel
theorem dX5_splitBank_42 : decode cX5_splitBank 42 = .ok (.invokevirtual 40, 3) := by decide +kernel
theorem dX5_splitBank_45 : decode cX5_splitBank 45 = .ok (.ifCond .eq 51, 3) := by decide +kernel
theorem dX5_splitBank_48 : decode cX5_splitBank 48 = .ok (.aload_n 0, 1) := by decide +kernel
theorem dX5_splitBank_49 : decode cX5_splitBank 49 = .ok (.getfield 9, 3) := by decide +kernel
theorem dX5_splitBank_52 : decode cX5_splitBank 52 = .ok (.aload_n 0, 1) := by decide +kernel
theorem dX5_splitBank_53 : decode cX5_splitBank 53 = .ok (.getfield 26, 3) := by decide +kernel
theorem dX5_splitBank_56 : decode cX5_splitBank 56 = .ok (.iload_n 3, 1) := by decide +kernel
theorem dX5_splitBank_57 : decode cX5_splitBank 57 = .ok (.iastore, 1) := by decide +kernel
theorem dX5_splitBank_58 : decode cX5_splitBank 58 = .ok (.aload_n 0, 1) := by decide +kernel
theorem dX5_splitBank_59 : decode cX5_splitBank 59 = .ok (.getfield 15, 3) := by decide +kernel
theorem dX5_splitBank_62 : decode cX5_splitBank 62 = .ok (.aload_n 0, 1) := by decide +kernel
theorem dX5_splitBank_63 : decode cX5_splitBank 63 = .ok (.getfield 26, 3) := by decide +kernel
theorem dX5_splitBank_66 : decode cX5_splitBank 66 = .ok (.aload_n 1, 1) := by decide +kernel
theorem dX5_splitBank_67 : decode cX5_splitBank 67 = .ok (.iload_n 3, 1) := by decide +kernel
theorem dX5_splitBank_68 : decode cX5_splitBank 68 = .ok (.invokevirtual 44, 3) := by decide +kernel
theorem dX5_splitBank_71 : decode cX5_splitBank 71 = .ok (.iastore, 1) := by decide +kernel
theorem dX5_splitBank_72 : decode cX5_splitBank 72 = .ok (.aload_n 1, 1) := by decide +kernel
theorem dX5_splitBank_73 : decode cX5_splitBank 73 = .ok (.iload_n 3, 1) := by decide +kernel
theorem dX5_splitBank_74 : decode cX5_splitBank 74 = .ok (.aload_n 0, 1) := by decide +kernel
theorem dX5_splitBank_75 : decode cX5_splitBank 75 = .ok (.getfield 20, 3) := by decide +kernel
theorem dX5_splitBank_78 : decode cX5_splitBank 78 = .ok (.aload_n 0, 1) := by decide +kernel
theorem dX5_splitBank_79 : decode cX5_splitBank 79 = .ok (.getfield 26, 3) := by decide +kernel
theorem dX5_splitBank_82 : decode cX5_splitBank 82 = .ok (.aaload, 1) := by decide +kernel
theorem dX5_splitBank_83 : decode cX5_splitBank 83 = .ok (.invokevirtual 47, 3) := by decide +kernel
theorem dX5_splitBank_86 : decode cX5_splitBank 86 = .ok (.aload_n 0, 1) := by decide +kernel
theorem dX5_splitBank_87 : decode cX5_splitBank 87 = .ok (.dup, 1) := by decide +kernel
theorem dX5_splitBank_88 : decode cX5_splitBank 88 = .ok (.getfield 26, 3) := by decide +kernel
theorem dX5_splitBank_91 : decode cX5_splitBank 91 = .ok (.iconst 1, 1) := by decide +kernel
theorem dX5_splitBank_92 : decode cX5_splitBank 92 = .ok (.iadd, 1) := by decide +kernel
theorem dX5_splitBank_93 : decode cX5_splitBank 93 = .ok (.putfield 26, 3) := by decide +kernel
theorem dX5_splitBank_96 : decode cX5_splitBank 96 = .ok (.iinc 2 1, 3) := by decide +kernel
theorem dX5_splitBank_99 : decode cX5_splitBank 99 = .ok (.goto (-92), 3) := by decide +kernel
theorem dX5_splitBank_102 : decode cX5_splitBank 102 = .ok (.aload_n 0, 1) := by decide +kernel
theorem dX5_splitBank_103 : decode cX5_splitBank 103 = .ok (.invokevirtual 51, 3) := by decide +kernel
theorem dX5_splitBank_106 : decode cX5_splitBank 106 = .ok (.return_, 1) := by decide +kernel
theorem dX5_sumUpFromEachOn_0 : decode cX5_sumUpFromEachOn 0 = .ok (.aload_n 0, 1) := by decide +kernel
theorem dX5_sumUpFromEachOn_1 : decode cX5_sumUpFromEachOn 1 = .ok (.getfield 23, 3) := by decide +kernel
theorem dX5_sumUpFromEachOn_4 : decode cX5_sumUpFromEachOn 4 = .ok (.aload_n 0, 1) := by decide +kernel
theorem dX5_sumUpFromEachOn_5 : decode cX5_sumUpFromEachOn 5 = .ok (.getfield 26, 3) := by decide +kernel
theorem dX5_sumUpFromEachOn_8 : decode cX5_sumUpFromEachOn 8 = .ok (.aaload, 1) := by decide +kernel
theorem dX5_sumUpFromEachOn_9 : decode cX5_sumUpFromEachOn 9 = .ok (.iconst 0, 1) := by decide +kernel
theorem dX5_sumUpFromEachOn_10 : decode cX5_sumUpFromEachOn 10 = .ok (.invokestatic 54, 3) := by decide +kernel
theorem dX5_sumUpFromEachOn_13 : decode cX5_sumUpFromEachOn 13 = .ok (.aload_n 0, 1) := by decide +kernel
theorem dX5_sumUpFromEachOn_14 : decode cX5_sumUpFromEachOn 14 = .ok (.getfield 26, 3) := by decide +kernel
theorem dX5_sumUpFromEachOn_17 : decode cX5_sumUpFromEachOn 17 = .ok (.iconst 1, 1) := by decide +kernel
theorem dX5_sumUpFromEachOn_18 : decode cX5_sumUpFromEachOn 18 = .ok (.isub, 1) := by decide +kernel
theorem dX5_sumUpFromEachOn_19 : decode cX5_sumUpFromEachOn 19 = .ok (.istore_n 1, 1) := by decide +kernel
theorem dX5_sumUpFromEachOn_20 : decode cX5_sumUpFromEachOn 20 = .ok (.iload_n 1, 1) := by decide +kernel
theorem dX5_sumUpFromEachOn_21 : decode cX5_sumUpFromEachOn 21 = .ok (.ifCond .lt 50, 3) := by decide +kernel
theorem dX5_sumUpFromEachOn_24 : decode cX5_sumUpFromEachOn 24 = .ok (.iconst 0, 1) := by decide +kernel
theorem dX5_sumUpFromEachOn_25 : decode cX5_sumUpFromEachOn 25 = .ok (.istore_n 2, 1) := by decide +kernel
theorem dX5_sumUpFromEachOn_26 : decode cX5_sumUpFromEachOn 26 = .ok (.iload_n 2, 1) := by decide +kernel
theorem dX5_sumUpFromEachOn_27 : decode cX5_sumUpFromEachOn 27 = .ok (.bipush 10, 2) := by decide +kernel
theorem dX5_sumUpFromEachOn_29 : decode cX5_sumUpFromEachOn 29 = .ok (.if_icmp .ge 36, 3) := by decide +kernel
theorem dX5_sumUpFromEachOn_32 : decode cX5_sumUpFromEachOn 32 = .ok (.aload_n 0, 1) := by decide +kernel
theorem dX5_sumUpFromEachOn_33 : decode cX5_sumUpFromEachOn 33 = .ok (.getfield 23, 3) := by decide +kernel
theorem dX5_sumUpFromEachOn_36 : decode cX5_sumUpFromEachOn 36 = .ok (.iload_n 1, 1) := by decide +kernel
theorem dX5_sumUpFromEachOn_37 : decode cX5_sumUpFromEachOn 37 = .ok (.aaload, 1) := by decide +kernel
theorem dX5_sumUpFromEachOn_38 : decode cX5_sumUpFromEachOn 38 = .ok (.iload_n 2, 1) := by decide +kernel
theorem dX5_sumUpFromEachOn_39 : decode cX5_sumUpFromEachOn 39 = .ok (.aload_n 0, 1) := by decide +kernel
theorem dX5_sumUpFromEachOn_40 : decode cX5_sumUpFromEachOn 40 = .ok (.getfield 20, 3) := by decide +kernel
theorem dX5_sumUpFromEachOn_43 : decode cX5_sumUpFromEachOn 43 = .ok (.iload_n 1, 1) := by decide +kernel
theorem dX5_sumUpFromEachOn_44 : decode cX5_sumUpFromEachOn 44 = .ok (.aaload, 1) := by decide +kernel
theorem dX5_sumUpFromEachOn_45 : decode cX5_sumUpFromEachOn 45 = .ok (.iload_n 2, 1) := by decide +kernel
theorem dX5_sumUpFromEachOn_46 : decode cX5_sumUpFromEachOn 46 = .ok (.iaload, 1) := by decide +kernel
theorem dX5_sumUpFromEachOn_47 : decode cX5_sumUpFromEachOn 47 = .ok (.aload_n 0, 1) := by decide +kernel
theorem dX5_sumUpFromEachOn_48 : decode cX5_sumUpFromEachOn 48 = .ok (.getfield 23, 3) := by decide +kernel
theorem dX5_sumUpFromEachOn_51 : decode cX5_sumUpFromEachOn 51 = .ok (.iload_n 1, 1) := by decide +kernel
theorem dX5_sumUpFromEachOn_52 : decode cX5_sumUpFromEachOn 52 = .ok (.iconst 1, 1) := by decide +kernel
theorem dX5_sumUpFromEachOn_53 : decode cX5_sumUpFromEachOn 53 = .ok (.iadd, 1) := by decide +kernel
theorem dX5_sumUpFromEachOn_54 : decode cX5_sumUpFromEachOn 54 = .ok (.aaload, 1) := by decide +kernel
theorem dX5_sumUpFromEachOn_55 : decode cX5_sumUpFromEachOn 55 = .ok (.iload_n 2, 1) := by decide +kernel
theorem dX5_sumUpFromEachOn_56 : decode cX5_sumUpFromEachOn 56 = .ok (.iaload, 1) := by decide +kernel
theorem dX5_sumUpFromEachOn_57 : decode cX5_sumUpFromEachOn 57 = .ok (.iadd, 1) := by decide +kernel
theorem dX5_sumUpFromEachOn_58 : decode cX5_sumUpFromEachOn 58 = .ok (.iastore, 1) := by decide +kernel
theorem dX5_sumUpFromEachOn_59 : decode cX5_sumUpFromEachOn 59 = .ok (.iinc 2 1, 3) := by decide +kernel
theorem dX5_sumUpFromEachOn_62 : decode cX5_sumUpFromEachOn 62 = .ok (.goto (-36), 3) := by decide +kernel
theorem dX5_sumUpFromEachOn_65 : decode cX5_sumUpFromEachOn 65 = .ok (.iinc 1 (-1), 3) := by decide +kernel
theorem dX5_sumUpFromEachOn_68 : decode cX5_sumUpFromEachOn 68 = .ok (.goto (-48), 3) := by decide +kernel
theorem dX5_sumUpFromEachOn_71 : decode cX5_sumUpFromEachOn 71 = .ok (.return_, 1) := by decide +kernel
theorem dX7_init_0 : decode cX7_init 0 = .ok (.aload_n 0, 1) := by decide +kernel
theorem dX7_init_1 : decode cX7_init 1 = .ok (.aload_n 1, 1) := by decide +kernel
theorem dX7_init_2 : decode cX7_init 2 = .ok (.aload_n 2, 1) := by decide +kernel
theorem dX7_init_3 : decode cX7_init 3 = .ok (.invokespecial 3, 3) := by decide +kernel
theorem dX7_init_6 : decode cX7_init 6 = .ok (.aload_n 0, 1) := by decide +kernel
theorem dX7_init_7 : decode cX7_init 7 = .ok (.sipush 1024, 3) := by decide +kernel
theorem dX7_init_10 : decode cX7_init 10 = .ok (.newarray .boolean, 2) := by decide +kernel
theorem dX7_init_12 : decode cX7_init 12 = .ok (.putfield 9, 3) := by decide +kernel
theorem dX7_init_15 : decode cX7_init 15 = .ok (.return_, 1) := by decide +kernel
theorem dX7_findFewestUnkept_0 : decode cX7_findFewestUnkept 0 = .ok (.iconst 0, 1) := by decide +kernel
theorem dX7_findFewestUnkept_1 : decode cX7_findFewestUnkept 1 = .ok (.istore_n 1, 1) := by decide +kernel
theorem dX7_findFewestUnkept_2 : decode cX7_findFewestUnkept 2 = .ok (.iload_n 1, 1) := by decide +kernel
theorem dX7_findFewestUnkept_3 : decode cX7_findFewestUnkept 3 = .ok (.sipush 1023, 3) := by decide +kernel
theorem dX7_findFewestUnkept_6 : decode cX7_findFewestUnkept 6 = .ok (.if_icmp .gt 16, 3) := by decide +kernel
theorem dX7_findFewestUnkept_9 : decode cX7_findFewestUnkept 9 = .ok (.aload_n 0, 1) := by decide +kernel
theorem dX7_findFewestUnkept_10 : decode cX7_findFewestUnkept 10 = .ok (.getfield 9, 3) := by decide +kernel
theorem dX7_findFewestUnkept_13 : decode cX7_findFewestUnkept 13 = .ok (.iload_n 1, 1) := by decide +kernel
theorem dX7_findFewestUnkept_14 : decode cX7_findFewestUnkept 14 = .ok (.iconst 0, 1) := by decide +kernel
theorem dX7_findFewestUnkept_15 : decode cX7_findFewestUnkept 15 = .ok (.bastore, 1) := by decide +kernel
theorem dX7_findFewestUnkept_16 : decode cX7_findFewestUnkept 16 = .ok (.iinc 1 1, 3) := by decide +kernel
theorem dX7_findFewestUnkept_19 : decode cX7_findFewestUnkept 19 = .ok (.goto (-17), 3) := by decide +kernel
theorem dX7_findFewestUnkept_22 : decode cX7_findFewestUnkept 22 = .ok (.aload_n 0, 1) := by decide +kernel
theorem dX7_findFewestUnkept_23 : decode cX7_findFewestUnkept 23 = .ok (.invokevirtual 15, 3) := by decide +kernel
theorem dX7_findFewestUnkept_26 : decode cX7_findFewestUnkept 26 = .ok (.iconst 0, 1) := by decide +kernel
theorem dX7_findFewestUnkept_27 : decode cX7_findFewestUnkept 27 = .ok (.istore_n 1, 1) := by decide +kernel
theorem dX7_findFewestUnkept_28 : decode cX7_findFewestUnkept 28 = .ok (.iconst 1, 1) := by decide +kernel
theorem dX7_findFewestUnkept_29 : decode cX7_findFewestUnkept 29 = .ok (.istore_n 2, 1) := by decide +kernel
theorem dX7_findFewestUnkept_30 : decode cX7_findFewestUnkept 30 = .ok (.iload_n 2, 1) := by decide +kernel
theorem dX7_findFewestUnkept_31 : decode cX7_findFewestUnkept 31 = .ok (.sipush 1023, 3) := by decide +kernel
theorem dX7_findFewestUnkept_34 : decode cX7_findFewestUnkept 34 = .ok (.if_icmp .gt 45, 3) := by decide +kernel
theorem dX7_findFewestUnkept_37 : decode cX7_findFewestUnkept 37 = .ok (.iload_n 1, 1) := by decide +kernel
theorem dX7_findFewestUnkept_38 : decode cX7_findFewestUnkept 38 = .ok (.ifCond .eq 14, 3) := by decide +kernel
theorem dX7_findFewestUnkept_41 : decode cX7_findFewestUnkept 41 = .ok (.iload_n 2, 1) := by decide +kernel
theorem dX7_findFewestUnkept_42 : decode cX7_findFewestUnkept 42 = .ok (.invokestatic 19, 3) := by decide +kernel
theorem dX7_findFewestUnkept_45 : decode cX7_findFewestUnkept 45 = .ok (.iload_n 1, 1) := by decide +kernel
theorem dX7_findFewestUnkept_46 : decode cX7_findFewestUnkept 46 = .ok (.invokestatic 19, 3) := by decide +kernel
theorem dX7_findFewestUnkept_49 : decode cX7_findFewestUnkept 49 = .ok (.if_icmp .ge 7, 3) := by decide +kernel
theorem dX7_findFewestUnkept_52 : decode cX7_findFewestUnkept 52 = .ok (.iconst 1, 1) := by decide +kernel
theorem dX7_findFewestUnkept_53 : decode cX7_findFewestUnkept 53 = .ok (.goto 4, 3) := by decide +kernel
theorem dX7_findFewestUnkept_56 : decode cX7_findFewestUnkept 56 = .ok (.iconst 0, 1) := by decide +kernel
theorem dX7_findFewestUnkept_57 : decode cX7_findFewestUnkept 57 = .ok (.istore_n 3, 1) := by decide +kernel
theorem dX7_findFewestUnkept_58 : decode cX7_findFewestUnkept 58 = .ok (.aload_n 0, 1) := by decide +kernel
theorem dX7_findFewestUnkept_59 : decode cX7_findFewestUnkept 59 = .ok (.getfield 9, 3) := by decide +kernel
theorem dX7_findFewestUnkept_62 : decode cX7_findFewestUnkept 62 = .ok (.iload_n 2, 1) := by decide +kernel
theorem dX7_findFewestUnkept_63 : decode cX7_findFewestUnkept 63 = .ok (.baload, 1) := by decide +kernel
theorem dX7_findFewestUnkept_64 : decode cX7_findFewestUnkept 64 = .ok (.ifCond .ne 9, 3) := by decide +kernel
theorem dX7_findFewestUnkept_67 : decode cX7_findFewestUnkept 67 = .ok (.iload_n 3, 1) := by decide +kernel
theorem dX7_findFewestUnkept_68 : decode cX7_findFewestUnkept 68 = .ok (.ifCond .eq 5, 3) := by decide +kernel
theorem dX7_findFewestUnkept_71 : decode cX7_findFewestUnkept 71 = .ok (.iload_n 2, 1) := by decide +kernel
theorem dX7_findFewestUnkept_72 : decode cX7_findFewestUnkept 72 = .ok (.istore_n 1, 1) := by decide +kernel
theorem dX7_findFewestUnkept_73 : decode cX7_findFewestUnkept 73 = .ok (.iinc 2 1, 3) := by decide +kernel
theorem dX7_findFewestUnkept_76 : decode cX7_findFewestUnkept 76 = .ok (.goto (-46), 3) := by decide +kernel
theorem dX7_findFewestUnkept_79 : decode cX7_findFewestUnkept 79 = .ok (.iload_n 1, 1) := by decide +kernel
theorem dX7_findFewestUnkept_80 : decode cX7_findFewestUnkept 80 = .ok (.ireturn, 1) := by decide +kernel
theorem dX7_isHopeless_0 : decode cX7_isHopeless 0 = .ok (.aload_n 0, 1) := by decide +kernel
theorem dX7_isHopeless_1 : decode cX7_isHopeless 1 = .ok (.getfield 9, 3) := by decide +kernel
theorem dX7_isHopeless_4 : decode cX7_isHopeless 4 = .ok (.aload_n 0, 1) := by decide +kernel
theorem dX7_isHopeless_5 : decode cX7_isHopeless 5 = .ok (.iload_n 1, 1) := by decide +kernel
theorem dX7_isHopeless_6 : decode cX7_isHopeless 6 = .ok (.invokevirtual 25, 3) := by decide +kernel
theorem dX7_isHopeless_9 : decode cX7_isHopeless 9 = .ok (.baload, 1) := by decide +kernel
theorem dX7_isHopeless_10 : decode cX7_isHopeless 10 = .ok (.ireturn, 1) := by decide +kernel
theorem dX7_meet_0 : decode cX7_meet 0 = .ok (.aload_n 0, 1) := by decide +kernel
theorem dX7_meet_1 : decode cX7_meet 1 = .ok (.aload_n 0, 1) := by decide +kernel
theorem dX7_meet_2 : decode cX7_meet 2 = .ok (.getfield 28, 3) := by decide +kernel
theorem dX7_meet_5 : decode cX7_meet 5 = .ok (.getfield 32, 3) := by decide +kernel
theorem dX7_meet_8 : decode cX7_meet 8 = .ok (.invokevirtual 25, 3) := by decide +kernel
theorem dX7_meet_11 : decode cX7_meet 11 = .ok (.istore_n 1, 1) := by decide +kernel
theorem dX7_meet_12 : decode cX7_meet 12 = .ok (.iconst 0, 1) := by decide +kernel
theorem dX7_meet_13 : decode cX7_meet 13 = .ok (.istore_n 2, 1) := by decide +kernel
theorem dX7_meet_14 : decode cX7_meet 14 = .ok (.iload_n 2, 1) := by decide +kernel
theorem dX7_meet_15 : decode cX7_meet 15 = .ok (.iload_n 1, 1) := by decide +kernel
theorem dX7_meet_16 : decode cX7_meet 16 = .ok (.if_icmp .gt 24, 3) := by decide +kernel
theorem dX7_meet_19 : decode cX7_meet 19 = .ok (.iload_n 2, 1) := by decide +kernel
theorem dX7_meet_20 : decode cX7_meet 20 = .ok (.iload_n 1, 1) := by decide +kernel
theorem dX7_meet_21 : decode cX7_meet 21 = .ok (.iconst (-1), 1) := by decide +kernel
theorem dX7_meet_22 : decode cX7_meet 22 = .ok (.ixor, 1) := by decide +kernel
theorem dX7_meet_23 : decode cX7_meet 23 = .ok (.iand, 1) := by decide +kernel
theorem dX7_meet_24 : decode cX7_meet 24 = .ok (.ifCond .ne 10, 3) := by decide +kernel
theorem dX7_meet_27 : decode cX7_meet 27 = .ok (.aload_n 0, 1) := by decide +kernel
theorem dX7_meet_28 : decode cX7_meet 28 = .ok (.getfield 9, 3) := by decide +kernel
theorem dX7_meet_31 : decode cX7_meet 31 = .ok (.iload_n 2, 1) := by decide +kernel
theorem dX7_meet_32 : decode cX7_meet 32 = .ok (.iconst 1, 1) := by decide +kernel
theorem dX7_meet_33 : decode cX7_meet 33 = .ok (.bastore, 1) := by decide +kernel
theorem dX7_meet_34 : decode cX7_meet 34 = .ok (.iinc 2 1, 3) := by decide +kernel
theorem dX7_meet_37 : decode cX7_meet 37 = .ok (.goto (-23), 3) := by decide +kernel
theorem dX7_meet_40 : decode cX7_meet 40 = .ok (.return_, 1) := by decide +kernel
theorem dX7_keepable_0 : decode cX7_keepable 0 = .ok (.sipush 1023, 3) := by decide +kernel
theorem dX7_keepable_3 : decode cX7_keepable 3 = .ok (.aload_n 0, 1) := by decide +kernel
theorem dX7_keepable_4 : decode cX7_keepable 4 = .ok (.getfield 38, 3) := by decide +kernel
theorem dX7_keepable_7 : decode cX7_keepable 7 = .ok (.aload_n 0, 1) := by decide +kernel
theorem dX7_keepable_8 : decode cX7_keepable 8 = .ok (.getfield 42, 3) := by decide +kernel
theorem dX7_keepable_11 : decode cX7_keepable 11 = .ok (.aload_n 0, 1) := by decide +kernel
theorem dX7_keepable_12 : decode cX7_keepable 12 = .ok (.getfield 28, 3) := by decide +kernel
theorem dX7_keepable_15 : decode cX7_keepable 15 = .ok (.getfield 46, 3) := by decide +kernel
theorem dX7_keepable_18 : decode cX7_keepable 18 = .ok (.iload_n 1, 1) := by decide +kernel
theorem dX7_keepable_19 : decode cX7_keepable 19 = .ok (.aaload, 1) := by decide +kernel
theorem dX7_keepable_20 : decode cX7_keepable 20 = .ok (.invokevirtual 50, 3) := by decide +kernel
theorem dX7_keepable_23 : decode cX7_keepable 23 = .ok (.iconst (-1), 1) := by decide +kernel
theorem dX7_keepable_24 : decode cX7_keepable 24 = .ok (.ixor, 1) := by decide +kernel
theorem dX7_keepable_25 : decode cX7_keepable 25 = .ok (.iand, 1) := by decide +kernel
theorem dX7_keepable_26 : decode cX7_keepable 26 = .ok (.ireturn, 1) := by decide +kernel
theorem dJ6_bitCount_0f7a4_0 : decode cJ6_bitCount_0f7a4 0 = .ok (.iload_n 0, 1) := by decide +kernel
theorem dJ6_bitCount_0f7a4_1 : decode cJ6_bitCount_0f7a4 1 = .ok (.iload_n 0, 1) := by decide +kernel
theorem dJ6_bitCount_0f7a4_2 : decode cJ6_bitCount_0f7a4 2 = .ok (.iconst 1, 1) := by decide +kernel
theorem dJ6_bitCount_0f7a4_3 : decode cJ6_bitCount_0f7a4 3 = .ok (.iushr, 1) := by decide +kernel
theorem dJ6_bitCount_0f7a4_4 : decode cJ6_bitCount_0f7a4 4 = .ok (.ldc_w 265, 3) := by decide +kernel
theorem dJ6_bitCount_0f7a4_7 : decode cJ6_bitCount_0f7a4 7 = .ok (.iand, 1) := by decide +kernel
theorem dJ6_bitCount_0f7a4_8 : decode cJ6_bitCount_0f7a4 8 = .ok (.isub, 1) := by decide +kernel
theorem dJ6_bitCount_0f7a4_9 : decode cJ6_bitCount_0f7a4 9 = .ok (.istore_n 0, 1) := by decide +kernel
theorem dJ6_bitCount_0f7a4_10 : decode cJ6_bitCount_0f7a4 10 = .ok (.iload_n 0, 1) := by decide +kernel
theorem dJ6_bitCount_0f7a4_11 : decode cJ6_bitCount_0f7a4 11 = .ok (.ldc_w 266, 3) := by decide +kernel
theorem dJ6_bitCount_0f7a4_14 : decode cJ6_bitCount_0f7a4 14 = .ok (.iand, 1) := by decide +kernel
theorem dJ6_bitCount_0f7a4_15 : decode cJ6_bitCount_0f7a4 15 = .ok (.iload_n 0, 1) := by decide +kernel
theorem dJ6_bitCount_0f7a4_16 : decode cJ6_bitCount_0f7a4 16 = .ok (.iconst 2, 1) := by decide +kernel
theorem dJ6_bitCount_0f7a4_17 : decode cJ6_bitCount_0f7a4 17 = .ok (.iushr, 1) := by decide +kernel
theorem dJ6_bitCount_0f7a4_18 : decode cJ6_bitCount_0f7a4 18 = .ok (.ldc_w 266, 3) := by decide +kernel
theorem dJ6_bitCount_0f7a4_21 : decode cJ6_bitCount_0f7a4 21 = .ok (.iand, 1) := by decide +kernel
theorem dJ6_bitCount_0f7a4_22 : decode cJ6_bitCount_0f7a4 22 = .ok (.iadd, 1) := by decide +kernel
theorem dJ6_bitCount_0f7a4_23 : decode cJ6_bitCount_0f7a4 23 = .ok (.istore_n 0, 1) := by decide +kernel
theorem dJ6_bitCount_0f7a4_24 : decode cJ6_bitCount_0f7a4 24 = .ok (.iload_n 0, 1) := by decide +kernel
theorem dJ6_bitCount_0f7a4_25 : decode cJ6_bitCount_0f7a4 25 = .ok (.iload_n 0, 1) := by decide +kernel
theorem dJ6_bitCount_0f7a4_26 : decode cJ6_bitCount_0f7a4 26 = .ok (.iconst 4, 1) := by decide +kernel
theorem dJ6_bitCount_0f7a4_27 : decode cJ6_bitCount_0f7a4 27 = .ok (.iushr, 1) := by decide +kernel
theorem dJ6_bitCount_0f7a4_28 : decode cJ6_bitCount_0f7a4 28 = .ok (.iadd, 1) := by decide +kernel
theorem dJ6_bitCount_0f7a4_29 : decode cJ6_bitCount_0f7a4 29 = .ok (.ldc_w 267, 3) := by decide +kernel
theorem dJ6_bitCount_0f7a4_32 : decode cJ6_bitCount_0f7a4 32 = .ok (.iand, 1) := by decide +kernel
theorem dJ6_bitCount_0f7a4_33 : decode cJ6_bitCount_0f7a4 33 = .ok (.istore_n 0, 1) := by decide +kernel
theorem dJ6_bitCount_0f7a4_34 : decode cJ6_bitCount_0f7a4 34 = .ok (.iload_n 0, 1) := by decide +kernel
theorem dJ6_bitCount_0f7a4_35 : decode cJ6_bitCount_0f7a4 35 = .ok (.iload_n 0, 1) := by decide +kernel
theorem dJ6_bitCount_0f7a4_36 : decode cJ6_bitCount_0f7a4 36 = .ok (.bipush 8, 2) := by decide +kernel
theorem dJ6_bitCount_0f7a4_38 : decode cJ6_bitCount_0f7a4 38 = .ok (.iushr, 1) := by decide +kernel
theorem dJ6_bitCount_0f7a4_39 : decode cJ6_bitCount_0f7a4 39 = .ok (.iadd, 1) := by decide +kernel
theorem dJ6_bitCount_0f7a4_40 : decode cJ6_bitCount_0f7a4 40 = .ok (.istore_n 0, 1) := by decide +kernel
theorem dJ6_bitCount_0f7a4_41 : decode cJ6_bitCount_0f7a4 41 = .ok (.iload_n 0, 1) := by decide +kernel
theorem dJ6_bitCount_0f7a4_42 : decode cJ6_bitCount_0f7a4 42 = .ok (.iload_n 0, 1) := by decide +kernel
theorem dJ6_bitCount_0f7a4_43 : decode cJ6_bitCount_0f7a4 43 = .ok (.bipush 16, 2) := by decide +kernel
theorem dJ6_bitCount_0f7a4_45 : decode cJ6_bitCount_0f7a4 45 = .ok (.iushr, 1) := by decide +kernel
theorem dJ6_bitCount_0f7a4_46 : decode cJ6_bitCount_0f7a4 46 = .ok (.iadd, 1) := by decide +kernel
theorem dJ6_bitCount_0f7a4_47 : decode cJ6_bitCount_0f7a4 47 = .ok (.istore_n 0, 1) := by decide +kernel
theorem dJ6_bitCount_0f7a4_48 : decode cJ6_bitCount_0f7a4 48 = .ok (.iload_n 0, 1) := by decide +kernel
theorem dJ6_bitCount_0f7a4_49 : decode cJ6_bitCount_0f7a4 49 = .ok (.bipush 63, 2) := by decide +kernel
theorem dJ6_bitCount_0f7a4_51 : decode cJ6_bitCount_0f7a4 51 = .ok (.iand, 1) := by decide +kernel
theorem dJ6_bitCount_0f7a4_52 : decode cJ6_bitCount_0f7a4 52 = .ok (.ireturn, 1) := by decide +kernel
theorem dJ9_abs_0f7a4_0 : decode cJ9_abs_0f7a4 0 = .ok (.iload_n 0, 1) := by decide +kernel
theorem dJ9_abs_0f7a4_1 : decode cJ9_abs_0f7a4 1 = .ok (.ifCond .ge 8, 3) := by decide +kernel
theorem dJ9_abs_0f7a4_4 : decode cJ9_abs_0f7a4 4 = .ok (.iload_n 0, 1) := by decide +kernel
theorem dJ9_abs_0f7a4_5 : decode cJ9_abs_0f7a4 5 = .ok (.ineg, 1) := by decide +kernel
theorem dJ9_abs_0f7a4_6 : decode cJ9_abs_0f7a4 6 = .ok (.goto 4, 3) := by decide +kernel
theorem dJ9_abs_0f7a4_9 : decode cJ9_abs_0f7a4 9 = .ok (.iload_n 0, 1) := by decide +kernel
theorem dJ9_abs_0f7a4_10 : decode cJ9_abs_0f7a4 10 = .ok (.ireturn, 1) := by decide +kernel
theorem dJ9_max_7cf53_0 : decode cJ9_max_7cf53 0 = .ok (.iload_n 0, 1) := by decide +kernel
theorem dJ9_max_7cf53_1 : decode cJ9_max_7cf53 1 = .ok (.iload_n 1, 1) := by decide +kernel
theorem dJ9_max_7cf53_2 : decode cJ9_max_7cf53 2 = .ok (.if_icmp .lt 7, 3) := by decide +kernel
theorem dJ9_max_7cf53_5 : decode cJ9_max_7cf53 5 = .ok (.iload_n 0, 1) := by decide +kernel
theorem dJ9_max_7cf53_6 : decode cJ9_max_7cf53 6 = .ok (.goto 4, 3) := by decide +kernel
theorem dJ9_max_7cf53_9 : decode cJ9_max_7cf53 9 = .ok (.iload_n 1, 1) := by decide +kernel
theorem dJ9_max_7cf53_10 : decode cJ9_max_7cf53 10 = .ok (.ireturn, 1) := by decide +kernel
theorem dJ9_min_7cf53_0 : decode cJ9_min_7cf53 0 = .ok (.iload_n 0, 1) := by decide +kernel
theorem dJ9_min_7cf53_1 : decode cJ9_min_7cf53 1 = .ok (.iload_n 1, 1) := by decide +kernel
theorem dJ9_min_7cf53_2 : decode cJ9_min_7cf53 2 = .ok (.if_icmp .gt 7, 3) := by decide +kernel
theorem dJ9_min_7cf53_5 : decode cJ9_min_7cf53 5 = .ok (.iload_n 0, 1) := by decide +kernel
theorem dJ9_min_7cf53_6 : decode cJ9_min_7cf53 6 = .ok (.goto 4, 3) := by decide +kernel
theorem dJ9_min_7cf53_9 : decode cJ9_min_7cf53 9 = .ok (.iload_n 1, 1) := by decide +kernel
theorem dJ9_min_7cf53_10 : decode cJ9_min_7cf53 10 = .ok (.ireturn, 1) := by decide +kernel
theorem dJ7_fill_53178_0 : decode cJ7_fill_53178 0 = .ok (.iconst 0, 1) := by decide +kernel
theorem dJ7_fill_53178_1 : decode cJ7_fill_53178 1 = .ok (.istore_n 2, 1) := by decide +kernel
theorem dJ7_fill_53178_2 : decode cJ7_fill_53178 2 = .ok (.aload_n 0, 1) := by decide +kernel
theorem dJ7_fill_53178_3 : decode cJ7_fill_53178 3 = .ok (.arraylength, 1) := by decide +kernel
theorem dJ7_fill_53178_4 : decode cJ7_fill_53178 4 = .ok (.istore_n 3, 1) := by decide +kernel
theorem dJ7_fill_53178_5 : decode cJ7_fill_53178 5 = .ok (.iload_n 2, 1) := by decide +kernel
theorem dJ7_fill_53178_6 : decode cJ7_fill_53178 6 = .ok (.iload_n 3, 1) := by decide +kernel
theorem dJ7_fill_53178_7 : decode cJ7_fill_53178 7 = .ok (.if_icmp .ge 13, 3) := by decide +kernel
theorem dJ7_fill_53178_10 : decode cJ7_fill_53178 10 = .ok (.aload_n 0, 1) := by decide +kernel
theorem dJ7_fill_53178_11 : decode cJ7_fill_53178 11 = .ok (.iload_n 2, 1) := by decide +kernel
theorem dJ7_fill_53178_12 : decode cJ7_fill_53178 12 = .ok (.iload_n 1, 1) := by decide +kernel
theorem dJ7_fill_53178_13 : decode cJ7_fill_53178 13 = .ok (.iastore, 1) := by decide +kernel
theorem dJ7_fill_53178_14 : decode cJ7_fill_53178 14 = .ok (.iinc 2 1, 3) := by decide +kernel
theorem dJ7_fill_53178_17 : decode cJ7_fill_53178 17 = .ok (.goto (-12), 3) := by decide +kernel
theorem dJ7_fill_53178_20 : decode cJ7_fill_53178 20 = .ok (.return_, 1) := by decide +kernel
