/-! THE CONSTRUCTORS, walked -/
theorem sl_1 : SLn 1 = 9 := by decide +kernel
theorem sl_2 : SLn 2 = 14 := by decide +kernel
theorem sl_27 : SLn 27 = 206 := by decide +kernel
theorem sl_28 : SLn 28 = 230 := by decide +kernel
theorem sl_29 : SLn 29 = 233 := by decide +kernel
theorem sl_30 : SLn 30 = 243 := by decide +kernel
theorem sl_31 : SLn 31 = 253 := by decide +kernel
theorem sl_32 : SLn 32 = 257 := by decide +kernel
theorem sl_33 : SLn 33 = 262 := by decide +kernel
theorem sl_34 : SLn 34 = 278 := by decide +kernel
theorem sl_35 : SLn 35 = 294 := by decide +kernel
theorem sl_52 : SLn 52 = 470 := by decide +kernel
theorem sl_70 : SLn 70 = 657 := by decide +kernel
theorem sl_71 : SLn 71 = 665 := by decide +kernel
theorem sl_72 : SLn 72 = 675 := by decide +kernel
theorem sl_73 : SLn 73 = 681 := by decide +kernel
theorem sl_74 : SLn 74 = 691 := by decide +kernel
theorem sl_75 : SLn 75 = 1715 := by decide +kernel
theorem sl_76 : SLn 76 = 1728 := by decide +kernel
theorem sl_77 : SLn 77 = 1738 := by decide +kernel
theorem sl_78 : SLn 78 = 2762 := by decide +kernel
theorem sl_79 : SLn 79 = 3786 := by decide +kernel
theorem sl_80 : SLn 80 = 4810 := by decide +kernel
theorem sl_81 : SLn 81 = 5834 := by decide +kernel
theorem sl_82 : SLn 82 = 5844 := by decide +kernel
theorem sl_83 : SLn 83 = 5852 := by decide +kernel
theorem sl_84 : SLn 84 = 5860 := by decide +kernel
theorem sl_85 : SLn 85 = 5868 := by decide +kernel
theorem sl_94 : SLn 94 = 5940 := by decide +kernel
theorem sl_95 : SLn 95 = 7988 := by decide +kernel
theorem sl_96 : SLn 96 = 8012 := by decide +kernel
theorem sl_97 : SLn 97 = 8022 := by decide +kernel
theorem sl_98 : SLn 98 = 8052 := by decide +kernel
theorem sl_99 : SLn 99 = 8076 := by decide +kernel
theorem sl_100 : SLn 100 = 8100 := by decide +kernel
theorem sl_101 : SLn 101 = 8124 := by decide +kernel
theorem sl_102 : SLn 102 = 8148 := by decide +kernel
theorem sl_103 : SLn 103 = 8172 := by decide +kernel
theorem sl_104 : SLn 104 = 8196 := by decide +kernel
theorem sl_105 : SLn 105 = 8220 := by decide +kernel
theorem sl_106 : SLn 106 = 8244 := by decide +kernel
theorem sl_107 : SLn 107 = 8254 := by decide +kernel
theorem sl_108 : SLn 108 = 8264 := by decide +kernel
theorem sl_109 : SLn 109 = 8268 := by decide +kernel
theorem sl_110 : SLn 110 = 8284 := by decide +kernel
theorem sl_111 : SLn 111 = 663644 := by decide +kernel
theorem sl_112 : SLn 112 = 729180 := by decide +kernel
theorem sl_113 : SLn 113 = 794716 := by decide +kernel
theorem sl_114 : SLn 114 = 794732 := by decide +kernel
theorem sl_115 : SLn 115 = 794748 := by decide +kernel
theorem sl_116 : SLn 116 = 795772 := by decide +kernel
theorem sl_117 : SLn 117 = 795796 := by decide +kernel
theorem sl_118 : SLn 118 = 795804 := by decide +kernel
theorem sl_119 : SLn 119 = 795828 := by decide +kernel
theorem sl_120 : SLn 120 = 795852 := by decide +kernel
theorem pr_RX0_0_0 : PFR RX0 0 0 := ⟨(RX0, TX0, 5), .array (.array .int), rfl, by decide +kernel, by decide +kernel, by decide +kernel, fun _ => rfl, fun _ => rfl⟩
theorem pr_RX0_0_1 : PFR RX0 0 1 := ⟨(RX0, TX0, 5), .array .int, rfl, by decide +kernel, by decide +kernel, by decide +kernel, fun _ => rfl, fun _ => rfl⟩
theorem pr_RX2_2_0 : PFR RX2 2 0 := ⟨(RX2, TX2, 3), .array .int, rfl, by decide +kernel, by decide +kernel, by decide +kernel, fun _ => rfl, fun _ => rfl⟩
theorem pr_RX2_2_1 : PFR RX2 2 1 := ⟨(RX2, TX2, 3), .array .int, rfl, by decide +kernel, by decide +kernel, by decide +kernel, fun _ => rfl, fun _ => rfl⟩
theorem pr_RX2_2_2 : PFR RX2 2 2 := ⟨(RX2, TX2, 3), .array .int, rfl, by decide +kernel, by decide +kernel, by decide +kernel, fun _ => rfl, fun _ => rfl⟩
theorem pr_RX5_4_0 : PFR RX5 4 0 := ⟨(RX5, TX5, 5), .array .int, rfl, by decide +kernel, by decide +kernel, by decide +kernel, fun _ => rfl, fun _ => rfl⟩
theorem pr_RX5_4_1 : PFR RX5 4 1 := ⟨(RX5, TX5, 5), .array .int, rfl, by decide +kernel, by decide +kernel, by decide +kernel, fun _ => rfl, fun _ => rfl⟩
theorem pr_RX5_4_2 : PFR RX5 4 2 := ⟨(RX5, TX5, 5), .array (.array .int), rfl, by decide +kernel, by decide +kernel, by decide +kernel, fun _ => rfl, fun _ => rfl⟩
theorem pr_RX5_4_3 : PFR RX5 4 3 := ⟨(RX5, TX5, 5), .array (.array .int), rfl, by decide +kernel, by decide +kernel, by decide +kernel, fun _ => rfl, fun _ => rfl⟩
theorem pr_RX4_1_2 : PFR RX4 1 2 := ⟨(RX1, TX1, 8), .array .int, rfl, by decide +kernel, by decide +kernel, by decide +kernel, fun _ => rfl, fun _ => rfl⟩
theorem pr_RX4_1_0 : PFR RX4 1 0 := ⟨(RX1, TX1, 8), .object "PaperSetter$Units", rfl, by decide +kernel, by decide +kernel, by decide +kernel, fun _ => rfl, fun _ => rfl⟩
theorem pr_RX4_1_1 : PFR RX4 1 1 := ⟨(RX1, TX1, 8), .object "PaperSetter$Limits", rfl, by decide +kernel, by decide +kernel, by decide +kernel, fun _ => rfl, fun _ => rfl⟩
theorem pr_RX4_6_2 : PFR RX4 6 2 := ⟨(RX7, TX7, 6), .array .int, rfl, by decide +kernel, by decide +kernel, by decide +kernel, fun _ => rfl, fun _ => rfl⟩
theorem pr_RX4_6_0 : PFR RX4 6 0 := ⟨(RX7, TX7, 6), .object "PaperSetter$Units", rfl, by decide +kernel, by decide +kernel, by decide +kernel, fun _ => rfl, fun _ => rfl⟩
theorem pr_RX4_6_1 : PFR RX4 6 1 := ⟨(RX7, TX7, 6), .object "PaperSetter$Limits", rfl, by decide +kernel, by decide +kernel, by decide +kernel, fun _ => rfl, fun _ => rfl⟩
theorem pr_RX7_6_5 : PFR RX7 6 5 := ⟨(RX7, TX7, 6), .array .boolean, rfl, by decide +kernel, by decide +kernel, by decide +kernel, fun _ => rfl, fun _ => rfl⟩
theorem pr_RX4_5_2 : PFR RX4 5 2 := ⟨(RX6, TX6, 13), .array .int, rfl, by decide +kernel, by decide +kernel, by decide +kernel, fun _ => rfl, fun _ => rfl⟩
theorem pr_RX4_5_0 : PFR RX4 5 0 := ⟨(RX6, TX6, 13), .object "PaperSetter$Units", rfl, by decide +kernel, by decide +kernel, by decide +kernel, fun _ => rfl, fun _ => rfl⟩
theorem pr_RX4_5_1 : PFR RX4 5 1 := ⟨(RX6, TX6, 13), .object "PaperSetter$Limits", rfl, by decide +kernel, by decide +kernel, by decide +kernel, fun _ => rfl, fun _ => rfl⟩
theorem pr_RX6_5_5 : PFR RX6 5 5 := ⟨(RX6, TX6, 13), .array .int, rfl, by decide +kernel, by decide +kernel, by decide +kernel, fun _ => rfl, fun _ => rfl⟩
theorem pr_RX6_5_6 : PFR RX6 5 6 := ⟨(RX6, TX6, 13), .array .int, rfl, by decide +kernel, by decide +kernel, by decide +kernel, fun _ => rfl, fun _ => rfl⟩
theorem pr_RX6_5_7 : PFR RX6 5 7 := ⟨(RX6, TX6, 13), .array .int, rfl, by decide +kernel, by decide +kernel, by decide +kernel, fun _ => rfl, fun _ => rfl⟩
theorem pr_RX6_5_8 : PFR RX6 5 8 := ⟨(RX6, TX6, 13), .array .int, rfl, by decide +kernel, by decide +kernel, by decide +kernel, fun _ => rfl, fun _ => rfl⟩
theorem pr_RX3_3_0 : PFR RX3 3 0 := ⟨(RX3, TX3, 10), .array .int, rfl, by decide +kernel, by decide +kernel, by decide +kernel, fun _ => rfl, fun _ => rfl⟩
theorem pr_RX3_3_1 : PFR RX3 3 1 := ⟨(RX3, TX3, 10), .array .int, rfl, by decide +kernel, by decide +kernel, by decide +kernel, fun _ => rfl, fun _ => rfl⟩
theorem pr_RX3_3_2 : PFR RX3 3 2 := ⟨(RX3, TX3, 10), .array .int, rfl, by decide +kernel, by decide +kernel, by decide +kernel, fun _ => rfl, fun _ => rfl⟩
theorem pr_RX3_3_3 : PFR RX3 3 3 := ⟨(RX3, TX3, 10), .array (.array .int), rfl, by decide +kernel, by decide +kernel, by decide +kernel, fun _ => rfl, fun _ => rfl⟩
theorem pr_RX3_3_4 : PFR RX3 3 4 := ⟨(RX3, TX3, 10), .array .int, rfl, by decide +kernel, by decide +kernel, by decide +kernel, fun _ => rfl, fun _ => rfl⟩
theorem pr_RX3_3_6 : PFR RX3 3 6 := ⟨(RX3, TX3, 10), .array .int, rfl, by decide +kernel, by decide +kernel, by decide +kernel, fun _ => rfl, fun _ => rfl⟩
theorem bn_0 : ∀ j, j < 5 → defaultValue (tyX0 j) = vp_V (([some 2, some 4, none, none, none] : List (Option Nat)).map zv) j := by decide +kernel
theorem pr_RX8_7_0 : PFR RX8 7 0 := ⟨(RX8, TX8, 9), .object "PaperSetter$Bank", rfl, by decide +kernel, by decide +kernel, by decide +kernel, fun _ => rfl, fun _ => rfl⟩
theorem bn_2 : ∀ j, j < 3 → defaultValue (tyX2 j) = vp_V (([some 6, some 7, some 8] : List (Option Nat)).map zv) j := by decide +kernel
theorem pr_RX8_7_1 : PFR RX8 7 1 := ⟨(RX8, TX8, 9), .object "PaperSetter$Limits", rfl, by decide +kernel, by decide +kernel, by decide +kernel, fun _ => rfl, fun _ => rfl⟩
theorem bn_4 : ∀ j, j < 5 → defaultValue (tyX5 j) = vp_V (([some 10, some 11, some 12, some 14, none] : List (Option Nat)).map zv) j := by decide +kernel
theorem pr_RX8_7_2 : PFR RX8 7 2 := ⟨(RX8, TX8, 9), .object "PaperSetter$Units", rfl, by decide +kernel, by decide +kernel, by decide +kernel, fun _ => rfl, fun _ => rfl⟩
theorem bn_1 : ∀ j, j < 8 → defaultValue (tyX1 j) = vp_V (([some 9, some 5, some 17, none, none, none, none, none] : List (Option Nat)).map zv) j := by decide +kernel
theorem pr_RX8_7_3 : PFR RX8 7 3 := ⟨(RX8, TX8, 9), .object "PaperSetter$BestSearch", rfl, by decide +kernel, by decide +kernel, by decide +kernel, fun _ => rfl, fun _ => rfl⟩
theorem bn_6 : ∀ j, j < 6 → defaultValue (tyX7 j) = vp_V (([some 9, some 5, some 19, none, none, some 20] : List (Option Nat)).map zv) j := by decide +kernel
theorem pr_RX8_7_4 : PFR RX8 7 4 := ⟨(RX8, TX8, 9), .object "PaperSetter$WhySearch", rfl, by decide +kernel, by decide +kernel, by decide +kernel, fun _ => rfl, fun _ => rfl⟩
theorem bn_5 : ∀ j, j < 13 → defaultValue (tyX6 j) = vp_V (([some 9, some 5, some 22, none, none, some 23, some 24, some 25, some 26, none, none, none, none] : List (Option Nat)).map zv) j := by decide +kernel
theorem pr_RX8_7_5 : PFR RX8 7 5 := ⟨(RX8, TX8, 9), .object "PaperSetter$VersionSearch", rfl, by decide +kernel, by decide +kernel, by decide +kernel, fun _ => rfl, fun _ => rfl⟩
theorem bn_3 : ∀ j, j < 10 → defaultValue (tyX3 j) = vp_V (([some 28, some 29, some 30, some 31, some 33, none, some 34, none, none, none] : List (Option Nat)).map zv) j := by decide +kernel
theorem pr_RX8_7_6 : PFR RX8 7 6 := ⟨(RX8, TX8, 9), .object "PaperSetter$Ordering", rfl, by decide +kernel, by decide +kernel, by decide +kernel, fun _ => rfl, fun _ => rfl⟩
theorem pr_RX8_7_7 : PFR RX8 7 7 := ⟨(RX8, TX8, 9), .array .int, rfl, by decide +kernel, by decide +kernel, by decide +kernel, fun _ => rfl, fun _ => rfl⟩
theorem pr_RX9_8_3 : PFR RX9 8 3 := ⟨(RX9, TX9, 30), .array .int, rfl, by decide +kernel, by decide +kernel, by decide +kernel, fun _ => rfl, fun _ => rfl⟩
theorem pr_RX9_8_4 : PFR RX9 8 4 := ⟨(RX9, TX9, 30), .array .int, rfl, by decide +kernel, by decide +kernel, by decide +kernel, fun _ => rfl, fun _ => rfl⟩
theorem pr_RX9_8_5 : PFR RX9 8 5 := ⟨(RX9, TX9, 30), .array .int, rfl, by decide +kernel, by decide +kernel, by decide +kernel, fun _ => rfl, fun _ => rfl⟩
theorem pr_RX9_8_6 : PFR RX9 8 6 := ⟨(RX9, TX9, 30), .array .int, rfl, by decide +kernel, by decide +kernel, by decide +kernel, fun _ => rfl, fun _ => rfl⟩
theorem pr_RX9_8_7 : PFR RX9 8 7 := ⟨(RX9, TX9, 30), .array .int, rfl, by decide +kernel, by decide +kernel, by decide +kernel, fun _ => rfl, fun _ => rfl⟩
theorem pr_RX9_8_8 : PFR RX9 8 8 := ⟨(RX9, TX9, 30), .array .int, rfl, by decide +kernel, by decide +kernel, by decide +kernel, fun _ => rfl, fun _ => rfl⟩
theorem pr_RX9_8_9 : PFR RX9 8 9 := ⟨(RX9, TX9, 30), .array .int, rfl, by decide +kernel, by decide +kernel, by decide +kernel, fun _ => rfl, fun _ => rfl⟩
theorem pr_RX9_8_10 : PFR RX9 8 10 := ⟨(RX9, TX9, 30), .array .int, rfl, by decide +kernel, by decide +kernel, by decide +kernel, fun _ => rfl, fun _ => rfl⟩
theorem pr_RX9_8_11 : PFR RX9 8 11 := ⟨(RX9, TX9, 30), .array .int, rfl, by decide +kernel, by decide +kernel, by decide +kernel, fun _ => rfl, fun _ => rfl⟩
theorem pr_RX9_8_12 : PFR RX9 8 12 := ⟨(RX9, TX9, 30), .array .int, rfl, by decide +kernel, by decide +kernel, by decide +kernel, fun _ => rfl, fun _ => rfl⟩
theorem pr_RX9_8_13 : PFR RX9 8 13 := ⟨(RX9, TX9, 30), .array .int, rfl, by decide +kernel, by decide +kernel, by decide +kernel, fun _ => rfl, fun _ => rfl⟩
theorem pr_RX9_8_15 : PFR RX9 8 15 := ⟨(RX9, TX9, 30), .array .int, rfl, by decide +kernel, by decide +kernel, by decide +kernel, fun _ => rfl, fun _ => rfl⟩
theorem pr_RX9_8_16 : PFR RX9 8 16 := ⟨(RX9, TX9, 30), .array .int, rfl, by decide +kernel, by decide +kernel, by decide +kernel, fun _ => rfl, fun _ => rfl⟩
theorem pr_RX9_8_17 : PFR RX9 8 17 := ⟨(RX9, TX9, 30), .array .boolean, rfl, by decide +kernel, by decide +kernel, by decide +kernel, fun _ => rfl, fun _ => rfl⟩
theorem pr_RX9_8_18 : PFR RX9 8 18 := ⟨(RX9, TX9, 30), .array .int, rfl, by decide +kernel, by decide +kernel, by decide +kernel, fun _ => rfl, fun _ => rfl⟩
theorem pr_RX9_8_19 : PFR RX9 8 19 := ⟨(RX9, TX9, 30), .array .int, rfl, by decide +kernel, by decide +kernel, by decide +kernel, fun _ => rfl, fun _ => rfl⟩
theorem pr_RX9_8_20 : PFR RX9 8 20 := ⟨(RX9, TX9, 30), .array .int, rfl, by decide +kernel, by decide +kernel, by decide +kernel, fun _ => rfl, fun _ => rfl⟩
theorem pr_RX9_8_21 : PFR RX9 8 21 := ⟨(RX9, TX9, 30), .array .boolean, rfl, by decide +kernel, by decide +kernel, by decide +kernel, fun _ => rfl, fun _ => rfl⟩
theorem pr_RX9_8_26 : PFR RX9 8 26 := ⟨(RX9, TX9, 30), .array .int, rfl, by decide +kernel, by decide +kernel, by decide +kernel, fun _ => rfl, fun _ => rfl⟩
theorem pr_RX9_8_27 : PFR RX9 8 27 := ⟨(RX9, TX9, 30), .array .int, rfl, by decide +kernel, by decide +kernel, by decide +kernel, fun _ => rfl, fun _ => rfl⟩
theorem pr_RX9_8_28 : PFR RX9 8 28 := ⟨(RX9, TX9, 30), .array .int, rfl, by decide +kernel, by decide +kernel, by decide +kernel, fun _ => rfl, fun _ => rfl⟩
theorem pr_RX9_8_29 : PFR RX9 8 29 := ⟨(RX9, TX9, 30), .array .int, rfl, by decide +kernel, by decide +kernel, by decide +kernel, fun _ => rfl, fun _ => rfl⟩
def ctB_m (mem : Mem) : Mem := (mset (mset (mset (mset (mset mem 1 0 0 1) 1 0 1 1) 1 0 2 0) 1 0 3 1) 1 0 4 0)
theorem ctB_ok {E : En} {d : Nat} {mem : Mem} {Q : Mem → Prop} (hQ : Q (ctB_m mem)) : CallK E (d + 1) mX0_init [pR 1 0] 2 28 mem Q := by
  refine CallK.of [some (pR 1 0)] mk_X0_init rfl (Nat.le_of_ble_eq_true rfl) ?_
  refine c_aload_n (q := 1) rfl dX0_init_0 rfl ?_
  refine c_obj (q := 4) k_59 k_52 k_53 (by show 1 ≤ d + _; omega) (by show 12 ≤ 64 * (d + _); omega) dX0_init_1 rfl ?_
  refine c_aload_n (q := 5) rfl dX0_init_4 rfl ?_
  refine c_bipush (q := 7) 24 (by decide) dX0_init_5 rfl ?_
  refine c_bipush (q := 9) 7 (by decide) dX0_init_7 rfl ?_
  refine c_mna (k := 2) (q := 13) (g := 2) (t := 3) (n := 24) (w := 7) rfl rfl (by decide +kernel) (by decide +kernel) k_60 k_86 (Nat.le_of_ble_eq_true rfl) (Nat.le_of_ble_eq_true rfl) (by show SLn 2 - SLn 2 + (24 + 24 * 7) ≤ SLn 28 - SLn 2; rw [sl_2, sl_28]; omega) (by show SLn 2 - SLn 2 + 24 + 24 * 7 ≤ SLn 27 - SLn 2; rw [sl_2, sl_27]; omega) dX0_init_9 rfl ?_
  refine c_putR (k := 27) (q := 16) (i := 1) f_RX0_11_0 pr_RX0_0_0 rfl rfl rfl (by decide) (by decide +kernel) (Nat.le_of_ble_eq_true rfl) (Nat.le_of_ble_eq_true rfl) dX0_init_13 rfl ?_
  refine c_aload_n (q := 17) rfl dX0_init_16 rfl ?_
  refine c_bipush (q := 19) 24 (by decide) dX0_init_17 rfl ?_
  refine c_newa (k := 27) (q := 21) (g := 4) (n := 24) (z := false) .int rfl k_86 rfl (by decide +kernel) (by decide) (Nat.le_of_ble_eq_true rfl) (Nat.le_of_ble_eq_true rfl) (by show SLn 27 - SLn 2 + 24 ≤ SLn 28 - SLn 2; rw [sl_2, sl_27, sl_28]; omega) (by show SLn 27 - SLn 2 + 24 ≤ SLn 28 - SLn 2; rw [sl_2, sl_27, sl_28]; omega) dX0_init_19 rfl ?_
  refine c_putR (k := 28) (q := 24) (i := 1) f_RX0_16_0 pr_RX0_0_1 rfl rfl rfl (by decide) (by decide +kernel) (Nat.le_of_ble_eq_true rfl) (Nat.le_of_ble_eq_true rfl) dX0_init_21 rfl ?_
  refine c_aload_n (q := 25) rfl dX0_init_24 rfl ?_
  refine c_iconst (q := 26) 0 (by decide) dX0_init_25 rfl ?_
  refine c_putI (k := 28) (q := 29) (i := 1) f_RX0_20_0 pf_0_2 rfl rfl (by decide) (by decide +kernel) (Nat.le_of_ble_eq_true rfl) (Nat.le_of_ble_eq_true rfl) dX0_init_26 rfl ?_
  refine c_aload_n (q := 30) rfl dX0_init_29 rfl ?_
  refine c_iconst (q := 31) 1 (by decide) dX0_init_30 rfl ?_
  refine c_putI (k := 28) (q := 34) (i := 1) f_RX0_24_0 pf_0_3 rfl rfl (by decide) (by decide +kernel) (Nat.le_of_ble_eq_true rfl) (Nat.le_of_ble_eq_true rfl) dX0_init_31 rfl ?_
  refine c_aload_n (q := 35) rfl dX0_init_34 rfl ?_
  refine c_iconst (q := 36) 0 (by decide) dX0_init_35 rfl ?_
  refine c_putI (k := 28) (q := 39) (i := 1) f_RX0_27_0 pf_0_4 rfl rfl (by decide) (by decide +kernel) (Nat.le_of_ble_eq_true rfl) (Nat.le_of_ble_eq_true rfl) dX0_init_36 rfl ?_
  exact c_ret rfl dX0_init_39 hQ
def ctL_m (mem : Mem) : Mem := (mrow (mset (mset (mset mem 5 0 0 1) 5 0 1 1) 5 0 2 1) 7 0 (fun i => if i < 10 then 1000 else (mset (mset (mset mem 5 0 0 1) 5 0 1 1) 5 0 2 1) 7 0 i))
theorem ctL_ok {E : En} {d : Nat} {mem : Mem} {Q : Mem → Prop} (hQ : Q (ctL_m mem)) : CallK E (d + 1) mX2_init [pR 5 0] 29 32 mem Q := by
  refine CallK.of [some (pR 5 0)] mk_X2_init rfl (Nat.le_of_ble_eq_true rfl) ?_
  refine c_aload_n (q := 1) rfl dX2_init_0 rfl ?_
  refine c_obj (q := 4) k_92 k_52 k_53 (by show 1 ≤ d + _; omega) (by show 12 ≤ 64 * (d + _); omega) dX2_init_1 rfl ?_
  refine c_aload_n (q := 5) rfl dX2_init_4 rfl ?_
  refine c_bipush (q := 7) 10 (by decide) dX2_init_5 rfl ?_
  refine c_newa (k := 29) (q := 9) (g := 6) (n := 10) (z := false) .int rfl k_86 rfl (by decide +kernel) (by decide) (Nat.le_of_ble_eq_true rfl) (Nat.le_of_ble_eq_true rfl) (by show SLn 29 - SLn 29 + 10 ≤ SLn 32 - SLn 29; rw [sl_29, sl_32]; omega) (by show SLn 29 - SLn 29 + 10 ≤ SLn 30 - SLn 29; rw [sl_29, sl_30]; omega) dX2_init_7 rfl ?_
  refine c_putR (k := 30) (q := 12) (i := 28) f_RX2_9_2 pr_RX2_2_0 rfl rfl rfl (by decide) (by decide +kernel) (Nat.le_of_ble_eq_true rfl) (Nat.le_of_ble_eq_true rfl) dX2_init_9 rfl ?_
  refine c_aload_n (q := 13) rfl dX2_init_12 rfl ?_
  refine c_bipush (q := 15) 10 (by decide) dX2_init_13 rfl ?_
  refine c_newa (k := 30) (q := 17) (g := 7) (n := 10) (z := false) .int rfl k_86 rfl (by decide +kernel) (by decide) (Nat.le_of_ble_eq_true rfl) (Nat.le_of_ble_eq_true rfl) (by show SLn 30 - SLn 29 + 10 ≤ SLn 32 - SLn 29; rw [sl_29, sl_30, sl_32]; omega) (by show SLn 30 - SLn 29 + 10 ≤ SLn 31 - SLn 29; rw [sl_29, sl_30, sl_31]; omega) dX2_init_15 rfl ?_
  refine c_putR (k := 31) (q := 20) (i := 28) f_RX2_15_2 pr_RX2_2_1 rfl rfl rfl (by decide) (by decide +kernel) (Nat.le_of_ble_eq_true rfl) (Nat.le_of_ble_eq_true rfl) dX2_init_17 rfl ?_
  refine c_aload_n (q := 21) rfl dX2_init_20 rfl ?_
  refine c_iconst (q := 22) 4 (by decide) dX2_init_21 rfl ?_
  refine c_newa (k := 31) (q := 24) (g := 8) (n := 4) (z := false) .int rfl k_86 rfl (by decide +kernel) (by decide) (Nat.le_of_ble_eq_true rfl) (Nat.le_of_ble_eq_true rfl) (by show SLn 31 - SLn 29 + 4 ≤ SLn 32 - SLn 29; rw [sl_29, sl_31, sl_32]; omega) (by show SLn 31 - SLn 29 + 4 ≤ SLn 32 - SLn 29; rw [sl_29, sl_31, sl_32]; omega) dX2_init_22 rfl ?_
  refine c_putR (k := 32) (q := 27) (i := 28) f_RX2_18_2 pr_RX2_2_2 rfl rfl rfl (by decide) (by decide +kernel) (Nat.le_of_ble_eq_true rfl) (Nat.le_of_ble_eq_true rfl) dX2_init_24 rfl ?_
  refine c_aload_n (q := 28) rfl dX2_init_27 rfl ?_
  refine c_getR (k := 32) (q := 31) (i := 28) f_RX2_15_2 rfl rfl rfl (by decide) (by decide +kernel) dX2_init_28 rfl ?_
  refine c_sipush (q := 34) 1000 (by decide) dX2_init_31 rfl ?_
  refine c_callS (k := 32) (k1 := 32) (d := d + 0) (q := 37) (As := [pR 7 0, pI 1000]) (st := []) mk_J7_fill_53178 rfl k_94 k_93 rfl (by decide) ⟨Nat.le_refl _, by show 64 * (d + 0) + 64 ≤ 64 * (d + 1); omega, (Nat.le_of_ble_eq_true rfl), (Nat.le_of_ble_eq_true rfl), (Nat.le_of_ble_eq_true rfl), (by show SLn 32 - SLn 29 + (SLn 32 - SLn 32) ≤ SLn 32 - SLn 29; rw [sl_29, sl_32]; omega), (by show SLn 32 - SLn 29 + (SLn 32 - SLn 32) ≤ SLn 32 - SLn 29; rw [sl_29, sl_32]; omega)⟩ dX2_init_34 rfl (fill_okK (i := 30) rfl (by decide) (by decide +kernel) (by decide) ?_)
  exact c_ret rfl dX2_init_37 hQ
def ctU_m (mem : Mem) : Mem := (mset (mset (mset (mset (mset mem 9 0 0 1) 9 0 1 1) 9 0 2 1) 9 0 3 1) 9 0 4 0)
theorem ctU_ok {E : En} {d : Nat} {mem : Mem} {Q : Mem → Prop} (hQ : Q (ctU_m mem)) : CallK E (d + 1) mX5_init [pR 9 0] 33 70 mem Q := by
  refine CallK.of [some (pR 9 0)] mk_X5_init rfl (Nat.le_of_ble_eq_true rfl) ?_
  refine c_aload_n (q := 1) rfl dX5_init_0 rfl ?_
  refine c_obj (q := 4) k_114 k_52 k_53 (by show 1 ≤ d + _; omega) (by show 12 ≤ 64 * (d + _); omega) dX5_init_1 rfl ?_
  refine c_aload_n (q := 5) rfl dX5_init_4 rfl ?_
  refine c_bipush (q := 7) 16 (by decide) dX5_init_5 rfl ?_
  refine c_newa (k := 33) (q := 9) (g := 10) (n := 16) (z := false) .int rfl k_86 rfl (by decide +kernel) (by decide) (Nat.le_of_ble_eq_true rfl) (Nat.le_of_ble_eq_true rfl) (by show SLn 33 - SLn 33 + 16 ≤ SLn 70 - SLn 33; rw [sl_33, sl_70]; omega) (by show SLn 33 - SLn 33 + 16 ≤ SLn 34 - SLn 33; rw [sl_33, sl_34]; omega) dX5_init_7 rfl ?_
  refine c_putR (k := 34) (q := 12) (i := 32) f_RX5_9_4 pr_RX5_4_0 rfl rfl rfl (by decide) (by decide +kernel) (Nat.le_of_ble_eq_true rfl) (Nat.le_of_ble_eq_true rfl) dX5_init_9 rfl ?_
  refine c_aload_n (q := 13) rfl dX5_init_12 rfl ?_
  refine c_bipush (q := 15) 16 (by decide) dX5_init_13 rfl ?_
  refine c_newa (k := 34) (q := 17) (g := 11) (n := 16) (z := false) .int rfl k_86 rfl (by decide +kernel) (by decide) (Nat.le_of_ble_eq_true rfl) (Nat.le_of_ble_eq_true rfl) (by show SLn 34 - SLn 33 + 16 ≤ SLn 70 - SLn 33; rw [sl_33, sl_34, sl_70]; omega) (by show SLn 34 - SLn 33 + 16 ≤ SLn 35 - SLn 33; rw [sl_33, sl_34, sl_35]; omega) dX5_init_15 rfl ?_
  refine c_putR (k := 35) (q := 20) (i := 32) f_RX5_15_4 pr_RX5_4_1 rfl rfl rfl (by decide) (by decide +kernel) (Nat.le_of_ble_eq_true rfl) (Nat.le_of_ble_eq_true rfl) dX5_init_17 rfl ?_
  refine c_aload_n (q := 21) rfl dX5_init_20 rfl ?_
  refine c_bipush (q := 23) 16 (by decide) dX5_init_21 rfl ?_
  refine c_bipush (q := 25) 10 (by decide) dX5_init_23 rfl ?_
  refine c_mna (k := 35) (q := 29) (g := 12) (t := 13) (n := 16) (w := 10) rfl rfl (by decide +kernel) (by decide +kernel) k_115 k_86 (Nat.le_of_ble_eq_true rfl) (Nat.le_of_ble_eq_true rfl) (by show SLn 35 - SLn 33 + (16 + 16 * 10) ≤ SLn 70 - SLn 33; rw [sl_33, sl_35, sl_70]; omega) (by show SLn 35 - SLn 33 + 16 + 16 * 10 ≤ SLn 52 - SLn 33; rw [sl_33, sl_35, sl_52]; omega) dX5_init_25 rfl ?_
  refine c_putR (k := 52) (q := 32) (i := 32) f_RX5_20_4 pr_RX5_4_2 rfl rfl rfl (by decide) (by decide +kernel) (Nat.le_of_ble_eq_true rfl) (Nat.le_of_ble_eq_true rfl) dX5_init_29 rfl ?_
  refine c_aload_n (q := 33) rfl dX5_init_32 rfl ?_
  refine c_bipush (q := 35) 17 (by decide) dX5_init_33 rfl ?_
  refine c_bipush (q := 37) 10 (by decide) dX5_init_35 rfl ?_
  refine c_mna (k := 52) (q := 41) (g := 14) (t := 15) (n := 17) (w := 10) rfl rfl (by decide +kernel) (by decide +kernel) k_115 k_86 (Nat.le_of_ble_eq_true rfl) (Nat.le_of_ble_eq_true rfl) (by show SLn 52 - SLn 33 + (17 + 17 * 10) ≤ SLn 70 - SLn 33; rw [sl_33, sl_52, sl_70]; omega) (by show SLn 52 - SLn 33 + 17 + 17 * 10 ≤ SLn 70 - SLn 33; rw [sl_33, sl_52, sl_70]; omega) dX5_init_37 rfl ?_
  refine c_putR (k := 70) (q := 44) (i := 32) f_RX5_23_4 pr_RX5_4_3 rfl rfl rfl (by decide) (by decide +kernel) (Nat.le_of_ble_eq_true rfl) (Nat.le_of_ble_eq_true rfl) dX5_init_41 rfl ?_
  refine c_aload_n (q := 45) rfl dX5_init_44 rfl ?_
  refine c_iconst (q := 46) 0 (by decide) dX5_init_45 rfl ?_
  refine c_putI (k := 70) (q := 49) (i := 32) f_RX5_26_4 pf_4_4 rfl rfl (by decide) (by decide +kernel) (Nat.le_of_ble_eq_true rfl) (Nat.le_of_ble_eq_true rfl) dX5_init_46 rfl ?_
  exact c_ret rfl dX5_init_49 hQ
def ctS16_m (mem : Mem) : Mem := (mset (mset (mset (mset (mset mem 16 0 2 1) 16 0 3 0) 16 0 4 0) 16 0 0 1) 16 0 1 1)
theorem ctS16_ok {E : En} {d : Nat} {mem : Mem} {Q : Mem → Prop} (hQ : Q (ctS16_m mem)) : CallK E (d + 1) mX4_init [pR 16 0, pR 9 0, pR 5 0] 71 72 mem Q := by
  refine CallK.of [some (pR 16 0), some (pR 9 0), some (pR 5 0)] mk_X4_init rfl (Nat.le_of_ble_eq_true rfl) ?_
  refine c_aload_n (q := 1) rfl dX4_init_0 rfl ?_
  refine c_obj (q := 4) k_149 k_52 k_53 (by show 1 ≤ d + _; omega) (by show 12 ≤ 64 * (d + _); omega) dX4_init_1 rfl ?_
  refine c_aload_n (q := 5) rfl dX4_init_4 rfl ?_
  refine c_bipush (q := 7) 10 (by decide) dX4_init_5 rfl ?_
  refine c_newa (k := 71) (q := 9) (g := 17) (n := 10) (z := false) .int rfl k_86 rfl (by decide +kernel) (by decide) (Nat.le_of_ble_eq_true rfl) (Nat.le_of_ble_eq_true rfl) (by show SLn 71 - SLn 71 + 10 ≤ SLn 72 - SLn 71; rw [sl_71, sl_72]; omega) (by show SLn 71 - SLn 71 + 10 ≤ SLn 72 - SLn 71; rw [sl_71, sl_72]; omega) dX4_init_7 rfl ?_
  refine c_putR (k := 72) (q := 12) (i := 70) f_RX4_9_1 pr_RX4_1_2 rfl rfl rfl (by decide) (by decide +kernel) (Nat.le_of_ble_eq_true rfl) (Nat.le_of_ble_eq_true rfl) dX4_init_9 rfl ?_
  refine c_aload_n (q := 13) rfl dX4_init_12 rfl ?_
  refine c_iconst (q := 14) 0 (by decide) dX4_init_13 rfl ?_
  refine c_putI (k := 72) (q := 17) (i := 70) f_RX4_15_1 pf_1_3 rfl rfl (by decide) (by decide +kernel) (Nat.le_of_ble_eq_true rfl) (Nat.le_of_ble_eq_true rfl) dX4_init_14 rfl ?_
  refine c_aload_n (q := 18) rfl dX4_init_17 rfl ?_
  refine c_iconst (q := 19) 0 (by decide) dX4_init_18 rfl ?_
  refine c_putI (k := 72) (q := 22) (i := 70) f_RX4_19_1 pf_1_4 rfl rfl (by decide) (by decide +kernel) (Nat.le_of_ble_eq_true rfl) (Nat.le_of_ble_eq_true rfl) dX4_init_19 rfl ?_
  refine c_aload_n (q := 23) rfl dX4_init_22 rfl ?_
  refine c_aload_n (q := 24) rfl dX4_init_23 rfl ?_
  refine c_putR (k := 72) (q := 27) (i := 70) f_RX4_22_1 pr_RX4_1_0 rfl rfl rfl (by decide) (by decide +kernel) (Nat.le_of_ble_eq_true rfl) (Nat.le_of_ble_eq_true rfl) dX4_init_24 rfl ?_
  refine c_aload_n (q := 28) rfl dX4_init_27 rfl ?_
  refine c_aload_n (q := 29) rfl dX4_init_28 rfl ?_
  refine c_putR (k := 72) (q := 32) (i := 70) f_RX4_26_1 pr_RX4_1_1 rfl rfl rfl (by decide) (by decide +kernel) (Nat.le_of_ble_eq_true rfl) (Nat.le_of_ble_eq_true rfl) dX4_init_29 rfl ?_
  exact c_ret rfl dX4_init_32 hQ
def ct16_m (mem : Mem) : Mem := (mset (mset (mset (ctS16_m mem) 16 0 5 (-2)) 16 0 6 1000000) 16 0 7 0)
theorem ct16_ok {E : En} {d : Nat} {mem : Mem} {Q : Mem → Prop} (hQ : Q (ct16_m mem)) : CallK E (d + 2) mX1_init [pR 16 0, pR 9 0, pR 5 0] 71 72 mem Q := by
  refine CallK.of [some (pR 16 0), some (pR 9 0), some (pR 5 0)] mk_X1_init rfl (Nat.le_of_ble_eq_true rfl) ?_
  refine c_aload_n (q := 1) rfl dX1_init_0 rfl ?_
  refine c_aload_n (q := 2) rfl dX1_init_1 rfl ?_
  refine c_aload_n (q := 3) rfl dX1_init_2 rfl ?_
  refine c_call (k := 71) (k1 := 72) (d := d + 1) (q := 6) (g := 16) (As := [pR 9 0, pR 5 0]) (st := []) mk_X4_init rfl rfl k_147 k_146 rfl (by decide) ⟨Nat.le_refl _, by show 64 * (d + 1) + 64 ≤ 64 * (d + 2); omega, (Nat.le_of_ble_eq_true rfl), (Nat.le_of_ble_eq_true rfl), (Nat.le_of_ble_eq_true rfl), (by show SLn 71 - SLn 71 + (SLn 72 - SLn 71) ≤ SLn 72 - SLn 71; rw [sl_71, sl_72]; omega), (by show SLn 71 - SLn 71 + (SLn 72 - SLn 71) ≤ SLn 72 - SLn 71; rw [sl_71, sl_72]; omega)⟩ dX1_init_3 rfl (ctS16_ok (d := d + 0) ?_)
  refine c_aload_n (q := 7) rfl dX1_init_6 rfl ?_
  refine c_bipush (q := 9) (-2) (by decide) dX1_init_7 rfl ?_
  refine c_putI (k := 72) (q := 12) (i := 70) f_RX1_9_1 pf_1_5 rfl rfl (by decide) (by decide +kernel) (Nat.le_of_ble_eq_true rfl) (Nat.le_of_ble_eq_true rfl) dX1_init_9 rfl ?_
  refine c_aload_n (q := 13) rfl dX1_init_12 rfl ?_
  refine c_ldc (q := 15) k_150 dX1_init_13 rfl ?_
  refine c_putI (k := 72) (q := 18) (i := 70) f_RX1_16_1 pf_1_6 rfl rfl (by decide) (by decide +kernel) (Nat.le_of_ble_eq_true rfl) (Nat.le_of_ble_eq_true rfl) dX1_init_15 rfl ?_
  refine c_aload_n (q := 19) rfl dX1_init_18 rfl ?_
  refine c_iconst (q := 20) 0 (by decide) dX1_init_19 rfl ?_
  refine c_putI (k := 72) (q := 23) (i := 70) f_RX1_19_1 pf_1_7 rfl rfl (by decide) (by decide +kernel) (Nat.le_of_ble_eq_true rfl) (Nat.le_of_ble_eq_true rfl) dX1_init_20 rfl ?_
  exact c_ret rfl dX1_init_23 hQ
def ctS18_m (mem : Mem) : Mem := (mset (mset (mset (mset (mset mem 18 0 2 1) 18 0 3 0) 18 0 4 0) 18 0 0 1) 18 0 1 1)
theorem ctS18_ok {E : En} {d : Nat} {mem : Mem} {Q : Mem → Prop} (hQ : Q (ctS18_m mem)) : CallK E (d + 1) mX4_init [pR 18 0, pR 9 0, pR 5 0] 73 74 mem Q := by
  refine CallK.of [some (pR 18 0), some (pR 9 0), some (pR 5 0)] mk_X4_init rfl (Nat.le_of_ble_eq_true rfl) ?_
  refine c_aload_n (q := 1) rfl dX4_init_0 rfl ?_
  refine c_obj (q := 4) k_149 k_52 k_53 (by show 1 ≤ d + _; omega) (by show 12 ≤ 64 * (d + _); omega) dX4_init_1 rfl ?_
  refine c_aload_n (q := 5) rfl dX4_init_4 rfl ?_
  refine c_bipush (q := 7) 10 (by decide) dX4_init_5 rfl ?_
  refine c_newa (k := 73) (q := 9) (g := 19) (n := 10) (z := false) .int rfl k_86 rfl (by decide +kernel) (by decide) (Nat.le_of_ble_eq_true rfl) (Nat.le_of_ble_eq_true rfl) (by show SLn 73 - SLn 73 + 10 ≤ SLn 74 - SLn 73; rw [sl_73, sl_74]; omega) (by show SLn 73 - SLn 73 + 10 ≤ SLn 74 - SLn 73; rw [sl_73, sl_74]; omega) dX4_init_7 rfl ?_
  refine c_putR (k := 74) (q := 12) (i := 72) f_RX4_9_6 pr_RX4_6_2 rfl rfl rfl (by decide) (by decide +kernel) (Nat.le_of_ble_eq_true rfl) (Nat.le_of_ble_eq_true rfl) dX4_init_9 rfl ?_
  refine c_aload_n (q := 13) rfl dX4_init_12 rfl ?_
  refine c_iconst (q := 14) 0 (by decide) dX4_init_13 rfl ?_
  refine c_putI (k := 74) (q := 17) (i := 72) f_RX4_15_6 pf_6_3 rfl rfl (by decide) (by decide +kernel) (Nat.le_of_ble_eq_true rfl) (Nat.le_of_ble_eq_true rfl) dX4_init_14 rfl ?_
  refine c_aload_n (q := 18) rfl dX4_init_17 rfl ?_
  refine c_iconst (q := 19) 0 (by decide) dX4_init_18 rfl ?_
  refine c_putI (k := 74) (q := 22) (i := 72) f_RX4_19_6 pf_6_4 rfl rfl (by decide) (by decide +kernel) (Nat.le_of_ble_eq_true rfl) (Nat.le_of_ble_eq_true rfl) dX4_init_19 rfl ?_
  refine c_aload_n (q := 23) rfl dX4_init_22 rfl ?_
  refine c_aload_n (q := 24) rfl dX4_init_23 rfl ?_
  refine c_putR (k := 74) (q := 27) (i := 72) f_RX4_22_6 pr_RX4_6_0 rfl rfl rfl (by decide) (by decide +kernel) (Nat.le_of_ble_eq_true rfl) (Nat.le_of_ble_eq_true rfl) dX4_init_24 rfl ?_
  refine c_aload_n (q := 28) rfl dX4_init_27 rfl ?_
  refine c_aload_n (q := 29) rfl dX4_init_28 rfl ?_
  refine c_putR (k := 74) (q := 32) (i := 72) f_RX4_26_6 pr_RX4_6_1 rfl rfl rfl (by decide) (by decide +kernel) (Nat.le_of_ble_eq_true rfl) (Nat.le_of_ble_eq_true rfl) dX4_init_29 rfl ?_
  exact c_ret rfl dX4_init_32 hQ
def ct18_m (mem : Mem) : Mem := (mset (ctS18_m mem) 18 0 5 1)
theorem ct18_ok {E : En} {d : Nat} {mem : Mem} {Q : Mem → Prop} (hQ : Q (ct18_m mem)) : CallK E (d + 2) mX7_init [pR 18 0, pR 9 0, pR 5 0] 73 75 mem Q := by
  refine CallK.of [some (pR 18 0), some (pR 9 0), some (pR 5 0)] mk_X7_init rfl (Nat.le_of_ble_eq_true rfl) ?_
  refine c_aload_n (q := 1) rfl dX7_init_0 rfl ?_
  refine c_aload_n (q := 2) rfl dX7_init_1 rfl ?_
  refine c_aload_n (q := 3) rfl dX7_init_2 rfl ?_
  refine c_call (k := 73) (k1 := 74) (d := d + 1) (q := 6) (g := 18) (As := [pR 9 0, pR 5 0]) (st := []) mk_X4_init rfl rfl k_147 k_205 rfl (by decide) ⟨Nat.le_refl _, by show 64 * (d + 1) + 64 ≤ 64 * (d + 2); omega, (Nat.le_of_ble_eq_true rfl), (Nat.le_of_ble_eq_true rfl), (Nat.le_of_ble_eq_true rfl), (by show SLn 73 - SLn 73 + (SLn 74 - SLn 73) ≤ SLn 75 - SLn 73; rw [sl_74]; rw [sl_73, sl_75]; omega), (by show SLn 73 - SLn 73 + (SLn 74 - SLn 73) ≤ SLn 74 - SLn 73; rw [sl_73, sl_74]; omega)⟩ dX7_init_3 rfl (ctS18_ok (d := d + 0) ?_)
  refine c_aload_n (q := 7) rfl dX7_init_6 rfl ?_
  refine c_sipush (q := 10) 1024 (by decide) dX7_init_7 rfl ?_
  refine c_newa (k := 74) (q := 12) (g := 20) (n := 1024) (z := true) .boolean rfl k_215 rfl (by decide +kernel) (by decide) (Nat.le_of_ble_eq_true rfl) (Nat.le_of_ble_eq_true rfl) (by show SLn 74 - SLn 73 + 1024 ≤ SLn 75 - SLn 73; rw [sl_73, sl_74, sl_75]; omega) (by show SLn 74 - SLn 73 + 1024 ≤ SLn 75 - SLn 73; rw [sl_73, sl_74, sl_75]; omega) dX7_init_10 rfl ?_
  refine c_putR (k := 75) (q := 15) (i := 72) f_RX7_9_6 pr_RX7_6_5 rfl rfl rfl (by decide) (by decide +kernel) (Nat.le_of_ble_eq_true rfl) (Nat.le_of_ble_eq_true rfl) dX7_init_12 rfl ?_
  exact c_ret rfl dX7_init_15 hQ
def ctS21_m (mem : Mem) : Mem := (mset (mset (mset (mset (mset mem 21 0 2 1) 21 0 3 0) 21 0 4 0) 21 0 0 1) 21 0 1 1)
theorem ctS21_ok {E : En} {d : Nat} {mem : Mem} {Q : Mem → Prop} (hQ : Q (ctS21_m mem)) : CallK E (d + 1) mX4_init [pR 21 0, pR 9 0, pR 5 0] 76 77 mem Q := by
  refine CallK.of [some (pR 21 0), some (pR 9 0), some (pR 5 0)] mk_X4_init rfl (Nat.le_of_ble_eq_true rfl) ?_
  refine c_aload_n (q := 1) rfl dX4_init_0 rfl ?_
  refine c_obj (q := 4) k_149 k_52 k_53 (by show 1 ≤ d + _; omega) (by show 12 ≤ 64 * (d + _); omega) dX4_init_1 rfl ?_
  refine c_aload_n (q := 5) rfl dX4_init_4 rfl ?_
  refine c_bipush (q := 7) 10 (by decide) dX4_init_5 rfl ?_
  refine c_newa (k := 76) (q := 9) (g := 22) (n := 10) (z := false) .int rfl k_86 rfl (by decide +kernel) (by decide) (Nat.le_of_ble_eq_true rfl) (Nat.le_of_ble_eq_true rfl) (by show SLn 76 - SLn 76 + 10 ≤ SLn 77 - SLn 76; rw [sl_76, sl_77]; omega) (by show SLn 76 - SLn 76 + 10 ≤ SLn 77 - SLn 76; rw [sl_76, sl_77]; omega) dX4_init_7 rfl ?_
  refine c_putR (k := 77) (q := 12) (i := 75) f_RX4_9_5 pr_RX4_5_2 rfl rfl rfl (by decide) (by decide +kernel) (Nat.le_of_ble_eq_true rfl) (Nat.le_of_ble_eq_true rfl) dX4_init_9 rfl ?_
  refine c_aload_n (q := 13) rfl dX4_init_12 rfl ?_
  refine c_iconst (q := 14) 0 (by decide) dX4_init_13 rfl ?_
  refine c_putI (k := 77) (q := 17) (i := 75) f_RX4_15_5 pf_5_3 rfl rfl (by decide) (by decide +kernel) (Nat.le_of_ble_eq_true rfl) (Nat.le_of_ble_eq_true rfl) dX4_init_14 rfl ?_
  refine c_aload_n (q := 18) rfl dX4_init_17 rfl ?_
  refine c_iconst (q := 19) 0 (by decide) dX4_init_18 rfl ?_
  refine c_putI (k := 77) (q := 22) (i := 75) f_RX4_19_5 pf_5_4 rfl rfl (by decide) (by decide +kernel) (Nat.le_of_ble_eq_true rfl) (Nat.le_of_ble_eq_true rfl) dX4_init_19 rfl ?_
  refine c_aload_n (q := 23) rfl dX4_init_22 rfl ?_
  refine c_aload_n (q := 24) rfl dX4_init_23 rfl ?_
  refine c_putR (k := 77) (q := 27) (i := 75) f_RX4_22_5 pr_RX4_5_0 rfl rfl rfl (by decide) (by decide +kernel) (Nat.le_of_ble_eq_true rfl) (Nat.le_of_ble_eq_true rfl) dX4_init_24 rfl ?_
  refine c_aload_n (q := 28) rfl dX4_init_27 rfl ?_
  refine c_aload_n (q := 29) rfl dX4_init_28 rfl ?_
  refine c_putR (k := 77) (q := 32) (i := 75) f_RX4_26_5 pr_RX4_5_1 rfl rfl rfl (by decide) (by decide +kernel) (Nat.le_of_ble_eq_true rfl) (Nat.le_of_ble_eq_true rfl) dX4_init_29 rfl ?_
  exact c_ret rfl dX4_init_32 hQ
def ct21_m (mem : Mem) : Mem := (mset (mset (mset (mset (mset (mset (mset (mset (ctS21_m mem) 21 0 5 1) 21 0 6 1) 21 0 7 1) 21 0 8 1) 21 0 9 1000000) 21 0 10 0) 21 0 11 0) 21 0 12 0)
theorem ct21_ok {E : En} {d : Nat} {mem : Mem} {Q : Mem → Prop} (hQ : Q (ct21_m mem)) : CallK E (d + 2) mX6_init [pR 21 0, pR 9 0, pR 5 0] 76 81 mem Q := by
  refine CallK.of [some (pR 21 0), some (pR 9 0), some (pR 5 0)] mk_X6_init rfl (Nat.le_of_ble_eq_true rfl) ?_
  refine c_aload_n (q := 1) rfl dX6_init_0 rfl ?_
  refine c_aload_n (q := 2) rfl dX6_init_1 rfl ?_
  refine c_aload_n (q := 3) rfl dX6_init_2 rfl ?_
  refine c_call (k := 76) (k1 := 77) (d := d + 1) (q := 6) (g := 21) (As := [pR 9 0, pR 5 0]) (st := []) mk_X4_init rfl rfl k_147 k_221 rfl (by decide) ⟨Nat.le_refl _, by show 64 * (d + 1) + 64 ≤ 64 * (d + 2); omega, (Nat.le_of_ble_eq_true rfl), (Nat.le_of_ble_eq_true rfl), (Nat.le_of_ble_eq_true rfl), (by show SLn 76 - SLn 76 + (SLn 77 - SLn 76) ≤ SLn 81 - SLn 76; rw [sl_77]; rw [sl_76, sl_81]; omega), (by show SLn 76 - SLn 76 + (SLn 77 - SLn 76) ≤ SLn 77 - SLn 76; rw [sl_76, sl_77]; omega)⟩ dX6_init_3 rfl (ctS21_ok (d := d + 0) ?_)
  refine c_aload_n (q := 7) rfl dX6_init_6 rfl ?_
  refine c_sipush (q := 10) 1024 (by decide) dX6_init_7 rfl ?_
  refine c_newa (k := 77) (q := 12) (g := 23) (n := 1024) (z := false) .int rfl k_86 rfl (by decide +kernel) (by decide) (Nat.le_of_ble_eq_true rfl) (Nat.le_of_ble_eq_true rfl) (by show SLn 77 - SLn 76 + 1024 ≤ SLn 81 - SLn 76; rw [sl_76, sl_77, sl_81]; omega) (by show SLn 77 - SLn 76 + 1024 ≤ SLn 78 - SLn 76; rw [sl_76, sl_77, sl_78]; omega) dX6_init_10 rfl ?_
  refine c_putR (k := 78) (q := 15) (i := 75) f_RX6_9_5 pr_RX6_5_5 rfl rfl rfl (by decide) (by decide +kernel) (Nat.le_of_ble_eq_true rfl) (Nat.le_of_ble_eq_true rfl) dX6_init_12 rfl ?_
  refine c_aload_n (q := 16) rfl dX6_init_15 rfl ?_
  refine c_sipush (q := 19) 1024 (by decide) dX6_init_16 rfl ?_
  refine c_newa (k := 78) (q := 21) (g := 24) (n := 1024) (z := false) .int rfl k_86 rfl (by decide +kernel) (by decide) (Nat.le_of_ble_eq_true rfl) (Nat.le_of_ble_eq_true rfl) (by show SLn 78 - SLn 76 + 1024 ≤ SLn 81 - SLn 76; rw [sl_76, sl_78, sl_81]; omega) (by show SLn 78 - SLn 76 + 1024 ≤ SLn 79 - SLn 76; rw [sl_76, sl_78, sl_79]; omega) dX6_init_19 rfl ?_
  refine c_putR (k := 79) (q := 24) (i := 75) f_RX6_15_5 pr_RX6_5_6 rfl rfl rfl (by decide) (by decide +kernel) (Nat.le_of_ble_eq_true rfl) (Nat.le_of_ble_eq_true rfl) dX6_init_21 rfl ?_
  refine c_aload_n (q := 25) rfl dX6_init_24 rfl ?_
  refine c_sipush (q := 28) 1024 (by decide) dX6_init_25 rfl ?_
  refine c_newa (k := 79) (q := 30) (g := 25) (n := 1024) (z := false) .int rfl k_86 rfl (by decide +kernel) (by decide) (Nat.le_of_ble_eq_true rfl) (Nat.le_of_ble_eq_true rfl) (by show SLn 79 - SLn 76 + 1024 ≤ SLn 81 - SLn 76; rw [sl_76, sl_79, sl_81]; omega) (by show SLn 79 - SLn 76 + 1024 ≤ SLn 80 - SLn 76; rw [sl_76, sl_79, sl_80]; omega) dX6_init_28 rfl ?_
  refine c_putR (k := 80) (q := 33) (i := 75) f_RX6_18_5 pr_RX6_5_7 rfl rfl rfl (by decide) (by decide +kernel) (Nat.le_of_ble_eq_true rfl) (Nat.le_of_ble_eq_true rfl) dX6_init_30 rfl ?_
  refine c_aload_n (q := 34) rfl dX6_init_33 rfl ?_
  refine c_sipush (q := 37) 1024 (by decide) dX6_init_34 rfl ?_
  refine c_newa (k := 80) (q := 39) (g := 26) (n := 1024) (z := false) .int rfl k_86 rfl (by decide +kernel) (by decide) (Nat.le_of_ble_eq_true rfl) (Nat.le_of_ble_eq_true rfl) (by show SLn 80 - SLn 76 + 1024 ≤ SLn 81 - SLn 76; rw [sl_76, sl_80, sl_81]; omega) (by show SLn 80 - SLn 76 + 1024 ≤ SLn 81 - SLn 76; rw [sl_76, sl_80, sl_81]; omega) dX6_init_37 rfl ?_
  refine c_putR (k := 81) (q := 42) (i := 75) f_RX6_21_5 pr_RX6_5_8 rfl rfl rfl (by decide) (by decide +kernel) (Nat.le_of_ble_eq_true rfl) (Nat.le_of_ble_eq_true rfl) dX6_init_39 rfl ?_
  refine c_aload_n (q := 43) rfl dX6_init_42 rfl ?_
  refine c_ldc (q := 45) k_222 dX6_init_43 rfl ?_
  refine c_putI (k := 81) (q := 48) (i := 75) f_RX6_25_5 pf_5_9 rfl rfl (by decide) (by decide +kernel) (Nat.le_of_ble_eq_true rfl) (Nat.le_of_ble_eq_true rfl) dX6_init_45 rfl ?_
  refine c_aload_n (q := 49) rfl dX6_init_48 rfl ?_
  refine c_iconst (q := 50) 0 (by decide) dX6_init_49 rfl ?_
  refine c_putI (k := 81) (q := 53) (i := 75) f_RX6_29_5 pf_5_10 rfl rfl (by decide) (by decide +kernel) (Nat.le_of_ble_eq_true rfl) (Nat.le_of_ble_eq_true rfl) dX6_init_50 rfl ?_
  refine c_aload_n (q := 54) rfl dX6_init_53 rfl ?_
  refine c_iconst (q := 55) 0 (by decide) dX6_init_54 rfl ?_
  refine c_putI (k := 81) (q := 58) (i := 75) f_RX6_32_5 pf_5_11 rfl rfl (by decide) (by decide +kernel) (Nat.le_of_ble_eq_true rfl) (Nat.le_of_ble_eq_true rfl) dX6_init_55 rfl ?_
  refine c_aload_n (q := 59) rfl dX6_init_58 rfl ?_
  refine c_iconst (q := 60) 0 (by decide) dX6_init_59 rfl ?_
  refine c_putI (k := 81) (q := 63) (i := 75) f_RX6_35_5 pf_5_12 rfl rfl (by decide) (by decide +kernel) (Nat.le_of_ble_eq_true rfl) (Nat.le_of_ble_eq_true rfl) dX6_init_60 rfl ?_
  exact c_ret rfl dX6_init_63 hQ
def ctO_m (mem : Mem) : Mem := (mset (mset (mset (mset (mset (mset (mset (mset (mset (mset mem 27 0 0 1) 27 0 1 1) 27 0 2 1) 27 0 3 1) 27 0 4 1) 27 0 5 0) 27 0 6 1) 27 0 7 0) 27 0 8 0) 27 0 9 0)
theorem ctO_ok {E : En} {d : Nat} {mem : Mem} {Q : Mem → Prop} (hQ : Q (ctO_m mem)) : CallK E (d + 1) mX3_init [pR 27 0] 82 96 mem Q := by
  refine CallK.of [some (pR 27 0)] mk_X3_init rfl (Nat.le_of_ble_eq_true rfl) ?_
  refine c_aload_n (q := 1) rfl dX3_init_0 rfl ?_
  refine c_obj (q := 4) k_260 k_52 k_53 (by show 1 ≤ d + _; omega) (by show 12 ≤ 64 * (d + _); omega) dX3_init_1 rfl ?_
  refine c_aload_n (q := 5) rfl dX3_init_4 rfl ?_
  refine c_bipush (q := 7) 8 (by decide) dX3_init_5 rfl ?_
  refine c_newa (k := 82) (q := 9) (g := 28) (n := 8) (z := false) .int rfl k_86 rfl (by decide +kernel) (by decide) (Nat.le_of_ble_eq_true rfl) (Nat.le_of_ble_eq_true rfl) (by show SLn 82 - SLn 82 + 8 ≤ SLn 96 - SLn 82; rw [sl_82, sl_96]; omega) (by show SLn 82 - SLn 82 + 8 ≤ SLn 83 - SLn 82; rw [sl_82, sl_83]; omega) dX3_init_7 rfl ?_
  refine c_putR (k := 83) (q := 12) (i := 81) f_RX3_9_3 pr_RX3_3_0 rfl rfl rfl (by decide) (by decide +kernel) (Nat.le_of_ble_eq_true rfl) (Nat.le_of_ble_eq_true rfl) dX3_init_9 rfl ?_
  refine c_aload_n (q := 13) rfl dX3_init_12 rfl ?_
  refine c_bipush (q := 15) 8 (by decide) dX3_init_13 rfl ?_
  refine c_newa (k := 83) (q := 17) (g := 29) (n := 8) (z := false) .int rfl k_86 rfl (by decide +kernel) (by decide) (Nat.le_of_ble_eq_true rfl) (Nat.le_of_ble_eq_true rfl) (by show SLn 83 - SLn 82 + 8 ≤ SLn 96 - SLn 82; rw [sl_82, sl_83, sl_96]; omega) (by show SLn 83 - SLn 82 + 8 ≤ SLn 84 - SLn 82; rw [sl_82, sl_83, sl_84]; omega) dX3_init_15 rfl ?_
  refine c_putR (k := 84) (q := 20) (i := 81) f_RX3_15_3 pr_RX3_3_1 rfl rfl rfl (by decide) (by decide +kernel) (Nat.le_of_ble_eq_true rfl) (Nat.le_of_ble_eq_true rfl) dX3_init_17 rfl ?_
  refine c_aload_n (q := 21) rfl dX3_init_20 rfl ?_
  refine c_bipush (q := 23) 8 (by decide) dX3_init_21 rfl ?_
  refine c_newa (k := 84) (q := 25) (g := 30) (n := 8) (z := false) .int rfl k_86 rfl (by decide +kernel) (by decide) (Nat.le_of_ble_eq_true rfl) (Nat.le_of_ble_eq_true rfl) (by show SLn 84 - SLn 82 + 8 ≤ SLn 96 - SLn 82; rw [sl_82, sl_84, sl_96]; omega) (by show SLn 84 - SLn 82 + 8 ≤ SLn 85 - SLn 82; rw [sl_82, sl_84, sl_85]; omega) dX3_init_23 rfl ?_
  refine c_putR (k := 85) (q := 28) (i := 81) f_RX3_18_3 pr_RX3_3_2 rfl rfl rfl (by decide) (by decide +kernel) (Nat.le_of_ble_eq_true rfl) (Nat.le_of_ble_eq_true rfl) dX3_init_25 rfl ?_
  refine c_aload_n (q := 29) rfl dX3_init_28 rfl ?_
  refine c_bipush (q := 31) 8 (by decide) dX3_init_29 rfl ?_
  refine c_bipush (q := 33) 8 (by decide) dX3_init_31 rfl ?_
  refine c_mna (k := 85) (q := 37) (g := 31) (t := 32) (n := 8) (w := 8) rfl rfl (by decide +kernel) (by decide +kernel) k_261 k_86 (Nat.le_of_ble_eq_true rfl) (Nat.le_of_ble_eq_true rfl) (by show SLn 85 - SLn 82 + (8 + 8 * 8) ≤ SLn 96 - SLn 82; rw [sl_82, sl_85, sl_96]; omega) (by show SLn 85 - SLn 82 + 8 + 8 * 8 ≤ SLn 94 - SLn 82; rw [sl_82, sl_85, sl_94]; omega) dX3_init_33 rfl ?_
  refine c_putR (k := 94) (q := 40) (i := 81) f_RX3_23_3 pr_RX3_3_3 rfl rfl rfl (by decide) (by decide +kernel) (Nat.le_of_ble_eq_true rfl) (Nat.le_of_ble_eq_true rfl) dX3_init_37 rfl ?_
  refine c_aload_n (q := 41) rfl dX3_init_40 rfl ?_
  refine c_sipush (q := 44) 2048 (by decide) dX3_init_41 rfl ?_
  refine c_newa (k := 94) (q := 46) (g := 33) (n := 2048) (z := false) .int rfl k_86 rfl (by decide +kernel) (by decide) (Nat.le_of_ble_eq_true rfl) (Nat.le_of_ble_eq_true rfl) (by show SLn 94 - SLn 82 + 2048 ≤ SLn 96 - SLn 82; rw [sl_82, sl_94, sl_96]; omega) (by show SLn 94 - SLn 82 + 2048 ≤ SLn 95 - SLn 82; rw [sl_82, sl_94, sl_95]; omega) dX3_init_44 rfl ?_
  refine c_putR (k := 95) (q := 49) (i := 81) f_RX3_26_3 pr_RX3_3_4 rfl rfl rfl (by decide) (by decide +kernel) (Nat.le_of_ble_eq_true rfl) (Nat.le_of_ble_eq_true rfl) dX3_init_46 rfl ?_
  refine c_aload_n (q := 50) rfl dX3_init_49 rfl ?_
  refine c_iconst (q := 51) 0 (by decide) dX3_init_50 rfl ?_
  refine c_putI (k := 95) (q := 54) (i := 81) f_RX3_29_3 pf_3_5 rfl rfl (by decide) (by decide +kernel) (Nat.le_of_ble_eq_true rfl) (Nat.le_of_ble_eq_true rfl) dX3_init_51 rfl ?_
  refine c_aload_n (q := 55) rfl dX3_init_54 rfl ?_
  refine c_bipush (q := 57) 24 (by decide) dX3_init_55 rfl ?_
  refine c_newa (k := 95) (q := 59) (g := 34) (n := 24) (z := false) .int rfl k_86 rfl (by decide +kernel) (by decide) (Nat.le_of_ble_eq_true rfl) (Nat.le_of_ble_eq_true rfl) (by show SLn 95 - SLn 82 + 24 ≤ SLn 96 - SLn 82; rw [sl_82, sl_95, sl_96]; omega) (by show SLn 95 - SLn 82 + 24 ≤ SLn 96 - SLn 82; rw [sl_82, sl_95, sl_96]; omega) dX3_init_57 rfl ?_
  refine c_putR (k := 96) (q := 62) (i := 81) f_RX3_33_3 pr_RX3_3_6 rfl rfl rfl (by decide) (by decide +kernel) (Nat.le_of_ble_eq_true rfl) (Nat.le_of_ble_eq_true rfl) dX3_init_59 rfl ?_
  refine c_aload_n (q := 63) rfl dX3_init_62 rfl ?_
  refine c_iconst (q := 64) 0 (by decide) dX3_init_63 rfl ?_
  refine c_putI (k := 96) (q := 67) (i := 81) f_RX3_36_3 pf_3_7 rfl rfl (by decide) (by decide +kernel) (Nat.le_of_ble_eq_true rfl) (Nat.le_of_ble_eq_true rfl) dX3_init_64 rfl ?_
  refine c_aload_n (q := 68) rfl dX3_init_67 rfl ?_
  refine c_iconst (q := 69) 0 (by decide) dX3_init_68 rfl ?_
  refine c_putI (k := 96) (q := 72) (i := 81) f_RX3_39_3 pf_3_8 rfl rfl (by decide) (by decide +kernel) (Nat.le_of_ble_eq_true rfl) (Nat.le_of_ble_eq_true rfl) dX3_init_69 rfl ?_
  refine c_aload_n (q := 73) rfl dX3_init_72 rfl ?_
  refine c_iconst (q := 74) 0 (by decide) dX3_init_73 rfl ?_
  refine c_putI (k := 96) (q := 77) (i := 81) f_RX3_42_3 pf_3_9 rfl rfl (by decide) (by decide +kernel) (Nat.le_of_ble_eq_true rfl) (Nat.le_of_ble_eq_true rfl) dX3_init_74 rfl ?_
  exact c_ret rfl dX3_init_77 hQ
def ctP_m (mem : Mem) : Mem := (mset (mset (mset (ctO_m (mset (ct21_m (mset (ct18_m (mset (ct16_m (mset (ctU_m (mset (ctL_m (mset (ctB_m mem) 0 0 0 1)) 0 0 1 1)) 0 0 2 1)) 0 0 3 1)) 0 0 4 1)) 0 0 5 1)) 0 0 6 1) 0 0 7 1) 0 0 8 0)
theorem ctP_ok {E : En} {d : Nat} {mem : Mem} {Q : Mem → Prop} (hQ : Q (ctP_m mem)) : CallK E (d + 3) mX8_init [pR 0 0] 1 97 mem Q := by
  refine CallK.of [some (pR 0 0)] mk_X8_init rfl (Nat.le_of_ble_eq_true rfl) ?_
  refine c_aload_n (q := 1) rfl dX8_init_0 rfl ?_
  refine c_obj (q := 4) k_51 k_52 k_53 (by show 1 ≤ d + _; omega) (by show 12 ≤ 64 * (d + _); omega) dX8_init_1 rfl ?_
  refine c_aload_n (q := 5) rfl dX8_init_4 rfl ?_
  refine c_new (k := 1) (q := 8) (C := RX0) (T := TX0) (N := 5) (g := 1) tyX0 tyX0_ok rfl rfl (by decide +kernel) k_54 k_55 k_34 bn_0 (Nat.le_of_ble_eq_true rfl) (Nat.le_of_ble_eq_true rfl) (by show SLn 1 - SLn 1 + 5 ≤ SLn 97 - SLn 1; rw [sl_1, sl_97]; omega) (by show SLn 1 - SLn 1 + 5 ≤ SLn 2 - SLn 1; rw [sl_1, sl_2]; omega) dX8_init_5 rfl ?_
  refine c_dup (q := 9) dX8_init_8 rfl ?_
  refine c_callN (k := 2) (k1 := 28) (d := d + 2) (q := 12) (g := 1) (As := []) (st := [pR 1 0, pR 0 0]) mk_X0_init rfl rfl k_57 (by decide +kernel) rfl (by decide) ⟨Nat.le_refl _, by show 64 * (d + 2) + 64 ≤ 64 * (d + 3); omega, (Nat.le_of_ble_eq_true rfl), (Nat.le_of_ble_eq_true rfl), (Nat.le_of_ble_eq_true rfl), (by show SLn 2 - SLn 1 + (SLn 28 - SLn 2) ≤ SLn 97 - SLn 1; rw [sl_28]; rw [sl_1, sl_2, sl_97]; omega), (by show SLn 2 - SLn 1 + (SLn 28 - SLn 2) ≤ SLn 28 - SLn 1; rw [sl_1, sl_2, sl_28]; omega)⟩ dX8_init_9 rfl (ctB_ok (d := d + 1) ?_)
  refine c_putR (k := 28) (q := 15) (i := 0) f_RX8_12_7 pr_RX8_7_0 rfl rfl rfl (by decide) (by decide +kernel) (Nat.le_of_ble_eq_true rfl) (Nat.le_of_ble_eq_true rfl) dX8_init_12 rfl ?_
  refine c_aload_n (q := 16) rfl dX8_init_15 rfl ?_
  refine c_new (k := 28) (q := 19) (C := RX2) (T := TX2) (N := 3) (g := 5) tyX2 tyX2_ok rfl rfl (by decide +kernel) k_87 k_88 k_35 bn_2 (Nat.le_of_ble_eq_true rfl) (Nat.le_of_ble_eq_true rfl) (by show SLn 28 - SLn 1 + 3 ≤ SLn 97 - SLn 1; rw [sl_1, sl_28, sl_97]; omega) (by show SLn 28 - SLn 1 + 3 ≤ SLn 29 - SLn 1; rw [sl_1, sl_28, sl_29]; omega) dX8_init_16 rfl ?_
  refine c_dup (q := 20) dX8_init_19 rfl ?_
  refine c_call (k := 29) (k1 := 32) (d := d + 2) (q := 23) (g := 5) (As := []) (st := [pR 5 0, pR 0 0]) mk_X2_init rfl rfl k_90 k_89 rfl (by decide) ⟨Nat.le_refl _, by show 64 * (d + 2) + 64 ≤ 64 * (d + 3); omega, (Nat.le_of_ble_eq_true rfl), (Nat.le_of_ble_eq_true rfl), (Nat.le_of_ble_eq_true rfl), (by show SLn 29 - SLn 1 + (SLn 32 - SLn 29) ≤ SLn 97 - SLn 1; rw [sl_32]; rw [sl_1, sl_29, sl_97]; omega), (by show SLn 29 - SLn 1 + (SLn 32 - SLn 29) ≤ SLn 32 - SLn 1; rw [sl_1, sl_29, sl_32]; omega)⟩ dX8_init_20 rfl (ctL_ok (d := d + 1) ?_)
  refine c_putR (k := 32) (q := 26) (i := 0) f_RX8_19_7 pr_RX8_7_1 rfl rfl rfl (by decide) (by decide +kernel) (Nat.le_of_ble_eq_true rfl) (Nat.le_of_ble_eq_true rfl) dX8_init_23 rfl ?_
  refine c_aload_n (q := 27) rfl dX8_init_26 rfl ?_
  refine c_new (k := 32) (q := 30) (C := RX5) (T := TX5) (N := 5) (g := 9) tyX5 tyX5_ok rfl rfl (by decide +kernel) k_109 k_110 k_37 bn_4 (Nat.le_of_ble_eq_true rfl) (Nat.le_of_ble_eq_true rfl) (by show SLn 32 - SLn 1 + 5 ≤ SLn 97 - SLn 1; rw [sl_1, sl_32, sl_97]; omega) (by show SLn 32 - SLn 1 + 5 ≤ SLn 33 - SLn 1; rw [sl_1, sl_32, sl_33]; omega) dX8_init_27 rfl ?_
  refine c_dup (q := 31) dX8_init_30 rfl ?_
  refine c_callN (k := 33) (k1 := 70) (d := d + 2) (q := 34) (g := 9) (As := []) (st := [pR 9 0, pR 0 0]) mk_X5_init rfl rfl k_112 (by decide +kernel) rfl (by decide) ⟨Nat.le_refl _, by show 64 * (d + 2) + 64 ≤ 64 * (d + 3); omega, (Nat.le_of_ble_eq_true rfl), (Nat.le_of_ble_eq_true rfl), (Nat.le_of_ble_eq_true rfl), (by show SLn 33 - SLn 1 + (SLn 70 - SLn 33) ≤ SLn 97 - SLn 1; rw [sl_70]; rw [sl_1, sl_33, sl_97]; omega), (by show SLn 33 - SLn 1 + (SLn 70 - SLn 33) ≤ SLn 70 - SLn 1; rw [sl_1, sl_33, sl_70]; omega)⟩ dX8_init_31 rfl (ctU_ok (d := d + 1) ?_)
  refine c_putR (k := 70) (q := 37) (i := 0) f_RX8_26_7 pr_RX8_7_2 rfl rfl rfl (by decide) (by decide +kernel) (Nat.le_of_ble_eq_true rfl) (Nat.le_of_ble_eq_true rfl) dX8_init_34 rfl ?_
  refine c_aload_n (q := 38) rfl dX8_init_37 rfl ?_
  refine c_new (k := 70) (q := 41) (C := RX1) (T := TX1) (N := 8) (g := 16) tyX1 tyX1_ok rfl rfl (by decide +kernel) k_141 k_142 k_39 bn_1 (Nat.le_of_ble_eq_true rfl) (Nat.le_of_ble_eq_true rfl) (by show SLn 70 - SLn 1 + 8 ≤ SLn 97 - SLn 1; rw [sl_1, sl_70, sl_97]; omega) (by show SLn 70 - SLn 1 + 8 ≤ SLn 71 - SLn 1; rw [sl_1, sl_70, sl_71]; omega) dX8_init_38 rfl ?_
  refine c_dup (q := 42) dX8_init_41 rfl ?_
  refine c_aload_n (q := 43) rfl dX8_init_42 rfl ?_
  refine c_getR (k := 71) (q := 46) (i := 0) f_RX8_26_7 rfl rfl rfl (by decide) (by decide +kernel) dX8_init_43 rfl ?_
  refine c_aload_n (q := 47) rfl dX8_init_46 rfl ?_
  refine c_getR (k := 71) (q := 50) (i := 0) f_RX8_19_7 rfl rfl rfl (by decide) (by decide +kernel) dX8_init_47 rfl ?_
  refine c_call (k := 71) (k1 := 72) (d := d + 2) (q := 53) (g := 16) (As := [pR 9 0, pR 5 0]) (st := [pR 16 0, pR 0 0]) mk_X1_init rfl rfl k_144 k_143 rfl (by decide) ⟨Nat.le_refl _, by show 64 * (d + 2) + 64 ≤ 64 * (d + 3); omega, (Nat.le_of_ble_eq_true rfl), (Nat.le_of_ble_eq_true rfl), (Nat.le_of_ble_eq_true rfl), (by show SLn 71 - SLn 1 + (SLn 72 - SLn 71) ≤ SLn 97 - SLn 1; rw [sl_72]; rw [sl_1, sl_71, sl_97]; omega), (by show SLn 71 - SLn 1 + (SLn 72 - SLn 71) ≤ SLn 72 - SLn 1; rw [sl_1, sl_71, sl_72]; omega)⟩ dX8_init_50 rfl (ct16_ok (d := d + 0) ?_)
  refine c_putR (k := 72) (q := 56) (i := 0) f_RX8_35_7 pr_RX8_7_3 rfl rfl rfl (by decide) (by decide +kernel) (Nat.le_of_ble_eq_true rfl) (Nat.le_of_ble_eq_true rfl) dX8_init_53 rfl ?_
  refine c_aload_n (q := 57) rfl dX8_init_56 rfl ?_
  refine c_new (k := 72) (q := 60) (C := RX7) (T := TX7) (N := 6) (g := 18) tyX7 tyX7_ok rfl rfl (by decide +kernel) k_200 k_201 k_40 bn_6 (Nat.le_of_ble_eq_true rfl) (Nat.le_of_ble_eq_true rfl) (by show SLn 72 - SLn 1 + 6 ≤ SLn 97 - SLn 1; rw [sl_1, sl_72, sl_97]; omega) (by show SLn 72 - SLn 1 + 6 ≤ SLn 73 - SLn 1; rw [sl_1, sl_72, sl_73]; omega) dX8_init_57 rfl ?_
  refine c_dup (q := 61) dX8_init_60 rfl ?_
  refine c_aload_n (q := 62) rfl dX8_init_61 rfl ?_
  refine c_getR (k := 73) (q := 65) (i := 0) f_RX8_26_7 rfl rfl rfl (by decide) (by decide +kernel) dX8_init_62 rfl ?_
  refine c_aload_n (q := 66) rfl dX8_init_65 rfl ?_
  refine c_getR (k := 73) (q := 69) (i := 0) f_RX8_19_7 rfl rfl rfl (by decide) (by decide +kernel) dX8_init_66 rfl ?_
  refine c_call (k := 73) (k1 := 75) (d := d + 2) (q := 72) (g := 18) (As := [pR 9 0, pR 5 0]) (st := [pR 18 0, pR 0 0]) mk_X7_init rfl rfl k_203 k_202 rfl (by decide) ⟨Nat.le_refl _, by show 64 * (d + 2) + 64 ≤ 64 * (d + 3); omega, (Nat.le_of_ble_eq_true rfl), (Nat.le_of_ble_eq_true rfl), (Nat.le_of_ble_eq_true rfl), (by show SLn 73 - SLn 1 + (SLn 75 - SLn 73) ≤ SLn 97 - SLn 1; rw [sl_75]; rw [sl_1, sl_73, sl_97]; omega), (by show SLn 73 - SLn 1 + (SLn 75 - SLn 73) ≤ SLn 75 - SLn 1; rw [sl_1, sl_73, sl_75]; omega)⟩ dX8_init_69 rfl (ct18_ok (d := d + 0) ?_)
  refine c_putR (k := 75) (q := 75) (i := 0) f_RX8_42_7 pr_RX8_7_4 rfl rfl rfl (by decide) (by decide +kernel) (Nat.le_of_ble_eq_true rfl) (Nat.le_of_ble_eq_true rfl) dX8_init_72 rfl ?_
  refine c_aload_n (q := 76) rfl dX8_init_75 rfl ?_
  refine c_new (k := 75) (q := 79) (C := RX6) (T := TX6) (N := 13) (g := 21) tyX6 tyX6_ok rfl rfl (by decide +kernel) k_216 k_217 k_41 bn_5 (Nat.le_of_ble_eq_true rfl) (Nat.le_of_ble_eq_true rfl) (by show SLn 75 - SLn 1 + 13 ≤ SLn 97 - SLn 1; rw [sl_1, sl_75, sl_97]; omega) (by show SLn 75 - SLn 1 + 13 ≤ SLn 76 - SLn 1; rw [sl_1, sl_75, sl_76]; omega) dX8_init_76 rfl ?_
  refine c_dup (q := 80) dX8_init_79 rfl ?_
  refine c_aload_n (q := 81) rfl dX8_init_80 rfl ?_
  refine c_getR (k := 76) (q := 84) (i := 0) f_RX8_26_7 rfl rfl rfl (by decide) (by decide +kernel) dX8_init_81 rfl ?_
  refine c_aload_n (q := 85) rfl dX8_init_84 rfl ?_
  refine c_getR (k := 76) (q := 88) (i := 0) f_RX8_19_7 rfl rfl rfl (by decide) (by decide +kernel) dX8_init_85 rfl ?_
  refine c_call (k := 76) (k1 := 81) (d := d + 2) (q := 91) (g := 21) (As := [pR 9 0, pR 5 0]) (st := [pR 21 0, pR 0 0]) mk_X6_init rfl rfl k_219 k_218 rfl (by decide) ⟨Nat.le_refl _, by show 64 * (d + 2) + 64 ≤ 64 * (d + 3); omega, (Nat.le_of_ble_eq_true rfl), (Nat.le_of_ble_eq_true rfl), (Nat.le_of_ble_eq_true rfl), (by show SLn 76 - SLn 1 + (SLn 81 - SLn 76) ≤ SLn 97 - SLn 1; rw [sl_81]; rw [sl_1, sl_76, sl_97]; omega), (by show SLn 76 - SLn 1 + (SLn 81 - SLn 76) ≤ SLn 81 - SLn 1; rw [sl_1, sl_76, sl_81]; omega)⟩ dX8_init_88 rfl (ct21_ok (d := d + 0) ?_)
  refine c_putR (k := 81) (q := 94) (i := 0) f_RX8_49_7 pr_RX8_7_5 rfl rfl rfl (by decide) (by decide +kernel) (Nat.le_of_ble_eq_true rfl) (Nat.le_of_ble_eq_true rfl) dX8_init_91 rfl ?_
  refine c_aload_n (q := 95) rfl dX8_init_94 rfl ?_
  refine c_new (k := 81) (q := 98) (C := RX3) (T := TX3) (N := 10) (g := 27) tyX3 tyX3_ok rfl rfl (by decide +kernel) k_255 k_256 k_42 bn_3 (Nat.le_of_ble_eq_true rfl) (Nat.le_of_ble_eq_true rfl) (by show SLn 81 - SLn 1 + 10 ≤ SLn 97 - SLn 1; rw [sl_1, sl_81, sl_97]; omega) (by show SLn 81 - SLn 1 + 10 ≤ SLn 82 - SLn 1; rw [sl_1, sl_81, sl_82]; omega) dX8_init_95 rfl ?_
  refine c_dup (q := 99) dX8_init_98 rfl ?_
  refine c_callN (k := 82) (k1 := 96) (d := d + 2) (q := 102) (g := 27) (As := []) (st := [pR 27 0, pR 0 0]) mk_X3_init rfl rfl k_258 (by decide +kernel) rfl (by decide) ⟨Nat.le_refl _, by show 64 * (d + 2) + 64 ≤ 64 * (d + 3); omega, (Nat.le_of_ble_eq_true rfl), (Nat.le_of_ble_eq_true rfl), (Nat.le_of_ble_eq_true rfl), (by show SLn 82 - SLn 1 + (SLn 96 - SLn 82) ≤ SLn 97 - SLn 1; rw [sl_96]; rw [sl_1, sl_82, sl_97]; omega), (by show SLn 82 - SLn 1 + (SLn 96 - SLn 82) ≤ SLn 96 - SLn 1; rw [sl_1, sl_82, sl_96]; omega)⟩ dX8_init_99 rfl (ctO_ok (d := d + 1) ?_)
  refine c_putR (k := 96) (q := 105) (i := 0) f_RX8_56_7 pr_RX8_7_6 rfl rfl rfl (by decide) (by decide +kernel) (Nat.le_of_ble_eq_true rfl) (Nat.le_of_ble_eq_true rfl) dX8_init_102 rfl ?_
  refine c_aload_n (q := 106) rfl dX8_init_105 rfl ?_
  refine c_bipush (q := 108) 10 (by decide) dX8_init_106 rfl ?_
  refine c_newa (k := 96) (q := 110) (g := 35) (n := 10) (z := false) .int rfl k_86 rfl (by decide +kernel) (by decide) (Nat.le_of_ble_eq_true rfl) (Nat.le_of_ble_eq_true rfl) (by show SLn 96 - SLn 1 + 10 ≤ SLn 97 - SLn 1; rw [sl_1, sl_96, sl_97]; omega) (by show SLn 96 - SLn 1 + 10 ≤ SLn 97 - SLn 1; rw [sl_1, sl_96, sl_97]; omega) dX8_init_108 rfl ?_
  refine c_putR (k := 97) (q := 113) (i := 0) f_RX8_60_7 pr_RX8_7_7 rfl rfl rfl (by decide) (by decide +kernel) (Nat.le_of_ble_eq_true rfl) (Nat.le_of_ble_eq_true rfl) dX8_init_110 rfl ?_
  refine c_aload_n (q := 114) rfl dX8_init_113 rfl ?_
  refine c_iconst (q := 115) 0 (by decide) dX8_init_114 rfl ?_
  refine c_putI (k := 97) (q := 118) (i := 0) f_RX8_64_7 pf_7_8 rfl rfl (by decide) (by decide +kernel) (Nat.le_of_ble_eq_true rfl) (Nat.le_of_ble_eq_true rfl) dX8_init_115 rfl ?_
  exact c_ret rfl dX8_init_118 hQ
def ctM0_m (mem : Mem) : Mem := (mset (mset (mset (mset (mset (mset (mset (mset (mset (mset (mset (mset (mset (mset (mset (mset (mset (mset (mset (mset (mset (mset (mset mem 36 0 1 1) 36 0 3 1) 36 0 4 1) 36 0 5 1) 36 0 6 1) 36 0 7 1) 36 0 8 1) 36 0 9 1) 36 0 10 1) 36 0 11 1) 36 0 12 1) 36 0 13 1) 36 0 15 1) 36 0 16 1) 36 0 17 1) 36 0 18 1) 36 0 19 1) 36 0 20 1) 36 0 21 1) 36 0 26 1) 36 0 27 1) 36 0 28 1) 36 0 29 1)
def ctM_m (mem : Mem) : Mem := mrow (ctM0_m mem) 46 0 (fun i => if i < 10 then 1000 else ctM0_m mem 46 0 i)
theorem ctM_ok {E : En} {d : Nat} {mem : Mem} {Q : Mem → Prop} (hQ : Q (ctM_m mem)) : CallK E (d + 1) mX9_init [pR 36 0] 98 120 mem Q := by
  refine CallK.of [some (pR 36 0), none] mk_X9_init rfl (Nat.le_of_ble_eq_true rfl) ?_
  refine c_aload_n (q := 1) rfl dX9_init_0 rfl ?_
  refine c_obj (q := 4) k_633 k_52 k_53 (by show 1 ≤ d + _; omega) (by show 12 ≤ 64 * (d + _); omega) dX9_init_1 rfl ?_
  refine c_aload_n (q := 5) rfl dX9_init_4 rfl ?_
  refine c_iconst (q := 6) 1 (by decide) dX9_init_5 rfl ?_
  refine c_putI (k := 98) (q := 9) (i := 97) f_RX9_7_8 pf_8_1 rfl rfl (by decide) (by decide +kernel) (Nat.le_of_ble_eq_true rfl) (Nat.le_of_ble_eq_true rfl) dX9_init_6 rfl ?_
  refine c_aload_n (q := 10) rfl dX9_init_9 rfl ?_
  refine c_bipush (q := 12) 24 (by decide) dX9_init_10 rfl ?_
  refine c_newa (k := 98) (q := 14) (g := 37) (n := 24) (z := false) .int rfl k_86 rfl (by decide +kernel) (by decide) (Nat.le_of_ble_eq_true rfl) (Nat.le_of_ble_eq_true rfl) (by show SLn 98 - SLn 98 + 24 ≤ SLn 120 - SLn 98; rw [sl_98, sl_120]; omega) (by show SLn 98 - SLn 98 + 24 ≤ SLn 99 - SLn 98; rw [sl_98, sl_99]; omega) dX9_init_12 rfl ?_
  refine c_putR (k := 99) (q := 17) (i := 97) f_RX9_13_8 pr_RX9_8_3 rfl rfl rfl (by decide) (by decide +kernel) (Nat.le_of_ble_eq_true rfl) (Nat.le_of_ble_eq_true rfl) dX9_init_14 rfl ?_
  refine c_aload_n (q := 18) rfl dX9_init_17 rfl ?_
  refine c_bipush (q := 20) 24 (by decide) dX9_init_18 rfl ?_
  refine c_newa (k := 99) (q := 22) (g := 38) (n := 24) (z := false) .int rfl k_86 rfl (by decide +kernel) (by decide) (Nat.le_of_ble_eq_true rfl) (Nat.le_of_ble_eq_true rfl) (by show SLn 99 - SLn 98 + 24 ≤ SLn 120 - SLn 98; rw [sl_98, sl_99, sl_120]; omega) (by show SLn 99 - SLn 98 + 24 ≤ SLn 100 - SLn 98; rw [sl_98, sl_99, sl_100]; omega) dX9_init_20 rfl ?_
  refine c_putR (k := 100) (q := 25) (i := 97) f_RX9_17_8 pr_RX9_8_4 rfl rfl rfl (by decide) (by decide +kernel) (Nat.le_of_ble_eq_true rfl) (Nat.le_of_ble_eq_true rfl) dX9_init_22 rfl ?_
  refine c_aload_n (q := 26) rfl dX9_init_25 rfl ?_
  refine c_bipush (q := 28) 24 (by decide) dX9_init_26 rfl ?_
  refine c_newa (k := 100) (q := 30) (g := 39) (n := 24) (z := false) .int rfl k_86 rfl (by decide +kernel) (by decide) (Nat.le_of_ble_eq_true rfl) (Nat.le_of_ble_eq_true rfl) (by show SLn 100 - SLn 98 + 24 ≤ SLn 120 - SLn 98; rw [sl_98, sl_100, sl_120]; omega) (by show SLn 100 - SLn 98 + 24 ≤ SLn 101 - SLn 98; rw [sl_98, sl_100, sl_101]; omega) dX9_init_28 rfl ?_
  refine c_putR (k := 101) (q := 33) (i := 97) f_RX9_20_8 pr_RX9_8_5 rfl rfl rfl (by decide) (by decide +kernel) (Nat.le_of_ble_eq_true rfl) (Nat.le_of_ble_eq_true rfl) dX9_init_30 rfl ?_
  refine c_aload_n (q := 34) rfl dX9_init_33 rfl ?_
  refine c_bipush (q := 36) 24 (by decide) dX9_init_34 rfl ?_
  refine c_newa (k := 101) (q := 38) (g := 40) (n := 24) (z := false) .int rfl k_86 rfl (by decide +kernel) (by decide) (Nat.le_of_ble_eq_true rfl) (Nat.le_of_ble_eq_true rfl) (by show SLn 101 - SLn 98 + 24 ≤ SLn 120 - SLn 98; rw [sl_98, sl_101, sl_120]; omega) (by show SLn 101 - SLn 98 + 24 ≤ SLn 102 - SLn 98; rw [sl_98, sl_101, sl_102]; omega) dX9_init_36 rfl ?_
  refine c_putR (k := 102) (q := 41) (i := 97) f_RX9_23_8 pr_RX9_8_6 rfl rfl rfl (by decide) (by decide +kernel) (Nat.le_of_ble_eq_true rfl) (Nat.le_of_ble_eq_true rfl) dX9_init_38 rfl ?_
  refine c_aload_n (q := 42) rfl dX9_init_41 rfl ?_
  refine c_bipush (q := 44) 24 (by decide) dX9_init_42 rfl ?_
  refine c_newa (k := 102) (q := 46) (g := 41) (n := 24) (z := false) .int rfl k_86 rfl (by decide +kernel) (by decide) (Nat.le_of_ble_eq_true rfl) (Nat.le_of_ble_eq_true rfl) (by show SLn 102 - SLn 98 + 24 ≤ SLn 120 - SLn 98; rw [sl_98, sl_102, sl_120]; omega) (by show SLn 102 - SLn 98 + 24 ≤ SLn 103 - SLn 98; rw [sl_98, sl_102, sl_103]; omega) dX9_init_44 rfl ?_
  refine c_putR (k := 103) (q := 49) (i := 97) f_RX9_26_8 pr_RX9_8_7 rfl rfl rfl (by decide) (by decide +kernel) (Nat.le_of_ble_eq_true rfl) (Nat.le_of_ble_eq_true rfl) dX9_init_46 rfl ?_
  refine c_aload_n (q := 50) rfl dX9_init_49 rfl ?_
  refine c_bipush (q := 52) 24 (by decide) dX9_init_50 rfl ?_
  refine c_newa (k := 103) (q := 54) (g := 42) (n := 24) (z := false) .int rfl k_86 rfl (by decide +kernel) (by decide) (Nat.le_of_ble_eq_true rfl) (Nat.le_of_ble_eq_true rfl) (by show SLn 103 - SLn 98 + 24 ≤ SLn 120 - SLn 98; rw [sl_98, sl_103, sl_120]; omega) (by show SLn 103 - SLn 98 + 24 ≤ SLn 104 - SLn 98; rw [sl_98, sl_103, sl_104]; omega) dX9_init_52 rfl ?_
  refine c_putR (k := 104) (q := 57) (i := 97) f_RX9_29_8 pr_RX9_8_8 rfl rfl rfl (by decide) (by decide +kernel) (Nat.le_of_ble_eq_true rfl) (Nat.le_of_ble_eq_true rfl) dX9_init_54 rfl ?_
  refine c_aload_n (q := 58) rfl dX9_init_57 rfl ?_
  refine c_bipush (q := 60) 24 (by decide) dX9_init_58 rfl ?_
  refine c_newa (k := 104) (q := 62) (g := 43) (n := 24) (z := false) .int rfl k_86 rfl (by decide +kernel) (by decide) (Nat.le_of_ble_eq_true rfl) (Nat.le_of_ble_eq_true rfl) (by show SLn 104 - SLn 98 + 24 ≤ SLn 120 - SLn 98; rw [sl_98, sl_104, sl_120]; omega) (by show SLn 104 - SLn 98 + 24 ≤ SLn 105 - SLn 98; rw [sl_98, sl_104, sl_105]; omega) dX9_init_60 rfl ?_
  refine c_putR (k := 105) (q := 65) (i := 97) f_RX9_32_8 pr_RX9_8_9 rfl rfl rfl (by decide) (by decide +kernel) (Nat.le_of_ble_eq_true rfl) (Nat.le_of_ble_eq_true rfl) dX9_init_62 rfl ?_
  refine c_aload_n (q := 66) rfl dX9_init_65 rfl ?_
  refine c_bipush (q := 68) 24 (by decide) dX9_init_66 rfl ?_
  refine c_newa (k := 105) (q := 70) (g := 44) (n := 24) (z := false) .int rfl k_86 rfl (by decide +kernel) (by decide) (Nat.le_of_ble_eq_true rfl) (Nat.le_of_ble_eq_true rfl) (by show SLn 105 - SLn 98 + 24 ≤ SLn 120 - SLn 98; rw [sl_98, sl_105, sl_120]; omega) (by show SLn 105 - SLn 98 + 24 ≤ SLn 106 - SLn 98; rw [sl_98, sl_105, sl_106]; omega) dX9_init_68 rfl ?_
  refine c_putR (k := 106) (q := 73) (i := 97) f_RX9_35_8 pr_RX9_8_10 rfl rfl rfl (by decide) (by decide +kernel) (Nat.le_of_ble_eq_true rfl) (Nat.le_of_ble_eq_true rfl) dX9_init_70 rfl ?_
  refine c_aload_n (q := 74) rfl dX9_init_73 rfl ?_
  refine c_bipush (q := 76) 10 (by decide) dX9_init_74 rfl ?_
  refine c_newa (k := 106) (q := 78) (g := 45) (n := 10) (z := false) .int rfl k_86 rfl (by decide +kernel) (by decide) (Nat.le_of_ble_eq_true rfl) (Nat.le_of_ble_eq_true rfl) (by show SLn 106 - SLn 98 + 10 ≤ SLn 120 - SLn 98; rw [sl_98, sl_106, sl_120]; omega) (by show SLn 106 - SLn 98 + 10 ≤ SLn 107 - SLn 98; rw [sl_98, sl_106, sl_107]; omega) dX9_init_76 rfl ?_
  refine c_putR (k := 107) (q := 81) (i := 97) f_RX9_38_8 pr_RX9_8_11 rfl rfl rfl (by decide) (by decide +kernel) (Nat.le_of_ble_eq_true rfl) (Nat.le_of_ble_eq_true rfl) dX9_init_78 rfl ?_
  refine c_aload_n (q := 82) rfl dX9_init_81 rfl ?_
  refine c_bipush (q := 84) 10 (by decide) dX9_init_82 rfl ?_
  refine c_newa (k := 107) (q := 86) (g := 46) (n := 10) (z := false) .int rfl k_86 rfl (by decide +kernel) (by decide) (Nat.le_of_ble_eq_true rfl) (Nat.le_of_ble_eq_true rfl) (by show SLn 107 - SLn 98 + 10 ≤ SLn 120 - SLn 98; rw [sl_98, sl_107, sl_120]; omega) (by show SLn 107 - SLn 98 + 10 ≤ SLn 108 - SLn 98; rw [sl_98, sl_107, sl_108]; omega) dX9_init_84 rfl ?_
  refine c_putR (k := 108) (q := 89) (i := 97) f_RX9_41_8 pr_RX9_8_12 rfl rfl rfl (by decide) (by decide +kernel) (Nat.le_of_ble_eq_true rfl) (Nat.le_of_ble_eq_true rfl) dX9_init_86 rfl ?_
  refine c_aload_n (q := 90) rfl dX9_init_89 rfl ?_
  refine c_iconst (q := 91) 4 (by decide) dX9_init_90 rfl ?_
  refine c_newa (k := 108) (q := 93) (g := 47) (n := 4) (z := false) .int rfl k_86 rfl (by decide +kernel) (by decide) (Nat.le_of_ble_eq_true rfl) (Nat.le_of_ble_eq_true rfl) (by show SLn 108 - SLn 98 + 4 ≤ SLn 120 - SLn 98; rw [sl_98, sl_108, sl_120]; omega) (by show SLn 108 - SLn 98 + 4 ≤ SLn 109 - SLn 98; rw [sl_98, sl_108, sl_109]; omega) dX9_init_91 rfl ?_
  refine c_putR (k := 109) (q := 96) (i := 97) f_RX9_44_8 pr_RX9_8_13 rfl rfl rfl (by decide) (by decide +kernel) (Nat.le_of_ble_eq_true rfl) (Nat.le_of_ble_eq_true rfl) dX9_init_93 rfl ?_
  refine c_aload_n (q := 97) rfl dX9_init_96 rfl ?_
  refine c_bipush (q := 99) 16 (by decide) dX9_init_97 rfl ?_
  refine c_newa (k := 109) (q := 101) (g := 48) (n := 16) (z := false) .int rfl k_86 rfl (by decide +kernel) (by decide) (Nat.le_of_ble_eq_true rfl) (Nat.le_of_ble_eq_true rfl) (by show SLn 109 - SLn 98 + 16 ≤ SLn 120 - SLn 98; rw [sl_98, sl_109, sl_120]; omega) (by show SLn 109 - SLn 98 + 16 ≤ SLn 110 - SLn 98; rw [sl_98, sl_109, sl_110]; omega) dX9_init_99 rfl ?_
  refine c_putR (k := 110) (q := 104) (i := 97) f_RX9_47_8 pr_RX9_8_15 rfl rfl rfl (by decide) (by decide +kernel) (Nat.le_of_ble_eq_true rfl) (Nat.le_of_ble_eq_true rfl) dX9_init_101 rfl ?_
  refine c_aload_n (q := 105) rfl dX9_init_104 rfl ?_
  refine c_ldc (q := 107) k_634 dX9_init_105 rfl ?_
  refine c_newa (k := 110) (q := 109) (g := 49) (n := 655360) (z := false) .int rfl k_86 rfl (by decide +kernel) (by decide) (Nat.le_of_ble_eq_true rfl) (Nat.le_of_ble_eq_true rfl) (by show SLn 110 - SLn 98 + 655360 ≤ SLn 120 - SLn 98; rw [sl_98, sl_110, sl_120]; omega) (by show SLn 110 - SLn 98 + 655360 ≤ SLn 111 - SLn 98; rw [sl_98, sl_110, sl_111]; omega) dX9_init_107 rfl ?_
  refine c_putR (k := 111) (q := 112) (i := 97) f_RX9_51_8 pr_RX9_8_16 rfl rfl rfl (by decide) (by decide +kernel) (Nat.le_of_ble_eq_true rfl) (Nat.le_of_ble_eq_true rfl) dX9_init_109 rfl ?_
  refine c_aload_n (q := 113) rfl dX9_init_112 rfl ?_
  refine c_ldc (q := 115) k_635 dX9_init_113 rfl ?_
  refine c_newa (k := 111) (q := 117) (g := 50) (n := 65536) (z := true) .boolean rfl k_215 rfl (by decide +kernel) (by decide) (Nat.le_of_ble_eq_true rfl) (Nat.le_of_ble_eq_true rfl) (by show SLn 111 - SLn 98 + 65536 ≤ SLn 120 - SLn 98; rw [sl_98, sl_111, sl_120]; omega) (by show SLn 111 - SLn 98 + 65536 ≤ SLn 112 - SLn 98; rw [sl_98, sl_111, sl_112]; omega) dX9_init_115 rfl ?_
  refine c_putR (k := 112) (q := 120) (i := 97) f_RX9_55_8 pr_RX9_8_17 rfl rfl rfl (by decide) (by decide +kernel) (Nat.le_of_ble_eq_true rfl) (Nat.le_of_ble_eq_true rfl) dX9_init_117 rfl ?_
  refine c_aload_n (q := 121) rfl dX9_init_120 rfl ?_
  refine c_ldc (q := 123) k_635 dX9_init_121 rfl ?_
  refine c_newa (k := 112) (q := 125) (g := 51) (n := 65536) (z := false) .int rfl k_86 rfl (by decide +kernel) (by decide) (Nat.le_of_ble_eq_true rfl) (Nat.le_of_ble_eq_true rfl) (by show SLn 112 - SLn 98 + 65536 ≤ SLn 120 - SLn 98; rw [sl_98, sl_112, sl_120]; omega) (by show SLn 112 - SLn 98 + 65536 ≤ SLn 113 - SLn 98; rw [sl_98, sl_112, sl_113]; omega) dX9_init_123 rfl ?_
  refine c_putR (k := 113) (q := 128) (i := 97) f_RX9_59_8 pr_RX9_8_18 rfl rfl rfl (by decide) (by decide +kernel) (Nat.le_of_ble_eq_true rfl) (Nat.le_of_ble_eq_true rfl) dX9_init_125 rfl ?_
  refine c_aload_n (q := 129) rfl dX9_init_128 rfl ?_
  refine c_bipush (q := 131) 16 (by decide) dX9_init_129 rfl ?_
  refine c_newa (k := 113) (q := 133) (g := 52) (n := 16) (z := false) .int rfl k_86 rfl (by decide +kernel) (by decide) (Nat.le_of_ble_eq_true rfl) (Nat.le_of_ble_eq_true rfl) (by show SLn 113 - SLn 98 + 16 ≤ SLn 120 - SLn 98; rw [sl_98, sl_113, sl_120]; omega) (by show SLn 113 - SLn 98 + 16 ≤ SLn 114 - SLn 98; rw [sl_98, sl_113, sl_114]; omega) dX9_init_131 rfl ?_
  refine c_putR (k := 114) (q := 136) (i := 97) f_RX9_62_8 pr_RX9_8_19 rfl rfl rfl (by decide) (by decide +kernel) (Nat.le_of_ble_eq_true rfl) (Nat.le_of_ble_eq_true rfl) dX9_init_133 rfl ?_
  refine c_aload_n (q := 137) rfl dX9_init_136 rfl ?_
  refine c_bipush (q := 139) 16 (by decide) dX9_init_137 rfl ?_
  refine c_newa (k := 114) (q := 141) (g := 53) (n := 16) (z := false) .int rfl k_86 rfl (by decide +kernel) (by decide) (Nat.le_of_ble_eq_true rfl) (Nat.le_of_ble_eq_true rfl) (by show SLn 114 - SLn 98 + 16 ≤ SLn 120 - SLn 98; rw [sl_98, sl_114, sl_120]; omega) (by show SLn 114 - SLn 98 + 16 ≤ SLn 115 - SLn 98; rw [sl_98, sl_114, sl_115]; omega) dX9_init_139 rfl ?_
  refine c_putR (k := 115) (q := 144) (i := 97) f_RX9_65_8 pr_RX9_8_20 rfl rfl rfl (by decide) (by decide +kernel) (Nat.le_of_ble_eq_true rfl) (Nat.le_of_ble_eq_true rfl) dX9_init_141 rfl ?_
  refine c_aload_n (q := 145) rfl dX9_init_144 rfl ?_
  refine c_sipush (q := 148) 1024 (by decide) dX9_init_145 rfl ?_
  refine c_newa (k := 115) (q := 150) (g := 54) (n := 1024) (z := true) .boolean rfl k_215 rfl (by decide +kernel) (by decide) (Nat.le_of_ble_eq_true rfl) (Nat.le_of_ble_eq_true rfl) (by show SLn 115 - SLn 98 + 1024 ≤ SLn 120 - SLn 98; rw [sl_98, sl_115, sl_120]; omega) (by show SLn 115 - SLn 98 + 1024 ≤ SLn 116 - SLn 98; rw [sl_98, sl_115, sl_116]; omega) dX9_init_148 rfl ?_
  refine c_putR (k := 116) (q := 153) (i := 97) f_RX9_68_8 pr_RX9_8_21 rfl rfl rfl (by decide) (by decide +kernel) (Nat.le_of_ble_eq_true rfl) (Nat.le_of_ble_eq_true rfl) dX9_init_150 rfl ?_
  refine c_aload_n (q := 154) rfl dX9_init_153 rfl ?_
  refine c_bipush (q := 156) 24 (by decide) dX9_init_154 rfl ?_
  refine c_newa (k := 116) (q := 158) (g := 55) (n := 24) (z := false) .int rfl k_86 rfl (by decide +kernel) (by decide) (Nat.le_of_ble_eq_true rfl) (Nat.le_of_ble_eq_true rfl) (by show SLn 116 - SLn 98 + 24 ≤ SLn 120 - SLn 98; rw [sl_98, sl_116, sl_120]; omega) (by show SLn 116 - SLn 98 + 24 ≤ SLn 117 - SLn 98; rw [sl_98, sl_116, sl_117]; omega) dX9_init_156 rfl ?_
  refine c_putR (k := 117) (q := 161) (i := 97) f_RX9_71_8 pr_RX9_8_26 rfl rfl rfl (by decide) (by decide +kernel) (Nat.le_of_ble_eq_true rfl) (Nat.le_of_ble_eq_true rfl) dX9_init_158 rfl ?_
  refine c_aload_n (q := 162) rfl dX9_init_161 rfl ?_
  refine c_bipush (q := 164) 8 (by decide) dX9_init_162 rfl ?_
  refine c_newa (k := 117) (q := 166) (g := 56) (n := 8) (z := false) .int rfl k_86 rfl (by decide +kernel) (by decide) (Nat.le_of_ble_eq_true rfl) (Nat.le_of_ble_eq_true rfl) (by show SLn 117 - SLn 98 + 8 ≤ SLn 120 - SLn 98; rw [sl_98, sl_117, sl_120]; omega) (by show SLn 117 - SLn 98 + 8 ≤ SLn 118 - SLn 98; rw [sl_98, sl_117, sl_118]; omega) dX9_init_164 rfl ?_
  refine c_putR (k := 118) (q := 169) (i := 97) f_RX9_74_8 pr_RX9_8_27 rfl rfl rfl (by decide) (by decide +kernel) (Nat.le_of_ble_eq_true rfl) (Nat.le_of_ble_eq_true rfl) dX9_init_166 rfl ?_
  refine c_aload_n (q := 170) rfl dX9_init_169 rfl ?_
  refine c_bipush (q := 172) 24 (by decide) dX9_init_170 rfl ?_
  refine c_newa (k := 118) (q := 174) (g := 57) (n := 24) (z := false) .int rfl k_86 rfl (by decide +kernel) (by decide) (Nat.le_of_ble_eq_true rfl) (Nat.le_of_ble_eq_true rfl) (by show SLn 118 - SLn 98 + 24 ≤ SLn 120 - SLn 98; rw [sl_98, sl_118, sl_120]; omega) (by show SLn 118 - SLn 98 + 24 ≤ SLn 119 - SLn 98; rw [sl_98, sl_118, sl_119]; omega) dX9_init_172 rfl ?_
  refine c_putR (k := 119) (q := 177) (i := 97) f_RX9_77_8 pr_RX9_8_28 rfl rfl rfl (by decide) (by decide +kernel) (Nat.le_of_ble_eq_true rfl) (Nat.le_of_ble_eq_true rfl) dX9_init_174 rfl ?_
  refine c_aload_n (q := 178) rfl dX9_init_177 rfl ?_
  refine c_bipush (q := 180) 24 (by decide) dX9_init_178 rfl ?_
  refine c_newa (k := 119) (q := 182) (g := 58) (n := 24) (z := false) .int rfl k_86 rfl (by decide +kernel) (by decide) (Nat.le_of_ble_eq_true rfl) (Nat.le_of_ble_eq_true rfl) (by show SLn 119 - SLn 98 + 24 ≤ SLn 120 - SLn 98; rw [sl_98, sl_119, sl_120]; omega) (by show SLn 119 - SLn 98 + 24 ≤ SLn 120 - SLn 98; rw [sl_98, sl_119, sl_120]; omega) dX9_init_180 rfl ?_
  refine c_putR (k := 120) (q := 185) (i := 97) f_RX9_80_8 pr_RX9_8_29 rfl rfl rfl (by decide) (by decide +kernel) (Nat.le_of_ble_eq_true rfl) (Nat.le_of_ble_eq_true rfl) dX9_init_182 rfl ?_
  refine c_iconst (q := 186) 0 (by decide) dX9_init_185 rfl ?_
  refine c_istore_n (q := 187) (by decide) dX9_init_186 rfl ?_
  have hhi : ctM0_m mem 36 0 12 = 1 := rfl
  unfold ctM_m at hQ
  suffices H : ∀ k9 x, 10 - x < k9 → x ≤ 10 → Wc E (xk E (d + 1) 98 120 Q) mX9_init 120 187 [some (pR 36 0), some (pI (nI x))] [] (mrow (ctM0_m mem) 46 0 (fun i' => if i' < x then 1000 else ctM0_m mem 46 0 i')) from by
    have := H 11 0 (by omega) (by omega)
    rw [show (fun i' => if i' < 0 then (1000 : Int32) else ctM0_m mem 46 0 i') = ctM0_m mem 46 0 from funext fun i' => if_neg (by omega), mrow_id] at this
    exact this
  intro k9
  induction k9 with
  | zero => intro q h; omega
  | succ k9 ih =>
    intro x h1 h2
    refine c_iload_n (q := 188) rfl dX9_init_187 rfl ?_
    refine c_bipush (q := 190) 10 (by decide) dX9_init_188 rfl ?_
    refine c_icmp_ge (q := 193) 208 dX9_init_190 (by decide) rfl (fun h7 => ?_) (fun h7 => ?_)
    · have hb := nI_ge_of (a := 10) (by decide) (by omega) h7
      have hb : x = 10 := by omega
      subst hb
      exact c_ret rfl dX9_init_208 hQ
    · have hx : x < 10 := nI_lt_of (a := 10) (by omega) h7
      refine c_aload_n (q := 194) rfl dX9_init_193 rfl ?_
      refine c_getR (k := 120) (q := 197) (i := 97) f_RX9_41_8 rfl rfl (by rw [mrow_g _ _ _ (by decide)]; exact hhi) (by decide) (by decide +kernel) dX9_init_194 rfl ?_
      refine c_iload_n (q := 198) rfl dX9_init_197 rfl ?_
      refine c_sipush (q := 201) 1000 (by decide) dX9_init_198 rfl ?_
      refine c_iast (q := 202) (g := 46) (i := 107) rfl hx (by decide) (by decide +kernel) (Nat.le_of_ble_eq_true rfl) (Nat.le_refl _) dX9_init_201 rfl ?_
      rw [mset_mrow, show upd (fun i' => if i' < x then (1000 : Int32) else ctM0_m mem 46 0 i') x 1000 = fun i' => if i' < x + 1 then 1000 else ctM0_m mem 46 0 i' from funext fun i' => by
        unfold upd
        by_cases e : i' = x
        · subst e; simp
        · rw [if_neg e]
          by_cases e2 : i' < x
          · rw [if_pos (show i' < x + 1 by omega)]; exact if_pos e2
          · rw [if_neg (show ¬ i' < x + 1 by omega)]; exact if_neg e2]
      refine c_iinc (q := 205) _ (nI_inc _) (by decide) rfl dX9_init_202 rfl ?_
      refine c_goto 187 dX9_init_205 (by decide) ?_
      exact ih (x + 1) (by omega) (by omega)
