/-! the constructors: decode rows, groups, walks -/
def pk : List Nat → Nat → Nat
  | [], _ => 0
  | x :: _, 0 => x
  | _ :: l, n + 1 => pk l n
theorem dX0_init_0 : decode cX0_init 0 = .ok (.aload_n 0, 1) := by decide +kernel
theorem dX0_init_1 : decode cX0_init 1 = .ok (.invokespecial 3, 3) := by decide +kernel
theorem dX0_init_4 : decode cX0_init 4 = .ok (.aload_n 0, 1) := by decide +kernel
theorem dX0_init_5 : decode cX0_init 5 = .ok (.bipush 80, 2) := by decide +kernel
theorem dX0_init_7 : decode cX0_init 7 = .ok (.newarray .char, 2) := by decide +kernel
theorem dX0_init_9 : decode cX0_init 9 = .ok (.putfield 9, 3) := by decide +kernel
theorem dX0_init_12 : decode cX0_init 12 = .ok (.aload_n 0, 1) := by decide +kernel
theorem dX0_init_13 : decode cX0_init 13 = .ok (.bipush 80, 2) := by decide +kernel
theorem dX0_init_15 : decode cX0_init 15 = .ok (.newarray .char, 2) := by decide +kernel
theorem dX0_init_17 : decode cX0_init 17 = .ok (.putfield 15, 3) := by decide +kernel
theorem dX0_init_20 : decode cX0_init 20 = .ok (.aload_n 0, 1) := by decide +kernel
theorem dX0_init_21 : decode cX0_init 21 = .ok (.bipush 80, 2) := by decide +kernel
theorem dX0_init_23 : decode cX0_init 23 = .ok (.newarray .int, 2) := by decide +kernel
theorem dX0_init_25 : decode cX0_init 25 = .ok (.putfield 18, 3) := by decide +kernel
theorem dX0_init_28 : decode cX0_init 28 = .ok (.aload_n 0, 1) := by decide +kernel
theorem dX0_init_29 : decode cX0_init 29 = .ok (.bipush 80, 2) := by decide +kernel
theorem dX0_init_31 : decode cX0_init 31 = .ok (.newarray .int, 2) := by decide +kernel
theorem dX0_init_33 : decode cX0_init 33 = .ok (.putfield 22, 3) := by decide +kernel
theorem dX0_init_36 : decode cX0_init 36 = .ok (.return_, 1) := by decide +kernel
theorem dX1_init_0 : decode cX1_init 0 = .ok (.aload_n 0, 1) := by decide +kernel
theorem dX1_init_1 : decode cX1_init 1 = .ok (.invokespecial 3, 3) := by decide +kernel
theorem dX1_init_4 : decode cX1_init 4 = .ok (.aload_n 0, 1) := by decide +kernel
theorem dX1_init_5 : decode cX1_init 5 = .ok (.bipush 12, 2) := by decide +kernel
theorem dX1_init_7 : decode cX1_init 7 = .ok (.newarray .boolean, 2) := by decide +kernel
theorem dX1_init_9 : decode cX1_init 9 = .ok (.putfield 9, 3) := by decide +kernel
theorem dX1_init_12 : decode cX1_init 12 = .ok (.aload_n 0, 1) := by decide +kernel
theorem dX1_init_13 : decode cX1_init 13 = .ok (.bipush 96, 2) := by decide +kernel
theorem dX1_init_15 : decode cX1_init 15 = .ok (.newarray .int, 2) := by decide +kernel
theorem dX1_init_17 : decode cX1_init 17 = .ok (.putfield 15, 3) := by decide +kernel
theorem dX1_init_20 : decode cX1_init 20 = .ok (.aload_n 0, 1) := by decide +kernel
theorem dX1_init_21 : decode cX1_init 21 = .ok (.bipush 8, 2) := by decide +kernel
theorem dX1_init_23 : decode cX1_init 23 = .ok (.newarray .boolean, 2) := by decide +kernel
theorem dX1_init_25 : decode cX1_init 25 = .ok (.putfield 19, 3) := by decide +kernel
theorem dX1_init_28 : decode cX1_init 28 = .ok (.aload_n 0, 1) := by decide +kernel
theorem dX1_init_29 : decode cX1_init 29 = .ok (.bipush 48, 2) := by decide +kernel
theorem dX1_init_31 : decode cX1_init 31 = .ok (.newarray .int, 2) := by decide +kernel
theorem dX1_init_33 : decode cX1_init 33 = .ok (.putfield 22, 3) := by decide +kernel
theorem dX1_init_36 : decode cX1_init 36 = .ok (.return_, 1) := by decide +kernel
theorem dX2_init_0 : decode cX2_init 0 = .ok (.aload_n 0, 1) := by decide +kernel
theorem dX2_init_1 : decode cX2_init 1 = .ok (.invokespecial 3, 3) := by decide +kernel
theorem dX2_init_4 : decode cX2_init 4 = .ok (.aload_n 0, 1) := by decide +kernel
theorem dX2_init_5 : decode cX2_init 5 = .ok (.bipush 8, 2) := by decide +kernel
theorem dX2_init_7 : decode cX2_init 7 = .ok (.anewarray 9, 3) := by decide +kernel
theorem dX2_init_10 : decode cX2_init 10 = .ok (.putfield 11, 3) := by decide +kernel
theorem dX2_init_13 : decode cX2_init 13 = .ok (.iconst 0, 1) := by decide +kernel
theorem dX2_init_14 : decode cX2_init 14 = .ok (.istore_n 1, 1) := by decide +kernel
theorem dX2_init_15 : decode cX2_init 15 = .ok (.iload_n 1, 1) := by decide +kernel
theorem dX2_init_16 : decode cX2_init 16 = .ok (.bipush 8, 2) := by decide +kernel
theorem dX2_init_18 : decode cX2_init 18 = .ok (.if_icmp .ge 22, 3) := by decide +kernel
theorem dX2_init_21 : decode cX2_init 21 = .ok (.aload_n 0, 1) := by decide +kernel
theorem dX2_init_22 : decode cX2_init 22 = .ok (.getfield 11, 3) := by decide +kernel
theorem dX2_init_25 : decode cX2_init 25 = .ok (.iload_n 1, 1) := by decide +kernel
theorem dX2_init_26 : decode cX2_init 26 = .ok (.new 9, 3) := by decide +kernel
theorem dX2_init_29 : decode cX2_init 29 = .ok (.dup, 1) := by decide +kernel
theorem dX2_init_30 : decode cX2_init 30 = .ok (.invokespecial 17, 3) := by decide +kernel
theorem dX2_init_33 : decode cX2_init 33 = .ok (.aastore, 1) := by decide +kernel
theorem dX2_init_34 : decode cX2_init 34 = .ok (.iinc 1 1, 3) := by decide +kernel
theorem dX2_init_37 : decode cX2_init 37 = .ok (.goto (-22), 3) := by decide +kernel
theorem dX2_init_40 : decode cX2_init 40 = .ok (.return_, 1) := by decide +kernel
theorem dX3_init_0 : decode cX3_init 0 = .ok (.aload_n 0, 1) := by decide +kernel
theorem dX3_init_1 : decode cX3_init 1 = .ok (.invokespecial 3, 3) := by decide +kernel
theorem dX3_init_4 : decode cX3_init 4 = .ok (.aload_n 0, 1) := by decide +kernel
theorem dX3_init_5 : decode cX3_init 5 = .ok (.new 9, 3) := by decide +kernel
theorem dX3_init_8 : decode cX3_init 8 = .ok (.dup, 1) := by decide +kernel
theorem dX3_init_9 : decode cX3_init 9 = .ok (.invokespecial 11, 3) := by decide +kernel
theorem dX3_init_12 : decode cX3_init 12 = .ok (.putfield 12, 3) := by decide +kernel
theorem dX3_init_15 : decode cX3_init 15 = .ok (.aload_n 0, 1) := by decide +kernel
theorem dX3_init_16 : decode cX3_init 16 = .ok (.sipush 480, 3) := by decide +kernel
theorem dX3_init_19 : decode cX3_init 19 = .ok (.newarray .int, 2) := by decide +kernel
theorem dX3_init_21 : decode cX3_init 21 = .ok (.putfield 18, 3) := by decide +kernel
theorem dX3_init_24 : decode cX3_init 24 = .ok (.aload_n 0, 1) := by decide +kernel
theorem dX3_init_25 : decode cX3_init 25 = .ok (.sipush 480, 3) := by decide +kernel
theorem dX3_init_28 : decode cX3_init 28 = .ok (.newarray .int, 2) := by decide +kernel
theorem dX3_init_30 : decode cX3_init 30 = .ok (.putfield 22, 3) := by decide +kernel
theorem dX3_init_33 : decode cX3_init 33 = .ok (.aload_n 0, 1) := by decide +kernel
theorem dX3_init_34 : decode cX3_init 34 = .ok (.bipush 12, 2) := by decide +kernel
theorem dX3_init_36 : decode cX3_init 36 = .ok (.newarray .int, 2) := by decide +kernel
theorem dX3_init_38 : decode cX3_init 38 = .ok (.putfield 25, 3) := by decide +kernel
theorem dX3_init_41 : decode cX3_init 41 = .ok (.aload_n 0, 1) := by decide +kernel
theorem dX3_init_42 : decode cX3_init 42 = .ok (.bipush 12, 2) := by decide +kernel
theorem dX3_init_44 : decode cX3_init 44 = .ok (.newarray .int, 2) := by decide +kernel
theorem dX3_init_46 : decode cX3_init 46 = .ok (.putfield 28, 3) := by decide +kernel
theorem dX3_init_49 : decode cX3_init 49 = .ok (.aload_n 0, 1) := by decide +kernel
theorem dX3_init_50 : decode cX3_init 50 = .ok (.bipush 12, 2) := by decide +kernel
theorem dX3_init_52 : decode cX3_init 52 = .ok (.newarray .int, 2) := by decide +kernel
theorem dX3_init_54 : decode cX3_init 54 = .ok (.putfield 31, 3) := by decide +kernel
theorem dX3_init_57 : decode cX3_init 57 = .ok (.aload_n 0, 1) := by decide +kernel
theorem dX3_init_58 : decode cX3_init 58 = .ok (.sipush 432, 3) := by decide +kernel
theorem dX3_init_61 : decode cX3_init 61 = .ok (.newarray .int, 2) := by decide +kernel
theorem dX3_init_63 : decode cX3_init 63 = .ok (.putfield 34, 3) := by decide +kernel
theorem dX3_init_66 : decode cX3_init 66 = .ok (.aload_n 0, 1) := by decide +kernel
theorem dX3_init_67 : decode cX3_init 67 = .ok (.bipush 12, 2) := by decide +kernel
theorem dX3_init_69 : decode cX3_init 69 = .ok (.newarray .int, 2) := by decide +kernel
theorem dX3_init_71 : decode cX3_init 71 = .ok (.putfield 37, 3) := by decide +kernel
theorem dX3_init_74 : decode cX3_init 74 = .ok (.aload_n 0, 1) := by decide +kernel
theorem dX3_init_75 : decode cX3_init 75 = .ok (.bipush 12, 2) := by decide +kernel
theorem dX3_init_77 : decode cX3_init 77 = .ok (.newarray .int, 2) := by decide +kernel
theorem dX3_init_79 : decode cX3_init 79 = .ok (.putfield 40, 3) := by decide +kernel
theorem dX3_init_82 : decode cX3_init 82 = .ok (.return_, 1) := by decide +kernel
theorem dX4_init_0 : decode cX4_init 0 = .ok (.aload_n 0, 1) := by decide +kernel
theorem dX4_init_1 : decode cX4_init 1 = .ok (.invokespecial 3, 3) := by decide +kernel
theorem dX4_init_4 : decode cX4_init 4 = .ok (.aload_n 0, 1) := by decide +kernel
theorem dX4_init_5 : decode cX4_init 5 = .ok (.bipush 12, 2) := by decide +kernel
theorem dX4_init_7 : decode cX4_init 7 = .ok (.newarray .int, 2) := by decide +kernel
theorem dX4_init_9 : decode cX4_init 9 = .ok (.putfield 9, 3) := by decide +kernel
theorem dX4_init_12 : decode cX4_init 12 = .ok (.aload_n 0, 1) := by decide +kernel
theorem dX4_init_13 : decode cX4_init 13 = .ok (.bipush 96, 2) := by decide +kernel
theorem dX4_init_15 : decode cX4_init 15 = .ok (.newarray .int, 2) := by decide +kernel
theorem dX4_init_17 : decode cX4_init 17 = .ok (.putfield 15, 3) := by decide +kernel
theorem dX4_init_20 : decode cX4_init 20 = .ok (.return_, 1) := by decide +kernel
theorem dX5_init_0 : decode cX5_init 0 = .ok (.aload_n 0, 1) := by decide +kernel
theorem dX5_init_1 : decode cX5_init 1 = .ok (.invokespecial 3, 3) := by decide +kernel
theorem dX5_init_4 : decode cX5_init 4 = .ok (.aload_n 0, 1) := by decide +kernel
theorem dX5_init_5 : decode cX5_init 5 = .ok (.new 9, 3) := by decide +kernel
theorem dX5_init_8 : decode cX5_init 8 = .ok (.dup, 1) := by decide +kernel
theorem dX5_init_9 : decode cX5_init 9 = .ok (.invokespecial 11, 3) := by decide +kernel
theorem dX5_init_12 : decode cX5_init 12 = .ok (.putfield 12, 3) := by decide +kernel
theorem dX5_init_15 : decode cX5_init 15 = .ok (.aload_n 0, 1) := by decide +kernel
theorem dX5_init_16 : decode cX5_init 16 = .ok (.aload_n 0, 1) := by decide +kernel
theorem dX5_init_17 : decode cX5_init 17 = .ok (.getfield 12, 3) := by decide +kernel
theorem dX5_init_20 : decode cX5_init 20 = .ok (.getfield 16, 3) := by decide +kernel
theorem dX5_init_23 : decode cX5_init 23 = .ok (.putfield 20, 3) := by decide +kernel
theorem dX5_init_26 : decode cX5_init 26 = .ok (.aload_n 0, 1) := by decide +kernel
theorem dX5_init_27 : decode cX5_init 27 = .ok (.new 9, 3) := by decide +kernel
theorem dX5_init_30 : decode cX5_init 30 = .ok (.dup, 1) := by decide +kernel
theorem dX5_init_31 : decode cX5_init 31 = .ok (.invokespecial 11, 3) := by decide +kernel
theorem dX5_init_34 : decode cX5_init 34 = .ok (.putfield 21, 3) := by decide +kernel
theorem dX5_init_37 : decode cX5_init 37 = .ok (.aload_n 0, 1) := by decide +kernel
theorem dX5_init_38 : decode cX5_init 38 = .ok (.aload_n 0, 1) := by decide +kernel
theorem dX5_init_39 : decode cX5_init 39 = .ok (.getfield 21, 3) := by decide +kernel
theorem dX5_init_42 : decode cX5_init 42 = .ok (.getfield 16, 3) := by decide +kernel
theorem dX5_init_45 : decode cX5_init 45 = .ok (.putfield 24, 3) := by decide +kernel
theorem dX5_init_48 : decode cX5_init 48 = .ok (.aload_n 0, 1) := by decide +kernel
theorem dX5_init_49 : decode cX5_init 49 = .ok (.new 27, 3) := by decide +kernel
theorem dX5_init_52 : decode cX5_init 52 = .ok (.dup, 1) := by decide +kernel
theorem dX5_init_53 : decode cX5_init 53 = .ok (.invokespecial 29, 3) := by decide +kernel
theorem dX5_init_56 : decode cX5_init 56 = .ok (.putfield 30, 3) := by decide +kernel
theorem dX5_init_59 : decode cX5_init 59 = .ok (.aload_n 0, 1) := by decide +kernel
theorem dX5_init_60 : decode cX5_init 60 = .ok (.new 34, 3) := by decide +kernel
theorem dX5_init_63 : decode cX5_init 63 = .ok (.dup, 1) := by decide +kernel
theorem dX5_init_64 : decode cX5_init 64 = .ok (.invokespecial 36, 3) := by decide +kernel
theorem dX5_init_67 : decode cX5_init 67 = .ok (.putfield 37, 3) := by decide +kernel
theorem dX5_init_70 : decode cX5_init 70 = .ok (.aload_n 0, 1) := by decide +kernel
theorem dX5_init_71 : decode cX5_init 71 = .ok (.new 40, 3) := by decide +kernel
theorem dX5_init_74 : decode cX5_init 74 = .ok (.dup, 1) := by decide +kernel
theorem dX5_init_75 : decode cX5_init 75 = .ok (.invokespecial 42, 3) := by decide +kernel
theorem dX5_init_78 : decode cX5_init 78 = .ok (.putfield 43, 3) := by decide +kernel
theorem dX5_init_81 : decode cX5_init 81 = .ok (.aload_n 0, 1) := by decide +kernel
theorem dX5_init_82 : decode cX5_init 82 = .ok (.new 47, 3) := by decide +kernel
theorem dX5_init_85 : decode cX5_init 85 = .ok (.dup, 1) := by decide +kernel
theorem dX5_init_86 : decode cX5_init 86 = .ok (.invokespecial 49, 3) := by decide +kernel
theorem dX5_init_89 : decode cX5_init 89 = .ok (.putfield 50, 3) := by decide +kernel
theorem dX5_init_92 : decode cX5_init 92 = .ok (.return_, 1) := by decide +kernel
theorem dX6_init_0 : decode cX6_init 0 = .ok (.aload_n 0, 1) := by decide +kernel
theorem dX6_init_1 : decode cX6_init 1 = .ok (.invokespecial 7, 3) := by decide +kernel
theorem dX6_init_4 : decode cX6_init 4 = .ok (.aload_n 0, 1) := by decide +kernel
theorem dX6_init_5 : decode cX6_init 5 = .ok (.iconst 0, 1) := by decide +kernel
theorem dX6_init_6 : decode cX6_init 6 = .ok (.putfield 3, 3) := by decide +kernel
theorem dX6_init_9 : decode cX6_init 9 = .ok (.aload_n 0, 1) := by decide +kernel
theorem dX6_init_10 : decode cX6_init 10 = .ok (.sipush 166, 3) := by decide +kernel
theorem dX6_init_13 : decode cX6_init 13 = .ok (.newarray .int, 2) := by decide +kernel
theorem dX6_init_15 : decode cX6_init 15 = .ok (.putfield 13, 3) := by decide +kernel
theorem dX6_init_18 : decode cX6_init 18 = .ok (.aload_n 0, 1) := by decide +kernel
theorem dX6_init_19 : decode cX6_init 19 = .ok (.sipush 166, 3) := by decide +kernel
theorem dX6_init_22 : decode cX6_init 22 = .ok (.newarray .int, 2) := by decide +kernel
theorem dX6_init_24 : decode cX6_init 24 = .ok (.putfield 17, 3) := by decide +kernel
theorem dX6_init_27 : decode cX6_init 27 = .ok (.aload_n 0, 1) := by decide +kernel
theorem dX6_init_28 : decode cX6_init 28 = .ok (.sipush 166, 3) := by decide +kernel
theorem dX6_init_31 : decode cX6_init 31 = .ok (.newarray .int, 2) := by decide +kernel
theorem dX6_init_33 : decode cX6_init 33 = .ok (.putfield 20, 3) := by decide +kernel
theorem dX6_init_36 : decode cX6_init 36 = .ok (.aload_n 0, 1) := by decide +kernel
theorem dX6_init_37 : decode cX6_init 37 = .ok (.sipush 1328, 3) := by decide +kernel
theorem dX6_init_40 : decode cX6_init 40 = .ok (.newarray .int, 2) := by decide +kernel
theorem dX6_init_42 : decode cX6_init 42 = .ok (.putfield 23, 3) := by decide +kernel
theorem dX6_init_45 : decode cX6_init 45 = .ok (.aload_n 0, 1) := by decide +kernel
theorem dX6_init_46 : decode cX6_init 46 = .ok (.iconst 0, 1) := by decide +kernel
theorem dX6_init_47 : decode cX6_init 47 = .ok (.putfield 26, 3) := by decide +kernel
theorem dX6_init_50 : decode cX6_init 50 = .ok (.aload_n 0, 1) := by decide +kernel
theorem dX6_init_51 : decode cX6_init 51 = .ok (.iconst 0, 1) := by decide +kernel
theorem dX6_init_52 : decode cX6_init 52 = .ok (.putfield 29, 3) := by decide +kernel
theorem dX6_init_55 : decode cX6_init 55 = .ok (.aload_n 0, 1) := by decide +kernel
theorem dX6_init_56 : decode cX6_init 56 = .ok (.sipush 480, 3) := by decide +kernel
theorem dX6_init_59 : decode cX6_init 59 = .ok (.newarray .int, 2) := by decide +kernel
theorem dX6_init_61 : decode cX6_init 61 = .ok (.putfield 33, 3) := by decide +kernel
theorem dX6_init_64 : decode cX6_init 64 = .ok (.aload_n 0, 1) := by decide +kernel
theorem dX6_init_65 : decode cX6_init 65 = .ok (.sipush 480, 3) := by decide +kernel
theorem dX6_init_68 : decode cX6_init 68 = .ok (.newarray .int, 2) := by decide +kernel
theorem dX6_init_70 : decode cX6_init 70 = .ok (.putfield 36, 3) := by decide +kernel
theorem dX6_init_73 : decode cX6_init 73 = .ok (.aload_n 0, 1) := by decide +kernel
theorem dX6_init_74 : decode cX6_init 74 = .ok (.bipush 12, 2) := by decide +kernel
theorem dX6_init_76 : decode cX6_init 76 = .ok (.newarray .int, 2) := by decide +kernel
theorem dX6_init_78 : decode cX6_init 78 = .ok (.putfield 39, 3) := by decide +kernel
theorem dX6_init_81 : decode cX6_init 81 = .ok (.aload_n 0, 1) := by decide +kernel
theorem dX6_init_82 : decode cX6_init 82 = .ok (.bipush 12, 2) := by decide +kernel
theorem dX6_init_84 : decode cX6_init 84 = .ok (.newarray .int, 2) := by decide +kernel
theorem dX6_init_86 : decode cX6_init 86 = .ok (.putfield 42, 3) := by decide +kernel
theorem dX6_init_89 : decode cX6_init 89 = .ok (.aload_n 0, 1) := by decide +kernel
theorem dX6_init_90 : decode cX6_init 90 = .ok (.bipush 12, 2) := by decide +kernel
theorem dX6_init_92 : decode cX6_init 92 = .ok (.newarray .int, 2) := by decide +kernel
theorem dX6_init_94 : decode cX6_init 94 = .ok (.putfield 45, 3) := by decide +kernel
theorem dX6_init_97 : decode cX6_init 97 = .ok (.aload_n 0, 1) := by decide +kernel
theorem dX6_init_98 : decode cX6_init 98 = .ok (.sipush 384, 3) := by decide +kernel
theorem dX6_init_101 : decode cX6_init 101 = .ok (.newarray .int, 2) := by decide +kernel
theorem dX6_init_103 : decode cX6_init 103 = .ok (.putfield 48, 3) := by decide +kernel
theorem dX6_init_106 : decode cX6_init 106 = .ok (.aload_n 0, 1) := by decide +kernel
theorem dX6_init_107 : decode cX6_init 107 = .ok (.bipush 12, 2) := by decide +kernel
theorem dX6_init_109 : decode cX6_init 109 = .ok (.newarray .int, 2) := by decide +kernel
theorem dX6_init_111 : decode cX6_init 111 = .ok (.putfield 51, 3) := by decide +kernel
theorem dX6_init_114 : decode cX6_init 114 = .ok (.aload_n 0, 1) := by decide +kernel
theorem dX6_init_115 : decode cX6_init 115 = .ok (.iconst 0, 1) := by decide +kernel
theorem dX6_init_116 : decode cX6_init 116 = .ok (.putfield 54, 3) := by decide +kernel
theorem dX6_init_119 : decode cX6_init 119 = .ok (.aload_n 0, 1) := by decide +kernel
theorem dX6_init_120 : decode cX6_init 120 = .ok (.bipush 12, 2) := by decide +kernel
theorem dX6_init_122 : decode cX6_init 122 = .ok (.newarray .int, 2) := by decide +kernel
theorem dX6_init_124 : decode cX6_init 124 = .ok (.putfield 57, 3) := by decide +kernel
theorem dX6_init_127 : decode cX6_init 127 = .ok (.aload_n 0, 1) := by decide +kernel
theorem dX6_init_128 : decode cX6_init 128 = .ok (.bipush 108, 2) := by decide +kernel
theorem dX6_init_130 : decode cX6_init 130 = .ok (.newarray .int, 2) := by decide +kernel
theorem dX6_init_132 : decode cX6_init 132 = .ok (.putfield 60, 3) := by decide +kernel
theorem dX6_init_135 : decode cX6_init 135 = .ok (.aload_n 0, 1) := by decide +kernel
theorem dX6_init_136 : decode cX6_init 136 = .ok (.bipush 80, 2) := by decide +kernel
theorem dX6_init_138 : decode cX6_init 138 = .ok (.newarray .int, 2) := by decide +kernel
theorem dX6_init_140 : decode cX6_init 140 = .ok (.putfield 63, 3) := by decide +kernel
theorem dX6_init_143 : decode cX6_init 143 = .ok (.aload_n 0, 1) := by decide +kernel
theorem dX6_init_144 : decode cX6_init 144 = .ok (.bipush 6, 2) := by decide +kernel
theorem dX6_init_146 : decode cX6_init 146 = .ok (.newarray .int, 2) := by decide +kernel
theorem dX6_init_148 : decode cX6_init 148 = .ok (.putfield 66, 3) := by decide +kernel
theorem dX6_init_151 : decode cX6_init 151 = .ok (.aload_n 0, 1) := by decide +kernel
theorem dX6_init_152 : decode cX6_init 152 = .ok (.iconst 0, 1) := by decide +kernel
theorem dX6_init_153 : decode cX6_init 153 = .ok (.putfield 69, 3) := by decide +kernel
theorem dX6_init_156 : decode cX6_init 156 = .ok (.aload_n 0, 1) := by decide +kernel
theorem dX6_init_157 : decode cX6_init 157 = .ok (.iconst 0, 1) := by decide +kernel
theorem dX6_init_158 : decode cX6_init 158 = .ok (.putfield 72, 3) := by decide +kernel
theorem dX6_init_161 : decode cX6_init 161 = .ok (.aload_n 0, 1) := by decide +kernel
theorem dX6_init_162 : decode cX6_init 162 = .ok (.iconst (-1), 1) := by decide +kernel
theorem dX6_init_163 : decode cX6_init 163 = .ok (.putfield 75, 3) := by decide +kernel
theorem dX6_init_166 : decode cX6_init 166 = .ok (.aload_n 0, 1) := by decide +kernel
theorem dX6_init_167 : decode cX6_init 167 = .ok (.iconst 0, 1) := by decide +kernel
theorem dX6_init_168 : decode cX6_init 168 = .ok (.putfield 78, 3) := by decide +kernel
theorem dX6_init_171 : decode cX6_init 171 = .ok (.aload_n 0, 1) := by decide +kernel
theorem dX6_init_172 : decode cX6_init 172 = .ok (.iconst 0, 1) := by decide +kernel
theorem dX6_init_173 : decode cX6_init 173 = .ok (.putfield 81, 3) := by decide +kernel
theorem dX6_init_176 : decode cX6_init 176 = .ok (.return_, 1) := by decide +kernel
theorem df1 : ∀ j, j < 6 → defaultValue (tyX1 j) = vp_V [.null, .null, .null, .null, .int 0, .int 0] j := by
  intro j hj
  exact match j, hj with
    | 0, _ => rfl
    | 1, _ => rfl
    | 2, _ => rfl
    | 3, _ => rfl
    | 4, _ => rfl
    | 5, _ => rfl
    | j + 6, h => absurd h (by omega)
theorem df3 : ∀ j, j < 9 → defaultValue (tyX3 j) = vp_V [.null, .null, .null, .null, .null, .null, .null, .null, .null] j := by
  intro j hj
  exact match j, hj with
    | 0, _ => rfl
    | 1, _ => rfl
    | 2, _ => rfl
    | 3, _ => rfl
    | 4, _ => rfl
    | 5, _ => rfl
    | 6, _ => rfl
    | 7, _ => rfl
    | 8, _ => rfl
    | j + 9, h => absurd h (by omega)
theorem df4 : ∀ j, j < 2 → defaultValue (tyX4 j) = vp_V [.null, .null] j := by
  intro j hj
  exact match j, hj with
    | 0, _ => rfl
    | 1, _ => rfl
    | j + 2, h => absurd h (by omega)
theorem df2 : ∀ j, j < 3 → defaultValue (tyX2 j) = vp_V [.null, .int 0, .int 0] j := by
  intro j hj
  exact match j, hj with
    | 0, _ => rfl
    | 1, _ => rfl
    | 2, _ => rfl
    | j + 3, h => absurd h (by omega)
theorem df0 : ∀ j, j < 10 → defaultValue (tyX0 j) = vp_V [.null, .int 0, .null, .null, .int 0, .null, .int 0, .int 0, .int 0, .int 0] j := by
  intro j hj
  exact match j, hj with
    | 0, _ => rfl
    | 1, _ => rfl
    | 2, _ => rfl
    | 3, _ => rfl
    | 4, _ => rfl
    | 5, _ => rfl
    | 6, _ => rfl
    | 7, _ => rfl
    | 8, _ => rfl
    | 9, _ => rfl
    | j + 10, h => absurd h (by omega)
theorem df5 : ∀ j, j < 12 → defaultValue (tyX5 j) = vp_V [.null, .null, .null, .null, .null, .null, .null, .null, .int 0, .int 0, .int 0, .int 0] j := by
  intro j hj
  exact match j, hj with
    | 0, _ => rfl
    | 1, _ => rfl
    | 2, _ => rfl
    | 3, _ => rfl
    | 4, _ => rfl
    | 5, _ => rfl
    | 6, _ => rfl
    | 7, _ => rfl
    | 8, _ => rfl
    | 9, _ => rfl
    | 10, _ => rfl
    | 11, _ => rfl
    | j + 12, h => absurd h (by omega)
theorem df6 : ∀ j, j < 24 → defaultValue (tyX6 j) = vp_V [.int 0, .null, .null, .null, .null, .int 0, .int 0, .null, .null, .null, .null, .null, .null, .null, .int 0, .null, .null, .null, .null, .int 0, .int 0, .int 0, .int 0, .int 0] j := by
  intro j hj
  exact match j, hj with
    | 0, _ => rfl
    | 1, _ => rfl
    | 2, _ => rfl
    | 3, _ => rfl
    | 4, _ => rfl
    | 5, _ => rfl
    | 6, _ => rfl
    | 7, _ => rfl
    | 8, _ => rfl
    | 9, _ => rfl
    | 10, _ => rfl
    | 11, _ => rfl
    | 12, _ => rfl
    | 13, _ => rfl
    | 14, _ => rfl
    | 15, _ => rfl
    | 16, _ => rfl
    | 17, _ => rfl
    | 18, _ => rfl
    | 19, _ => rfl
    | 20, _ => rfl
    | 21, _ => rfl
    | 22, _ => rfl
    | 23, _ => rfl
    | j + 24, h => absurd h (by omega)
abbrev rmN1 : Room := { frames := 1, cells := 4, slots := 164, locals := 12 }
def g1 (cA : Nat → ClassId) (a : Nat → Nat) : va_W := (a 0, .inr (1, [.ref (a 1), .ref (a 2), .ref (a 3), .ref (a 4), .int 0, .int 0])) :: (a 1, .inl (cA 1, 12, .inl (fun _ => 0))) :: (a 2, .inl (cA 0, 96, .inl (fun _ => 0))) :: (a 3, .inl (cA 1, 8, .inl (fun _ => 0))) :: (a 4, .inl (cA 0, 48, .inl (fun _ => 0))) :: []
set_option maxHeartbeats 4000000 in
set_option maxRecDepth 100000 in
theorem con1_init : ConN yX1_init cX1_init 1 rmN1 [] 1 [.null, .null, .null, .null, .int 0, .int 0] (g1) := by
  refine conN_of (L := fun h0 => [(0, .ref h0)]) rfl (fun _ => Nat.le_of_ble_eq_true rfl) (fun _ => rfl) ?_
  intro l G cA h0 A p e s m args below meth c hA C hr hlocks hm
  refine n_aload_n 0 C dX1_init_0 rfl rfl ?_
  refine n_objInit C ⟨mem_all 112 (by decide +kernel) (by decide +kernel), mem_all 99 (by decide +kernel) (by decide +kernel), mem_all 100 (by decide +kernel) (by decide +kernel)⟩ ⟨Nat.le_of_ble_eq_true rfl, Nat.le_of_ble_eq_true rfl⟩ dX1_init_1 ?_
  refine n_aload_n 0 C dX1_init_4 rfl rfl ?_
  refine n_bipush (v := 12) 12 C dX1_init_5 (by decide) ?_
  refine n_newarr 1 (nn := 12) (atype := .boolean) (ty := .boolean) (a0 := (12, .inl (fun _ => 0))) (N' := 12) (W1 := fun q7 => (h0, .inr (1, [.null, .null, .null, .null, .int 0, .int 0])) :: (q7, .inl (cA 1, 12, .inl (fun _ => 0))) :: []) C (mem_all 132 (by decide +kernel) (by decide +kernel)) rfl rfl (fun _ h => h) (fun _ => rfl) (by decide) (by decide) (by decide) (Nat.le_of_ble_eq_true rfl) (Nat.le_of_ble_eq_true rfl) dX1_init_7 (fun _ => rfl) (fun q7 => ?_)
  refine n_putR 0 C fl1_9 rfl hm rfl (tyX1_ok 0 (by decide)) rfl rfl (Nat.le_of_ble_eq_true rfl) dX1_init_9 ?_
  refine n_aload_n 0 C dX1_init_12 rfl rfl ?_
  refine n_bipush (v := 96) 96 C dX1_init_13 (by decide) ?_
  refine n_newarr 0 (nn := 96) (atype := .int) (ty := .int) (a0 := (96, .inl (fun _ => 0))) (N' := 96) (W1 := fun q15 => (h0, .inr (1, [.ref q7, .null, .null, .null, .int 0, .int 0])) :: (q7, .inl (cA 1, 12, .inl (fun _ => 0))) :: (q15, .inl (cA 0, 96, .inl (fun _ => 0))) :: []) C (mem_all 133 (by decide +kernel) (by decide +kernel)) rfl rfl (fun _ h => h) (fun _ => rfl) (by decide) (by decide) (by decide) (Nat.le_of_ble_eq_true rfl) (Nat.le_of_ble_eq_true rfl) dX1_init_15 (fun _ => rfl) (fun q15 => ?_)
  refine n_putR 1 C fl1_15 rfl hm rfl (tyX1_ok 1 (by decide)) rfl rfl (Nat.le_of_ble_eq_true rfl) dX1_init_17 ?_
  refine n_aload_n 0 C dX1_init_20 rfl rfl ?_
  refine n_bipush (v := 8) 8 C dX1_init_21 (by decide) ?_
  refine n_newarr 1 (nn := 8) (atype := .boolean) (ty := .boolean) (a0 := (8, .inl (fun _ => 0))) (N' := 8) (W1 := fun q23 => (h0, .inr (1, [.ref q7, .ref q15, .null, .null, .int 0, .int 0])) :: (q7, .inl (cA 1, 12, .inl (fun _ => 0))) :: (q15, .inl (cA 0, 96, .inl (fun _ => 0))) :: (q23, .inl (cA 1, 8, .inl (fun _ => 0))) :: []) C (mem_all 132 (by decide +kernel) (by decide +kernel)) rfl rfl (fun _ h => h) (fun _ => rfl) (by decide) (by decide) (by decide) (Nat.le_of_ble_eq_true rfl) (Nat.le_of_ble_eq_true rfl) dX1_init_23 (fun _ => rfl) (fun q23 => ?_)
  refine n_putR 2 C fl1_19 rfl hm rfl (tyX1_ok 2 (by decide)) rfl rfl (Nat.le_of_ble_eq_true rfl) dX1_init_25 ?_
  refine n_aload_n 0 C dX1_init_28 rfl rfl ?_
  refine n_bipush (v := 48) 48 C dX1_init_29 (by decide) ?_
  refine n_newarr 0 (nn := 48) (atype := .int) (ty := .int) (a0 := (48, .inl (fun _ => 0))) (N' := 48) (W1 := fun q31 => (h0, .inr (1, [.ref q7, .ref q15, .ref q23, .null, .int 0, .int 0])) :: (q7, .inl (cA 1, 12, .inl (fun _ => 0))) :: (q15, .inl (cA 0, 96, .inl (fun _ => 0))) :: (q23, .inl (cA 1, 8, .inl (fun _ => 0))) :: (q31, .inl (cA 0, 48, .inl (fun _ => 0))) :: []) C (mem_all 133 (by decide +kernel) (by decide +kernel)) rfl rfl (fun _ h => h) (fun _ => rfl) (by decide) (by decide) (by decide) (Nat.le_of_ble_eq_true rfl) (Nat.le_of_ble_eq_true rfl) dX1_init_31 (fun _ => rfl) (fun q31 => ?_)
  refine n_putR 3 C fl1_22 rfl hm rfl (tyX1_ok 3 (by decide)) rfl rfl (Nat.le_of_ble_eq_true rfl) dX1_init_33 ?_
  exact n_ret (grp := g1) (pk [h0, q7, q15, q23, q31]) C hr hlocks dX1_init_36 (Nat.le_of_ble_eq_true rfl) (Nat.le_of_ble_eq_true rfl) rfl (by rfl)
abbrev rmN3 : Room := { frames := 2, cells := 13, slots := 1622, locals := 32 }
def g3 (cA : Nat → ClassId) (a : Nat → Nat) : va_W := (a 0, .inr (3, [.ref (a 1), .ref (a 6), .ref (a 7), .ref (a 8), .ref (a 9), .ref (a 10), .ref (a 11), .ref (a 12), .ref (a 13)])) :: ((((((((([] ++ g1 cA (fun i => a (1 + i))) ++ [(a 6, .inl (cA 0, 480, .inl (fun _ => 0)))]) ++ [(a 7, .inl (cA 0, 480, .inl (fun _ => 0)))]) ++ [(a 8, .inl (cA 0, 12, .inl (fun _ => 0)))]) ++ [(a 9, .inl (cA 0, 12, .inl (fun _ => 0)))]) ++ [(a 10, .inl (cA 0, 12, .inl (fun _ => 0)))]) ++ [(a 11, .inl (cA 0, 432, .inl (fun _ => 0)))]) ++ [(a 12, .inl (cA 0, 12, .inl (fun _ => 0)))]) ++ [(a 13, .inl (cA 0, 12, .inl (fun _ => 0)))])
set_option maxHeartbeats 4000000 in
set_option maxRecDepth 100000 in
theorem con3_init : ConN yX3_init cX3_init 1 rmN3 [] 3 [.null, .null, .null, .null, .null, .null, .null, .null, .null] (g3) := by
  refine conN_of (L := fun h0 => [(0, .ref h0)]) rfl (fun _ => Nat.le_of_ble_eq_true rfl) (fun _ => rfl) ?_
  intro l G cA h0 A p e s m args below meth c hA C hr hlocks hm
  refine n_aload_n 0 C dX3_init_0 rfl rfl ?_
  refine n_objInit C ⟨mem_all 106 (by decide +kernel) (by decide +kernel), mem_all 99 (by decide +kernel) (by decide +kernel), mem_all 100 (by decide +kernel) (by decide +kernel)⟩ ⟨Nat.le_of_ble_eq_true rfl, Nat.le_of_ble_eq_true rfl⟩ dX3_init_1 ?_
  refine n_aload_n 0 C dX3_init_4 rfl rfl ?_
  refine n_new (W1 := fun q5 => (h0, .inr (3, [.null, .null, .null, .null, .null, .null, .null, .null, .null])) :: ([] ++ [(q5, .inr (1, [.null, .null, .null, .null, .int 0, .int 0]))])) C kc1 ⟨mem_all 107 (by decide +kernel) (by decide +kernel), mem_all 108 (by decide +kernel) (by decide +kernel), mem_all 79 (by decide +kernel) (by decide +kernel)⟩ df1 (Nat.le_of_ble_eq_true rfl) (Nat.le_of_ble_eq_true rfl) dX3_init_5 (fun _ => rfl) (fun q5 => ?_)
  refine n_dup C dX3_init_8 rfl ?_
  refine n_callN (As := []) (q := q5) (st := [.ref q5, .ref h0]) (ws := (h0, .inr (3, [.null, .null, .null, .null, .null, .null, .null, .null, .null])) :: []) (W1 := fun a0 => (h0, .inr (3, [.null, .null, .null, .null, .null, .null, .null, .null, .null])) :: ([] ++ g1 cA a0)) (con1_init) C mi1_init rfl (mem_all 110 (by decide +kernel) (by decide +kernel)) lk3_11 rfl ⟨Nat.le_of_ble_eq_true rfl, Nat.le_of_ble_eq_true rfl, Nat.le_of_ble_eq_true rfl, Nat.le_of_ble_eq_true rfl, Nat.le_of_ble_eq_true rfl⟩ dX3_init_9 rfl (fun _ => rfl) (fun a0 ea0 => ?_)
  subst ea0
  refine n_putR 0 C fl3_12 rfl hm rfl (tyX3_ok 0 (by decide)) rfl rfl (Nat.le_of_ble_eq_true rfl) dX3_init_12 ?_
  refine n_aload_n 0 C dX3_init_15 rfl rfl ?_
  refine n_sipush (v := 480) 480 C dX3_init_16 (by decide) ?_
  refine n_newarr 0 (nn := 480) (atype := .int) (ty := .int) (a0 := (480, .inl (fun _ => 0))) (N' := 480) (W1 := fun q19 => (h0, .inr (3, [.ref (a0 0), .null, .null, .null, .null, .null, .null, .null, .null])) :: (([] ++ g1 cA a0) ++ [(q19, .inl (cA 0, 480, .inl (fun _ => 0)))])) C (mem_all 133 (by decide +kernel) (by decide +kernel)) rfl rfl (fun _ h => h) (fun _ => rfl) (by decide) (by decide) (by decide) (Nat.le_of_ble_eq_true rfl) (Nat.le_of_ble_eq_true rfl) dX3_init_19 (fun _ => rfl) (fun q19 => ?_)
  refine n_putR 1 C fl3_18 rfl hm rfl (tyX3_ok 1 (by decide)) rfl rfl (Nat.le_of_ble_eq_true rfl) dX3_init_21 ?_
  refine n_aload_n 0 C dX3_init_24 rfl rfl ?_
  refine n_sipush (v := 480) 480 C dX3_init_25 (by decide) ?_
  refine n_newarr 0 (nn := 480) (atype := .int) (ty := .int) (a0 := (480, .inl (fun _ => 0))) (N' := 480) (W1 := fun q28 => (h0, .inr (3, [.ref (a0 0), .ref q19, .null, .null, .null, .null, .null, .null, .null])) :: ((([] ++ g1 cA a0) ++ [(q19, .inl (cA 0, 480, .inl (fun _ => 0)))]) ++ [(q28, .inl (cA 0, 480, .inl (fun _ => 0)))])) C (mem_all 133 (by decide +kernel) (by decide +kernel)) rfl rfl (fun _ h => h) (fun _ => rfl) (by decide) (by decide) (by decide) (Nat.le_of_ble_eq_true rfl) (Nat.le_of_ble_eq_true rfl) dX3_init_28 (fun _ => rfl) (fun q28 => ?_)
  refine n_putR 2 C fl3_22 rfl hm rfl (tyX3_ok 2 (by decide)) rfl rfl (Nat.le_of_ble_eq_true rfl) dX3_init_30 ?_
  refine n_aload_n 0 C dX3_init_33 rfl rfl ?_
  refine n_bipush (v := 12) 12 C dX3_init_34 (by decide) ?_
  refine n_newarr 0 (nn := 12) (atype := .int) (ty := .int) (a0 := (12, .inl (fun _ => 0))) (N' := 12) (W1 := fun q36 => (h0, .inr (3, [.ref (a0 0), .ref q19, .ref q28, .null, .null, .null, .null, .null, .null])) :: (((([] ++ g1 cA a0) ++ [(q19, .inl (cA 0, 480, .inl (fun _ => 0)))]) ++ [(q28, .inl (cA 0, 480, .inl (fun _ => 0)))]) ++ [(q36, .inl (cA 0, 12, .inl (fun _ => 0)))])) C (mem_all 133 (by decide +kernel) (by decide +kernel)) rfl rfl (fun _ h => h) (fun _ => rfl) (by decide) (by decide) (by decide) (Nat.le_of_ble_eq_true rfl) (Nat.le_of_ble_eq_true rfl) dX3_init_36 (fun _ => rfl) (fun q36 => ?_)
  refine n_putR 3 C fl3_25 rfl hm rfl (tyX3_ok 3 (by decide)) rfl rfl (Nat.le_of_ble_eq_true rfl) dX3_init_38 ?_
  refine n_aload_n 0 C dX3_init_41 rfl rfl ?_
  refine n_bipush (v := 12) 12 C dX3_init_42 (by decide) ?_
  refine n_newarr 0 (nn := 12) (atype := .int) (ty := .int) (a0 := (12, .inl (fun _ => 0))) (N' := 12) (W1 := fun q44 => (h0, .inr (3, [.ref (a0 0), .ref q19, .ref q28, .ref q36, .null, .null, .null, .null, .null])) :: ((((([] ++ g1 cA a0) ++ [(q19, .inl (cA 0, 480, .inl (fun _ => 0)))]) ++ [(q28, .inl (cA 0, 480, .inl (fun _ => 0)))]) ++ [(q36, .inl (cA 0, 12, .inl (fun _ => 0)))]) ++ [(q44, .inl (cA 0, 12, .inl (fun _ => 0)))])) C (mem_all 133 (by decide +kernel) (by decide +kernel)) rfl rfl (fun _ h => h) (fun _ => rfl) (by decide) (by decide) (by decide) (Nat.le_of_ble_eq_true rfl) (Nat.le_of_ble_eq_true rfl) dX3_init_44 (fun _ => rfl) (fun q44 => ?_)
  refine n_putR 4 C fl3_28 rfl hm rfl (tyX3_ok 4 (by decide)) rfl rfl (Nat.le_of_ble_eq_true rfl) dX3_init_46 ?_
  refine n_aload_n 0 C dX3_init_49 rfl rfl ?_
  refine n_bipush (v := 12) 12 C dX3_init_50 (by decide) ?_
  refine n_newarr 0 (nn := 12) (atype := .int) (ty := .int) (a0 := (12, .inl (fun _ => 0))) (N' := 12) (W1 := fun q52 => (h0, .inr (3, [.ref (a0 0), .ref q19, .ref q28, .ref q36, .ref q44, .null, .null, .null, .null])) :: (((((([] ++ g1 cA a0) ++ [(q19, .inl (cA 0, 480, .inl (fun _ => 0)))]) ++ [(q28, .inl (cA 0, 480, .inl (fun _ => 0)))]) ++ [(q36, .inl (cA 0, 12, .inl (fun _ => 0)))]) ++ [(q44, .inl (cA 0, 12, .inl (fun _ => 0)))]) ++ [(q52, .inl (cA 0, 12, .inl (fun _ => 0)))])) C (mem_all 133 (by decide +kernel) (by decide +kernel)) rfl rfl (fun _ h => h) (fun _ => rfl) (by decide) (by decide) (by decide) (Nat.le_of_ble_eq_true rfl) (Nat.le_of_ble_eq_true rfl) dX3_init_52 (fun _ => rfl) (fun q52 => ?_)
  refine n_putR 5 C fl3_31 rfl hm rfl (tyX3_ok 5 (by decide)) rfl rfl (Nat.le_of_ble_eq_true rfl) dX3_init_54 ?_
  refine n_aload_n 0 C dX3_init_57 rfl rfl ?_
  refine n_sipush (v := 432) 432 C dX3_init_58 (by decide) ?_
  refine n_newarr 0 (nn := 432) (atype := .int) (ty := .int) (a0 := (432, .inl (fun _ => 0))) (N' := 432) (W1 := fun q61 => (h0, .inr (3, [.ref (a0 0), .ref q19, .ref q28, .ref q36, .ref q44, .ref q52, .null, .null, .null])) :: ((((((([] ++ g1 cA a0) ++ [(q19, .inl (cA 0, 480, .inl (fun _ => 0)))]) ++ [(q28, .inl (cA 0, 480, .inl (fun _ => 0)))]) ++ [(q36, .inl (cA 0, 12, .inl (fun _ => 0)))]) ++ [(q44, .inl (cA 0, 12, .inl (fun _ => 0)))]) ++ [(q52, .inl (cA 0, 12, .inl (fun _ => 0)))]) ++ [(q61, .inl (cA 0, 432, .inl (fun _ => 0)))])) C (mem_all 133 (by decide +kernel) (by decide +kernel)) rfl rfl (fun _ h => h) (fun _ => rfl) (by decide) (by decide) (by decide) (Nat.le_of_ble_eq_true rfl) (Nat.le_of_ble_eq_true rfl) dX3_init_61 (fun _ => rfl) (fun q61 => ?_)
  refine n_putR 6 C fl3_34 rfl hm rfl (tyX3_ok 6 (by decide)) rfl rfl (Nat.le_of_ble_eq_true rfl) dX3_init_63 ?_
  refine n_aload_n 0 C dX3_init_66 rfl rfl ?_
  refine n_bipush (v := 12) 12 C dX3_init_67 (by decide) ?_
  refine n_newarr 0 (nn := 12) (atype := .int) (ty := .int) (a0 := (12, .inl (fun _ => 0))) (N' := 12) (W1 := fun q69 => (h0, .inr (3, [.ref (a0 0), .ref q19, .ref q28, .ref q36, .ref q44, .ref q52, .ref q61, .null, .null])) :: (((((((([] ++ g1 cA a0) ++ [(q19, .inl (cA 0, 480, .inl (fun _ => 0)))]) ++ [(q28, .inl (cA 0, 480, .inl (fun _ => 0)))]) ++ [(q36, .inl (cA 0, 12, .inl (fun _ => 0)))]) ++ [(q44, .inl (cA 0, 12, .inl (fun _ => 0)))]) ++ [(q52, .inl (cA 0, 12, .inl (fun _ => 0)))]) ++ [(q61, .inl (cA 0, 432, .inl (fun _ => 0)))]) ++ [(q69, .inl (cA 0, 12, .inl (fun _ => 0)))])) C (mem_all 133 (by decide +kernel) (by decide +kernel)) rfl rfl (fun _ h => h) (fun _ => rfl) (by decide) (by decide) (by decide) (Nat.le_of_ble_eq_true rfl) (Nat.le_of_ble_eq_true rfl) dX3_init_69 (fun _ => rfl) (fun q69 => ?_)
  refine n_putR 7 C fl3_37 rfl hm rfl (tyX3_ok 7 (by decide)) rfl rfl (Nat.le_of_ble_eq_true rfl) dX3_init_71 ?_
  refine n_aload_n 0 C dX3_init_74 rfl rfl ?_
  refine n_bipush (v := 12) 12 C dX3_init_75 (by decide) ?_
  refine n_newarr 0 (nn := 12) (atype := .int) (ty := .int) (a0 := (12, .inl (fun _ => 0))) (N' := 12) (W1 := fun q77 => (h0, .inr (3, [.ref (a0 0), .ref q19, .ref q28, .ref q36, .ref q44, .ref q52, .ref q61, .ref q69, .null])) :: ((((((((([] ++ g1 cA a0) ++ [(q19, .inl (cA 0, 480, .inl (fun _ => 0)))]) ++ [(q28, .inl (cA 0, 480, .inl (fun _ => 0)))]) ++ [(q36, .inl (cA 0, 12, .inl (fun _ => 0)))]) ++ [(q44, .inl (cA 0, 12, .inl (fun _ => 0)))]) ++ [(q52, .inl (cA 0, 12, .inl (fun _ => 0)))]) ++ [(q61, .inl (cA 0, 432, .inl (fun _ => 0)))]) ++ [(q69, .inl (cA 0, 12, .inl (fun _ => 0)))]) ++ [(q77, .inl (cA 0, 12, .inl (fun _ => 0)))])) C (mem_all 133 (by decide +kernel) (by decide +kernel)) rfl rfl (fun _ h => h) (fun _ => rfl) (by decide) (by decide) (by decide) (Nat.le_of_ble_eq_true rfl) (Nat.le_of_ble_eq_true rfl) dX3_init_77 (fun _ => rfl) (fun q77 => ?_)
  refine n_putR 8 C fl3_40 rfl hm rfl (tyX3_ok 8 (by decide)) rfl rfl (Nat.le_of_ble_eq_true rfl) dX3_init_79 ?_
  exact n_ret (grp := g3) (pk [h0, a0 0, a0 1, a0 2, a0 3, a0 4, q19, q28, q36, q44, q52, q61, q69, q77]) C hr hlocks dX3_init_82 (Nat.le_of_ble_eq_true rfl) (Nat.le_of_ble_eq_true rfl) rfl (by rfl)
abbrev rmN4 : Room := { frames := 1, cells := 2, slots := 108, locals := 12 }
def g4 (cA : Nat → ClassId) (a : Nat → Nat) : va_W := (a 0, .inr (4, [.ref (a 1), .ref (a 2)])) :: (a 1, .inl (cA 0, 12, .inl (fun _ => 0))) :: (a 2, .inl (cA 0, 96, .inl (fun _ => 0))) :: []
set_option maxHeartbeats 4000000 in
set_option maxRecDepth 100000 in
theorem con4_init : ConN yX4_init cX4_init 1 rmN4 [] 4 [.null, .null] (g4) := by
  refine conN_of (L := fun h0 => [(0, .ref h0)]) rfl (fun _ => Nat.le_of_ble_eq_true rfl) (fun _ => rfl) ?_
  intro l G cA h0 A p e s m args below meth c hA C hr hlocks hm
  refine n_aload_n 0 C dX4_init_0 rfl rfl ?_
  refine n_objInit C ⟨mem_all 189 (by decide +kernel) (by decide +kernel), mem_all 99 (by decide +kernel) (by decide +kernel), mem_all 100 (by decide +kernel) (by decide +kernel)⟩ ⟨Nat.le_of_ble_eq_true rfl, Nat.le_of_ble_eq_true rfl⟩ dX4_init_1 ?_
  refine n_aload_n 0 C dX4_init_4 rfl rfl ?_
  refine n_bipush (v := 12) 12 C dX4_init_5 (by decide) ?_
  refine n_newarr 0 (nn := 12) (atype := .int) (ty := .int) (a0 := (12, .inl (fun _ => 0))) (N' := 12) (W1 := fun q7 => (h0, .inr (4, [.null, .null])) :: (q7, .inl (cA 0, 12, .inl (fun _ => 0))) :: []) C (mem_all 133 (by decide +kernel) (by decide +kernel)) rfl rfl (fun _ h => h) (fun _ => rfl) (by decide) (by decide) (by decide) (Nat.le_of_ble_eq_true rfl) (Nat.le_of_ble_eq_true rfl) dX4_init_7 (fun _ => rfl) (fun q7 => ?_)
  refine n_putR 0 C fl4_9 rfl hm rfl (tyX4_ok 0 (by decide)) rfl rfl (Nat.le_of_ble_eq_true rfl) dX4_init_9 ?_
  refine n_aload_n 0 C dX4_init_12 rfl rfl ?_
  refine n_bipush (v := 96) 96 C dX4_init_13 (by decide) ?_
  refine n_newarr 0 (nn := 96) (atype := .int) (ty := .int) (a0 := (96, .inl (fun _ => 0))) (N' := 96) (W1 := fun q15 => (h0, .inr (4, [.ref q7, .null])) :: (q7, .inl (cA 0, 12, .inl (fun _ => 0))) :: (q15, .inl (cA 0, 96, .inl (fun _ => 0))) :: []) C (mem_all 133 (by decide +kernel) (by decide +kernel)) rfl rfl (fun _ h => h) (fun _ => rfl) (by decide) (by decide) (by decide) (Nat.le_of_ble_eq_true rfl) (Nat.le_of_ble_eq_true rfl) dX4_init_15 (fun _ => rfl) (fun q15 => ?_)
  refine n_putR 1 C fl4_15 rfl hm rfl (tyX4_ok 1 (by decide)) rfl rfl (Nat.le_of_ble_eq_true rfl) dX4_init_17 ?_
  exact n_ret (grp := g4) (pk [h0, q7, q15]) C hr hlocks dX4_init_20 (Nat.le_of_ble_eq_true rfl) (Nat.le_of_ble_eq_true rfl) rfl (by rfl)
abbrev rmN0 : Room := { frames := 1, cells := 4, slots := 320, locals := 12 }
def g0 (cA : Nat → ClassId) (a : Nat → Nat) : va_W := (a 0, .inr (0, [.ref (a 1), .int 0, .ref (a 2), .ref (a 3), .int 0, .ref (a 4), .int 0, .int 0, .int 0, .int 0])) :: (a 1, .inl (cA 2, 80, .inl (fun _ => 0))) :: (a 2, .inl (cA 2, 80, .inl (fun _ => 0))) :: (a 3, .inl (cA 0, 80, .inl (fun _ => 0))) :: (a 4, .inl (cA 0, 80, .inl (fun _ => 0))) :: []
set_option maxHeartbeats 4000000 in
set_option maxRecDepth 100000 in
theorem con0_init : ConN yX0_init cX0_init 1 rmN0 [] 0 [.null, .int 0, .null, .null, .int 0, .null, .int 0, .int 0, .int 0, .int 0] (g0) := by
  refine conN_of (L := fun h0 => [(0, .ref h0)]) rfl (fun _ => Nat.le_of_ble_eq_true rfl) (fun _ => rfl) ?_
  intro l G cA h0 A p e s m args below meth c hA C hr hlocks hm
  refine n_aload_n 0 C dX0_init_0 rfl rfl ?_
  refine n_objInit C ⟨mem_all 202 (by decide +kernel) (by decide +kernel), mem_all 99 (by decide +kernel) (by decide +kernel), mem_all 100 (by decide +kernel) (by decide +kernel)⟩ ⟨Nat.le_of_ble_eq_true rfl, Nat.le_of_ble_eq_true rfl⟩ dX0_init_1 ?_
  refine n_aload_n 0 C dX0_init_4 rfl rfl ?_
  refine n_bipush (v := 80) 80 C dX0_init_5 (by decide) ?_
  refine n_newarr 2 (nn := 80) (atype := .char) (ty := .char) (a0 := (80, .inl (fun _ => 0))) (N' := 80) (W1 := fun q7 => (h0, .inr (0, [.null, .int 0, .null, .null, .int 0, .null, .int 0, .int 0, .int 0, .int 0])) :: (q7, .inl (cA 2, 80, .inl (fun _ => 0))) :: []) C (mem_all 234 (by decide +kernel) (by decide +kernel)) rfl rfl (fun _ h => h) (fun _ => rfl) (by decide) (by decide) (by decide) (Nat.le_of_ble_eq_true rfl) (Nat.le_of_ble_eq_true rfl) dX0_init_7 (fun _ => rfl) (fun q7 => ?_)
  refine n_putR 0 C fl0_9 rfl hm rfl (tyX0_ok 0 (by decide)) rfl rfl (Nat.le_of_ble_eq_true rfl) dX0_init_9 ?_
  refine n_aload_n 0 C dX0_init_12 rfl rfl ?_
  refine n_bipush (v := 80) 80 C dX0_init_13 (by decide) ?_
  refine n_newarr 2 (nn := 80) (atype := .char) (ty := .char) (a0 := (80, .inl (fun _ => 0))) (N' := 80) (W1 := fun q15 => (h0, .inr (0, [.ref q7, .int 0, .null, .null, .int 0, .null, .int 0, .int 0, .int 0, .int 0])) :: (q7, .inl (cA 2, 80, .inl (fun _ => 0))) :: (q15, .inl (cA 2, 80, .inl (fun _ => 0))) :: []) C (mem_all 234 (by decide +kernel) (by decide +kernel)) rfl rfl (fun _ h => h) (fun _ => rfl) (by decide) (by decide) (by decide) (Nat.le_of_ble_eq_true rfl) (Nat.le_of_ble_eq_true rfl) dX0_init_15 (fun _ => rfl) (fun q15 => ?_)
  refine n_putR 2 C fl0_15 rfl hm rfl (tyX0_ok 2 (by decide)) rfl rfl (Nat.le_of_ble_eq_true rfl) dX0_init_17 ?_
  refine n_aload_n 0 C dX0_init_20 rfl rfl ?_
  refine n_bipush (v := 80) 80 C dX0_init_21 (by decide) ?_
  refine n_newarr 0 (nn := 80) (atype := .int) (ty := .int) (a0 := (80, .inl (fun _ => 0))) (N' := 80) (W1 := fun q23 => (h0, .inr (0, [.ref q7, .int 0, .ref q15, .null, .int 0, .null, .int 0, .int 0, .int 0, .int 0])) :: (q7, .inl (cA 2, 80, .inl (fun _ => 0))) :: (q15, .inl (cA 2, 80, .inl (fun _ => 0))) :: (q23, .inl (cA 0, 80, .inl (fun _ => 0))) :: []) C (mem_all 133 (by decide +kernel) (by decide +kernel)) rfl rfl (fun _ h => h) (fun _ => rfl) (by decide) (by decide) (by decide) (Nat.le_of_ble_eq_true rfl) (Nat.le_of_ble_eq_true rfl) dX0_init_23 (fun _ => rfl) (fun q23 => ?_)
  refine n_putR 3 C fl0_18 rfl hm rfl (tyX0_ok 3 (by decide)) rfl rfl (Nat.le_of_ble_eq_true rfl) dX0_init_25 ?_
  refine n_aload_n 0 C dX0_init_28 rfl rfl ?_
  refine n_bipush (v := 80) 80 C dX0_init_29 (by decide) ?_
  refine n_newarr 0 (nn := 80) (atype := .int) (ty := .int) (a0 := (80, .inl (fun _ => 0))) (N' := 80) (W1 := fun q31 => (h0, .inr (0, [.ref q7, .int 0, .ref q15, .ref q23, .int 0, .null, .int 0, .int 0, .int 0, .int 0])) :: (q7, .inl (cA 2, 80, .inl (fun _ => 0))) :: (q15, .inl (cA 2, 80, .inl (fun _ => 0))) :: (q23, .inl (cA 0, 80, .inl (fun _ => 0))) :: (q31, .inl (cA 0, 80, .inl (fun _ => 0))) :: []) C (mem_all 133 (by decide +kernel) (by decide +kernel)) rfl rfl (fun _ h => h) (fun _ => rfl) (by decide) (by decide) (by decide) (Nat.le_of_ble_eq_true rfl) (Nat.le_of_ble_eq_true rfl) dX0_init_31 (fun _ => rfl) (fun q31 => ?_)
  refine n_putR 5 C fl0_22 rfl hm rfl (tyX0_ok 5 (by decide)) rfl rfl (Nat.le_of_ble_eq_true rfl) dX0_init_33 ?_
  exact n_ret (grp := g0) (pk [h0, q7, q15, q23, q31]) C hr hlocks dX0_init_36 (Nat.le_of_ble_eq_true rfl) (Nat.le_of_ble_eq_true rfl) rfl (by rfl)
