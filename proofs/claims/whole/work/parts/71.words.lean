/-! THE CONSTRUCTORS: their decode rows and words (printed by gen/g5.py) -/
theorem dX0_init_0 : decode cX0_init 0 = .ok (.aload_n 0, 1) := by decide +kernel
theorem dX0_init_1 : decode cX0_init 1 = .ok (.invokespecial 3, 3) := by decide +kernel
theorem dX0_init_4 : decode cX0_init 4 = .ok (.aload_n 0, 1) := by decide +kernel
theorem dX0_init_5 : decode cX0_init 5 = .ok (.iconst 0, 1) := by decide +kernel
theorem dX0_init_6 : decode cX0_init 6 = .ok (.putfield 9, 3) := by decide +kernel
theorem dX0_init_9 : decode cX0_init 9 = .ok (.aload_n 0, 1) := by decide +kernel
theorem dX0_init_10 : decode cX0_init 10 = .ok (.bipush 7, 2) := by decide +kernel
theorem dX0_init_12 : decode cX0_init 12 = .ok (.newarray .int, 2) := by decide +kernel
theorem dX0_init_14 : decode cX0_init 14 = .ok (.putfield 15, 3) := by decide +kernel
theorem dX0_init_17 : decode cX0_init 17 = .ok (.aload_n 0, 1) := by decide +kernel
theorem dX0_init_18 : decode cX0_init 18 = .ok (.bipush 7, 2) := by decide +kernel
theorem dX0_init_20 : decode cX0_init 20 = .ok (.newarray .int, 2) := by decide +kernel
theorem dX0_init_22 : decode cX0_init 22 = .ok (.putfield 19, 3) := by decide +kernel
theorem dX0_init_25 : decode cX0_init 25 = .ok (.aload_n 0, 1) := by decide +kernel
theorem dX0_init_26 : decode cX0_init 26 = .ok (.bipush 7, 2) := by decide +kernel
theorem dX0_init_28 : decode cX0_init 28 = .ok (.newarray .int, 2) := by decide +kernel
theorem dX0_init_30 : decode cX0_init 30 = .ok (.putfield 22, 3) := by decide +kernel
theorem dX0_init_33 : decode cX0_init 33 = .ok (.aload_n 0, 1) := by decide +kernel
theorem dX0_init_34 : decode cX0_init 34 = .ok (.bipush 40, 2) := by decide +kernel
theorem dX0_init_36 : decode cX0_init 36 = .ok (.newarray .int, 2) := by decide +kernel
theorem dX0_init_38 : decode cX0_init 38 = .ok (.putfield 25, 3) := by decide +kernel
theorem dX0_init_41 : decode cX0_init 41 = .ok (.aload_n 0, 1) := by decide +kernel
theorem dX0_init_42 : decode cX0_init 42 = .ok (.iconst 5, 1) := by decide +kernel
theorem dX0_init_43 : decode cX0_init 43 = .ok (.putfield 28, 3) := by decide +kernel
theorem dX0_init_46 : decode cX0_init 46 = .ok (.aload_n 0, 1) := by decide +kernel
theorem dX0_init_47 : decode cX0_init 47 = .ok (.iconst 0, 1) := by decide +kernel
theorem dX0_init_48 : decode cX0_init 48 = .ok (.putfield 31, 3) := by decide +kernel
theorem dX0_init_51 : decode cX0_init 51 = .ok (.aload_n 0, 1) := by decide +kernel
theorem dX0_init_52 : decode cX0_init 52 = .ok (.iconst 0, 1) := by decide +kernel
theorem dX0_init_53 : decode cX0_init 53 = .ok (.putfield 34, 3) := by decide +kernel
theorem dX0_init_56 : decode cX0_init 56 = .ok (.aload_n 0, 1) := by decide +kernel
theorem dX0_init_57 : decode cX0_init 57 = .ok (.iconst 0, 1) := by decide +kernel
theorem dX0_init_58 : decode cX0_init 58 = .ok (.putfield 37, 3) := by decide +kernel
theorem dX0_init_61 : decode cX0_init 61 = .ok (.aload_n 0, 1) := by decide +kernel
theorem dX0_init_62 : decode cX0_init 62 = .ok (.iconst 0, 1) := by decide +kernel
theorem dX0_init_63 : decode cX0_init 63 = .ok (.putfield 40, 3) := by decide +kernel
theorem dX0_init_66 : decode cX0_init 66 = .ok (.aload_n 0, 1) := by decide +kernel
theorem dX0_init_67 : decode cX0_init 67 = .ok (.iconst 1, 1) := by decide +kernel
theorem dX0_init_68 : decode cX0_init 68 = .ok (.putfield 43, 3) := by decide +kernel
theorem dX0_init_71 : decode cX0_init 71 = .ok (.iconst 0, 1) := by decide +kernel
theorem dX0_init_72 : decode cX0_init 72 = .ok (.istore_n 1, 1) := by decide +kernel
theorem dX0_init_73 : decode cX0_init 73 = .ok (.iload_n 1, 1) := by decide +kernel
theorem dX0_init_74 : decode cX0_init 74 = .ok (.bipush 40, 2) := by decide +kernel
theorem dX0_init_76 : decode cX0_init 76 = .ok (.if_icmp .ge 27, 3) := by decide +kernel
theorem dX0_init_79 : decode cX0_init 79 = .ok (.aload_n 0, 1) := by decide +kernel
theorem dX0_init_80 : decode cX0_init 80 = .ok (.getfield 25, 3) := by decide +kernel
theorem dX0_init_83 : decode cX0_init 83 = .ok (.iload_n 1, 1) := by decide +kernel
theorem dX0_init_84 : decode cX0_init 84 = .ok (.iload_n 1, 1) := by decide +kernel
theorem dX0_init_85 : decode cX0_init 85 = .ok (.iconst 5, 1) := by decide +kernel
theorem dX0_init_86 : decode cX0_init 86 = .ok (.idiv, 1) := by decide +kernel
theorem dX0_init_87 : decode cX0_init 87 = .ok (.iload_n 1, 1) := by decide +kernel
theorem dX0_init_88 : decode cX0_init 88 = .ok (.iconst 5, 1) := by decide +kernel
theorem dX0_init_89 : decode cX0_init 89 = .ok (.irem, 1) := by decide +kernel
theorem dX0_init_90 : decode cX0_init 90 = .ok (.iadd, 1) := by decide +kernel
theorem dX0_init_91 : decode cX0_init 91 = .ok (.iconst 1, 1) := by decide +kernel
theorem dX0_init_92 : decode cX0_init 92 = .ok (.iadd, 1) := by decide +kernel
theorem dX0_init_93 : decode cX0_init 93 = .ok (.bipush 8, 2) := by decide +kernel
theorem dX0_init_95 : decode cX0_init 95 = .ok (.irem, 1) := by decide +kernel
theorem dX0_init_96 : decode cX0_init 96 = .ok (.iastore, 1) := by decide +kernel
theorem dX0_init_97 : decode cX0_init 97 = .ok (.iinc 1 1, 3) := by decide +kernel
theorem dX0_init_100 : decode cX0_init 100 = .ok (.goto (-27), 3) := by decide +kernel
theorem dX0_init_103 : decode cX0_init 103 = .ok (.return_, 1) := by decide +kernel
theorem dX1_init_0 : decode cX1_init 0 = .ok (.aload_n 0, 1) := by decide +kernel
theorem dX1_init_1 : decode cX1_init 1 = .ok (.invokespecial 3, 3) := by decide +kernel
theorem dX1_init_4 : decode cX1_init 4 = .ok (.aload_n 0, 1) := by decide +kernel
theorem dX1_init_5 : decode cX1_init 5 = .ok (.bipush 20, 2) := by decide +kernel
theorem dX1_init_7 : decode cX1_init 7 = .ok (.newarray .int, 2) := by decide +kernel
theorem dX1_init_9 : decode cX1_init 9 = .ok (.putfield 9, 3) := by decide +kernel
theorem dX1_init_12 : decode cX1_init 12 = .ok (.aload_n 0, 1) := by decide +kernel
theorem dX1_init_13 : decode cX1_init 13 = .ok (.iconst 0, 1) := by decide +kernel
theorem dX1_init_14 : decode cX1_init 14 = .ok (.putfield 15, 3) := by decide +kernel
theorem dX1_init_17 : decode cX1_init 17 = .ok (.aload_n 0, 1) := by decide +kernel
theorem dX1_init_18 : decode cX1_init 18 = .ok (.iconst 0, 1) := by decide +kernel
theorem dX1_init_19 : decode cX1_init 19 = .ok (.putfield 19, 3) := by decide +kernel
theorem dX1_init_22 : decode cX1_init 22 = .ok (.aload_n 0, 1) := by decide +kernel
theorem dX1_init_23 : decode cX1_init 23 = .ok (.iconst 0, 1) := by decide +kernel
theorem dX1_init_24 : decode cX1_init 24 = .ok (.putfield 22, 3) := by decide +kernel
theorem dX1_init_27 : decode cX1_init 27 = .ok (.aload_n 0, 1) := by decide +kernel
theorem dX1_init_28 : decode cX1_init 28 = .ok (.iconst 0, 1) := by decide +kernel
theorem dX1_init_29 : decode cX1_init 29 = .ok (.putfield 25, 3) := by decide +kernel
theorem dX1_init_32 : decode cX1_init 32 = .ok (.return_, 1) := by decide +kernel
theorem dX2_init_0 : decode cX2_init 0 = .ok (.aload_n 0, 1) := by decide +kernel
theorem dX2_init_1 : decode cX2_init 1 = .ok (.invokespecial 3, 3) := by decide +kernel
theorem dX2_init_4 : decode cX2_init 4 = .ok (.aload_n 0, 1) := by decide +kernel
theorem dX2_init_5 : decode cX2_init 5 = .ok (.iconst 0, 1) := by decide +kernel
theorem dX2_init_6 : decode cX2_init 6 = .ok (.putfield 9, 3) := by decide +kernel
theorem dX2_init_9 : decode cX2_init 9 = .ok (.aload_n 0, 1) := by decide +kernel
theorem dX2_init_10 : decode cX2_init 10 = .ok (.iconst 0, 1) := by decide +kernel
theorem dX2_init_11 : decode cX2_init 11 = .ok (.putfield 15, 3) := by decide +kernel
theorem dX2_init_14 : decode cX2_init 14 = .ok (.aload_n 0, 1) := by decide +kernel
theorem dX2_init_15 : decode cX2_init 15 = .ok (.bipush 7, 2) := by decide +kernel
theorem dX2_init_17 : decode cX2_init 17 = .ok (.newarray .int, 2) := by decide +kernel
theorem dX2_init_19 : decode cX2_init 19 = .ok (.putfield 18, 3) := by decide +kernel
theorem dX2_init_22 : decode cX2_init 22 = .ok (.aload_n 0, 1) := by decide +kernel
theorem dX2_init_23 : decode cX2_init 23 = .ok (.bipush 7, 2) := by decide +kernel
theorem dX2_init_25 : decode cX2_init 25 = .ok (.newarray .int, 2) := by decide +kernel
theorem dX2_init_27 : decode cX2_init 27 = .ok (.putfield 22, 3) := by decide +kernel
theorem dX2_init_30 : decode cX2_init 30 = .ok (.aload_n 0, 1) := by decide +kernel
theorem dX2_init_31 : decode cX2_init 31 = .ok (.bipush 7, 2) := by decide +kernel
theorem dX2_init_33 : decode cX2_init 33 = .ok (.newarray .int, 2) := by decide +kernel
theorem dX2_init_35 : decode cX2_init 35 = .ok (.putfield 25, 3) := by decide +kernel
theorem dX2_init_38 : decode cX2_init 38 = .ok (.return_, 1) := by decide +kernel
theorem dX3_init_0 : decode cX3_init 0 = .ok (.aload_n 0, 1) := by decide +kernel
theorem dX3_init_1 : decode cX3_init 1 = .ok (.invokespecial 3, 3) := by decide +kernel
theorem dX3_init_4 : decode cX3_init 4 = .ok (.aload_n 0, 1) := by decide +kernel
theorem dX3_init_5 : decode cX3_init 5 = .ok (.bipush 8, 2) := by decide +kernel
theorem dX3_init_7 : decode cX3_init 7 = .ok (.newarray .int, 2) := by decide +kernel
theorem dX3_init_9 : decode cX3_init 9 = .ok (.putfield 9, 3) := by decide +kernel
theorem dX3_init_12 : decode cX3_init 12 = .ok (.aload_n 0, 1) := by decide +kernel
theorem dX3_init_13 : decode cX3_init 13 = .ok (.iconst 0, 1) := by decide +kernel
theorem dX3_init_14 : decode cX3_init 14 = .ok (.putfield 15, 3) := by decide +kernel
theorem dX3_init_17 : decode cX3_init 17 = .ok (.return_, 1) := by decide +kernel
theorem dX4_init_0 : decode cX4_init 0 = .ok (.aload_n 0, 1) := by decide +kernel
theorem dX4_init_1 : decode cX4_init 1 = .ok (.invokespecial 3, 3) := by decide +kernel
theorem dX4_init_4 : decode cX4_init 4 = .ok (.aload_n 0, 1) := by decide +kernel
theorem dX4_init_5 : decode cX4_init 5 = .ok (.iconst (-1), 1) := by decide +kernel
theorem dX4_init_6 : decode cX4_init 6 = .ok (.putfield 9, 3) := by decide +kernel
theorem dX4_init_9 : decode cX4_init 9 = .ok (.aload_n 0, 1) := by decide +kernel
theorem dX4_init_10 : decode cX4_init 10 = .ok (.iconst 0, 1) := by decide +kernel
theorem dX4_init_11 : decode cX4_init 11 = .ok (.putfield 15, 3) := by decide +kernel
theorem dX4_init_14 : decode cX4_init 14 = .ok (.aload_n 0, 1) := by decide +kernel
theorem dX4_init_15 : decode cX4_init 15 = .ok (.aconst_null, 1) := by decide +kernel
theorem dX4_init_16 : decode cX4_init 16 = .ok (.putfield 18, 3) := by decide +kernel
theorem dX4_init_19 : decode cX4_init 19 = .ok (.aload_n 0, 1) := by decide +kernel
theorem dX4_init_20 : decode cX4_init 20 = .ok (.iconst 3, 1) := by decide +kernel
theorem dX4_init_21 : decode cX4_init 21 = .ok (.newarray .int, 2) := by decide +kernel
theorem dX4_init_23 : decode cX4_init 23 = .ok (.putfield 22, 3) := by decide +kernel
theorem dX4_init_26 : decode cX4_init 26 = .ok (.return_, 1) := by decide +kernel
theorem dX5_init_0 : decode cX5_init 0 = .ok (.aload_n 0, 1) := by decide +kernel
theorem dX5_init_1 : decode cX5_init 1 = .ok (.invokespecial 3, 3) := by decide +kernel
theorem dX5_init_4 : decode cX5_init 4 = .ok (.aload_n 0, 1) := by decide +kernel
theorem dX5_init_5 : decode cX5_init 5 = .ok (.iconst 0, 1) := by decide +kernel
theorem dX5_init_6 : decode cX5_init 6 = .ok (.putfield 11, 3) := by decide +kernel
theorem dX5_init_9 : decode cX5_init 9 = .ok (.aload_n 0, 1) := by decide +kernel
theorem dX5_init_10 : decode cX5_init 10 = .ok (.iconst (-1), 1) := by decide +kernel
theorem dX5_init_11 : decode cX5_init 11 = .ok (.putfield 15, 3) := by decide +kernel
theorem dX5_init_14 : decode cX5_init 14 = .ok (.aload_n 0, 1) := by decide +kernel
theorem dX5_init_15 : decode cX5_init 15 = .ok (.iconst 0, 1) := by decide +kernel
theorem dX5_init_16 : decode cX5_init 16 = .ok (.putfield 18, 3) := by decide +kernel
theorem dX5_init_19 : decode cX5_init 19 = .ok (.aload_n 0, 1) := by decide +kernel
theorem dX5_init_20 : decode cX5_init 20 = .ok (.iconst 0, 1) := by decide +kernel
theorem dX5_init_21 : decode cX5_init 21 = .ok (.putfield 21, 3) := by decide +kernel
theorem dX5_init_24 : decode cX5_init 24 = .ok (.aload_n 0, 1) := by decide +kernel
theorem dX5_init_25 : decode cX5_init 25 = .ok (.sipush 160, 3) := by decide +kernel
theorem dX5_init_28 : decode cX5_init 28 = .ok (.newarray .long, 2) := by decide +kernel
theorem dX5_init_30 : decode cX5_init 30 = .ok (.putfield 24, 3) := by decide +kernel
theorem dX5_init_33 : decode cX5_init 33 = .ok (.return_, 1) := by decide +kernel
theorem dX6_init_0 : decode cX6_init 0 = .ok (.aload_n 0, 1) := by decide +kernel
theorem dX6_init_1 : decode cX6_init 1 = .ok (.invokespecial 3, 3) := by decide +kernel
theorem dX6_init_4 : decode cX6_init 4 = .ok (.aload_n 0, 1) := by decide +kernel
theorem dX6_init_5 : decode cX6_init 5 = .ok (.iconst 0, 1) := by decide +kernel
theorem dX6_init_6 : decode cX6_init 6 = .ok (.putfield 9, 3) := by decide +kernel
theorem dX6_init_9 : decode cX6_init 9 = .ok (.aload_n 0, 1) := by decide +kernel
theorem dX6_init_10 : decode cX6_init 10 = .ok (.iconst 0, 1) := by decide +kernel
theorem dX6_init_11 : decode cX6_init 11 = .ok (.putfield 15, 3) := by decide +kernel
theorem dX6_init_14 : decode cX6_init 14 = .ok (.aload_n 0, 1) := by decide +kernel
theorem dX6_init_15 : decode cX6_init 15 = .ok (.iconst 0, 1) := by decide +kernel
theorem dX6_init_16 : decode cX6_init 16 = .ok (.putfield 18, 3) := by decide +kernel
theorem dX6_init_19 : decode cX6_init 19 = .ok (.aload_n 0, 1) := by decide +kernel
theorem dX6_init_20 : decode cX6_init 20 = .ok (.iconst 0, 1) := by decide +kernel
theorem dX6_init_21 : decode cX6_init 21 = .ok (.putfield 21, 3) := by decide +kernel
theorem dX6_init_24 : decode cX6_init 24 = .ok (.aload_n 0, 1) := by decide +kernel
theorem dX6_init_25 : decode cX6_init 25 = .ok (.iconst 0, 1) := by decide +kernel
theorem dX6_init_26 : decode cX6_init 26 = .ok (.putfield 24, 3) := by decide +kernel
theorem dX6_init_29 : decode cX6_init 29 = .ok (.aload_n 0, 1) := by decide +kernel
theorem dX6_init_30 : decode cX6_init 30 = .ok (.bipush 16, 2) := by decide +kernel
theorem dX6_init_32 : decode cX6_init 32 = .ok (.newarray .int, 2) := by decide +kernel
theorem dX6_init_34 : decode cX6_init 34 = .ok (.putfield 27, 3) := by decide +kernel
theorem dX6_init_37 : decode cX6_init 37 = .ok (.return_, 1) := by decide +kernel
theorem dX7_init_0 : decode cX7_init 0 = .ok (.aload_n 0, 1) := by decide +kernel
theorem dX7_init_1 : decode cX7_init 1 = .ok (.invokespecial 1, 3) := by decide +kernel
theorem dX7_init_4 : decode cX7_init 4 = .ok (.aload_n 0, 1) := by decide +kernel
theorem dX7_init_5 : decode cX7_init 5 = .ok (.bipush 8, 2) := by decide +kernel
theorem dX7_init_7 : decode cX7_init 7 = .ok (.anewarray 9, 3) := by decide +kernel
theorem dX7_init_10 : decode cX7_init 10 = .ok (.putfield 11, 3) := by decide +kernel
theorem dX7_init_13 : decode cX7_init 13 = .ok (.aload_n 0, 1) := by decide +kernel
theorem dX7_init_14 : decode cX7_init 14 = .ok (.new 15, 3) := by decide +kernel
theorem dX7_init_17 : decode cX7_init 17 = .ok (.dup, 1) := by decide +kernel
theorem dX7_init_18 : decode cX7_init 18 = .ok (.invokespecial 17, 3) := by decide +kernel
theorem dX7_init_21 : decode cX7_init 21 = .ok (.putfield 18, 3) := by decide +kernel
theorem dX7_init_24 : decode cX7_init 24 = .ok (.aload_n 0, 1) := by decide +kernel
theorem dX7_init_25 : decode cX7_init 25 = .ok (.new 15, 3) := by decide +kernel
theorem dX7_init_28 : decode cX7_init 28 = .ok (.dup, 1) := by decide +kernel
theorem dX7_init_29 : decode cX7_init 29 = .ok (.invokespecial 17, 3) := by decide +kernel
theorem dX7_init_32 : decode cX7_init 32 = .ok (.putfield 22, 3) := by decide +kernel
theorem dX7_init_35 : decode cX7_init 35 = .ok (.aload_n 0, 1) := by decide +kernel
theorem dX7_init_36 : decode cX7_init 36 = .ok (.new 15, 3) := by decide +kernel
theorem dX7_init_39 : decode cX7_init 39 = .ok (.dup, 1) := by decide +kernel
theorem dX7_init_40 : decode cX7_init 40 = .ok (.invokespecial 17, 3) := by decide +kernel
theorem dX7_init_43 : decode cX7_init 43 = .ok (.putfield 25, 3) := by decide +kernel
theorem dX7_init_46 : decode cX7_init 46 = .ok (.aload_n 0, 1) := by decide +kernel
theorem dX7_init_47 : decode cX7_init 47 = .ok (.iconst 0, 1) := by decide +kernel
theorem dX7_init_48 : decode cX7_init 48 = .ok (.putfield 28, 3) := by decide +kernel
theorem dX7_init_51 : decode cX7_init 51 = .ok (.aload_n 0, 1) := by decide +kernel
theorem dX7_init_52 : decode cX7_init 52 = .ok (.new 32, 3) := by decide +kernel
theorem dX7_init_55 : decode cX7_init 55 = .ok (.dup, 1) := by decide +kernel
theorem dX7_init_56 : decode cX7_init 56 = .ok (.invokespecial 34, 3) := by decide +kernel
theorem dX7_init_59 : decode cX7_init 59 = .ok (.putfield 35, 3) := by decide +kernel
theorem dX7_init_62 : decode cX7_init 62 = .ok (.aload_n 0, 1) := by decide +kernel
theorem dX7_init_63 : decode cX7_init 63 = .ok (.new 39, 3) := by decide +kernel
theorem dX7_init_66 : decode cX7_init 66 = .ok (.dup, 1) := by decide +kernel
theorem dX7_init_67 : decode cX7_init 67 = .ok (.invokespecial 41, 3) := by decide +kernel
theorem dX7_init_70 : decode cX7_init 70 = .ok (.putfield 42, 3) := by decide +kernel
theorem dX7_init_73 : decode cX7_init 73 = .ok (.aload_n 0, 1) := by decide +kernel
theorem dX7_init_74 : decode cX7_init 74 = .ok (.new 46, 3) := by decide +kernel
theorem dX7_init_77 : decode cX7_init 77 = .ok (.dup, 1) := by decide +kernel
theorem dX7_init_78 : decode cX7_init 78 = .ok (.invokespecial 48, 3) := by decide +kernel
theorem dX7_init_81 : decode cX7_init 81 = .ok (.putfield 49, 3) := by decide +kernel
theorem dX7_init_84 : decode cX7_init 84 = .ok (.aload_n 0, 1) := by decide +kernel
theorem dX7_init_85 : decode cX7_init 85 = .ok (.new 53, 3) := by decide +kernel
theorem dX7_init_88 : decode cX7_init 88 = .ok (.dup, 1) := by decide +kernel
theorem dX7_init_89 : decode cX7_init 89 = .ok (.invokespecial 55, 3) := by decide +kernel
theorem dX7_init_92 : decode cX7_init 92 = .ok (.putfield 56, 3) := by decide +kernel
theorem dX7_init_95 : decode cX7_init 95 = .ok (.aload_n 0, 1) := by decide +kernel
theorem dX7_init_96 : decode cX7_init 96 = .ok (.new 53, 3) := by decide +kernel
theorem dX7_init_99 : decode cX7_init 99 = .ok (.dup, 1) := by decide +kernel
theorem dX7_init_100 : decode cX7_init 100 = .ok (.invokespecial 55, 3) := by decide +kernel
theorem dX7_init_103 : decode cX7_init 103 = .ok (.putfield 60, 3) := by decide +kernel
theorem dX7_init_106 : decode cX7_init 106 = .ok (.aload_n 0, 1) := by decide +kernel
theorem dX7_init_107 : decode cX7_init 107 = .ok (.new 63, 3) := by decide +kernel
theorem dX7_init_110 : decode cX7_init 110 = .ok (.dup, 1) := by decide +kernel
theorem dX7_init_111 : decode cX7_init 111 = .ok (.invokespecial 65, 3) := by decide +kernel
theorem dX7_init_114 : decode cX7_init 114 = .ok (.putfield 66, 3) := by decide +kernel
theorem dX7_init_117 : decode cX7_init 117 = .ok (.aload_n 0, 1) := by decide +kernel
theorem dX7_init_118 : decode cX7_init 118 = .ok (.bipush 8, 2) := by decide +kernel
theorem dX7_init_120 : decode cX7_init 120 = .ok (.newarray .int, 2) := by decide +kernel
theorem dX7_init_122 : decode cX7_init 122 = .ok (.putfield 70, 3) := by decide +kernel
theorem dX7_init_125 : decode cX7_init 125 = .ok (.iconst 0, 1) := by decide +kernel
theorem dX7_init_126 : decode cX7_init 126 = .ok (.istore_n 1, 1) := by decide +kernel
theorem dX7_init_127 : decode cX7_init 127 = .ok (.iload_n 1, 1) := by decide +kernel
theorem dX7_init_128 : decode cX7_init 128 = .ok (.bipush 8, 2) := by decide +kernel
theorem dX7_init_130 : decode cX7_init 130 = .ok (.if_icmp .ge 22, 3) := by decide +kernel
theorem dX7_init_133 : decode cX7_init 133 = .ok (.aload_n 0, 1) := by decide +kernel
theorem dX7_init_134 : decode cX7_init 134 = .ok (.getfield 11, 3) := by decide +kernel
theorem dX7_init_137 : decode cX7_init 137 = .ok (.iload_n 1, 1) := by decide +kernel
theorem dX7_init_138 : decode cX7_init 138 = .ok (.new 9, 3) := by decide +kernel
theorem dX7_init_141 : decode cX7_init 141 = .ok (.dup, 1) := by decide +kernel
theorem dX7_init_142 : decode cX7_init 142 = .ok (.invokespecial 74, 3) := by decide +kernel
theorem dX7_init_145 : decode cX7_init 145 = .ok (.aastore, 1) := by decide +kernel
theorem dX7_init_146 : decode cX7_init 146 = .ok (.iinc 1 1, 3) := by decide +kernel
theorem dX7_init_149 : decode cX7_init 149 = .ok (.goto (-22), 3) := by decide +kernel
theorem dX7_init_152 : decode cX7_init 152 = .ok (.return_, 1) := by decide +kernel
theorem wz_ai : Cond.arrayClass .int ∈ fkB := fkB_in (tb_in1 (List.mem_of_getElem? (i := 86) (by decide +kernel))) rfl
theorem wz_al : Cond.arrayClass .long ∈ fkB := fkB_in (tb_in1 (List.mem_of_getElem? (i := 234) (by decide +kernel))) rfl
theorem wz_oi : Cond.instanceMethod objectInit ∈ fkB := fkB_in (tb_in1 (List.mem_of_getElem? (i := 22) (by decide +kernel))) rfl
theorem wz_oc : Cond.code objectInit ⟨#[0xb1]⟩ 1 none ∈ fkB := fkB_in (tb_in1 (List.mem_of_getElem? (i := 23) rfl)) rfl
theorem wzm_1_3 : Cond.methodLink RX1 3 objectInit ∈ fkB := fkB_in (tb_in1 (List.mem_of_getElem? (i := 112) (by decide +kernel))) rfl
theorem wz_1_9 : Cond.fieldLink RX1 9 "PieFunnels$Moves" "trace" "[I" ∈ fkB := fkB_in (tb_in1 (List.mem_of_getElem? (i := 113) (by decide +kernel))) rfl
theorem wz_1_15 : Cond.fieldLink RX1 15 "PieFunnels$Moves" "ran" "I" ∈ fkB := fkB_in (tb_in1 (List.mem_of_getElem? (i := 115) (by decide +kernel))) rfl
theorem wz_1_19 : Cond.fieldLink RX1 19 "PieFunnels$Moves" "kind" "I" ∈ fkB := fkB_in (tb_in1 (List.mem_of_getElem? (i := 117) (by decide +kernel))) rfl
theorem wz_1_22 : Cond.fieldLink RX1 22 "PieFunnels$Moves" "number" "I" ∈ fkB := fkB_in (tb_in1 (List.mem_of_getElem? (i := 119) (by decide +kernel))) rfl
theorem wz_1_25 : Cond.fieldLink RX1 25 "PieFunnels$Moves" "a" "I" ∈ fkB := fkB_in (tb_in1 (List.mem_of_getElem? (i := 120) (by decide +kernel))) rfl
theorem wzm_2_3 : Cond.methodLink RX2 3 objectInit ∈ fkB := fkB_in (tb_in1 (List.mem_of_getElem? (i := 184) (by decide +kernel))) rfl
theorem wz_2_9 : Cond.fieldLink RX2 9 "PieFunnels$Parting" "tribes" "I" ∈ fkB := fkB_in (tb_in1 (List.mem_of_getElem? (i := 185) (by decide +kernel))) rfl
theorem wz_2_15 : Cond.fieldLink RX2 15 "PieFunnels$Parting" "served" "I" ∈ fkB := fkB_in (tb_in1 (List.mem_of_getElem? (i := 187) (by decide +kernel))) rfl
theorem wz_2_18 : Cond.fieldLink RX2 18 "PieFunnels$Parting" "wishes" "[I" ∈ fkB := fkB_in (tb_in1 (List.mem_of_getElem? (i := 189) (by decide +kernel))) rfl
theorem wz_2_22 : Cond.fieldLink RX2 22 "PieFunnels$Parting" "whom" "[I" ∈ fkB := fkB_in (tb_in1 (List.mem_of_getElem? (i := 190) (by decide +kernel))) rfl
theorem wz_2_25 : Cond.fieldLink RX2 25 "PieFunnels$Parting" "brought" "[I" ∈ fkB := fkB_in (tb_in1 (List.mem_of_getElem? (i := 191) (by decide +kernel))) rfl
theorem wzm_3_3 : Cond.methodLink RX3 3 objectInit ∈ fkB := fkB_in (tb_in1 (List.mem_of_getElem? (i := 137) (by decide +kernel))) rfl
theorem wz_3_9 : Cond.fieldLink RX3 9 "PieFunnels$Pie" "stuffings" "[I" ∈ fkB := fkB_in (tb_in1 (List.mem_of_getElem? (i := 138) (by decide +kernel))) rfl
theorem wz_3_15 : Cond.fieldLink RX3 15 "PieFunnels$Pie" "layers" "I" ∈ fkB := fkB_in (tb_in1 (List.mem_of_getElem? (i := 139) (by decide +kernel))) rfl
theorem wzm_4_3 : Cond.methodLink RX4 3 objectInit ∈ fkB := fkB_in (tb_in1 (List.mem_of_getElem? (i := 92) (by decide +kernel))) rfl
theorem wz_4_9 : Cond.fieldLink RX4 9 "PieFunnels$Reader" "fault" "I" ∈ fkB := fkB_in (tb_in1 (List.mem_of_getElem? (i := 93) (by decide +kernel))) rfl
theorem wz_4_15 : Cond.fieldLink RX4 15 "PieFunnels$Reader" "place" "I" ∈ fkB := fkB_in (tb_in1 (List.mem_of_getElem? (i := 95) (by decide +kernel))) rfl
theorem wz_4_18 : Cond.fieldLink RX4 18 "PieFunnels$Reader" "text" "LPieFunnels$Shelf;" ∈ fkB := fkB_in (tb_in1 (List.mem_of_getElem? (i := 96) (by decide +kernel))) rfl
theorem wz_4_22 : Cond.fieldLink RX4 22 "PieFunnels$Reader" "numbers" "[I" ∈ fkB := fkB_in (tb_in1 (List.mem_of_getElem? (i := 97) (by decide +kernel))) rfl
theorem wzm_5_3 : Cond.methodLink RX5 3 objectInit ∈ fkB := fkB_in (tb_in1 (List.mem_of_getElem? (i := 207) (by decide +kernel))) rfl
theorem wz_5_11 : Cond.fieldLink RX5 11 "PieFunnels$Shelf" "content" "I" ∈ fkB := fkB_in (tb_in1 (List.mem_of_getElem? (i := 208) (by decide +kernel))) rfl
theorem wz_5_15 : Cond.fieldLink RX5 15 "PieFunnels$Shelf" "bird" "I" ∈ fkB := fkB_in (tb_in1 (List.mem_of_getElem? (i := 210) (by decide +kernel))) rfl
theorem wz_5_18 : Cond.fieldLink RX5 18 "PieFunnels$Shelf" "sort" "I" ∈ fkB := fkB_in (tb_in1 (List.mem_of_getElem? (i := 212) (by decide +kernel))) rfl
theorem wz_5_21 : Cond.fieldLink RX5 21 "PieFunnels$Shelf" "size" "I" ∈ fkB := fkB_in (tb_in1 (List.mem_of_getElem? (i := 214) (by decide +kernel))) rfl
theorem wz_5_24 : Cond.fieldLink RX5 24 "PieFunnels$Shelf" "cells" "[J" ∈ fkB := fkB_in (tb_in1 (List.mem_of_getElem? (i := 220) (by decide +kernel))) rfl
theorem wzm_6_3 : Cond.methodLink RX6 3 objectInit ∈ fkB := fkB_in (tb_in1 (List.mem_of_getElem? (i := 152) (by decide +kernel))) rfl
theorem wz_6_9 : Cond.fieldLink RX6 9 "PieFunnels$Voice" "kind" "I" ∈ fkB := fkB_in (tb_in1 (List.mem_of_getElem? (i := 153) (by decide +kernel))) rfl
theorem wz_6_15 : Cond.fieldLink RX6 15 "PieFunnels$Voice" "a" "I" ∈ fkB := fkB_in (tb_in1 (List.mem_of_getElem? (i := 155) (by decide +kernel))) rfl
theorem wz_6_18 : Cond.fieldLink RX6 18 "PieFunnels$Voice" "mouth" "I" ∈ fkB := fkB_in (tb_in1 (List.mem_of_getElem? (i := 157) (by decide +kernel))) rfl
theorem wz_6_21 : Cond.fieldLink RX6 21 "PieFunnels$Voice" "heat" "I" ∈ fkB := fkB_in (tb_in1 (List.mem_of_getElem? (i := 159) (by decide +kernel))) rfl
theorem wz_6_24 : Cond.fieldLink RX6 24 "PieFunnels$Voice" "count" "I" ∈ fkB := fkB_in (tb_in1 (List.mem_of_getElem? (i := 161) (by decide +kernel))) rfl
theorem wz_6_27 : Cond.fieldLink RX6 27 "PieFunnels$Voice" "signs" "[I" ∈ fkB := fkB_in (tb_in1 (List.mem_of_getElem? (i := 164) (by decide +kernel))) rfl
theorem wzm_0_3 : Cond.methodLink RX0 3 objectInit ∈ fkB := fkB_in (tb_in1 (List.mem_of_getElem? (i := 31) (by decide +kernel))) rfl
theorem wz_0_9 : Cond.fieldLink RX0 9 "PieFunnels$Bakery" "birds" "I" ∈ fkB := fkB_in (tb_in1 (List.mem_of_getElem? (i := 32) (by decide +kernel))) rfl
theorem wz_0_15 : Cond.fieldLink RX0 15 "PieFunnels$Bakery" "kinds" "[I" ∈ fkB := fkB_in (tb_in1 (List.mem_of_getElem? (i := 35) (by decide +kernel))) rfl
theorem wz_0_19 : Cond.fieldLink RX0 19 "PieFunnels$Bakery" "as" "[I" ∈ fkB := fkB_in (tb_in1 (List.mem_of_getElem? (i := 39) (by decide +kernel))) rfl
theorem wz_0_22 : Cond.fieldLink RX0 22 "PieFunnels$Bakery" "mouths" "[I" ∈ fkB := fkB_in (tb_in1 (List.mem_of_getElem? (i := 43) (by decide +kernel))) rfl
theorem wz_0_25 : Cond.fieldLink RX0 25 "PieFunnels$Bakery" "table" "[I" ∈ fkB := fkB_in (tb_in1 (List.mem_of_getElem? (i := 46) (by decide +kernel))) rfl
theorem wz_0_28 : Cond.fieldLink RX0 28 "PieFunnels$Bakery" "heat" "I" ∈ fkB := fkB_in (tb_in1 (List.mem_of_getElem? (i := 47) (by decide +kernel))) rfl
theorem wz_0_31 : Cond.fieldLink RX0 31 "PieFunnels$Bakery" "state" "I" ∈ fkB := fkB_in (tb_in1 (List.mem_of_getElem? (i := 51) (by decide +kernel))) rfl
theorem wz_0_34 : Cond.fieldLink RX0 34 "PieFunnels$Bakery" "troubles" "I" ∈ fkB := fkB_in (tb_in1 (List.mem_of_getElem? (i := 54) (by decide +kernel))) rfl
theorem wz_0_37 : Cond.fieldLink RX0 37 "PieFunnels$Bakery" "bakes" "I" ∈ fkB := fkB_in (tb_in1 (List.mem_of_getElem? (i := 57) (by decide +kernel))) rfl
theorem wz_0_40 : Cond.fieldLink RX0 40 "PieFunnels$Bakery" "suffered" "I" ∈ fkB := fkB_in (tb_in1 (List.mem_of_getElem? (i := 59) (by decide +kernel))) rfl
theorem wz_0_43 : Cond.fieldLink RX0 43 "PieFunnels$Bakery" "seed" "I" ∈ fkB := fkB_in (tb_in1 (List.mem_of_getElem? (i := 61) (by decide +kernel))) rfl
theorem wzm_7_1 : Cond.methodLink RX7 1 objectInit ∈ fkB := fkB_in (tb_in1 (List.mem_of_getElem? (i := 21) (by decide +kernel))) rfl
theorem wzc_7_9 : Cond.classLink RX7 9 RX5 ∈ fkB := fkB_in (tb_in1 (List.mem_of_getElem? (i := 24) (by decide +kernel))) rfl
theorem wz_7_11 : Cond.fieldLink RX7 11 "PieFunnels" "shelves" "[LPieFunnels$Shelf;" ∈ fkB := fkB_in (tb_in1 (List.mem_of_getElem? (i := 235) (by decide +kernel))) rfl
theorem wzc_7_15 : Cond.classLink RX7 15 RX0 ∈ fkB := fkB_in (tb_in1 (List.mem_of_getElem? (i := 26) (by decide +kernel))) rfl
theorem wzi_0 : Cond.instantiable RX0 11 ∈ fkB := fkB_in (tb_in1 (List.mem_of_getElem? (i := 27) (by decide +kernel))) rfl
theorem wzn_7_17 : Cond.methodLinkNest RX7 17 yX0_init "PieFunnels" ∈ fk_nests := List.mem_of_getElem? (i := 46) (by decide +kernel)
theorem wzk_0 : Cond.code yX0_init cX0_init 2 none ∈ fkB := fkB_in (tb_in1 (List.mem_of_getElem? (i := 30) rfl)) rfl
theorem wzy_0 : Cond.instanceMethod yX0_init ∈ fkB := fkB_in (tb_in1 (List.mem_of_getElem? (i := 29) (by decide +kernel))) rfl
theorem wz_7_18 : Cond.fieldLink RX7 18 "PieFunnels" "bakery" "LPieFunnels$Bakery;" ∈ fkB := fkB_in (tb_in1 (List.mem_of_getElem? (i := 236) (by decide +kernel))) rfl
theorem wz_7_22 : Cond.fieldLink RX7 22 "PieFunnels" "draft" "LPieFunnels$Bakery;" ∈ fkB := fkB_in (tb_in1 (List.mem_of_getElem? (i := 237) (by decide +kernel))) rfl
theorem wz_7_25 : Cond.fieldLink RX7 25 "PieFunnels" "kept" "LPieFunnels$Bakery;" ∈ fkB := fkB_in (tb_in1 (List.mem_of_getElem? (i := 238) (by decide +kernel))) rfl
theorem wz_7_28 : Cond.fieldLink RX7 28 "PieFunnels" "anyKept" "Z" ∈ fkB := fkB_in (tb_in1 (List.mem_of_getElem? (i := 239) (by decide +kernel))) rfl
theorem wzc_7_32 : Cond.classLink RX7 32 RX4 ∈ fkB := fkB_in (tb_in1 (List.mem_of_getElem? (i := 87) (by decide +kernel))) rfl
theorem wzi_4 : Cond.instantiable RX4 4 ∈ fkB := fkB_in (tb_in1 (List.mem_of_getElem? (i := 88) (by decide +kernel))) rfl
theorem wzn_7_34 : Cond.methodLinkNest RX7 34 yX4_init "PieFunnels" ∈ fk_nests := List.mem_of_getElem? (i := 47) (by decide +kernel)
theorem wzk_4 : Cond.code yX4_init cX4_init 1 none ∈ fkB := fkB_in (tb_in1 (List.mem_of_getElem? (i := 91) rfl)) rfl
theorem wzy_4 : Cond.instanceMethod yX4_init ∈ fkB := fkB_in (tb_in1 (List.mem_of_getElem? (i := 90) (by decide +kernel))) rfl
theorem wz_7_35 : Cond.fieldLink RX7 35 "PieFunnels" "reader" "LPieFunnels$Reader;" ∈ fkB := fkB_in (tb_in2 (List.mem_of_getElem? (i := 0) (by decide +kernel))) rfl
theorem wzc_7_39 : Cond.classLink RX7 39 RX1 ∈ fkB := fkB_in (tb_in1 (List.mem_of_getElem? (i := 107) (by decide +kernel))) rfl
theorem wzi_1 : Cond.instantiable RX1 5 ∈ fkB := fkB_in (tb_in1 (List.mem_of_getElem? (i := 108) (by decide +kernel))) rfl
theorem wzn_7_41 : Cond.methodLinkNest RX7 41 yX1_init "PieFunnels" ∈ fk_nests := List.mem_of_getElem? (i := 48) (by decide +kernel)
theorem wzk_1 : Cond.code yX1_init cX1_init 1 none ∈ fkB := fkB_in (tb_in1 (List.mem_of_getElem? (i := 111) rfl)) rfl
theorem wzy_1 : Cond.instanceMethod yX1_init ∈ fkB := fkB_in (tb_in1 (List.mem_of_getElem? (i := 110) (by decide +kernel))) rfl
theorem wz_7_42 : Cond.fieldLink RX7 42 "PieFunnels" "moves" "LPieFunnels$Moves;" ∈ fkB := fkB_in (tb_in2 (List.mem_of_getElem? (i := 1) (by decide +kernel))) rfl
theorem wzc_7_46 : Cond.classLink RX7 46 RX3 ∈ fkB := fkB_in (tb_in1 (List.mem_of_getElem? (i := 132) (by decide +kernel))) rfl
theorem wzi_3 : Cond.instantiable RX3 2 ∈ fkB := fkB_in (tb_in1 (List.mem_of_getElem? (i := 133) (by decide +kernel))) rfl
theorem wzn_7_48 : Cond.methodLinkNest RX7 48 yX3_init "PieFunnels" ∈ fk_nests := List.mem_of_getElem? (i := 49) (by decide +kernel)
theorem wzk_3 : Cond.code yX3_init cX3_init 1 none ∈ fkB := fkB_in (tb_in1 (List.mem_of_getElem? (i := 136) rfl)) rfl
theorem wzy_3 : Cond.instanceMethod yX3_init ∈ fkB := fkB_in (tb_in1 (List.mem_of_getElem? (i := 135) (by decide +kernel))) rfl
theorem wz_7_49 : Cond.fieldLink RX7 49 "PieFunnels" "pie" "LPieFunnels$Pie;" ∈ fkB := fkB_in (tb_in2 (List.mem_of_getElem? (i := 2) (by decide +kernel))) rfl
theorem wzc_7_53 : Cond.classLink RX7 53 RX6 ∈ fkB := fkB_in (tb_in1 (List.mem_of_getElem? (i := 147) (by decide +kernel))) rfl
theorem wzi_6 : Cond.instantiable RX6 6 ∈ fkB := fkB_in (tb_in1 (List.mem_of_getElem? (i := 148) (by decide +kernel))) rfl
theorem wzn_7_55 : Cond.methodLinkNest RX7 55 yX6_init "PieFunnels" ∈ fk_nests := List.mem_of_getElem? (i := 50) (by decide +kernel)
theorem wzk_6 : Cond.code yX6_init cX6_init 1 none ∈ fkB := fkB_in (tb_in1 (List.mem_of_getElem? (i := 151) rfl)) rfl
theorem wzy_6 : Cond.instanceMethod yX6_init ∈ fkB := fkB_in (tb_in1 (List.mem_of_getElem? (i := 150) (by decide +kernel))) rfl
theorem wz_7_56 : Cond.fieldLink RX7 56 "PieFunnels" "voice" "LPieFunnels$Voice;" ∈ fkB := fkB_in (tb_in2 (List.mem_of_getElem? (i := 3) (by decide +kernel))) rfl
theorem wz_7_60 : Cond.fieldLink RX7 60 "PieFunnels" "second" "LPieFunnels$Voice;" ∈ fkB := fkB_in (tb_in2 (List.mem_of_getElem? (i := 4) (by decide +kernel))) rfl
theorem wzc_7_63 : Cond.classLink RX7 63 RX2 ∈ fkB := fkB_in (tb_in1 (List.mem_of_getElem? (i := 179) (by decide +kernel))) rfl
theorem wzi_2 : Cond.instantiable RX2 5 ∈ fkB := fkB_in (tb_in1 (List.mem_of_getElem? (i := 180) (by decide +kernel))) rfl
theorem wzn_7_65 : Cond.methodLinkNest RX7 65 yX2_init "PieFunnels" ∈ fk_nests := List.mem_of_getElem? (i := 51) (by decide +kernel)
theorem wzk_2 : Cond.code yX2_init cX2_init 1 none ∈ fkB := fkB_in (tb_in1 (List.mem_of_getElem? (i := 183) rfl)) rfl
theorem wzy_2 : Cond.instanceMethod yX2_init ∈ fkB := fkB_in (tb_in1 (List.mem_of_getElem? (i := 182) (by decide +kernel))) rfl
theorem wz_7_66 : Cond.fieldLink RX7 66 "PieFunnels" "parting" "LPieFunnels$Parting;" ∈ fkB := fkB_in (tb_in2 (List.mem_of_getElem? (i := 5) (by decide +kernel))) rfl
theorem wz_7_70 : Cond.fieldLink RX7 70 "PieFunnels" "refusals" "[I" ∈ fkB := fkB_in (tb_in2 (List.mem_of_getElem? (i := 6) (by decide +kernel))) rfl
theorem wzi_5 : Cond.instantiable RX5 5 ∈ fkB := fkB_in (tb_in1 (List.mem_of_getElem? (i := 203) (by decide +kernel))) rfl
theorem wzn_7_74 : Cond.methodLinkNest RX7 74 yX5_init "PieFunnels" ∈ fk_nests := List.mem_of_getElem? (i := 52) (by decide +kernel)
theorem wzk_5 : Cond.code yX5_init cX5_init 1 none ∈ fkB := fkB_in (tb_in1 (List.mem_of_getElem? (i := 206) rfl)) rfl
theorem wzy_5 : Cond.instanceMethod yX5_init ∈ fkB := fkB_in (tb_in1 (List.mem_of_getElem? (i := 205) (by decide +kernel))) rfl
abbrev fI (cI : ClassId) (n : Nat) : va_E := .inl (cI, n, .inl (fun _ => 0))
abbrev fL (cL : ClassId) (n : Nat) : va_E := .inl (cL, n, .inr (.inl (fun _ => 0)))
abbrev fQ (cS : ClassId) (n : Nat) (f : Nat → Option Nat) : va_E := .inl (cS, n, .inr (.inr (.inr (.inr f))))
theorem fk_iblind {av : List Value} {D : va_G} {ws : va_W} {tys : List (ClassId × FieldType)} {sz : Nat} {B : Nat → Prop} : FrameBlind (va_Pc av (fun U => U.heap.size = sz ∧ va_P D vwCl ws U.heap ∧ va_K D vwCl tys U ∧ va_D B ws)) := by
  intro a U g mk q
  obtain ⟨q0, q1, qP, qK, qD⟩ := q
  exact ⟨q0, q1, qP, va_K.moved (u := U) (U := U.calling g mk a) (Vm.Alike.refl U.vm) qK, qD⟩
