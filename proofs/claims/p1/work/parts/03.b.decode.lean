theorem dX0_init_0 : decode cX0_init 0 = .ok (.aload_n 0, 1) := by decide +kernel
theorem dX0_init_1 : decode cX0_init 1 = .ok (.invokespecial 1, 3) := by decide +kernel
theorem dX0_init_4 : decode cX0_init 4 = .ok (.aload_n 0, 1) := by decide +kernel
theorem dX0_init_5 : decode cX0_init 5 = .ok (.new 7, 3) := by decide +kernel
theorem dX0_init_8 : decode cX0_init 8 = .ok (.dup, 1) := by decide +kernel
theorem dX0_init_9 : decode cX0_init 9 = .ok (.sipush 400, 3) := by decide +kernel
theorem dX0_init_12 : decode cX0_init 12 = .ok (.invokespecial 11, 3) := by decide +kernel
theorem dX0_init_15 : decode cX0_init 15 = .ok (.putfield 14, 3) := by decide +kernel
theorem dX0_init_18 : decode cX0_init 18 = .ok (.aload_n 0, 1) := by decide +kernel
theorem dX0_init_19 : decode cX0_init 19 = .ok (.sipush 800, 3) := by decide +kernel
theorem dX0_init_22 : decode cX0_init 22 = .ok (.newarray .int, 2) := by decide +kernel
theorem dX0_init_24 : decode cX0_init 24 = .ok (.putfield 18, 3) := by decide +kernel
theorem dX0_init_27 : decode cX0_init 27 = .ok (.aload_n 0, 1) := by decide +kernel
theorem dX0_init_28 : decode cX0_init 28 = .ok (.sipush 800, 3) := by decide +kernel
theorem dX0_init_31 : decode cX0_init 31 = .ok (.newarray .int, 2) := by decide +kernel
theorem dX0_init_33 : decode cX0_init 33 = .ok (.putfield 22, 3) := by decide +kernel
theorem dX0_init_36 : decode cX0_init 36 = .ok (.aload_n 0, 1) := by decide +kernel
theorem dX0_init_37 : decode cX0_init 37 = .ok (.bipush 40, 2) := by decide +kernel
theorem dX0_init_39 : decode cX0_init 39 = .ok (.newarray .int, 2) := by decide +kernel
theorem dX0_init_41 : decode cX0_init 41 = .ok (.putfield 25, 3) := by decide +kernel
theorem dX0_init_44 : decode cX0_init 44 = .ok (.aload_n 0, 1) := by decide +kernel
theorem dX0_init_45 : decode cX0_init 45 = .ok (.bipush 24, 2) := by decide +kernel
theorem dX0_init_47 : decode cX0_init 47 = .ok (.newarray .int, 2) := by decide +kernel
theorem dX0_init_49 : decode cX0_init 49 = .ok (.putfield 30, 3) := by decide +kernel
theorem dX0_init_52 : decode cX0_init 52 = .ok (.aload_n 0, 1) := by decide +kernel
theorem dX0_init_53 : decode cX0_init 53 = .ok (.bipush 24, 2) := by decide +kernel
theorem dX0_init_55 : decode cX0_init 55 = .ok (.newarray .boolean, 2) := by decide +kernel
theorem dX0_init_57 : decode cX0_init 57 = .ok (.putfield 33, 3) := by decide +kernel
theorem dX0_init_60 : decode cX0_init 60 = .ok (.aload_n 0, 1) := by decide +kernel
theorem dX0_init_61 : decode cX0_init 61 = .ok (.bipush 6, 2) := by decide +kernel
theorem dX0_init_63 : decode cX0_init 63 = .ok (.newarray .int, 2) := by decide +kernel
theorem dX0_init_65 : decode cX0_init 65 = .ok (.putfield 37, 3) := by decide +kernel
theorem dX0_init_68 : decode cX0_init 68 = .ok (.aload_n 0, 1) := by decide +kernel
theorem dX0_init_69 : decode cX0_init 69 = .ok (.bipush 6, 2) := by decide +kernel
theorem dX0_init_71 : decode cX0_init 71 = .ok (.newarray .boolean, 2) := by decide +kernel
theorem dX0_init_73 : decode cX0_init 73 = .ok (.putfield 40, 3) := by decide +kernel
theorem dX0_init_76 : decode cX0_init 76 = .ok (.aload_n 0, 1) := by decide +kernel
theorem dX0_init_77 : decode cX0_init 77 = .ok (.iconst 4, 1) := by decide +kernel
theorem dX0_init_78 : decode cX0_init 78 = .ok (.newarray .int, 2) := by decide +kernel
theorem dX0_init_80 : decode cX0_init 80 = .ok (.putfield 43, 3) := by decide +kernel
theorem dX0_init_83 : decode cX0_init 83 = .ok (.aload_n 0, 1) := by decide +kernel
theorem dX0_init_84 : decode cX0_init 84 = .ok (.iconst 4, 1) := by decide +kernel
theorem dX0_init_85 : decode cX0_init 85 = .ok (.newarray .int, 2) := by decide +kernel
theorem dX0_init_87 : decode cX0_init 87 = .ok (.putfield 46, 3) := by decide +kernel
theorem dX0_init_90 : decode cX0_init 90 = .ok (.return_, 1) := by decide +kernel
theorem dX0_clear_0 : decode cX0_clear 0 = .ok (.aload_n 0, 1) := by decide +kernel
theorem dX0_clear_1 : decode cX0_clear 1 = .ok (.getfield 14, 3) := by decide +kernel
theorem dX0_clear_4 : decode cX0_clear 4 = .ok (.iconst 0, 1) := by decide +kernel
theorem dX0_clear_5 : decode cX0_clear 5 = .ok (.putfield 49, 3) := by decide +kernel
theorem dX0_clear_8 : decode cX0_clear 8 = .ok (.aload_n 0, 1) := by decide +kernel
theorem dX0_clear_9 : decode cX0_clear 9 = .ok (.iconst 0, 1) := by decide +kernel
theorem dX0_clear_10 : decode cX0_clear 10 = .ok (.putfield 53, 3) := by decide +kernel
theorem dX0_clear_13 : decode cX0_clear 13 = .ok (.aload_n 0, 1) := by decide +kernel
theorem dX0_clear_14 : decode cX0_clear 14 = .ok (.iconst 0, 1) := by decide +kernel
theorem dX0_clear_15 : decode cX0_clear 15 = .ok (.putfield 56, 3) := by decide +kernel
theorem dX0_clear_18 : decode cX0_clear 18 = .ok (.aload_n 0, 1) := by decide +kernel
theorem dX0_clear_19 : decode cX0_clear 19 = .ok (.iconst 0, 1) := by decide +kernel
theorem dX0_clear_20 : decode cX0_clear 20 = .ok (.putfield 59, 3) := by decide +kernel
theorem dX0_clear_23 : decode cX0_clear 23 = .ok (.aload_n 0, 1) := by decide +kernel
theorem dX0_clear_24 : decode cX0_clear 24 = .ok (.iconst 0, 1) := by decide +kernel
theorem dX0_clear_25 : decode cX0_clear 25 = .ok (.putfield 62, 3) := by decide +kernel
theorem dX0_clear_28 : decode cX0_clear 28 = .ok (.aload_n 0, 1) := by decide +kernel
theorem dX0_clear_29 : decode cX0_clear 29 = .ok (.iconst 0, 1) := by decide +kernel
theorem dX0_clear_30 : decode cX0_clear 30 = .ok (.putfield 65, 3) := by decide +kernel
theorem dX0_clear_33 : decode cX0_clear 33 = .ok (.aload_n 0, 1) := by decide +kernel
theorem dX0_clear_34 : decode cX0_clear 34 = .ok (.iconst 0, 1) := by decide +kernel
theorem dX0_clear_35 : decode cX0_clear 35 = .ok (.putfield 68, 3) := by decide +kernel
theorem dX0_clear_38 : decode cX0_clear 38 = .ok (.aload_n 0, 1) := by decide +kernel
theorem dX0_clear_39 : decode cX0_clear 39 = .ok (.iconst 0, 1) := by decide +kernel
theorem dX0_clear_40 : decode cX0_clear 40 = .ok (.putfield 71, 3) := by decide +kernel
theorem dX0_clear_43 : decode cX0_clear 43 = .ok (.return_, 1) := by decide +kernel
theorem dX1_init_0 : decode cX1_init 0 = .ok (.aload_n 0, 1) := by decide +kernel
theorem dX1_init_1 : decode cX1_init 1 = .ok (.invokespecial 1, 3) := by decide +kernel
theorem dX1_init_4 : decode cX1_init 4 = .ok (.return_, 1) := by decide +kernel
theorem dX4_init_0 : decode cX4_init 0 = .ok (.aload_n 0, 1) := by decide +kernel
theorem dX4_init_1 : decode cX4_init 1 = .ok (.invokespecial 5, 3) := by decide +kernel
theorem dX4_init_4 : decode cX4_init 4 = .ok (.aload_n 0, 1) := by decide +kernel
theorem dX4_init_5 : decode cX4_init 5 = .ok (.aload_n 1, 1) := by decide +kernel
theorem dX4_init_6 : decode cX4_init 6 = .ok (.putfield 11, 3) := by decide +kernel
theorem dX4_init_9 : decode cX4_init 9 = .ok (.aload_n 0, 1) := by decide +kernel
theorem dX4_init_10 : decode cX4_init 10 = .ok (.sipush 400, 3) := by decide +kernel
theorem dX4_init_13 : decode cX4_init 13 = .ok (.newarray .int, 2) := by decide +kernel
theorem dX4_init_15 : decode cX4_init 15 = .ok (.putfield 17, 3) := by decide +kernel
theorem dX4_init_18 : decode cX4_init 18 = .ok (.aload_n 0, 1) := by decide +kernel
theorem dX4_init_19 : decode cX4_init 19 = .ok (.sipush 400, 3) := by decide +kernel
theorem dX4_init_22 : decode cX4_init 22 = .ok (.newarray .int, 2) := by decide +kernel
theorem dX4_init_24 : decode cX4_init 24 = .ok (.putfield 21, 3) := by decide +kernel
theorem dX4_init_27 : decode cX4_init 27 = .ok (.aload_n 0, 1) := by decide +kernel
theorem dX4_init_28 : decode cX4_init 28 = .ok (.sipush 400, 3) := by decide +kernel
theorem dX4_init_31 : decode cX4_init 31 = .ok (.newarray .int, 2) := by decide +kernel
theorem dX4_init_33 : decode cX4_init 33 = .ok (.putfield 24, 3) := by decide +kernel
theorem dX4_init_36 : decode cX4_init 36 = .ok (.aload_n 0, 1) := by decide +kernel
theorem dX4_init_37 : decode cX4_init 37 = .ok (.sipush 400, 3) := by decide +kernel
theorem dX4_init_40 : decode cX4_init 40 = .ok (.newarray .int, 2) := by decide +kernel
theorem dX4_init_42 : decode cX4_init 42 = .ok (.putfield 27, 3) := by decide +kernel
theorem dX4_init_45 : decode cX4_init 45 = .ok (.aload_n 0, 1) := by decide +kernel
theorem dX4_init_46 : decode cX4_init 46 = .ok (.sipush 400, 3) := by decide +kernel
theorem dX4_init_49 : decode cX4_init 49 = .ok (.newarray .int, 2) := by decide +kernel
theorem dX4_init_51 : decode cX4_init 51 = .ok (.putfield 30, 3) := by decide +kernel
theorem dX4_init_54 : decode cX4_init 54 = .ok (.aload_n 0, 1) := by decide +kernel
theorem dX4_init_55 : decode cX4_init 55 = .ok (.sipush 400, 3) := by decide +kernel
theorem dX4_init_58 : decode cX4_init 58 = .ok (.newarray .int, 2) := by decide +kernel
theorem dX4_init_60 : decode cX4_init 60 = .ok (.putfield 33, 3) := by decide +kernel
theorem dX4_init_63 : decode cX4_init 63 = .ok (.aload_n 0, 1) := by decide +kernel
theorem dX4_init_64 : decode cX4_init 64 = .ok (.sipush 400, 3) := by decide +kernel
theorem dX4_init_67 : decode cX4_init 67 = .ok (.newarray .boolean, 2) := by decide +kernel
theorem dX4_init_69 : decode cX4_init 69 = .ok (.putfield 36, 3) := by decide +kernel
theorem dX4_init_72 : decode cX4_init 72 = .ok (.aload_n 0, 1) := by decide +kernel
theorem dX4_init_73 : decode cX4_init 73 = .ok (.sipush 400, 3) := by decide +kernel
theorem dX4_init_76 : decode cX4_init 76 = .ok (.newarray .int, 2) := by decide +kernel
theorem dX4_init_78 : decode cX4_init 78 = .ok (.putfield 40, 3) := by decide +kernel
theorem dX4_init_81 : decode cX4_init 81 = .ok (.aload_n 0, 1) := by decide +kernel
theorem dX4_init_82 : decode cX4_init 82 = .ok (.sipush 2400, 3) := by decide +kernel
theorem dX4_init_85 : decode cX4_init 85 = .ok (.newarray .int, 2) := by decide +kernel
theorem dX4_init_87 : decode cX4_init 87 = .ok (.putfield 43, 3) := by decide +kernel
theorem dX4_init_90 : decode cX4_init 90 = .ok (.aload_n 0, 1) := by decide +kernel
theorem dX4_init_91 : decode cX4_init 91 = .ok (.bipush 6, 2) := by decide +kernel
theorem dX4_init_93 : decode cX4_init 93 = .ok (.newarray .int, 2) := by decide +kernel
theorem dX4_init_95 : decode cX4_init 95 = .ok (.putfield 46, 3) := by decide +kernel
theorem dX4_init_98 : decode cX4_init 98 = .ok (.aload_n 0, 1) := by decide +kernel
theorem dX4_init_99 : decode cX4_init 99 = .ok (.bipush 36, 2) := by decide +kernel
theorem dX4_init_101 : decode cX4_init 101 = .ok (.newarray .int, 2) := by decide +kernel
theorem dX4_init_103 : decode cX4_init 103 = .ok (.putfield 49, 3) := by decide +kernel
theorem dX4_init_106 : decode cX4_init 106 = .ok (.aload_n 0, 1) := by decide +kernel
theorem dX4_init_107 : decode cX4_init 107 = .ok (.bipush 36, 2) := by decide +kernel
theorem dX4_init_109 : decode cX4_init 109 = .ok (.newarray .int, 2) := by decide +kernel
theorem dX4_init_111 : decode cX4_init 111 = .ok (.putfield 52, 3) := by decide +kernel
theorem dX4_init_114 : decode cX4_init 114 = .ok (.aload_n 0, 1) := by decide +kernel
theorem dX4_init_115 : decode cX4_init 115 = .ok (.sipush 144, 3) := by decide +kernel
theorem dX4_init_118 : decode cX4_init 118 = .ok (.newarray .int, 2) := by decide +kernel
theorem dX4_init_120 : decode cX4_init 120 = .ok (.putfield 55, 3) := by decide +kernel
theorem dX4_init_123 : decode cX4_init 123 = .ok (.aload_n 0, 1) := by decide +kernel
theorem dX4_init_124 : decode cX4_init 124 = .ok (.bipush 36, 2) := by decide +kernel
theorem dX4_init_126 : decode cX4_init 126 = .ok (.newarray .int, 2) := by decide +kernel
theorem dX4_init_128 : decode cX4_init 128 = .ok (.putfield 58, 3) := by decide +kernel
theorem dX4_init_131 : decode cX4_init 131 = .ok (.return_, 1) := by decide +kernel
theorem dX5_init_0 : decode cX5_init 0 = .ok (.aload_n 0, 1) := by decide +kernel
theorem dX5_init_1 : decode cX5_init 1 = .ok (.invokespecial 5, 3) := by decide +kernel
theorem dX5_init_4 : decode cX5_init 4 = .ok (.aload_n 0, 1) := by decide +kernel
theorem dX5_init_5 : decode cX5_init 5 = .ok (.aload_n 1, 1) := by decide +kernel
theorem dX5_init_6 : decode cX5_init 6 = .ok (.putfield 11, 3) := by decide +kernel
theorem dX5_init_9 : decode cX5_init 9 = .ok (.aload_n 0, 1) := by decide +kernel
theorem dX5_init_10 : decode cX5_init 10 = .ok (.aload_n 1, 1) := by decide +kernel
theorem dX5_init_11 : decode cX5_init 11 = .ok (.getfield 15, 3) := by decide +kernel
theorem dX5_init_14 : decode cX5_init 14 = .ok (.putfield 21, 3) := by decide +kernel
theorem dX5_init_17 : decode cX5_init 17 = .ok (.aload_n 0, 1) := by decide +kernel
theorem dX5_init_18 : decode cX5_init 18 = .ok (.new 22, 3) := by decide +kernel
theorem dX5_init_21 : decode cX5_init 21 = .ok (.dup, 1) := by decide +kernel
theorem dX5_init_22 : decode cX5_init 22 = .ok (.invokespecial 24, 3) := by decide +kernel
theorem dX5_init_25 : decode cX5_init 25 = .ok (.putfield 25, 3) := by decide +kernel
theorem dX5_init_28 : decode cX5_init 28 = .ok (.aload_n 0, 1) := by decide +kernel
theorem dX5_init_29 : decode cX5_init 29 = .ok (.sipush 228, 3) := by decide +kernel
theorem dX5_init_32 : decode cX5_init 32 = .ok (.newarray .int, 2) := by decide +kernel
theorem dX5_init_34 : decode cX5_init 34 = .ok (.putfield 29, 3) := by decide +kernel
theorem dX5_init_37 : decode cX5_init 37 = .ok (.aload_n 0, 1) := by decide +kernel
theorem dX5_init_38 : decode cX5_init 38 = .ok (.bipush 84, 2) := by decide +kernel
theorem dX5_init_40 : decode cX5_init 40 = .ok (.newarray .int, 2) := by decide +kernel
theorem dX5_init_42 : decode cX5_init 42 = .ok (.putfield 33, 3) := by decide +kernel
theorem dX5_init_45 : decode cX5_init 45 = .ok (.aload_n 0, 1) := by decide +kernel
theorem dX5_init_46 : decode cX5_init 46 = .ok (.bipush 84, 2) := by decide +kernel
theorem dX5_init_48 : decode cX5_init 48 = .ok (.newarray .int, 2) := by decide +kernel
theorem dX5_init_50 : decode cX5_init 50 = .ok (.putfield 36, 3) := by decide +kernel
theorem dX5_init_53 : decode cX5_init 53 = .ok (.aload_n 0, 1) := by decide +kernel
theorem dX5_init_54 : decode cX5_init 54 = .ok (.bipush 84, 2) := by decide +kernel
theorem dX5_init_56 : decode cX5_init 56 = .ok (.newarray .int, 2) := by decide +kernel
theorem dX5_init_58 : decode cX5_init 58 = .ok (.putfield 39, 3) := by decide +kernel
theorem dX5_init_61 : decode cX5_init 61 = .ok (.return_, 1) := by decide +kernel
theorem dX6_init_0 : decode cX6_init 0 = .ok (.aload_n 0, 1) := by decide +kernel
theorem dX6_init_1 : decode cX6_init 1 = .ok (.invokespecial 3, 3) := by decide +kernel
theorem dX6_init_4 : decode cX6_init 4 = .ok (.aload_n 0, 1) := by decide +kernel
theorem dX6_init_5 : decode cX6_init 5 = .ok (.aload_n 1, 1) := by decide +kernel
theorem dX6_init_6 : decode cX6_init 6 = .ok (.putfield 9, 3) := by decide +kernel
theorem dX6_init_9 : decode cX6_init 9 = .ok (.aload_n 0, 1) := by decide +kernel
theorem dX6_init_10 : decode cX6_init 10 = .ok (.sipush 702, 3) := by decide +kernel
theorem dX6_init_13 : decode cX6_init 13 = .ok (.newarray .int, 2) := by decide +kernel
theorem dX6_init_15 : decode cX6_init 15 = .ok (.putfield 17, 3) := by decide +kernel
theorem dX6_init_18 : decode cX6_init 18 = .ok (.aload_n 0, 1) := by decide +kernel
theorem dX6_init_19 : decode cX6_init 19 = .ok (.sipush 702, 3) := by decide +kernel
theorem dX6_init_22 : decode cX6_init 22 = .ok (.newarray .int, 2) := by decide +kernel
theorem dX6_init_24 : decode cX6_init 24 = .ok (.putfield 21, 3) := by decide +kernel
theorem dX6_init_27 : decode cX6_init 27 = .ok (.aload_n 0, 1) := by decide +kernel
theorem dX6_init_28 : decode cX6_init 28 = .ok (.bipush 24, 2) := by decide +kernel
theorem dX6_init_30 : decode cX6_init 30 = .ok (.newarray .int, 2) := by decide +kernel
theorem dX6_init_32 : decode cX6_init 32 = .ok (.putfield 24, 3) := by decide +kernel
theorem dX6_init_35 : decode cX6_init 35 = .ok (.aload_n 0, 1) := by decide +kernel
theorem dX6_init_36 : decode cX6_init 36 = .ok (.bipush 24, 2) := by decide +kernel
theorem dX6_init_38 : decode cX6_init 38 = .ok (.newarray .int, 2) := by decide +kernel
theorem dX6_init_40 : decode cX6_init 40 = .ok (.putfield 27, 3) := by decide +kernel
theorem dX6_init_43 : decode cX6_init 43 = .ok (.aload_n 0, 1) := by decide +kernel
theorem dX6_init_44 : decode cX6_init 44 = .ok (.bipush 24, 2) := by decide +kernel
theorem dX6_init_46 : decode cX6_init 46 = .ok (.newarray .int, 2) := by decide +kernel
theorem dX6_init_48 : decode cX6_init 48 = .ok (.putfield 30, 3) := by decide +kernel
theorem dX6_init_51 : decode cX6_init 51 = .ok (.aload_n 0, 1) := by decide +kernel
theorem dX6_init_52 : decode cX6_init 52 = .ok (.bipush 6, 2) := by decide +kernel
theorem dX6_init_54 : decode cX6_init 54 = .ok (.newarray .int, 2) := by decide +kernel
theorem dX6_init_56 : decode cX6_init 56 = .ok (.putfield 33, 3) := by decide +kernel
theorem dX6_init_59 : decode cX6_init 59 = .ok (.aload_n 0, 1) := by decide +kernel
theorem dX6_init_60 : decode cX6_init 60 = .ok (.bipush 6, 2) := by decide +kernel
theorem dX6_init_62 : decode cX6_init 62 = .ok (.newarray .int, 2) := by decide +kernel
theorem dX6_init_64 : decode cX6_init 64 = .ok (.putfield 36, 3) := by decide +kernel
theorem dX6_init_67 : decode cX6_init 67 = .ok (.return_, 1) := by decide +kernel
theorem dX6_clear_0 : decode cX6_clear 0 = .ok (.aload_n 0, 1) := by decide +kernel
theorem dX6_clear_1 : decode cX6_clear 1 = .ok (.iconst 0, 1) := by decide +kernel
theorem dX6_clear_2 : decode cX6_clear 2 = .ok (.putfield 39, 3) := by decide +kernel
theorem dX6_clear_5 : decode cX6_clear 5 = .ok (.aload_n 0, 1) := by decide +kernel
theorem dX6_clear_6 : decode cX6_clear 6 = .ok (.iconst 0, 1) := by decide +kernel
theorem dX6_clear_7 : decode cX6_clear 7 = .ok (.putfield 43, 3) := by decide +kernel
theorem dX6_clear_10 : decode cX6_clear 10 = .ok (.aload_n 0, 1) := by decide +kernel
theorem dX6_clear_11 : decode cX6_clear 11 = .ok (.iconst 0, 1) := by decide +kernel
theorem dX6_clear_12 : decode cX6_clear 12 = .ok (.putfield 46, 3) := by decide +kernel
theorem dX6_clear_15 : decode cX6_clear 15 = .ok (.aload_n 0, 1) := by decide +kernel
theorem dX6_clear_16 : decode cX6_clear 16 = .ok (.getfield 17, 3) := by decide +kernel
theorem dX6_clear_19 : decode cX6_clear 19 = .ok (.iconst 0, 1) := by decide +kernel
theorem dX6_clear_20 : decode cX6_clear 20 = .ok (.invokestatic 49, 3) := by decide +kernel
theorem dX6_clear_23 : decode cX6_clear 23 = .ok (.aload_n 0, 1) := by decide +kernel
theorem dX6_clear_24 : decode cX6_clear 24 = .ok (.getfield 21, 3) := by decide +kernel
theorem dX6_clear_27 : decode cX6_clear 27 = .ok (.iconst (-1), 1) := by decide +kernel
theorem dX6_clear_28 : decode cX6_clear 28 = .ok (.invokestatic 49, 3) := by decide +kernel
theorem dX6_clear_31 : decode cX6_clear 31 = .ok (.return_, 1) := by decide +kernel
theorem dX6_judge_0 : decode cX6_judge 0 = .ok (.iconst 0, 1) := by decide +kernel
theorem dX6_judge_1 : decode cX6_judge 1 = .ok (.istore_n 1, 1) := by decide +kernel
theorem dX6_judge_2 : decode cX6_judge 2 = .ok (.iload_n 1, 1) := by decide +kernel
theorem dX6_judge_3 : decode cX6_judge 3 = .ok (.aload_n 0, 1) := by decide +kernel
theorem dX6_judge_4 : decode cX6_judge 4 = .ok (.getfield 9, 3) := by decide +kernel
theorem dX6_judge_7 : decode cX6_judge 7 = .ok (.getfield 55, 3) := by decide +kernel
theorem dX6_judge_10 : decode cX6_judge 10 = .ok (.if_icmp .ge 39, 3) := by decide +kernel
theorem dX6_judge_13 : decode cX6_judge 13 = .ok (.aload_n 0, 1) := by decide +kernel
theorem dX6_judge_14 : decode cX6_judge 14 = .ok (.getfield 17, 3) := by decide +kernel
theorem dX6_judge_17 : decode cX6_judge 17 = .ok (.iload_n 1, 1) := by decide +kernel
theorem dX6_judge_18 : decode cX6_judge 18 = .ok (.iaload, 1) := by decide +kernel
theorem dX6_judge_19 : decode cX6_judge 19 = .ok (.ifCond .ne 7, 3) := by decide +kernel
theorem dX6_judge_22 : decode cX6_judge 22 = .ok (.iconst 0, 1) := by decide +kernel
theorem dX6_judge_23 : decode cX6_judge 23 = .ok (.goto 8, 3) := by decide +kernel
theorem dX6_judge_26 : decode cX6_judge 26 = .ok (.aload_n 0, 1) := by decide +kernel
theorem dX6_judge_27 : decode cX6_judge 27 = .ok (.iload_n 1, 1) := by decide +kernel
theorem dX6_judge_28 : decode cX6_judge 28 = .ok (.invokevirtual 58, 3) := by decide +kernel
theorem dX6_judge_31 : decode cX6_judge 31 = .ok (.istore_n 2, 1) := by decide +kernel
theorem dX6_judge_32 : decode cX6_judge 32 = .ok (.iload_n 2, 1) := by decide +kernel
theorem dX6_judge_33 : decode cX6_judge 33 = .ok (.ifCond .eq 10, 3) := by decide +kernel
theorem dX6_judge_36 : decode cX6_judge 36 = .ok (.aload_n 0, 1) := by decide +kernel
theorem dX6_judge_37 : decode cX6_judge 37 = .ok (.iload_n 1, 1) := by decide +kernel
theorem dX6_judge_38 : decode cX6_judge 38 = .ok (.putfield 62, 3) := by decide +kernel
theorem dX6_judge_41 : decode cX6_judge 41 = .ok (.iload_n 2, 1) := by decide +kernel
theorem dX6_judge_42 : decode cX6_judge 42 = .ok (.ireturn, 1) := by decide +kernel
theorem dX6_judge_43 : decode cX6_judge 43 = .ok (.iinc 1 1, 3) := by decide +kernel
theorem dX6_judge_46 : decode cX6_judge 46 = .ok (.goto (-44), 3) := by decide +kernel
theorem dX6_judge_49 : decode cX6_judge 49 = .ok (.iconst 0, 1) := by decide +kernel
theorem dX6_judge_50 : decode cX6_judge 50 = .ok (.ireturn, 1) := by decide +kernel
theorem dX7_init_0 : decode cX7_init 0 = .ok (.aload_n 0, 1) := by decide +kernel
theorem dX7_init_1 : decode cX7_init 1 = .ok (.invokespecial 5, 3) := by decide +kernel
theorem dX7_init_4 : decode cX7_init 4 = .ok (.aload_n 0, 1) := by decide +kernel
theorem dX7_init_5 : decode cX7_init 5 = .ok (.aload_n 1, 1) := by decide +kernel
theorem dX7_init_6 : decode cX7_init 6 = .ok (.putfield 11, 3) := by decide +kernel
theorem dX7_init_9 : decode cX7_init 9 = .ok (.aload_n 0, 1) := by decide +kernel
theorem dX7_init_10 : decode cX7_init 10 = .ok (.aload_n 2, 1) := by decide +kernel
theorem dX7_init_11 : decode cX7_init 11 = .ok (.putfield 15, 3) := by decide +kernel
theorem dX7_init_14 : decode cX7_init 14 = .ok (.aload_n 0, 1) := by decide +kernel
theorem dX7_init_15 : decode cX7_init 15 = .ok (.aload_n 3, 1) := by decide +kernel
theorem dX7_init_16 : decode cX7_init 16 = .ok (.putfield 19, 3) := by decide +kernel
theorem dX7_init_19 : decode cX7_init 19 = .ok (.aload_n 0, 1) := by decide +kernel
theorem dX7_init_20 : decode cX7_init 20 = .ok (.aload_n 3, 1) := by decide +kernel
theorem dX7_init_21 : decode cX7_init 21 = .ok (.getfield 23, 3) := by decide +kernel
theorem dX7_init_24 : decode cX7_init 24 = .ok (.putfield 29, 3) := by decide +kernel
theorem dX7_init_27 : decode cX7_init 27 = .ok (.aload_n 0, 1) := by decide +kernel
theorem dX7_init_28 : decode cX7_init 28 = .ok (.bipush 8, 2) := by decide +kernel
theorem dX7_init_30 : decode cX7_init 30 = .ok (.newarray .int, 2) := by decide +kernel
theorem dX7_init_32 : decode cX7_init 32 = .ok (.putfield 30, 3) := by decide +kernel
theorem dX7_init_35 : decode cX7_init 35 = .ok (.aload_n 0, 1) := by decide +kernel
theorem dX7_init_36 : decode cX7_init 36 = .ok (.bipush 20, 2) := by decide +kernel
theorem dX7_init_38 : decode cX7_init 38 = .ok (.newarray .int, 2) := by decide +kernel
theorem dX7_init_40 : decode cX7_init 40 = .ok (.putfield 34, 3) := by decide +kernel
theorem dX7_init_43 : decode cX7_init 43 = .ok (.aload_n 0, 1) := by decide +kernel
theorem dX7_init_44 : decode cX7_init 44 = .ok (.bipush 20, 2) := by decide +kernel
theorem dX7_init_46 : decode cX7_init 46 = .ok (.newarray .int, 2) := by decide +kernel
theorem dX7_init_48 : decode cX7_init 48 = .ok (.putfield 37, 3) := by decide +kernel
theorem dX7_init_51 : decode cX7_init 51 = .ok (.aload_n 0, 1) := by decide +kernel
theorem dX7_init_52 : decode cX7_init 52 = .ok (.bipush 20, 2) := by decide +kernel
theorem dX7_init_54 : decode cX7_init 54 = .ok (.newarray .int, 2) := by decide +kernel
theorem dX7_init_56 : decode cX7_init 56 = .ok (.putfield 40, 3) := by decide +kernel
theorem dX7_init_59 : decode cX7_init 59 = .ok (.aload_n 0, 1) := by decide +kernel
theorem dX7_init_60 : decode cX7_init 60 = .ok (.bipush 20, 2) := by decide +kernel
theorem dX7_init_62 : decode cX7_init 62 = .ok (.newarray .int, 2) := by decide +kernel
theorem dX7_init_64 : decode cX7_init 64 = .ok (.putfield 43, 3) := by decide +kernel
theorem dX7_init_67 : decode cX7_init 67 = .ok (.aload_n 0, 1) := by decide +kernel
theorem dX7_init_68 : decode cX7_init 68 = .ok (.bipush 20, 2) := by decide +kernel
theorem dX7_init_70 : decode cX7_init 70 = .ok (.newarray .int, 2) := by decide +kernel
theorem dX7_init_72 : decode cX7_init 72 = .ok (.putfield 46, 3) := by decide +kernel
theorem dX7_init_75 : decode cX7_init 75 = .ok (.aload_n 0, 1) := by decide +kernel
theorem dX7_init_76 : decode cX7_init 76 = .ok (.bipush 20, 2) := by decide +kernel
theorem dX7_init_78 : decode cX7_init 78 = .ok (.newarray .int, 2) := by decide +kernel
theorem dX7_init_80 : decode cX7_init 80 = .ok (.putfield 49, 3) := by decide +kernel
theorem dX7_init_83 : decode cX7_init 83 = .ok (.return_, 1) := by decide +kernel
theorem dX7_readAll_0 : decode cX7_readAll 0 = .ok (.aload_n 0, 1) := by decide +kernel
theorem dX7_readAll_1 : decode cX7_readAll 1 = .ok (.getfield 15, 3) := by decide +kernel
theorem dX7_readAll_4 : decode cX7_readAll 4 = .ok (.invokevirtual 56, 3) := by decide +kernel
theorem dX7_readAll_7 : decode cX7_readAll 7 = .ok (.aload_n 0, 1) := by decide +kernel
theorem dX7_readAll_8 : decode cX7_readAll 8 = .ok (.getfield 19, 3) := by decide +kernel
theorem dX7_readAll_11 : decode cX7_readAll 11 = .ok (.invokevirtual 61, 3) := by decide +kernel
theorem dX7_readAll_14 : decode cX7_readAll 14 = .ok (.aload_n 0, 1) := by decide +kernel
theorem dX7_readAll_15 : decode cX7_readAll 15 = .ok (.iconst 0, 1) := by decide +kernel
theorem dX7_readAll_16 : decode cX7_readAll 16 = .ok (.putfield 52, 3) := by decide +kernel
theorem dX7_readAll_19 : decode cX7_readAll 19 = .ok (.aload_n 0, 1) := by decide +kernel
theorem dX7_readAll_20 : decode cX7_readAll 20 = .ok (.iconst 0, 1) := by decide +kernel
theorem dX7_readAll_21 : decode cX7_readAll 21 = .ok (.putfield 62, 3) := by decide +kernel
theorem dX7_readAll_24 : decode cX7_readAll 24 = .ok (.aload_n 0, 1) := by decide +kernel
theorem dX7_readAll_25 : decode cX7_readAll 25 = .ok (.iconst 0, 1) := by decide +kernel
theorem dX7_readAll_26 : decode cX7_readAll 26 = .ok (.putfield 65, 3) := by decide +kernel
theorem dX7_readAll_29 : decode cX7_readAll 29 = .ok (.iconst 0, 1) := by decide +kernel
theorem dX7_readAll_30 : decode cX7_readAll 30 = .ok (.istore_n 1, 1) := by decide +kernel
theorem dX7_readAll_31 : decode cX7_readAll 31 = .ok (.iload_n 1, 1) := by decide +kernel
theorem dX7_readAll_32 : decode cX7_readAll 32 = .ok (.sipush 700, 3) := by decide +kernel
theorem dX7_readAll_35 : decode cX7_readAll 35 = .ok (.if_icmp .gt 57, 3) := by decide +kernel
theorem dX7_readAll_38 : decode cX7_readAll 38 = .ok (.aload_n 0, 1) := by decide +kernel
theorem dX7_readAll_39 : decode cX7_readAll 39 = .ok (.getfield 65, 3) := by decide +kernel
theorem dX7_readAll_42 : decode cX7_readAll 42 = .ok (.ifCond .ne 10, 3) := by decide +kernel
theorem dX7_readAll_45 : decode cX7_readAll 45 = .ok (.aload_n 0, 1) := by decide +kernel
theorem dX7_readAll_46 : decode cX7_readAll 46 = .ok (.invokevirtual 71, 3) := by decide +kernel
theorem dX7_readAll_49 : decode cX7_readAll 49 = .ok (.ifCond .eq 43, 3) := by decide +kernel
theorem dX7_readAll_52 : decode cX7_readAll 52 = .ok (.aload_n 0, 1) := by decide +kernel
theorem dX7_readAll_53 : decode cX7_readAll 53 = .ok (.getfield 65, 3) := by decide +kernel
theorem dX7_readAll_56 : decode cX7_readAll 56 = .ok (.ifCond .ne 10, 3) := by decide +kernel
theorem dX7_readAll_59 : decode cX7_readAll 59 = .ok (.aload_n 0, 1) := by decide +kernel
theorem dX7_readAll_60 : decode cX7_readAll 60 = .ok (.invokevirtual 75, 3) := by decide +kernel
theorem dX7_readAll_63 : decode cX7_readAll 63 = .ok (.goto 23, 3) := by decide +kernel
theorem dX7_readAll_66 : decode cX7_readAll 66 = .ok (.aload_n 0, 1) := by decide +kernel
theorem dX7_readAll_67 : decode cX7_readAll 67 = .ok (.invokevirtual 71, 3) := by decide +kernel
theorem dX7_readAll_70 : decode cX7_readAll 70 = .ok (.bipush 24, 2) := by decide +kernel
theorem dX7_readAll_72 : decode cX7_readAll 72 = .ok (.if_icmp .ne 10, 3) := by decide +kernel
theorem dX7_readAll_75 : decode cX7_readAll 75 = .ok (.aload_n 0, 1) := by decide +kernel
theorem dX7_readAll_76 : decode cX7_readAll 76 = .ok (.invokevirtual 78, 3) := by decide +kernel
theorem dX7_readAll_79 : decode cX7_readAll 79 = .ok (.goto 7, 3) := by decide +kernel
theorem dX7_readAll_82 : decode cX7_readAll 82 = .ok (.aload_n 0, 1) := by decide +kernel
theorem dX7_readAll_83 : decode cX7_readAll 83 = .ok (.invokevirtual 81, 3) := by decide +kernel
theorem dX7_readAll_86 : decode cX7_readAll 86 = .ok (.iinc 1 1, 3) := by decide +kernel
theorem dX7_readAll_89 : decode cX7_readAll 89 = .ok (.goto (-58), 3) := by decide +kernel
theorem dX7_readAll_92 : decode cX7_readAll 92 = .ok (.return_, 1) := by decide +kernel
theorem dX7_sort_0 : decode cX7_sort 0 = .ok (.aload_n 0, 1) := by decide +kernel
theorem dX7_sort_1 : decode cX7_sort 1 = .ok (.getfield 11, 3) := by decide +kernel
theorem dX7_sort_4 : decode cX7_sort 4 = .ok (.getfield 100, 3) := by decide +kernel
theorem dX7_sort_7 : decode cX7_sort 7 = .ok (.aload_n 0, 1) := by decide +kernel
theorem dX7_sort_8 : decode cX7_sort 8 = .ok (.getfield 52, 3) := by decide +kernel
theorem dX7_sort_11 : decode cX7_sort 11 = .ok (.iaload, 1) := by decide +kernel
theorem dX7_sort_12 : decode cX7_sort 12 = .ok (.ireturn, 1) := by decide +kernel
theorem dX7_link_0 : decode cX7_link 0 = .ok (.iconst 0, 1) := by decide +kernel
theorem dX7_link_1 : decode cX7_link 1 = .ok (.istore_n 1, 1) := by decide +kernel
theorem dX7_link_2 : decode cX7_link 2 = .ok (.iload_n 1, 1) := by decide +kernel
theorem dX7_link_3 : decode cX7_link 3 = .ok (.aload_n 0, 1) := by decide +kernel
theorem dX7_link_4 : decode cX7_link 4 = .ok (.getfield 29, 3) := by decide +kernel
theorem dX7_link_7 : decode cX7_link 7 = .ok (.getfield 173, 3) := by decide +kernel
theorem dX7_link_10 : decode cX7_link 10 = .ok (.if_icmp .ge 122, 3) := by decide +kernel
theorem dX7_link_13 : decode cX7_link 13 = .ok (.aload_n 0, 1) := by decide +kernel
theorem dX7_link_14 : decode cX7_link 14 = .ok (.getfield 29, 3) := by decide +kernel
theorem dX7_link_17 : decode cX7_link 17 = .ok (.getfield 220, 3) := by decide +kernel
theorem dX7_link_20 : decode cX7_link 20 = .ok (.iload_n 1, 1) := by decide +kernel
theorem dX7_link_21 : decode cX7_link 21 = .ok (.iaload, 1) := by decide +kernel
theorem dX7_link_22 : decode cX7_link 22 = .ok (.istore_n 2, 1) := by decide +kernel
theorem dX7_link_23 : decode cX7_link 23 = .ok (.iload_n 2, 1) := by decide +kernel
theorem dX7_link_24 : decode cX7_link 24 = .ok (.iconst (-1), 1) := by decide +kernel
theorem dX7_link_25 : decode cX7_link 25 = .ok (.if_icmp .eq 101, 3) := by decide +kernel
theorem dX7_link_28 : decode cX7_link 28 = .ok (.aload_n 0, 1) := by decide +kernel
theorem dX7_link_29 : decode cX7_link 29 = .ok (.getfield 29, 3) := by decide +kernel
theorem dX7_link_32 : decode cX7_link 32 = .ok (.getfield 322, 3) := by decide +kernel
theorem dX7_link_35 : decode cX7_link 35 = .ok (.iload_n 1, 1) := by decide +kernel
theorem dX7_link_36 : decode cX7_link 36 = .ok (.iaload, 1) := by decide +kernel
theorem dX7_link_37 : decode cX7_link 37 = .ok (.bipush 10, 2) := by decide +kernel
theorem dX7_link_39 : decode cX7_link 39 = .ok (.if_icmp .gt 87, 3) := by decide +kernel
theorem dX7_link_42 : decode cX7_link 42 = .ok (.aload_n 0, 1) := by decide +kernel
theorem dX7_link_43 : decode cX7_link 43 = .ok (.getfield 15, 3) := by decide +kernel
theorem dX7_link_46 : decode cX7_link 46 = .ok (.getfield 254, 3) := by decide +kernel
theorem dX7_link_49 : decode cX7_link 49 = .ok (.iload_n 2, 1) := by decide +kernel
theorem dX7_link_50 : decode cX7_link 50 = .ok (.iaload, 1) := by decide +kernel
theorem dX7_link_51 : decode cX7_link 51 = .ok (.istore_n 3, 1) := by decide +kernel
theorem dX7_link_52 : decode cX7_link 52 = .ok (.aload_n 0, 1) := by decide +kernel
theorem dX7_link_53 : decode cX7_link 53 = .ok (.getfield 29, 3) := by decide +kernel
theorem dX7_link_56 : decode cX7_link 56 = .ok (.getfield 322, 3) := by decide +kernel
theorem dX7_link_59 : decode cX7_link 59 = .ok (.iload_n 1, 1) := by decide +kernel
theorem dX7_link_60 : decode cX7_link 60 = .ok (.iaload, 1) := by decide +kernel
theorem dX7_link_61 : decode cX7_link 61 = .ok (.iconst 4, 1) := by decide +kernel
theorem dX7_link_62 : decode cX7_link 62 = .ok (.if_icmp .gt 7, 3) := by decide +kernel
theorem dX7_link_65 : decode cX7_link 65 = .ok (.iconst 1, 1) := by decide +kernel
theorem dX7_link_66 : decode cX7_link 66 = .ok (.goto 4, 3) := by decide +kernel
theorem dX7_link_69 : decode cX7_link 69 = .ok (.iconst 0, 1) := by decide +kernel
theorem dX7_link_70 : decode cX7_link 70 = .ok (.istore 4, 2) := by decide +kernel
theorem dX7_link_72 : decode cX7_link 72 = .ok (.aload_n 0, 1) := by decide +kernel
theorem dX7_link_73 : decode cX7_link 73 = .ok (.getfield 29, 3) := by decide +kernel
theorem dX7_link_76 : decode cX7_link 76 = .ok (.getfield 220, 3) := by decide +kernel
theorem dX7_link_79 : decode cX7_link 79 = .ok (.iload_n 1, 1) := by decide +kernel
theorem dX7_link_80 : decode cX7_link 80 = .ok (.iload 4, 2) := by decide +kernel
theorem dX7_link_82 : decode cX7_link 82 = .ok (.ifCond .eq 15, 3) := by decide +kernel
theorem dX7_link_85 : decode cX7_link 85 = .ok (.aload_n 0, 1) := by decide +kernel
theorem dX7_link_86 : decode cX7_link 86 = .ok (.getfield 15, 3) := by decide +kernel
theorem dX7_link_89 : decode cX7_link 89 = .ok (.getfield 325, 3) := by decide +kernel
theorem dX7_link_92 : decode cX7_link 92 = .ok (.iload_n 3, 1) := by decide +kernel
theorem dX7_link_93 : decode cX7_link 93 = .ok (.iaload, 1) := by decide +kernel
theorem dX7_link_94 : decode cX7_link 94 = .ok (.goto 4, 3) := by decide +kernel
theorem dX7_link_97 : decode cX7_link 97 = .ok (.iload_n 3, 1) := by decide +kernel
theorem dX7_link_98 : decode cX7_link 98 = .ok (.iastore, 1) := by decide +kernel
theorem dX7_link_99 : decode cX7_link 99 = .ok (.aload_n 0, 1) := by decide +kernel
theorem dX7_link_100 : decode cX7_link 100 = .ok (.getfield 29, 3) := by decide +kernel
theorem dX7_link_103 : decode cX7_link 103 = .ok (.getfield 328, 3) := by decide +kernel
theorem dX7_link_106 : decode cX7_link 106 = .ok (.iload_n 1, 1) := by decide +kernel
theorem dX7_link_107 : decode cX7_link 107 = .ok (.iload 4, 2) := by decide +kernel
theorem dX7_link_109 : decode cX7_link 109 = .ok (.ifCond .eq 15, 3) := by decide +kernel
theorem dX7_link_112 : decode cX7_link 112 = .ok (.aload_n 0, 1) := by decide +kernel
theorem dX7_link_113 : decode cX7_link 113 = .ok (.getfield 15, 3) := by decide +kernel
theorem dX7_link_116 : decode cX7_link 116 = .ok (.getfield 331, 3) := by decide +kernel
theorem dX7_link_119 : decode cX7_link 119 = .ok (.iload_n 3, 1) := by decide +kernel
theorem dX7_link_120 : decode cX7_link 120 = .ok (.iaload, 1) := by decide +kernel
theorem dX7_link_121 : decode cX7_link 121 = .ok (.goto 4, 3) := by decide +kernel
theorem dX7_link_124 : decode cX7_link 124 = .ok (.iconst 0, 1) := by decide +kernel
theorem dX7_link_125 : decode cX7_link 125 = .ok (.iastore, 1) := by decide +kernel
theorem dX7_link_126 : decode cX7_link 126 = .ok (.iinc 1 1, 3) := by decide +kernel
theorem dX7_link_129 : decode cX7_link 129 = .ok (.goto (-127), 3) := by decide +kernel
theorem dX7_link_132 : decode cX7_link 132 = .ok (.iconst 0, 1) := by decide +kernel
theorem dX7_link_133 : decode cX7_link 133 = .ok (.istore_n 1, 1) := by decide +kernel
theorem dX7_link_134 : decode cX7_link 134 = .ok (.iload_n 1, 1) := by decide +kernel
theorem dX7_link_135 : decode cX7_link 135 = .ok (.aload_n 0, 1) := by decide +kernel
theorem dX7_link_136 : decode cX7_link 136 = .ok (.getfield 19, 3) := by decide +kernel
theorem dX7_link_139 : decode cX7_link 139 = .ok (.getfield 289, 3) := by decide +kernel
theorem dX7_link_142 : decode cX7_link 142 = .ok (.if_icmp .ge 101, 3) := by decide +kernel
theorem dX7_link_145 : decode cX7_link 145 = .ok (.aload_n 0, 1) := by decide +kernel
theorem dX7_link_146 : decode cX7_link 146 = .ok (.getfield 19, 3) := by decide +kernel
theorem dX7_link_149 : decode cX7_link 149 = .ok (.getfield 334, 3) := by decide +kernel
theorem dX7_link_152 : decode cX7_link 152 = .ok (.iload_n 1, 1) := by decide +kernel
theorem dX7_link_153 : decode cX7_link 153 = .ok (.iaload, 1) := by decide +kernel
theorem dX7_link_154 : decode cX7_link 154 = .ok (.istore_n 2, 1) := by decide +kernel
theorem dX7_link_155 : decode cX7_link 155 = .ok (.aload_n 0, 1) := by decide +kernel
theorem dX7_link_156 : decode cX7_link 156 = .ok (.getfield 19, 3) := by decide +kernel
theorem dX7_link_159 : decode cX7_link 159 = .ok (.getfield 337, 3) := by decide +kernel
theorem dX7_link_162 : decode cX7_link 162 = .ok (.iload_n 1, 1) := by decide +kernel
theorem dX7_link_163 : decode cX7_link 163 = .ok (.iaload, 1) := by decide +kernel
theorem dX7_link_164 : decode cX7_link 164 = .ok (.bipush 6, 2) := by decide +kernel
theorem dX7_link_166 : decode cX7_link 166 = .ok (.if_icmp .ne 71, 3) := by decide +kernel
theorem dX7_link_169 : decode cX7_link 169 = .ok (.aload_n 0, 1) := by decide +kernel
theorem dX7_link_170 : decode cX7_link 170 = .ok (.getfield 15, 3) := by decide +kernel
theorem dX7_link_173 : decode cX7_link 173 = .ok (.getfield 109, 3) := by decide +kernel
theorem dX7_link_176 : decode cX7_link 176 = .ok (.iload_n 2, 1) := by decide +kernel
theorem dX7_link_177 : decode cX7_link 177 = .ok (.iaload, 1) := by decide +kernel
theorem dX7_link_178 : decode cX7_link 178 = .ok (.bipush 7, 2) := by decide +kernel
theorem dX7_link_180 : decode cX7_link 180 = .ok (.if_icmp .ne 17, 3) := by decide +kernel
theorem dX7_link_183 : decode cX7_link 183 = .ok (.aload_n 0, 1) := by decide +kernel
theorem dX7_link_184 : decode cX7_link 184 = .ok (.getfield 11, 3) := by decide +kernel
theorem dX7_link_187 : decode cX7_link 187 = .ok (.getfield 147, 3) := by decide +kernel
theorem dX7_link_190 : decode cX7_link 190 = .ok (.iload_n 2, 1) := by decide +kernel
theorem dX7_link_191 : decode cX7_link 191 = .ok (.iconst 2, 1) := by decide +kernel
theorem dX7_link_192 : decode cX7_link 192 = .ok (.iadd, 1) := by decide +kernel
theorem dX7_link_193 : decode cX7_link 193 = .ok (.iaload, 1) := by decide +kernel
theorem dX7_link_194 : decode cX7_link 194 = .ok (.goto 4, 3) := by decide +kernel
theorem dX7_link_197 : decode cX7_link 197 = .ok (.iconst 0, 1) := by decide +kernel
theorem dX7_link_198 : decode cX7_link 198 = .ok (.istore_n 3, 1) := by decide +kernel
theorem dX7_link_199 : decode cX7_link 199 = .ok (.aload_n 0, 1) := by decide +kernel
theorem dX7_link_200 : decode cX7_link 200 = .ok (.getfield 19, 3) := by decide +kernel
theorem dX7_link_203 : decode cX7_link 203 = .ok (.getfield 337, 3) := by decide +kernel
theorem dX7_link_206 : decode cX7_link 206 = .ok (.iload_n 1, 1) := by decide +kernel
theorem dX7_link_207 : decode cX7_link 207 = .ok (.iconst 2, 1) := by decide +kernel
theorem dX7_link_208 : decode cX7_link 208 = .ok (.iastore, 1) := by decide +kernel
theorem dX7_link_209 : decode cX7_link 209 = .ok (.aload_n 0, 1) := by decide +kernel
theorem dX7_link_210 : decode cX7_link 210 = .ok (.getfield 19, 3) := by decide +kernel
theorem dX7_link_213 : decode cX7_link 213 = .ok (.getfield 334, 3) := by decide +kernel
theorem dX7_link_216 : decode cX7_link 216 = .ok (.iload_n 1, 1) := by decide +kernel
theorem dX7_link_217 : decode cX7_link 217 = .ok (.aload_n 0, 1) := by decide +kernel
theorem dX7_link_218 : decode cX7_link 218 = .ok (.getfield 15, 3) := by decide +kernel
theorem dX7_link_221 : decode cX7_link 221 = .ok (.getfield 325, 3) := by decide +kernel
theorem dX7_link_224 : decode cX7_link 224 = .ok (.aload_n 0, 1) := by decide +kernel
theorem dX7_link_225 : decode cX7_link 225 = .ok (.getfield 15, 3) := by decide +kernel
theorem dX7_link_228 : decode cX7_link 228 = .ok (.getfield 254, 3) := by decide +kernel
theorem dX7_link_231 : decode cX7_link 231 = .ok (.iload_n 2, 1) := by decide +kernel
theorem dX7_link_232 : decode cX7_link 232 = .ok (.iaload, 1) := by decide +kernel
theorem dX7_link_233 : decode cX7_link 233 = .ok (.iaload, 1) := by decide +kernel
theorem dX7_link_234 : decode cX7_link 234 = .ok (.iload_n 3, 1) := by decide +kernel
theorem dX7_link_235 : decode cX7_link 235 = .ok (.iadd, 1) := by decide +kernel
theorem dX7_link_236 : decode cX7_link 236 = .ok (.iastore, 1) := by decide +kernel
theorem dX7_link_237 : decode cX7_link 237 = .ok (.iinc 1 1, 3) := by decide +kernel
theorem dX7_link_240 : decode cX7_link 240 = .ok (.goto (-106), 3) := by decide +kernel
theorem dX7_link_243 : decode cX7_link 243 = .ok (.return_, 1) := by decide +kernel
theorem dX8_init_0 : decode cX8_init 0 = .ok (.aload_n 0, 1) := by decide +kernel
theorem dX8_init_1 : decode cX8_init 1 = .ok (.invokespecial 3, 3) := by decide +kernel
theorem dX8_init_4 : decode cX8_init 4 = .ok (.aload_n 0, 1) := by decide +kernel
theorem dX8_init_5 : decode cX8_init 5 = .ok (.iload_n 1, 1) := by decide +kernel
theorem dX8_init_6 : decode cX8_init 6 = .ok (.newarray .int, 2) := by decide +kernel
theorem dX8_init_8 : decode cX8_init 8 = .ok (.putfield 9, 3) := by decide +kernel
theorem dX8_init_11 : decode cX8_init 11 = .ok (.aload_n 0, 1) := by decide +kernel
theorem dX8_init_12 : decode cX8_init 12 = .ok (.iload_n 1, 1) := by decide +kernel
theorem dX8_init_13 : decode cX8_init 13 = .ok (.newarray .int, 2) := by decide +kernel
theorem dX8_init_15 : decode cX8_init 15 = .ok (.putfield 15, 3) := by decide +kernel
theorem dX8_init_18 : decode cX8_init 18 = .ok (.aload_n 0, 1) := by decide +kernel
theorem dX8_init_19 : decode cX8_init 19 = .ok (.iload_n 1, 1) := by decide +kernel
theorem dX8_init_20 : decode cX8_init 20 = .ok (.newarray .int, 2) := by decide +kernel
theorem dX8_init_22 : decode cX8_init 22 = .ok (.putfield 18, 3) := by decide +kernel
theorem dX8_init_25 : decode cX8_init 25 = .ok (.aload_n 0, 1) := by decide +kernel
theorem dX8_init_26 : decode cX8_init 26 = .ok (.iload_n 1, 1) := by decide +kernel
theorem dX8_init_27 : decode cX8_init 27 = .ok (.newarray .int, 2) := by decide +kernel
theorem dX8_init_29 : decode cX8_init 29 = .ok (.putfield 21, 3) := by decide +kernel
theorem dX8_init_32 : decode cX8_init 32 = .ok (.aload_n 0, 1) := by decide +kernel
theorem dX8_init_33 : decode cX8_init 33 = .ok (.iload_n 1, 1) := by decide +kernel
theorem dX8_init_34 : decode cX8_init 34 = .ok (.newarray .int, 2) := by decide +kernel
theorem dX8_init_36 : decode cX8_init 36 = .ok (.putfield 24, 3) := by decide +kernel
theorem dX8_init_39 : decode cX8_init 39 = .ok (.aload_n 0, 1) := by decide +kernel
theorem dX8_init_40 : decode cX8_init 40 = .ok (.iload_n 1, 1) := by decide +kernel
theorem dX8_init_41 : decode cX8_init 41 = .ok (.newarray .int, 2) := by decide +kernel
theorem dX8_init_43 : decode cX8_init 43 = .ok (.putfield 27, 3) := by decide +kernel
theorem dX8_init_46 : decode cX8_init 46 = .ok (.aload_n 0, 1) := by decide +kernel
theorem dX8_init_47 : decode cX8_init 47 = .ok (.iload_n 1, 1) := by decide +kernel
theorem dX8_init_48 : decode cX8_init 48 = .ok (.newarray .int, 2) := by decide +kernel
theorem dX8_init_50 : decode cX8_init 50 = .ok (.putfield 30, 3) := by decide +kernel
theorem dX8_init_53 : decode cX8_init 53 = .ok (.aload_n 0, 1) := by decide +kernel
theorem dX8_init_54 : decode cX8_init 54 = .ok (.iload_n 1, 1) := by decide +kernel
theorem dX8_init_55 : decode cX8_init 55 = .ok (.newarray .int, 2) := by decide +kernel
theorem dX8_init_57 : decode cX8_init 57 = .ok (.putfield 33, 3) := by decide +kernel
theorem dX8_init_60 : decode cX8_init 60 = .ok (.aload_n 0, 1) := by decide +kernel
theorem dX8_init_61 : decode cX8_init 61 = .ok (.iload_n 1, 1) := by decide +kernel
theorem dX8_init_62 : decode cX8_init 62 = .ok (.newarray .int, 2) := by decide +kernel
theorem dX8_init_64 : decode cX8_init 64 = .ok (.putfield 36, 3) := by decide +kernel
theorem dX8_init_67 : decode cX8_init 67 = .ok (.return_, 1) := by decide +kernel
theorem dX9_init_0 : decode cX9_init 0 = .ok (.aload_n 0, 1) := by decide +kernel
theorem dX9_init_1 : decode cX9_init 1 = .ok (.invokespecial 3, 3) := by decide +kernel
theorem dX9_init_4 : decode cX9_init 4 = .ok (.aload_n 0, 1) := by decide +kernel
theorem dX9_init_5 : decode cX9_init 5 = .ok (.sipush 3000, 3) := by decide +kernel
theorem dX9_init_8 : decode cX9_init 8 = .ok (.newarray .byte, 2) := by decide +kernel
theorem dX9_init_10 : decode cX9_init 10 = .ok (.putfield 9, 3) := by decide +kernel
theorem dX9_init_13 : decode cX9_init 13 = .ok (.aload_n 0, 1) := by decide +kernel
theorem dX9_init_14 : decode cX9_init 14 = .ok (.sipush 702, 3) := by decide +kernel
theorem dX9_init_17 : decode cX9_init 17 = .ok (.newarray .int, 2) := by decide +kernel
theorem dX9_init_19 : decode cX9_init 19 = .ok (.putfield 15, 3) := by decide +kernel
theorem dX9_init_22 : decode cX9_init 22 = .ok (.aload_n 0, 1) := by decide +kernel
theorem dX9_init_23 : decode cX9_init 23 = .ok (.sipush 702, 3) := by decide +kernel
theorem dX9_init_26 : decode cX9_init 26 = .ok (.newarray .int, 2) := by decide +kernel
theorem dX9_init_28 : decode cX9_init 28 = .ok (.putfield 19, 3) := by decide +kernel
theorem dX9_init_31 : decode cX9_init 31 = .ok (.aload_n 0, 1) := by decide +kernel
theorem dX9_init_32 : decode cX9_init 32 = .ok (.sipush 702, 3) := by decide +kernel
theorem dX9_init_35 : decode cX9_init 35 = .ok (.newarray .int, 2) := by decide +kernel
theorem dX9_init_37 : decode cX9_init 37 = .ok (.putfield 22, 3) := by decide +kernel
theorem dX9_init_40 : decode cX9_init 40 = .ok (.aload_n 0, 1) := by decide +kernel
theorem dX9_init_41 : decode cX9_init 41 = .ok (.sipush 702, 3) := by decide +kernel
theorem dX9_init_44 : decode cX9_init 44 = .ok (.newarray .int, 2) := by decide +kernel
theorem dX9_init_46 : decode cX9_init 46 = .ok (.putfield 25, 3) := by decide +kernel
theorem dX9_init_49 : decode cX9_init 49 = .ok (.aload_n 0, 1) := by decide +kernel
theorem dX9_init_50 : decode cX9_init 50 = .ok (.sipush 702, 3) := by decide +kernel
theorem dX9_init_53 : decode cX9_init 53 = .ok (.newarray .int, 2) := by decide +kernel
theorem dX9_init_55 : decode cX9_init 55 = .ok (.putfield 28, 3) := by decide +kernel
theorem dX9_init_58 : decode cX9_init 58 = .ok (.return_, 1) := by decide +kernel
theorem dX9_addByte_0 : decode cX9_addByte 0 = .ok (.aload_n 0, 1) := by decide +kernel
theorem dX9_addByte_1 : decode cX9_addByte 1 = .ok (.getfield 31, 3) := by decide +kernel
theorem dX9_addByte_4 : decode cX9_addByte 4 = .ok (.sipush 3000, 3) := by decide +kernel
theorem dX9_addByte_7 : decode cX9_addByte 7 = .ok (.if_icmp .ge 24, 3) := by decide +kernel
theorem dX9_addByte_10 : decode cX9_addByte 10 = .ok (.aload_n 0, 1) := by decide +kernel
theorem dX9_addByte_11 : decode cX9_addByte 11 = .ok (.getfield 9, 3) := by decide +kernel
theorem dX9_addByte_14 : decode cX9_addByte 14 = .ok (.aload_n 0, 1) := by decide +kernel
theorem dX9_addByte_15 : decode cX9_addByte 15 = .ok (.getfield 31, 3) := by decide +kernel
theorem dX9_addByte_18 : decode cX9_addByte 18 = .ok (.iload_n 1, 1) := by decide +kernel
theorem dX9_addByte_19 : decode cX9_addByte 19 = .ok (.i2b, 1) := by decide +kernel
theorem dX9_addByte_20 : decode cX9_addByte 20 = .ok (.bastore, 1) := by decide +kernel
theorem dX9_addByte_21 : decode cX9_addByte 21 = .ok (.aload_n 0, 1) := by decide +kernel
theorem dX9_addByte_22 : decode cX9_addByte 22 = .ok (.dup, 1) := by decide +kernel
theorem dX9_addByte_23 : decode cX9_addByte 23 = .ok (.getfield 31, 3) := by decide +kernel
theorem dX9_addByte_26 : decode cX9_addByte 26 = .ok (.iconst 1, 1) := by decide +kernel
theorem dX9_addByte_27 : decode cX9_addByte 27 = .ok (.iadd, 1) := by decide +kernel
theorem dX9_addByte_28 : decode cX9_addByte 28 = .ok (.putfield 31, 3) := by decide +kernel
theorem dX9_addByte_31 : decode cX9_addByte 31 = .ok (.return_, 1) := by decide +kernel
theorem dX9_cut_0 : decode cX9_cut 0 = .ok (.aload_n 0, 1) := by decide +kernel
theorem dX9_cut_1 : decode cX9_cut 1 = .ok (.iconst 0, 1) := by decide +kernel
theorem dX9_cut_2 : decode cX9_cut 2 = .ok (.putfield 35, 3) := by decide +kernel
theorem dX9_cut_5 : decode cX9_cut 5 = .ok (.aload_n 0, 1) := by decide +kernel
theorem dX9_cut_6 : decode cX9_cut 6 = .ok (.iconst 1, 1) := by decide +kernel
theorem dX9_cut_7 : decode cX9_cut 7 = .ok (.putfield 38, 3) := by decide +kernel
theorem dX9_cut_10 : decode cX9_cut 10 = .ok (.aload_n 0, 1) := by decide +kernel
theorem dX9_cut_11 : decode cX9_cut 11 = .ok (.iconst 0, 1) := by decide +kernel
theorem dX9_cut_12 : decode cX9_cut 12 = .ok (.putfield 41, 3) := by decide +kernel
theorem dX9_cut_15 : decode cX9_cut 15 = .ok (.iconst 1, 1) := by decide +kernel
theorem dX9_cut_16 : decode cX9_cut 16 = .ok (.istore_n 1, 1) := by decide +kernel
theorem dX9_cut_17 : decode cX9_cut 17 = .ok (.iconst 0, 1) := by decide +kernel
theorem dX9_cut_18 : decode cX9_cut 18 = .ok (.istore_n 2, 1) := by decide +kernel
theorem dX9_cut_19 : decode cX9_cut 19 = .ok (.iload_n 2, 1) := by decide +kernel
theorem dX9_cut_20 : decode cX9_cut 20 = .ok (.sipush 700, 3) := by decide +kernel
theorem dX9_cut_23 : decode cX9_cut 23 = .ok (.if_icmp .gt 99, 3) := by decide +kernel
theorem dX9_cut_26 : decode cX9_cut 26 = .ok (.iload_n 1, 1) := by decide +kernel
theorem dX9_cut_27 : decode cX9_cut 27 = .ok (.ifCond .eq 95, 3) := by decide +kernel
theorem dX9_cut_30 : decode cX9_cut 30 = .ok (.aload_n 0, 1) := by decide +kernel
theorem dX9_cut_31 : decode cX9_cut 31 = .ok (.invokevirtual 44, 3) := by decide +kernel
theorem dX9_cut_34 : decode cX9_cut 34 = .ok (.aload_n 0, 1) := by decide +kernel
theorem dX9_cut_35 : decode cX9_cut 35 = .ok (.getfield 35, 3) := by decide +kernel
theorem dX9_cut_38 : decode cX9_cut 38 = .ok (.aload_n 0, 1) := by decide +kernel
theorem dX9_cut_39 : decode cX9_cut 39 = .ok (.getfield 31, 3) := by decide +kernel
theorem dX9_cut_42 : decode cX9_cut 42 = .ok (.if_icmp .lt 6, 3) := by decide +kernel
theorem dX9_cut_45 : decode cX9_cut 45 = .ok (.goto 77, 3) := by decide +kernel
theorem dX9_cut_48 : decode cX9_cut 48 = .ok (.aload_n 0, 1) := by decide +kernel
theorem dX9_cut_49 : decode cX9_cut 49 = .ok (.getfield 19, 3) := by decide +kernel
theorem dX9_cut_52 : decode cX9_cut 52 = .ok (.aload_n 0, 1) := by decide +kernel
theorem dX9_cut_53 : decode cX9_cut 53 = .ok (.getfield 41, 3) := by decide +kernel
theorem dX9_cut_56 : decode cX9_cut 56 = .ok (.aload_n 0, 1) := by decide +kernel
theorem dX9_cut_57 : decode cX9_cut 57 = .ok (.getfield 35, 3) := by decide +kernel
theorem dX9_cut_60 : decode cX9_cut 60 = .ok (.iastore, 1) := by decide +kernel
theorem dX9_cut_61 : decode cX9_cut 61 = .ok (.aload_n 0, 1) := by decide +kernel
theorem dX9_cut_62 : decode cX9_cut 62 = .ok (.getfield 22, 3) := by decide +kernel
theorem dX9_cut_65 : decode cX9_cut 65 = .ok (.aload_n 0, 1) := by decide +kernel
theorem dX9_cut_66 : decode cX9_cut 66 = .ok (.getfield 41, 3) := by decide +kernel
theorem dX9_cut_69 : decode cX9_cut 69 = .ok (.aload_n 0, 1) := by decide +kernel
theorem dX9_cut_70 : decode cX9_cut 70 = .ok (.getfield 38, 3) := by decide +kernel
theorem dX9_cut_73 : decode cX9_cut 73 = .ok (.iastore, 1) := by decide +kernel
theorem dX9_cut_74 : decode cX9_cut 74 = .ok (.aload_n 0, 1) := by decide +kernel
theorem dX9_cut_75 : decode cX9_cut 75 = .ok (.getfield 15, 3) := by decide +kernel
theorem dX9_cut_78 : decode cX9_cut 78 = .ok (.aload_n 0, 1) := by decide +kernel
theorem dX9_cut_79 : decode cX9_cut 79 = .ok (.getfield 41, 3) := by decide +kernel
theorem dX9_cut_82 : decode cX9_cut 82 = .ok (.aload_n 0, 1) := by decide +kernel
theorem dX9_cut_83 : decode cX9_cut 83 = .ok (.invokevirtual 47, 3) := by decide +kernel
theorem dX9_cut_86 : decode cX9_cut 86 = .ok (.iastore, 1) := by decide +kernel
theorem dX9_cut_87 : decode cX9_cut 87 = .ok (.aload_n 0, 1) := by decide +kernel
theorem dX9_cut_88 : decode cX9_cut 88 = .ok (.getfield 15, 3) := by decide +kernel
theorem dX9_cut_91 : decode cX9_cut 91 = .ok (.aload_n 0, 1) := by decide +kernel
theorem dX9_cut_92 : decode cX9_cut 92 = .ok (.getfield 41, 3) := by decide +kernel
theorem dX9_cut_95 : decode cX9_cut 95 = .ok (.iaload, 1) := by decide +kernel
theorem dX9_cut_96 : decode cX9_cut 96 = .ok (.iconst 1, 1) := by decide +kernel
theorem dX9_cut_97 : decode cX9_cut 97 = .ok (.if_icmp .eq 7, 3) := by decide +kernel
theorem dX9_cut_100 : decode cX9_cut 100 = .ok (.iconst 1, 1) := by decide +kernel
theorem dX9_cut_101 : decode cX9_cut 101 = .ok (.goto 4, 3) := by decide +kernel
theorem dX9_cut_104 : decode cX9_cut 104 = .ok (.iconst 0, 1) := by decide +kernel
theorem dX9_cut_105 : decode cX9_cut 105 = .ok (.istore_n 1, 1) := by decide +kernel
theorem dX9_cut_106 : decode cX9_cut 106 = .ok (.aload_n 0, 1) := by decide +kernel
theorem dX9_cut_107 : decode cX9_cut 107 = .ok (.dup, 1) := by decide +kernel
theorem dX9_cut_108 : decode cX9_cut 108 = .ok (.getfield 41, 3) := by decide +kernel
theorem dX9_cut_111 : decode cX9_cut 111 = .ok (.iconst 1, 1) := by decide +kernel
theorem dX9_cut_112 : decode cX9_cut 112 = .ok (.iadd, 1) := by decide +kernel
theorem dX9_cut_113 : decode cX9_cut 113 = .ok (.putfield 41, 3) := by decide +kernel
theorem dX9_cut_116 : decode cX9_cut 116 = .ok (.iinc 2 1, 3) := by decide +kernel
theorem dX9_cut_119 : decode cX9_cut 119 = .ok (.goto (-100), 3) := by decide +kernel
theorem dX9_cut_122 : decode cX9_cut 122 = .ok (.aload_n 0, 1) := by decide +kernel
theorem dX9_cut_123 : decode cX9_cut 123 = .ok (.getfield 15, 3) := by decide +kernel
theorem dX9_cut_126 : decode cX9_cut 126 = .ok (.aload_n 0, 1) := by decide +kernel
theorem dX9_cut_127 : decode cX9_cut 127 = .ok (.getfield 41, 3) := by decide +kernel
theorem dX9_cut_130 : decode cX9_cut 130 = .ok (.iconst 0, 1) := by decide +kernel
theorem dX9_cut_131 : decode cX9_cut 131 = .ok (.iastore, 1) := by decide +kernel
theorem dX9_cut_132 : decode cX9_cut 132 = .ok (.aload_n 0, 1) := by decide +kernel
theorem dX9_cut_133 : decode cX9_cut 133 = .ok (.getfield 19, 3) := by decide +kernel
theorem dX9_cut_136 : decode cX9_cut 136 = .ok (.aload_n 0, 1) := by decide +kernel
theorem dX9_cut_137 : decode cX9_cut 137 = .ok (.getfield 41, 3) := by decide +kernel
theorem dX9_cut_140 : decode cX9_cut 140 = .ok (.aload_n 0, 1) := by decide +kernel
theorem dX9_cut_141 : decode cX9_cut 141 = .ok (.getfield 31, 3) := by decide +kernel
theorem dX9_cut_144 : decode cX9_cut 144 = .ok (.iastore, 1) := by decide +kernel
theorem dX9_cut_145 : decode cX9_cut 145 = .ok (.aload_n 0, 1) := by decide +kernel
theorem dX9_cut_146 : decode cX9_cut 146 = .ok (.getfield 22, 3) := by decide +kernel
theorem dX9_cut_149 : decode cX9_cut 149 = .ok (.aload_n 0, 1) := by decide +kernel
theorem dX9_cut_150 : decode cX9_cut 150 = .ok (.getfield 41, 3) := by decide +kernel
theorem dX9_cut_153 : decode cX9_cut 153 = .ok (.aload_n 0, 1) := by decide +kernel
theorem dX9_cut_154 : decode cX9_cut 154 = .ok (.getfield 38, 3) := by decide +kernel
theorem dX9_cut_157 : decode cX9_cut 157 = .ok (.iastore, 1) := by decide +kernel
theorem dX9_cut_158 : decode cX9_cut 158 = .ok (.return_, 1) := by decide +kernel
theorem dX9_skipBlanks_0 : decode cX9_skipBlanks 0 = .ok (.iconst 0, 1) := by decide +kernel
theorem dX9_skipBlanks_1 : decode cX9_skipBlanks 1 = .ok (.istore_n 1, 1) := by decide +kernel
theorem dX9_skipBlanks_2 : decode cX9_skipBlanks 2 = .ok (.aload_n 0, 1) := by decide +kernel
theorem dX9_skipBlanks_3 : decode cX9_skipBlanks 3 = .ok (.getfield 35, 3) := by decide +kernel
theorem dX9_skipBlanks_6 : decode cX9_skipBlanks 6 = .ok (.aload_n 0, 1) := by decide +kernel
theorem dX9_skipBlanks_7 : decode cX9_skipBlanks 7 = .ok (.getfield 31, 3) := by decide +kernel
theorem dX9_skipBlanks_10 : decode cX9_skipBlanks 10 = .ok (.if_icmp .ge 95, 3) := by decide +kernel
theorem dX9_skipBlanks_13 : decode cX9_skipBlanks 13 = .ok (.aload_n 0, 1) := by decide +kernel
theorem dX9_skipBlanks_14 : decode cX9_skipBlanks 14 = .ok (.aload_n 0, 1) := by decide +kernel
theorem dX9_skipBlanks_15 : decode cX9_skipBlanks 15 = .ok (.getfield 35, 3) := by decide +kernel
theorem dX9_skipBlanks_18 : decode cX9_skipBlanks 18 = .ok (.invokevirtual 51, 3) := by decide +kernel
theorem dX9_skipBlanks_21 : decode cX9_skipBlanks 21 = .ok (.istore_n 2, 1) := by decide +kernel
theorem dX9_skipBlanks_22 : decode cX9_skipBlanks 22 = .ok (.iload_n 2, 1) := by decide +kernel
theorem dX9_skipBlanks_23 : decode cX9_skipBlanks 23 = .ok (.bipush 10, 2) := by decide +kernel
theorem dX9_skipBlanks_25 : decode cX9_skipBlanks 25 = .ok (.if_icmp .ne 18, 3) := by decide +kernel
theorem dX9_skipBlanks_28 : decode cX9_skipBlanks 28 = .ok (.aload_n 0, 1) := by decide +kernel
theorem dX9_skipBlanks_29 : decode cX9_skipBlanks 29 = .ok (.dup, 1) := by decide +kernel
theorem dX9_skipBlanks_30 : decode cX9_skipBlanks 30 = .ok (.getfield 38, 3) := by decide +kernel
theorem dX9_skipBlanks_33 : decode cX9_skipBlanks 33 = .ok (.iconst 1, 1) := by decide +kernel
theorem dX9_skipBlanks_34 : decode cX9_skipBlanks 34 = .ok (.iadd, 1) := by decide +kernel
theorem dX9_skipBlanks_35 : decode cX9_skipBlanks 35 = .ok (.putfield 38, 3) := by decide +kernel
theorem dX9_skipBlanks_38 : decode cX9_skipBlanks 38 = .ok (.iconst 0, 1) := by decide +kernel
theorem dX9_skipBlanks_39 : decode cX9_skipBlanks 39 = .ok (.istore_n 1, 1) := by decide +kernel
theorem dX9_skipBlanks_40 : decode cX9_skipBlanks 40 = .ok (.goto 52, 3) := by decide +kernel
theorem dX9_skipBlanks_43 : decode cX9_skipBlanks 43 = .ok (.iload_n 2, 1) := by decide +kernel
theorem dX9_skipBlanks_44 : decode cX9_skipBlanks 44 = .ok (.bipush 47, 2) := by decide +kernel
theorem dX9_skipBlanks_46 : decode cX9_skipBlanks 46 = .ok (.if_icmp .ne 23, 3) := by decide +kernel
theorem dX9_skipBlanks_49 : decode cX9_skipBlanks 49 = .ok (.aload_n 0, 1) := by decide +kernel
theorem dX9_skipBlanks_50 : decode cX9_skipBlanks 50 = .ok (.aload_n 0, 1) := by decide +kernel
theorem dX9_skipBlanks_51 : decode cX9_skipBlanks 51 = .ok (.getfield 35, 3) := by decide +kernel
theorem dX9_skipBlanks_54 : decode cX9_skipBlanks 54 = .ok (.iconst 1, 1) := by decide +kernel
theorem dX9_skipBlanks_55 : decode cX9_skipBlanks 55 = .ok (.iadd, 1) := by decide +kernel
theorem dX9_skipBlanks_56 : decode cX9_skipBlanks 56 = .ok (.invokevirtual 51, 3) := by decide +kernel
theorem dX9_skipBlanks_59 : decode cX9_skipBlanks 59 = .ok (.bipush 47, 2) := by decide +kernel
theorem dX9_skipBlanks_61 : decode cX9_skipBlanks 61 = .ok (.if_icmp .ne 8, 3) := by decide +kernel
theorem dX9_skipBlanks_64 : decode cX9_skipBlanks 64 = .ok (.iconst 1, 1) := by decide +kernel
theorem dX9_skipBlanks_65 : decode cX9_skipBlanks 65 = .ok (.istore_n 1, 1) := by decide +kernel
theorem dX9_skipBlanks_66 : decode cX9_skipBlanks 66 = .ok (.goto 26, 3) := by decide +kernel
theorem dX9_skipBlanks_69 : decode cX9_skipBlanks 69 = .ok (.iload_n 1, 1) := by decide +kernel
theorem dX9_skipBlanks_70 : decode cX9_skipBlanks 70 = .ok (.ifCond .ne 22, 3) := by decide +kernel
theorem dX9_skipBlanks_73 : decode cX9_skipBlanks 73 = .ok (.iload_n 2, 1) := by decide +kernel
theorem dX9_skipBlanks_74 : decode cX9_skipBlanks 74 = .ok (.bipush 32, 2) := by decide +kernel
theorem dX9_skipBlanks_76 : decode cX9_skipBlanks 76 = .ok (.if_icmp .eq 16, 3) := by decide +kernel
theorem dX9_skipBlanks_79 : decode cX9_skipBlanks 79 = .ok (.iload_n 2, 1) := by decide +kernel
theorem dX9_skipBlanks_80 : decode cX9_skipBlanks 80 = .ok (.bipush 9, 2) := by decide +kernel
theorem dX9_skipBlanks_82 : decode cX9_skipBlanks 82 = .ok (.if_icmp .eq 10, 3) := by decide +kernel
theorem dX9_skipBlanks_85 : decode cX9_skipBlanks 85 = .ok (.iload_n 2, 1) := by decide +kernel
theorem dX9_skipBlanks_86 : decode cX9_skipBlanks 86 = .ok (.bipush 13, 2) := by decide +kernel
theorem dX9_skipBlanks_88 : decode cX9_skipBlanks 88 = .ok (.if_icmp .eq 4, 3) := by decide +kernel
theorem dX9_skipBlanks_91 : decode cX9_skipBlanks 91 = .ok (.return_, 1) := by decide +kernel
theorem dX9_skipBlanks_92 : decode cX9_skipBlanks 92 = .ok (.aload_n 0, 1) := by decide +kernel
theorem dX9_skipBlanks_93 : decode cX9_skipBlanks 93 = .ok (.dup, 1) := by decide +kernel
theorem dX9_skipBlanks_94 : decode cX9_skipBlanks 94 = .ok (.getfield 35, 3) := by decide +kernel
theorem dX9_skipBlanks_97 : decode cX9_skipBlanks 97 = .ok (.iconst 1, 1) := by decide +kernel
theorem dX9_skipBlanks_98 : decode cX9_skipBlanks 98 = .ok (.iadd, 1) := by decide +kernel
theorem dX9_skipBlanks_99 : decode cX9_skipBlanks 99 = .ok (.putfield 35, 3) := by decide +kernel
theorem dX9_skipBlanks_102 : decode cX9_skipBlanks 102 = .ok (.goto (-100), 3) := by decide +kernel
theorem dX9_skipBlanks_105 : decode cX9_skipBlanks 105 = .ok (.return_, 1) := by decide +kernel
theorem dX11_init_0 : decode cX11_init 0 = .ok (.aload_n 0, 1) := by decide +kernel
theorem dX11_init_1 : decode cX11_init 1 = .ok (.invokespecial 1, 3) := by decide +kernel
theorem dX11_init_4 : decode cX11_init 4 = .ok (.aload_n 0, 1) := by decide +kernel
theorem dX11_init_5 : decode cX11_init 5 = .ok (.new 7, 3) := by decide +kernel
theorem dX11_init_8 : decode cX11_init 8 = .ok (.dup, 1) := by decide +kernel
theorem dX11_init_9 : decode cX11_init 9 = .ok (.invokespecial 9, 3) := by decide +kernel
theorem dX11_init_12 : decode cX11_init 12 = .ok (.putfield 10, 3) := by decide +kernel
theorem dX11_init_15 : decode cX11_init 15 = .ok (.aload_n 0, 1) := by decide +kernel
theorem dX11_init_16 : decode cX11_init 16 = .ok (.new 16, 3) := by decide +kernel
theorem dX11_init_19 : decode cX11_init 19 = .ok (.dup, 1) := by decide +kernel
theorem dX11_init_20 : decode cX11_init 20 = .ok (.aload_n 0, 1) := by decide +kernel
theorem dX11_init_21 : decode cX11_init 21 = .ok (.getfield 10, 3) := by decide +kernel
theorem dX11_init_24 : decode cX11_init 24 = .ok (.invokespecial 18, 3) := by decide +kernel
theorem dX11_init_27 : decode cX11_init 27 = .ok (.putfield 21, 3) := by decide +kernel
theorem dX11_init_30 : decode cX11_init 30 = .ok (.aload_n 0, 1) := by decide +kernel
theorem dX11_init_31 : decode cX11_init 31 = .ok (.new 25, 3) := by decide +kernel
theorem dX11_init_34 : decode cX11_init 34 = .ok (.dup, 1) := by decide +kernel
theorem dX11_init_35 : decode cX11_init 35 = .ok (.invokespecial 27, 3) := by decide +kernel
theorem dX11_init_38 : decode cX11_init 38 = .ok (.putfield 28, 3) := by decide +kernel
theorem dX11_init_41 : decode cX11_init 41 = .ok (.aload_n 0, 1) := by decide +kernel
theorem dX11_init_42 : decode cX11_init 42 = .ok (.new 32, 3) := by decide +kernel
theorem dX11_init_45 : decode cX11_init 45 = .ok (.dup, 1) := by decide +kernel
theorem dX11_init_46 : decode cX11_init 46 = .ok (.aload_n 0, 1) := by decide +kernel
theorem dX11_init_47 : decode cX11_init 47 = .ok (.getfield 10, 3) := by decide +kernel
theorem dX11_init_50 : decode cX11_init 50 = .ok (.aload_n 0, 1) := by decide +kernel
theorem dX11_init_51 : decode cX11_init 51 = .ok (.getfield 21, 3) := by decide +kernel
theorem dX11_init_54 : decode cX11_init 54 = .ok (.aload_n 0, 1) := by decide +kernel
theorem dX11_init_55 : decode cX11_init 55 = .ok (.getfield 28, 3) := by decide +kernel
theorem dX11_init_58 : decode cX11_init 58 = .ok (.invokespecial 34, 3) := by decide +kernel
theorem dX11_init_61 : decode cX11_init 61 = .ok (.putfield 37, 3) := by decide +kernel
theorem dX11_init_64 : decode cX11_init 64 = .ok (.aload_n 0, 1) := by decide +kernel
theorem dX11_init_65 : decode cX11_init 65 = .ok (.new 41, 3) := by decide +kernel
theorem dX11_init_68 : decode cX11_init 68 = .ok (.dup, 1) := by decide +kernel
theorem dX11_init_69 : decode cX11_init 69 = .ok (.aload_n 0, 1) := by decide +kernel
theorem dX11_init_70 : decode cX11_init 70 = .ok (.getfield 28, 3) := by decide +kernel
theorem dX11_init_73 : decode cX11_init 73 = .ok (.invokespecial 43, 3) := by decide +kernel
theorem dX11_init_76 : decode cX11_init 76 = .ok (.putfield 46, 3) := by decide +kernel
theorem dX11_init_79 : decode cX11_init 79 = .ok (.aload_n 0, 1) := by decide +kernel
theorem dX11_init_80 : decode cX11_init 80 = .ok (.new 50, 3) := by decide +kernel
theorem dX11_init_83 : decode cX11_init 83 = .ok (.dup, 1) := by decide +kernel
theorem dX11_init_84 : decode cX11_init 84 = .ok (.aload_n 0, 1) := by decide +kernel
theorem dX11_init_85 : decode cX11_init 85 = .ok (.getfield 28, 3) := by decide +kernel
theorem dX11_init_88 : decode cX11_init 88 = .ok (.invokespecial 52, 3) := by decide +kernel
theorem dX11_init_91 : decode cX11_init 91 = .ok (.putfield 53, 3) := by decide +kernel
theorem dX11_init_94 : decode cX11_init 94 = .ok (.aload_n 0, 1) := by decide +kernel
theorem dX11_init_95 : decode cX11_init 95 = .ok (.iconst 2, 1) := by decide +kernel
theorem dX11_init_96 : decode cX11_init 96 = .ok (.anewarray 57, 3) := by decide +kernel
theorem dX11_init_99 : decode cX11_init 99 = .ok (.putfield 59, 3) := by decide +kernel
theorem dX11_init_102 : decode cX11_init 102 = .ok (.aload_n 0, 1) := by decide +kernel
theorem dX11_init_103 : decode cX11_init 103 = .ok (.iconst (-1), 1) := by decide +kernel
theorem dX11_init_104 : decode cX11_init 104 = .ok (.putfield 63, 3) := by decide +kernel
theorem dX11_init_107 : decode cX11_init 107 = .ok (.aload_n 0, 1) := by decide +kernel
theorem dX11_init_108 : decode cX11_init 108 = .ok (.iconst (-1), 1) := by decide +kernel
theorem dX11_init_109 : decode cX11_init 109 = .ok (.putfield 67, 3) := by decide +kernel
theorem dX11_init_112 : decode cX11_init 112 = .ok (.return_, 1) := by decide +kernel
theorem dX11_feed_0 : decode cX11_feed 0 = .ok (.iload_n 1, 1) := by decide +kernel
theorem dX11_feed_1 : decode cX11_feed 1 = .ok (.iconst 1, 1) := by decide +kernel
theorem dX11_feed_2 : decode cX11_feed 2 = .ok (.if_icmp .lt 9, 3) := by decide +kernel
theorem dX11_feed_5 : decode cX11_feed 5 = .ok (.iload_n 1, 1) := by decide +kernel
theorem dX11_feed_6 : decode cX11_feed 6 = .ok (.bipush 8, 2) := by decide +kernel
theorem dX11_feed_8 : decode cX11_feed 8 = .ok (.if_icmp .le 13, 3) := by decide +kernel
theorem dX11_feed_11 : decode cX11_feed 11 = .ok (.new 70, 3) := by decide +kernel
theorem dX11_feed_14 : decode cX11_feed 14 = .ok (.dup, 1) := by decide +kernel
theorem dX11_feed_15 : decode cX11_feed 15 = .ok (.ldc 72, 2) := by decide +kernel
theorem dX11_feed_17 : decode cX11_feed 17 = .ok (.invokespecial 74, 3) := by decide +kernel
theorem dX11_feed_20 : decode cX11_feed 20 = .ok (.athrow, 1) := by decide +kernel
theorem dX11_feed_21 : decode cX11_feed 21 = .ok (.aload_n 0, 1) := by decide +kernel
theorem dX11_feed_22 : decode cX11_feed 22 = .ok (.getfield 10, 3) := by decide +kernel
theorem dX11_feed_25 : decode cX11_feed 25 = .ok (.getfield 77, 3) := by decide +kernel
theorem dX11_feed_28 : decode cX11_feed 28 = .ok (.iload_n 1, 1) := by decide +kernel
theorem dX11_feed_29 : decode cX11_feed 29 = .ok (.iadd, 1) := by decide +kernel
theorem dX11_feed_30 : decode cX11_feed 30 = .ok (.sipush 3000, 3) := by decide +kernel
theorem dX11_feed_33 : decode cX11_feed 33 = .ok (.if_icmp .le 13, 3) := by decide +kernel
theorem dX11_feed_36 : decode cX11_feed 36 = .ok (.new 70, 3) := by decide +kernel
theorem dX11_feed_39 : decode cX11_feed 39 = .ok (.dup, 1) := by decide +kernel
theorem dX11_feed_40 : decode cX11_feed 40 = .ok (.ldc 80, 2) := by decide +kernel
theorem dX11_feed_42 : decode cX11_feed 42 = .ok (.invokespecial 74, 3) := by decide +kernel
theorem dX11_feed_45 : decode cX11_feed 45 = .ok (.athrow, 1) := by decide +kernel
theorem dX11_feed_46 : decode cX11_feed 46 = .ok (.iconst 0, 1) := by decide +kernel
theorem dX11_feed_47 : decode cX11_feed 47 = .ok (.istore 4, 2) := by decide +kernel
theorem dX11_feed_49 : decode cX11_feed 49 = .ok (.iload 4, 2) := by decide +kernel
theorem dX11_feed_51 : decode cX11_feed 51 = .ok (.iload_n 1, 1) := by decide +kernel
theorem dX11_feed_52 : decode cX11_feed 52 = .ok (.if_icmp .ge 24, 3) := by decide +kernel
theorem dX11_feed_55 : decode cX11_feed 55 = .ok (.aload_n 0, 1) := by decide +kernel
theorem dX11_feed_56 : decode cX11_feed 56 = .ok (.getfield 10, 3) := by decide +kernel
theorem dX11_feed_59 : decode cX11_feed 59 = .ok (.lload_n 2, 1) := by decide +kernel
theorem dX11_feed_60 : decode cX11_feed 60 = .ok (.bipush 8, 2) := by decide +kernel
theorem dX11_feed_62 : decode cX11_feed 62 = .ok (.iload 4, 2) := by decide +kernel
theorem dX11_feed_64 : decode cX11_feed 64 = .ok (.imul, 1) := by decide +kernel
theorem dX11_feed_65 : decode cX11_feed 65 = .ok (.lushr, 1) := by decide +kernel
theorem dX11_feed_66 : decode cX11_feed 66 = .ok (.l2i, 1) := by decide +kernel
theorem dX11_feed_67 : decode cX11_feed 67 = .ok (.invokevirtual 82, 3) := by decide +kernel
theorem dX11_feed_70 : decode cX11_feed 70 = .ok (.iinc 4 1, 3) := by decide +kernel
theorem dX11_feed_73 : decode cX11_feed 73 = .ok (.goto (-24), 3) := by decide +kernel
theorem dX11_feed_76 : decode cX11_feed 76 = .ok (.aload_n 0, 1) := by decide +kernel
theorem dX11_feed_77 : decode cX11_feed 77 = .ok (.invokevirtual 86, 3) := by decide +kernel
theorem dX11_feed_80 : decode cX11_feed 80 = .ok (.aload_n 0, 1) := by decide +kernel
theorem dX11_feed_81 : decode cX11_feed 81 = .ok (.getfield 10, 3) := by decide +kernel
theorem dX11_feed_84 : decode cX11_feed 84 = .ok (.getfield 77, 3) := by decide +kernel
theorem dX11_feed_87 : decode cX11_feed 87 = .ok (.ireturn, 1) := by decide +kernel
theorem dX11_wipe_0 : decode cX11_wipe 0 = .ok (.aload_n 0, 1) := by decide +kernel
theorem dX11_wipe_1 : decode cX11_wipe 1 = .ok (.getfield 10, 3) := by decide +kernel
theorem dX11_wipe_4 : decode cX11_wipe 4 = .ok (.getfield 77, 3) := by decide +kernel
theorem dX11_wipe_7 : decode cX11_wipe 7 = .ok (.istore_n 1, 1) := by decide +kernel
theorem dX11_wipe_8 : decode cX11_wipe 8 = .ok (.aload_n 0, 1) := by decide +kernel
theorem dX11_wipe_9 : decode cX11_wipe 9 = .ok (.getfield 10, 3) := by decide +kernel
theorem dX11_wipe_12 : decode cX11_wipe 12 = .ok (.iconst 0, 1) := by decide +kernel
theorem dX11_wipe_13 : decode cX11_wipe 13 = .ok (.putfield 77, 3) := by decide +kernel
theorem dX11_wipe_16 : decode cX11_wipe 16 = .ok (.aload_n 0, 1) := by decide +kernel
theorem dX11_wipe_17 : decode cX11_wipe 17 = .ok (.invokevirtual 86, 3) := by decide +kernel
theorem dX11_wipe_20 : decode cX11_wipe 20 = .ok (.iload_n 1, 1) := by decide +kernel
theorem dX11_wipe_21 : decode cX11_wipe 21 = .ok (.ireturn, 1) := by decide +kernel
theorem dX11_compile_0 : decode cX11_compile 0 = .ok (.aload_n 0, 1) := by decide +kernel
theorem dX11_compile_1 : decode cX11_compile 1 = .ok (.invokevirtual 86, 3) := by decide +kernel
theorem dX11_compile_4 : decode cX11_compile 4 = .ok (.aload_n 0, 1) := by decide +kernel
theorem dX11_compile_5 : decode cX11_compile 5 = .ok (.getfield 10, 3) := by decide +kernel
theorem dX11_compile_8 : decode cX11_compile 8 = .ok (.invokevirtual 89, 3) := by decide +kernel
theorem dX11_compile_11 : decode cX11_compile 11 = .ok (.iconst 0, 1) := by decide +kernel
theorem dX11_compile_12 : decode cX11_compile 12 = .ok (.istore_n 1, 1) := by decide +kernel
theorem dX11_compile_13 : decode cX11_compile 13 = .ok (.iconst (-1), 1) := by decide +kernel
theorem dX11_compile_14 : decode cX11_compile 14 = .ok (.istore_n 2, 1) := by decide +kernel
theorem dX11_compile_15 : decode cX11_compile 15 = .ok (.aload_n 0, 1) := by decide +kernel
theorem dX11_compile_16 : decode cX11_compile 16 = .ok (.getfield 37, 3) := by decide +kernel
theorem dX11_compile_19 : decode cX11_compile 19 = .ok (.invokevirtual 92, 3) := by decide +kernel
theorem dX11_compile_22 : decode cX11_compile 22 = .ok (.aload_n 0, 1) := by decide +kernel
theorem dX11_compile_23 : decode cX11_compile 23 = .ok (.getfield 21, 3) := by decide +kernel
theorem dX11_compile_26 : decode cX11_compile 26 = .ok (.invokevirtual 95, 3) := by decide +kernel
theorem dX11_compile_29 : decode cX11_compile 29 = .ok (.istore_n 1, 1) := by decide +kernel
theorem dX11_compile_30 : decode cX11_compile 30 = .ok (.aload_n 0, 1) := by decide +kernel
theorem dX11_compile_31 : decode cX11_compile 31 = .ok (.getfield 21, 3) := by decide +kernel
theorem dX11_compile_34 : decode cX11_compile 34 = .ok (.getfield 99, 3) := by decide +kernel
theorem dX11_compile_37 : decode cX11_compile 37 = .ok (.istore_n 2, 1) := by decide +kernel
theorem dX11_compile_38 : decode cX11_compile 38 = .ok (.goto 20, 3) := by decide +kernel
theorem dX11_compile_41 : decode cX11_compile 41 = .ok (.astore_n 3, 1) := by decide +kernel
theorem dX11_compile_42 : decode cX11_compile 42 = .ok (.aload_n 0, 1) := by decide +kernel
theorem dX11_compile_43 : decode cX11_compile 43 = .ok (.getfield 37, 3) := by decide +kernel
theorem dX11_compile_46 : decode cX11_compile 46 = .ok (.getfield 104, 3) := by decide +kernel
theorem dX11_compile_49 : decode cX11_compile 49 = .ok (.istore_n 1, 1) := by decide +kernel
theorem dX11_compile_50 : decode cX11_compile 50 = .ok (.aload_n 0, 1) := by decide +kernel
theorem dX11_compile_51 : decode cX11_compile 51 = .ok (.getfield 37, 3) := by decide +kernel
theorem dX11_compile_54 : decode cX11_compile 54 = .ok (.invokevirtual 107, 3) := by decide +kernel
theorem dX11_compile_57 : decode cX11_compile 57 = .ok (.istore_n 2, 1) := by decide +kernel
theorem dX11_compile_58 : decode cX11_compile 58 = .ok (.aload_n 0, 1) := by decide +kernel
theorem dX11_compile_59 : decode cX11_compile 59 = .ok (.iload_n 1, 1) := by decide +kernel
theorem dX11_compile_60 : decode cX11_compile 60 = .ok (.ifCond .ne 7, 3) := by decide +kernel
theorem dX11_compile_63 : decode cX11_compile 63 = .ok (.iconst 1, 1) := by decide +kernel
theorem dX11_compile_64 : decode cX11_compile 64 = .ok (.goto 4, 3) := by decide +kernel
theorem dX11_compile_67 : decode cX11_compile 67 = .ok (.iconst 0, 1) := by decide +kernel
theorem dX11_compile_68 : decode cX11_compile 68 = .ok (.putfield 110, 3) := by decide +kernel
theorem dX11_compile_71 : decode cX11_compile 71 = .ok (.aload_n 0, 1) := by decide +kernel
theorem dX11_compile_72 : decode cX11_compile 72 = .ok (.aload_n 0, 1) := by decide +kernel
theorem dX11_compile_73 : decode cX11_compile 73 = .ok (.getfield 110, 3) := by decide +kernel
theorem dX11_compile_76 : decode cX11_compile 76 = .ok (.ifCond .eq 7, 3) := by decide +kernel
theorem dX11_compile_79 : decode cX11_compile 79 = .ok (.iconst (-1), 1) := by decide +kernel
theorem dX11_compile_80 : decode cX11_compile 80 = .ok (.goto 12, 3) := by decide +kernel
theorem dX11_compile_83 : decode cX11_compile 83 = .ok (.aload_n 0, 1) := by decide +kernel
theorem dX11_compile_84 : decode cX11_compile 84 = .ok (.getfield 10, 3) := by decide +kernel
theorem dX11_compile_87 : decode cX11_compile 87 = .ok (.getfield 114, 3) := by decide +kernel
theorem dX11_compile_90 : decode cX11_compile 90 = .ok (.iload_n 2, 1) := by decide +kernel
theorem dX11_compile_91 : decode cX11_compile 91 = .ok (.iaload, 1) := by decide +kernel
theorem dX11_compile_92 : decode cX11_compile 92 = .ok (.putfield 63, 3) := by decide +kernel
theorem dX11_compile_95 : decode cX11_compile 95 = .ok (.aload_n 0, 1) := by decide +kernel
theorem dX11_compile_96 : decode cX11_compile 96 = .ok (.aload_n 0, 1) := by decide +kernel
theorem dX11_compile_97 : decode cX11_compile 97 = .ok (.getfield 110, 3) := by decide +kernel
theorem dX11_compile_100 : decode cX11_compile 100 = .ok (.ifCond .eq 7, 3) := by decide +kernel
theorem dX11_compile_103 : decode cX11_compile 103 = .ok (.iconst (-1), 1) := by decide +kernel
theorem dX11_compile_104 : decode cX11_compile 104 = .ok (.goto 12, 3) := by decide +kernel
theorem dX11_compile_107 : decode cX11_compile 107 = .ok (.aload_n 0, 1) := by decide +kernel
theorem dX11_compile_108 : decode cX11_compile 108 = .ok (.getfield 10, 3) := by decide +kernel
theorem dX11_compile_111 : decode cX11_compile 111 = .ok (.getfield 118, 3) := by decide +kernel
theorem dX11_compile_114 : decode cX11_compile 114 = .ok (.iload_n 2, 1) := by decide +kernel
theorem dX11_compile_115 : decode cX11_compile 115 = .ok (.iaload, 1) := by decide +kernel
theorem dX11_compile_116 : decode cX11_compile 116 = .ok (.putfield 67, 3) := by decide +kernel
theorem dX11_compile_119 : decode cX11_compile 119 = .ok (.aload_n 0, 1) := by decide +kernel
theorem dX11_compile_120 : decode cX11_compile 120 = .ok (.getfield 110, 3) := by decide +kernel
theorem dX11_compile_123 : decode cX11_compile 123 = .ok (.ifCond .ne 6, 3) := by decide +kernel
theorem dX11_compile_126 : decode cX11_compile 126 = .ok (.iload_n 1, 1) := by decide +kernel
theorem dX11_compile_127 : decode cX11_compile 127 = .ok (.ineg, 1) := by decide +kernel
theorem dX11_compile_128 : decode cX11_compile 128 = .ok (.ireturn, 1) := by decide +kernel
theorem dX11_compile_129 : decode cX11_compile 129 = .ok (.aload_n 0, 1) := by decide +kernel
theorem dX11_compile_130 : decode cX11_compile 130 = .ok (.getfield 37, 3) := by decide +kernel
theorem dX11_compile_133 : decode cX11_compile 133 = .ok (.invokevirtual 121, 3) := by decide +kernel
theorem dX11_compile_136 : decode cX11_compile 136 = .ok (.aload_n 0, 1) := by decide +kernel
theorem dX11_compile_137 : decode cX11_compile 137 = .ok (.getfield 28, 3) := by decide +kernel
theorem dX11_compile_140 : decode cX11_compile 140 = .ok (.getfield 124, 3) := by decide +kernel
theorem dX11_compile_143 : decode cX11_compile 143 = .ok (.ireturn, 1) := by decide +kernel
theorem dX11_fault_0 : decode cX11_fault 0 = .ok (.iload_n 1, 1) := by decide +kernel
theorem dX11_fault_1 : decode cX11_fault 1 = .ok (.ifCond .eq 18, 3) := by decide +kernel
theorem dX11_fault_4 : decode cX11_fault 4 = .ok (.iload_n 1, 1) := by decide +kernel
theorem dX11_fault_5 : decode cX11_fault 5 = .ok (.iconst 1, 1) := by decide +kernel
theorem dX11_fault_6 : decode cX11_fault 6 = .ok (.if_icmp .eq 13, 3) := by decide +kernel
theorem dX11_fault_9 : decode cX11_fault 9 = .ok (.new 127, 3) := by decide +kernel
theorem dX11_fault_12 : decode cX11_fault 12 = .ok (.dup, 1) := by decide +kernel
theorem dX11_fault_13 : decode cX11_fault 13 = .ok (.ldc 129, 2) := by decide +kernel
theorem dX11_fault_15 : decode cX11_fault 15 = .ok (.invokespecial 131, 3) := by decide +kernel
theorem dX11_fault_18 : decode cX11_fault 18 = .ok (.athrow, 1) := by decide +kernel
theorem dX11_fault_19 : decode cX11_fault 19 = .ok (.iload_n 1, 1) := by decide +kernel
theorem dX11_fault_20 : decode cX11_fault 20 = .ok (.ifCond .ne 10, 3) := by decide +kernel
theorem dX11_fault_23 : decode cX11_fault 23 = .ok (.aload_n 0, 1) := by decide +kernel
theorem dX11_fault_24 : decode cX11_fault 24 = .ok (.getfield 63, 3) := by decide +kernel
theorem dX11_fault_27 : decode cX11_fault 27 = .ok (.goto 7, 3) := by decide +kernel
theorem dX11_fault_30 : decode cX11_fault 30 = .ok (.aload_n 0, 1) := by decide +kernel
theorem dX11_fault_31 : decode cX11_fault 31 = .ok (.getfield 67, 3) := by decide +kernel
theorem dX11_fault_34 : decode cX11_fault 34 = .ok (.ireturn, 1) := by decide +kernel
theorem dX11_count_0 : decode cX11_count 0 = .ok (.iload_n 1, 1) := by decide +kernel
theorem dX11_count_1 : decode cX11_count 1 = .ok (.iconst 5, 1) := by decide +kernel
theorem dX11_count_2 : decode cX11_count 2 = .ok (.invokestatic 132, 3) := by decide +kernel
theorem dX11_count_5 : decode cX11_count 5 = .ok (.aload_n 0, 1) := by decide +kernel
theorem dX11_count_6 : decode cX11_count 6 = .ok (.getfield 110, 3) := by decide +kernel
theorem dX11_count_9 : decode cX11_count 9 = .ok (.ifCond .ne 5, 3) := by decide +kernel
theorem dX11_count_12 : decode cX11_count 12 = .ok (.iconst 0, 1) := by decide +kernel
theorem dX11_count_13 : decode cX11_count 13 = .ok (.ireturn, 1) := by decide +kernel
theorem dX11_count_14 : decode cX11_count 14 = .ok (.iload_n 1, 1) := by decide +kernel
theorem dX11_count_15 : decode cX11_count 15 = .ok (.tableswitch 61 0 3 #[29, 37, 45, 53], 29) := by decide +kernel
theorem dX11_count_44 : decode cX11_count 44 = .ok (.aload_n 0, 1) := by decide +kernel
theorem dX11_count_45 : decode cX11_count 45 = .ok (.getfield 28, 3) := by decide +kernel
theorem dX11_count_48 : decode cX11_count 48 = .ok (.getfield 136, 3) := by decide +kernel
theorem dX11_count_51 : decode cX11_count 51 = .ok (.ireturn, 1) := by decide +kernel
theorem dX11_count_52 : decode cX11_count 52 = .ok (.aload_n 0, 1) := by decide +kernel
theorem dX11_count_53 : decode cX11_count 53 = .ok (.getfield 28, 3) := by decide +kernel
theorem dX11_count_56 : decode cX11_count 56 = .ok (.getfield 139, 3) := by decide +kernel
theorem dX11_count_59 : decode cX11_count 59 = .ok (.ireturn, 1) := by decide +kernel
theorem dX11_count_60 : decode cX11_count 60 = .ok (.aload_n 0, 1) := by decide +kernel
theorem dX11_count_61 : decode cX11_count 61 = .ok (.getfield 28, 3) := by decide +kernel
theorem dX11_count_64 : decode cX11_count 64 = .ok (.getfield 124, 3) := by decide +kernel
theorem dX11_count_67 : decode cX11_count 67 = .ok (.ireturn, 1) := by decide +kernel
theorem dX11_count_68 : decode cX11_count 68 = .ok (.aload_n 0, 1) := by decide +kernel
theorem dX11_count_69 : decode cX11_count 69 = .ok (.getfield 28, 3) := by decide +kernel
theorem dX11_count_72 : decode cX11_count 72 = .ok (.getfield 142, 3) := by decide +kernel
theorem dX11_count_75 : decode cX11_count 75 = .ok (.ireturn, 1) := by decide +kernel
theorem dX11_count_76 : decode cX11_count 76 = .ok (.aload_n 0, 1) := by decide +kernel
theorem dX11_count_77 : decode cX11_count 77 = .ok (.getfield 28, 3) := by decide +kernel
theorem dX11_count_80 : decode cX11_count 80 = .ok (.getfield 145, 3) := by decide +kernel
theorem dX11_count_83 : decode cX11_count 83 = .ok (.ireturn, 1) := by decide +kernel
theorem dX11_begin_0 : decode cX11_begin 0 = .ok (.aload_n 0, 1) := by decide +kernel
theorem dX11_begin_1 : decode cX11_begin 1 = .ok (.invokevirtual 148, 3) := by decide +kernel
theorem dX11_begin_4 : decode cX11_begin 4 = .ok (.iload_n 1, 1) := by decide +kernel
theorem dX11_begin_5 : decode cX11_begin 5 = .ok (.invokestatic 151, 3) := by decide +kernel
theorem dX11_begin_8 : decode cX11_begin 8 = .ok (.aload_n 0, 1) := by decide +kernel
theorem dX11_begin_9 : decode cX11_begin 9 = .ok (.iload_n 1, 1) := by decide +kernel
theorem dX11_begin_10 : decode cX11_begin 10 = .ok (.invokevirtual 154, 3) := by decide +kernel
theorem dX11_begin_13 : decode cX11_begin 13 = .ok (.aload_n 0, 1) := by decide +kernel
theorem dX11_begin_14 : decode cX11_begin 14 = .ok (.getfield 46, 3) := by decide +kernel
theorem dX11_begin_17 : decode cX11_begin 17 = .ok (.getfield 157, 3) := by decide +kernel
theorem dX11_begin_20 : decode cX11_begin 20 = .ok (.ireturn, 1) := by decide +kernel
theorem dX11_choices_0 : decode cX11_choices 0 = .ok (.aload_n 0, 1) := by decide +kernel
theorem dX11_choices_1 : decode cX11_choices 1 = .ok (.invokevirtual 160, 3) := by decide +kernel
theorem dX11_choices_4 : decode cX11_choices 4 = .ok (.aload_n 0, 1) := by decide +kernel
theorem dX11_choices_5 : decode cX11_choices 5 = .ok (.getfield 46, 3) := by decide +kernel
theorem dX11_choices_8 : decode cX11_choices 8 = .ok (.getfield 157, 3) := by decide +kernel
theorem dX11_choices_11 : decode cX11_choices 11 = .ok (.ireturn, 1) := by decide +kernel
theorem dX11_choice_0 : decode cX11_choice 0 = .ok (.aload_n 0, 1) := by decide +kernel
theorem dX11_choice_1 : decode cX11_choice 1 = .ok (.invokevirtual 160, 3) := by decide +kernel
theorem dX11_choice_4 : decode cX11_choice 4 = .ok (.iload_n 1, 1) := by decide +kernel
theorem dX11_choice_5 : decode cX11_choice 5 = .ok (.aload_n 0, 1) := by decide +kernel
theorem dX11_choice_6 : decode cX11_choice 6 = .ok (.getfield 46, 3) := by decide +kernel
theorem dX11_choice_9 : decode cX11_choice 9 = .ok (.getfield 157, 3) := by decide +kernel
theorem dX11_choice_12 : decode cX11_choice 12 = .ok (.invokestatic 163, 3) := by decide +kernel
theorem dX11_choice_15 : decode cX11_choice 15 = .ok (.iload_n 2, 1) := by decide +kernel
theorem dX11_choice_16 : decode cX11_choice 16 = .ok (.iconst 5, 1) := by decide +kernel
theorem dX11_choice_17 : decode cX11_choice 17 = .ok (.invokestatic 132, 3) := by decide +kernel
theorem dX11_choice_20 : decode cX11_choice 20 = .ok (.aload_n 0, 1) := by decide +kernel
theorem dX11_choice_21 : decode cX11_choice 21 = .ok (.getfield 46, 3) := by decide +kernel
theorem dX11_choice_24 : decode cX11_choice 24 = .ok (.getfield 166, 3) := by decide +kernel
theorem dX11_choice_27 : decode cX11_choice 27 = .ok (.iload_n 1, 1) := by decide +kernel
theorem dX11_choice_28 : decode cX11_choice 28 = .ok (.iaload, 1) := by decide +kernel
theorem dX11_choice_29 : decode cX11_choice 29 = .ok (.istore_n 3, 1) := by decide +kernel
theorem dX11_choice_30 : decode cX11_choice 30 = .ok (.aload_n 0, 1) := by decide +kernel
theorem dX11_choice_31 : decode cX11_choice 31 = .ok (.getfield 46, 3) := by decide +kernel
theorem dX11_choice_34 : decode cX11_choice 34 = .ok (.getfield 169, 3) := by decide +kernel
theorem dX11_choice_37 : decode cX11_choice 37 = .ok (.iload_n 1, 1) := by decide +kernel
theorem dX11_choice_38 : decode cX11_choice 38 = .ok (.iaload, 1) := by decide +kernel
theorem dX11_choice_39 : decode cX11_choice 39 = .ok (.istore 4, 2) := by decide +kernel
theorem dX11_choice_41 : decode cX11_choice 41 = .ok (.iload_n 2, 1) := by decide +kernel
theorem dX11_choice_42 : decode cX11_choice 42 = .ok (.tableswitch 91 0 3 #[30, 32, 44, 63], 30) := by decide +kernel
theorem dX11_choice_72 : decode cX11_choice 72 = .ok (.iload_n 3, 1) := by decide +kernel
theorem dX11_choice_73 : decode cX11_choice 73 = .ok (.ireturn, 1) := by decide +kernel
theorem dX11_choice_74 : decode cX11_choice 74 = .ok (.iload 4, 2) := by decide +kernel
theorem dX11_choice_76 : decode cX11_choice 76 = .ok (.iconst (-1), 1) := by decide +kernel
theorem dX11_choice_77 : decode cX11_choice 77 = .ok (.if_icmp .ne 7, 3) := by decide +kernel
theorem dX11_choice_80 : decode cX11_choice 80 = .ok (.iconst 0, 1) := by decide +kernel
theorem dX11_choice_81 : decode cX11_choice 81 = .ok (.goto 4, 3) := by decide +kernel
theorem dX11_choice_84 : decode cX11_choice 84 = .ok (.iconst 1, 1) := by decide +kernel
theorem dX11_choice_85 : decode cX11_choice 85 = .ok (.ireturn, 1) := by decide +kernel
theorem dX11_choice_86 : decode cX11_choice 86 = .ok (.iload 4, 2) := by decide +kernel
theorem dX11_choice_88 : decode cX11_choice 88 = .ok (.iconst (-1), 1) := by decide +kernel
theorem dX11_choice_89 : decode cX11_choice 89 = .ok (.if_icmp .ne 14, 3) := by decide +kernel
theorem dX11_choice_92 : decode cX11_choice 92 = .ok (.aload_n 0, 1) := by decide +kernel
theorem dX11_choice_93 : decode cX11_choice 93 = .ok (.getfield 46, 3) := by decide +kernel
theorem dX11_choice_96 : decode cX11_choice 96 = .ok (.iload_n 3, 1) := by decide +kernel
theorem dX11_choice_97 : decode cX11_choice 97 = .ok (.invokevirtual 172, 3) := by decide +kernel
theorem dX11_choice_100 : decode cX11_choice 100 = .ok (.goto 4, 3) := by decide +kernel
theorem dX11_choice_103 : decode cX11_choice 103 = .ok (.iconst 1, 1) := by decide +kernel
theorem dX11_choice_104 : decode cX11_choice 104 = .ok (.ireturn, 1) := by decide +kernel
theorem dX11_choice_105 : decode cX11_choice 105 = .ok (.iload 4, 2) := by decide +kernel
theorem dX11_choice_107 : decode cX11_choice 107 = .ok (.iconst (-1), 1) := by decide +kernel
theorem dX11_choice_108 : decode cX11_choice 108 = .ok (.if_icmp .ne 14, 3) := by decide +kernel
theorem dX11_choice_111 : decode cX11_choice 111 = .ok (.aload_n 0, 1) := by decide +kernel
theorem dX11_choice_112 : decode cX11_choice 112 = .ok (.getfield 46, 3) := by decide +kernel
theorem dX11_choice_115 : decode cX11_choice 115 = .ok (.iload_n 3, 1) := by decide +kernel
theorem dX11_choice_116 : decode cX11_choice 116 = .ok (.invokevirtual 176, 3) := by decide +kernel
theorem dX11_choice_119 : decode cX11_choice 119 = .ok (.goto 13, 3) := by decide +kernel
theorem dX11_choice_122 : decode cX11_choice 122 = .ok (.aload_n 0, 1) := by decide +kernel
theorem dX11_choice_123 : decode cX11_choice 123 = .ok (.getfield 46, 3) := by decide +kernel
theorem dX11_choice_126 : decode cX11_choice 126 = .ok (.iload_n 3, 1) := by decide +kernel
theorem dX11_choice_127 : decode cX11_choice 127 = .ok (.iload 4, 2) := by decide +kernel
theorem dX11_choice_129 : decode cX11_choice 129 = .ok (.invokevirtual 179, 3) := by decide +kernel
theorem dX11_choice_132 : decode cX11_choice 132 = .ok (.ireturn, 1) := by decide +kernel
theorem dX11_choice_133 : decode cX11_choice 133 = .ok (.aload_n 0, 1) := by decide +kernel
theorem dX11_choice_134 : decode cX11_choice 134 = .ok (.getfield 46, 3) := by decide +kernel
theorem dX11_choice_137 : decode cX11_choice 137 = .ok (.getfield 183, 3) := by decide +kernel
theorem dX11_choice_140 : decode cX11_choice 140 = .ok (.iload_n 1, 1) := by decide +kernel
theorem dX11_choice_141 : decode cX11_choice 141 = .ok (.iaload, 1) := by decide +kernel
theorem dX11_choice_142 : decode cX11_choice 142 = .ok (.ireturn, 1) := by decide +kernel
theorem dX11_go_0 : decode cX11_go 0 = .ok (.aload_n 0, 1) := by decide +kernel
theorem dX11_go_1 : decode cX11_go 1 = .ok (.invokevirtual 160, 3) := by decide +kernel
theorem dX11_go_4 : decode cX11_go 4 = .ok (.aload_n 0, 1) := by decide +kernel
theorem dX11_go_5 : decode cX11_go 5 = .ok (.getfield 53, 3) := by decide +kernel
theorem dX11_go_8 : decode cX11_go 8 = .ok (.getfield 186, 3) := by decide +kernel
theorem dX11_go_11 : decode cX11_go 11 = .ok (.sipush 400, 3) := by decide +kernel
theorem dX11_go_14 : decode cX11_go 14 = .ok (.if_icmp .lt 13, 3) := by decide +kernel
theorem dX11_go_17 : decode cX11_go 17 = .ok (.new 102, 3) := by decide +kernel
theorem dX11_go_20 : decode cX11_go 20 = .ok (.dup, 1) := by decide +kernel
theorem dX11_go_21 : decode cX11_go 21 = .ok (.ldc 189, 2) := by decide +kernel
theorem dX11_go_23 : decode cX11_go 23 = .ok (.invokespecial 191, 3) := by decide +kernel
theorem dX11_go_26 : decode cX11_go 26 = .ok (.athrow, 1) := by decide +kernel
theorem dX11_go_27 : decode cX11_go 27 = .ok (.iload_n 1, 1) := by decide +kernel
theorem dX11_go_28 : decode cX11_go 28 = .ok (.aload_n 0, 1) := by decide +kernel
theorem dX11_go_29 : decode cX11_go 29 = .ok (.getfield 46, 3) := by decide +kernel
theorem dX11_go_32 : decode cX11_go 32 = .ok (.getfield 157, 3) := by decide +kernel
theorem dX11_go_35 : decode cX11_go 35 = .ok (.invokestatic 163, 3) := by decide +kernel
theorem dX11_go_38 : decode cX11_go 38 = .ok (.aload_n 0, 1) := by decide +kernel
theorem dX11_go_39 : decode cX11_go 39 = .ok (.iload_n 1, 1) := by decide +kernel
theorem dX11_go_40 : decode cX11_go 40 = .ok (.invokevirtual 192, 3) := by decide +kernel
theorem dX11_go_43 : decode cX11_go 43 = .ok (.aload_n 0, 1) := by decide +kernel
theorem dX11_go_44 : decode cX11_go 44 = .ok (.getfield 46, 3) := by decide +kernel
theorem dX11_go_47 : decode cX11_go 47 = .ok (.getfield 157, 3) := by decide +kernel
theorem dX11_go_50 : decode cX11_go 50 = .ok (.ireturn, 1) := by decide +kernel
theorem dX11_draw_0 : decode cX11_draw 0 = .ok (.aload_n 0, 1) := by decide +kernel
theorem dX11_draw_1 : decode cX11_draw 1 = .ok (.invokevirtual 160, 3) := by decide +kernel
theorem dX11_draw_4 : decode cX11_draw 4 = .ok (.iload_n 2, 1) := by decide +kernel
theorem dX11_draw_5 : decode cX11_draw 5 = .ok (.ifCond .lt 10, 3) := by decide +kernel
theorem dX11_draw_8 : decode cX11_draw 8 = .ok (.iload_n 2, 1) := by decide +kernel
theorem dX11_draw_9 : decode cX11_draw 9 = .ok (.sipush 400, 3) := by decide +kernel
theorem dX11_draw_12 : decode cX11_draw 12 = .ok (.if_icmp .le 13, 3) := by decide +kernel
theorem dX11_draw_15 : decode cX11_draw 15 = .ok (.new 70, 3) := by decide +kernel
theorem dX11_draw_18 : decode cX11_draw 18 = .ok (.dup, 1) := by decide +kernel
theorem dX11_draw_19 : decode cX11_draw 19 = .ok (.ldc 195, 2) := by decide +kernel
theorem dX11_draw_21 : decode cX11_draw 21 = .ok (.invokespecial 74, 3) := by decide +kernel
theorem dX11_draw_24 : decode cX11_draw 24 = .ok (.athrow, 1) := by decide +kernel
theorem dX11_draw_25 : decode cX11_draw 25 = .ok (.iload_n 1, 1) := by decide +kernel
theorem dX11_draw_26 : decode cX11_draw 26 = .ok (.istore_n 3, 1) := by decide +kernel
theorem dX11_draw_27 : decode cX11_draw 27 = .ok (.iconst 0, 1) := by decide +kernel
theorem dX11_draw_28 : decode cX11_draw 28 = .ok (.istore 4, 2) := by decide +kernel
theorem dX11_draw_30 : decode cX11_draw 30 = .ok (.iconst 0, 1) := by decide +kernel
theorem dX11_draw_31 : decode cX11_draw 31 = .ok (.istore 5, 2) := by decide +kernel
theorem dX11_draw_33 : decode cX11_draw 33 = .ok (.iload 5, 2) := by decide +kernel
theorem dX11_draw_35 : decode cX11_draw 35 = .ok (.iload_n 2, 1) := by decide +kernel
theorem dX11_draw_36 : decode cX11_draw 36 = .ok (.if_icmp .ge 64, 3) := by decide +kernel
theorem dX11_draw_39 : decode cX11_draw 39 = .ok (.aload_n 0, 1) := by decide +kernel
theorem dX11_draw_40 : decode cX11_draw 40 = .ok (.getfield 46, 3) := by decide +kernel
theorem dX11_draw_43 : decode cX11_draw 43 = .ok (.getfield 157, 3) := by decide +kernel
theorem dX11_draw_46 : decode cX11_draw 46 = .ok (.ifCond .le 54, 3) := by decide +kernel
theorem dX11_draw_49 : decode cX11_draw 49 = .ok (.aload_n 0, 1) := by decide +kernel
theorem dX11_draw_50 : decode cX11_draw 50 = .ok (.getfield 53, 3) := by decide +kernel
theorem dX11_draw_53 : decode cX11_draw 53 = .ok (.getfield 186, 3) := by decide +kernel
theorem dX11_draw_56 : decode cX11_draw 56 = .ok (.sipush 400, 3) := by decide +kernel
theorem dX11_draw_59 : decode cX11_draw 59 = .ok (.if_icmp .ge 41, 3) := by decide +kernel
theorem dX11_draw_62 : decode cX11_draw 62 = .ok (.iload_n 3, 1) := by decide +kernel
theorem dX11_draw_63 : decode cX11_draw 63 = .ok (.ldc 197, 2) := by decide +kernel
theorem dX11_draw_65 : decode cX11_draw 65 = .ok (.imul, 1) := by decide +kernel
theorem dX11_draw_66 : decode cX11_draw 66 = .ok (.sipush 12345, 3) := by decide +kernel
theorem dX11_draw_69 : decode cX11_draw 69 = .ok (.iadd, 1) := by decide +kernel
theorem dX11_draw_70 : decode cX11_draw 70 = .ok (.istore_n 3, 1) := by decide +kernel
theorem dX11_draw_71 : decode cX11_draw 71 = .ok (.aload_n 0, 1) := by decide +kernel
theorem dX11_draw_72 : decode cX11_draw 72 = .ok (.iload_n 3, 1) := by decide +kernel
theorem dX11_draw_73 : decode cX11_draw 73 = .ok (.bipush 16, 2) := by decide +kernel
theorem dX11_draw_75 : decode cX11_draw 75 = .ok (.iushr, 1) := by decide +kernel
theorem dX11_draw_76 : decode cX11_draw 76 = .ok (.sipush 32767, 3) := by decide +kernel
theorem dX11_draw_79 : decode cX11_draw 79 = .ok (.iand, 1) := by decide +kernel
theorem dX11_draw_80 : decode cX11_draw 80 = .ok (.aload_n 0, 1) := by decide +kernel
theorem dX11_draw_81 : decode cX11_draw 81 = .ok (.getfield 46, 3) := by decide +kernel
theorem dX11_draw_84 : decode cX11_draw 84 = .ok (.getfield 157, 3) := by decide +kernel
theorem dX11_draw_87 : decode cX11_draw 87 = .ok (.irem, 1) := by decide +kernel
theorem dX11_draw_88 : decode cX11_draw 88 = .ok (.invokevirtual 192, 3) := by decide +kernel
theorem dX11_draw_91 : decode cX11_draw 91 = .ok (.iinc 4 1, 3) := by decide +kernel
theorem dX11_draw_94 : decode cX11_draw 94 = .ok (.iinc 5 1, 3) := by decide +kernel
theorem dX11_draw_97 : decode cX11_draw 97 = .ok (.goto (-64), 3) := by decide +kernel
theorem dX11_draw_100 : decode cX11_draw 100 = .ok (.iload 4, 2) := by decide +kernel
theorem dX11_draw_102 : decode cX11_draw 102 = .ok (.ireturn, 1) := by decide +kernel
theorem dX11_again_0 : decode cX11_again 0 = .ok (.aload_n 0, 1) := by decide +kernel
theorem dX11_again_1 : decode cX11_again 1 = .ok (.invokevirtual 160, 3) := by decide +kernel
theorem dX11_again_4 : decode cX11_again 4 = .ok (.iload_n 1, 1) := by decide +kernel
theorem dX11_again_5 : decode cX11_again 5 = .ok (.ifCond .lt 14, 3) := by decide +kernel
theorem dX11_again_8 : decode cX11_again 8 = .ok (.iload_n 1, 1) := by decide +kernel
theorem dX11_again_9 : decode cX11_again 9 = .ok (.aload_n 0, 1) := by decide +kernel
theorem dX11_again_10 : decode cX11_again 10 = .ok (.getfield 53, 3) := by decide +kernel
theorem dX11_again_13 : decode cX11_again 13 = .ok (.getfield 186, 3) := by decide +kernel
theorem dX11_again_16 : decode cX11_again 16 = .ok (.if_icmp .le 13, 3) := by decide +kernel
theorem dX11_again_19 : decode cX11_again 19 = .ok (.new 70, 3) := by decide +kernel
theorem dX11_again_22 : decode cX11_again 22 = .ok (.dup, 1) := by decide +kernel
theorem dX11_again_23 : decode cX11_again 23 = .ok (.ldc 198, 2) := by decide +kernel
theorem dX11_again_25 : decode cX11_again 25 = .ok (.invokespecial 74, 3) := by decide +kernel
theorem dX11_again_28 : decode cX11_again 28 = .ok (.athrow, 1) := by decide +kernel
theorem dX11_again_29 : decode cX11_again 29 = .ok (.aload_n 0, 1) := by decide +kernel
theorem dX11_again_30 : decode cX11_again 30 = .ok (.aload_n 0, 1) := by decide +kernel
theorem dX11_again_31 : decode cX11_again 31 = .ok (.getfield 46, 3) := by decide +kernel
theorem dX11_again_34 : decode cX11_again 34 = .ok (.getfield 200, 3) := by decide +kernel
theorem dX11_again_37 : decode cX11_again 37 = .ok (.invokevirtual 154, 3) := by decide +kernel
theorem dX11_again_40 : decode cX11_again 40 = .ok (.iconst 0, 1) := by decide +kernel
theorem dX11_again_41 : decode cX11_again 41 = .ok (.istore_n 2, 1) := by decide +kernel
theorem dX11_again_42 : decode cX11_again 42 = .ok (.iload_n 2, 1) := by decide +kernel
theorem dX11_again_43 : decode cX11_again 43 = .ok (.iload_n 1, 1) := by decide +kernel
theorem dX11_again_44 : decode cX11_again 44 = .ok (.if_icmp .ge 22, 3) := by decide +kernel
theorem dX11_again_47 : decode cX11_again 47 = .ok (.aload_n 0, 1) := by decide +kernel
theorem dX11_again_48 : decode cX11_again 48 = .ok (.aload_n 0, 1) := by decide +kernel
theorem dX11_again_49 : decode cX11_again 49 = .ok (.getfield 53, 3) := by decide +kernel
theorem dX11_again_52 : decode cX11_again 52 = .ok (.getfield 203, 3) := by decide +kernel
theorem dX11_again_55 : decode cX11_again 55 = .ok (.iload_n 2, 1) := by decide +kernel
theorem dX11_again_56 : decode cX11_again 56 = .ok (.iaload, 1) := by decide +kernel
theorem dX11_again_57 : decode cX11_again 57 = .ok (.invokevirtual 192, 3) := by decide +kernel
theorem dX11_again_60 : decode cX11_again 60 = .ok (.iinc 2 1, 3) := by decide +kernel
theorem dX11_again_63 : decode cX11_again 63 = .ok (.goto (-21), 3) := by decide +kernel
theorem dX11_again_66 : decode cX11_again 66 = .ok (.aload_n 0, 1) := by decide +kernel
theorem dX11_again_67 : decode cX11_again 67 = .ok (.getfield 46, 3) := by decide +kernel
theorem dX11_again_70 : decode cX11_again 70 = .ok (.getfield 157, 3) := by decide +kernel
theorem dX11_again_73 : decode cX11_again 73 = .ok (.ireturn, 1) := by decide +kernel
theorem dX11_run_0 : decode cX11_run 0 = .ok (.aload_n 0, 1) := by decide +kernel
theorem dX11_run_1 : decode cX11_run 1 = .ok (.invokevirtual 160, 3) := by decide +kernel
theorem dX11_run_4 : decode cX11_run 4 = .ok (.iload_n 1, 1) := by decide +kernel
theorem dX11_run_5 : decode cX11_run 5 = .ok (.bipush 8, 2) := by decide +kernel
theorem dX11_run_7 : decode cX11_run 7 = .ok (.invokestatic 132, 3) := by decide +kernel
theorem dX11_run_10 : decode cX11_run 10 = .ok (.iload_n 1, 1) := by decide +kernel
theorem dX11_run_11 : decode cX11_run 11 = .ok (.tableswitch 113 0 6 #[41, 49, 57, 65, 81, 97, 105], 41) := by decide +kernel
theorem dX11_run_52 : decode cX11_run 52 = .ok (.aload_n 0, 1) := by decide +kernel
theorem dX11_run_53 : decode cX11_run 53 = .ok (.getfield 46, 3) := by decide +kernel
theorem dX11_run_56 : decode cX11_run 56 = .ok (.getfield 200, 3) := by decide +kernel
theorem dX11_run_59 : decode cX11_run 59 = .ok (.ireturn, 1) := by decide +kernel
theorem dX11_run_60 : decode cX11_run 60 = .ok (.aload_n 0, 1) := by decide +kernel
theorem dX11_run_61 : decode cX11_run 61 = .ok (.getfield 53, 3) := by decide +kernel
theorem dX11_run_64 : decode cX11_run 64 = .ok (.getfield 186, 3) := by decide +kernel
theorem dX11_run_67 : decode cX11_run 67 = .ok (.ireturn, 1) := by decide +kernel
theorem dX11_run_68 : decode cX11_run 68 = .ok (.aload_n 0, 1) := by decide +kernel
theorem dX11_run_69 : decode cX11_run 69 = .ok (.getfield 53, 3) := by decide +kernel
theorem dX11_run_72 : decode cX11_run 72 = .ok (.getfield 206, 3) := by decide +kernel
theorem dX11_run_75 : decode cX11_run 75 = .ok (.ireturn, 1) := by decide +kernel
theorem dX11_run_76 : decode cX11_run 76 = .ok (.aload_n 0, 1) := by decide +kernel
theorem dX11_run_77 : decode cX11_run 77 = .ok (.getfield 46, 3) := by decide +kernel
theorem dX11_run_80 : decode cX11_run 80 = .ok (.getfield 157, 3) := by decide +kernel
theorem dX11_run_83 : decode cX11_run 83 = .ok (.ifCond .ne 7, 3) := by decide +kernel
theorem dX11_run_86 : decode cX11_run 86 = .ok (.iconst 1, 1) := by decide +kernel
theorem dX11_run_87 : decode cX11_run 87 = .ok (.goto 4, 3) := by decide +kernel
theorem dX11_run_90 : decode cX11_run 90 = .ok (.iconst 0, 1) := by decide +kernel
theorem dX11_run_91 : decode cX11_run 91 = .ok (.ireturn, 1) := by decide +kernel
theorem dX11_run_92 : decode cX11_run 92 = .ok (.aload_n 0, 1) := by decide +kernel
theorem dX11_run_93 : decode cX11_run 93 = .ok (.getfield 46, 3) := by decide +kernel
theorem dX11_run_96 : decode cX11_run 96 = .ok (.invokevirtual 209, 3) := by decide +kernel
theorem dX11_run_99 : decode cX11_run 99 = .ok (.ifCond .eq 7, 3) := by decide +kernel
theorem dX11_run_102 : decode cX11_run 102 = .ok (.iconst 1, 1) := by decide +kernel
theorem dX11_run_103 : decode cX11_run 103 = .ok (.goto 4, 3) := by decide +kernel
theorem dX11_run_106 : decode cX11_run 106 = .ok (.iconst 0, 1) := by decide +kernel
theorem dX11_run_107 : decode cX11_run 107 = .ok (.ireturn, 1) := by decide +kernel
theorem dX11_run_108 : decode cX11_run 108 = .ok (.aload_n 0, 1) := by decide +kernel
theorem dX11_run_109 : decode cX11_run 109 = .ok (.getfield 53, 3) := by decide +kernel
theorem dX11_run_112 : decode cX11_run 112 = .ok (.invokevirtual 213, 3) := by decide +kernel
theorem dX11_run_115 : decode cX11_run 115 = .ok (.ireturn, 1) := by decide +kernel
theorem dX11_run_116 : decode cX11_run 116 = .ok (.aload_n 0, 1) := by decide +kernel
theorem dX11_run_117 : decode cX11_run 117 = .ok (.getfield 53, 3) := by decide +kernel
theorem dX11_run_120 : decode cX11_run 120 = .ok (.getfield 216, 3) := by decide +kernel
theorem dX11_run_123 : decode cX11_run 123 = .ok (.ireturn, 1) := by decide +kernel
theorem dX11_run_124 : decode cX11_run 124 = .ok (.aload_n 0, 1) := by decide +kernel
theorem dX11_run_125 : decode cX11_run 125 = .ok (.getfield 46, 3) := by decide +kernel
theorem dX11_run_128 : decode cX11_run 128 = .ok (.invokevirtual 219, 3) := by decide +kernel
theorem dX11_run_131 : decode cX11_run 131 = .ok (.ireturn, 1) := by decide +kernel
theorem dX11_cell_0 : decode cX11_cell 0 = .ok (.aload_n 0, 1) := by decide +kernel
theorem dX11_cell_1 : decode cX11_cell 1 = .ok (.invokevirtual 160, 3) := by decide +kernel
theorem dX11_cell_4 : decode cX11_cell 4 = .ok (.iload_n 1, 1) := by decide +kernel
theorem dX11_cell_5 : decode cX11_cell 5 = .ok (.aload_n 0, 1) := by decide +kernel
theorem dX11_cell_6 : decode cX11_cell 6 = .ok (.getfield 28, 3) := by decide +kernel
theorem dX11_cell_9 : decode cX11_cell 9 = .ok (.getfield 136, 3) := by decide +kernel
theorem dX11_cell_12 : decode cX11_cell 12 = .ok (.invokestatic 163, 3) := by decide +kernel
theorem dX11_cell_15 : decode cX11_cell 15 = .ok (.aload_n 0, 1) := by decide +kernel
theorem dX11_cell_16 : decode cX11_cell 16 = .ok (.getfield 46, 3) := by decide +kernel
theorem dX11_cell_19 : decode cX11_cell 19 = .ok (.getfield 222, 3) := by decide +kernel
theorem dX11_cell_22 : decode cX11_cell 22 = .ok (.iload_n 1, 1) := by decide +kernel
theorem dX11_cell_23 : decode cX11_cell 23 = .ok (.iaload, 1) := by decide +kernel
theorem dX11_cell_24 : decode cX11_cell 24 = .ok (.ireturn, 1) := by decide +kernel
theorem dX11_seen_0 : decode cX11_seen 0 = .ok (.aload_n 0, 1) := by decide +kernel
theorem dX11_seen_1 : decode cX11_seen 1 = .ok (.invokevirtual 160, 3) := by decide +kernel
theorem dX11_seen_4 : decode cX11_seen 4 = .ok (.iload_n 1, 1) := by decide +kernel
theorem dX11_seen_5 : decode cX11_seen 5 = .ok (.aload_n 0, 1) := by decide +kernel
theorem dX11_seen_6 : decode cX11_seen 6 = .ok (.getfield 28, 3) := by decide +kernel
theorem dX11_seen_9 : decode cX11_seen 9 = .ok (.getfield 124, 3) := by decide +kernel
theorem dX11_seen_12 : decode cX11_seen 12 = .ok (.invokestatic 163, 3) := by decide +kernel
theorem dX11_seen_15 : decode cX11_seen 15 = .ok (.iload_n 2, 1) := by decide +kernel
theorem dX11_seen_16 : decode cX11_seen 16 = .ok (.aload_n 0, 1) := by decide +kernel
theorem dX11_seen_17 : decode cX11_seen 17 = .ok (.getfield 28, 3) := by decide +kernel
theorem dX11_seen_20 : decode cX11_seen 20 = .ok (.getfield 136, 3) := by decide +kernel
theorem dX11_seen_23 : decode cX11_seen 23 = .ok (.invokestatic 163, 3) := by decide +kernel
theorem dX11_seen_26 : decode cX11_seen 26 = .ok (.aload_n 0, 1) := by decide +kernel
theorem dX11_seen_27 : decode cX11_seen 27 = .ok (.getfield 46, 3) := by decide +kernel
theorem dX11_seen_30 : decode cX11_seen 30 = .ok (.iload_n 1, 1) := by decide +kernel
theorem dX11_seen_31 : decode cX11_seen 31 = .ok (.iload_n 2, 1) := by decide +kernel
theorem dX11_seen_32 : decode cX11_seen 32 = .ok (.invokevirtual 225, 3) := by decide +kernel
theorem dX11_seen_35 : decode cX11_seen 35 = .ok (.ireturn, 1) := by decide +kernel
theorem dX11_lock_0 : decode cX11_lock 0 = .ok (.aload_n 0, 1) := by decide +kernel
theorem dX11_lock_1 : decode cX11_lock 1 = .ok (.invokevirtual 160, 3) := by decide +kernel
theorem dX11_lock_4 : decode cX11_lock 4 = .ok (.iload_n 1, 1) := by decide +kernel
theorem dX11_lock_5 : decode cX11_lock 5 = .ok (.aload_n 0, 1) := by decide +kernel
theorem dX11_lock_6 : decode cX11_lock 6 = .ok (.getfield 28, 3) := by decide +kernel
theorem dX11_lock_9 : decode cX11_lock 9 = .ok (.getfield 139, 3) := by decide +kernel
theorem dX11_lock_12 : decode cX11_lock 12 = .ok (.invokestatic 163, 3) := by decide +kernel
theorem dX11_lock_15 : decode cX11_lock 15 = .ok (.iload_n 2, 1) := by decide +kernel
theorem dX11_lock_16 : decode cX11_lock 16 = .ok (.iconst 3, 1) := by decide +kernel
theorem dX11_lock_17 : decode cX11_lock 17 = .ok (.invokestatic 132, 3) := by decide +kernel
theorem dX11_lock_20 : decode cX11_lock 20 = .ok (.iload_n 2, 1) := by decide +kernel
theorem dX11_lock_21 : decode cX11_lock 21 = .ok (.lookupswitch 45 #[(0, 27), (1, 36)], 27) := by decide +kernel
theorem dX11_lock_48 : decode cX11_lock 48 = .ok (.aload_n 0, 1) := by decide +kernel
theorem dX11_lock_49 : decode cX11_lock 49 = .ok (.getfield 46, 3) := by decide +kernel
theorem dX11_lock_52 : decode cX11_lock 52 = .ok (.iload_n 1, 1) := by decide +kernel
theorem dX11_lock_53 : decode cX11_lock 53 = .ok (.invokevirtual 228, 3) := by decide +kernel
theorem dX11_lock_56 : decode cX11_lock 56 = .ok (.ireturn, 1) := by decide +kernel
theorem dX11_lock_57 : decode cX11_lock 57 = .ok (.aload_n 0, 1) := by decide +kernel
theorem dX11_lock_58 : decode cX11_lock 58 = .ok (.getfield 46, 3) := by decide +kernel
theorem dX11_lock_61 : decode cX11_lock 61 = .ok (.iload_n 1, 1) := by decide +kernel
theorem dX11_lock_62 : decode cX11_lock 62 = .ok (.invokevirtual 231, 3) := by decide +kernel
theorem dX11_lock_65 : decode cX11_lock 65 = .ok (.ireturn, 1) := by decide +kernel
theorem dX11_lock_66 : decode cX11_lock 66 = .ok (.aload_n 0, 1) := by decide +kernel
theorem dX11_lock_67 : decode cX11_lock 67 = .ok (.getfield 46, 3) := by decide +kernel
theorem dX11_lock_70 : decode cX11_lock 70 = .ok (.iload_n 1, 1) := by decide +kernel
theorem dX11_lock_71 : decode cX11_lock 71 = .ok (.invokevirtual 234, 3) := by decide +kernel
theorem dX11_lock_74 : decode cX11_lock 74 = .ok (.invokestatic 237, 3) := by decide +kernel
theorem dX11_lock_77 : decode cX11_lock 77 = .ok (.ireturn, 1) := by decide +kernel
theorem dX11_thread_0 : decode cX11_thread 0 = .ok (.aload_n 0, 1) := by decide +kernel
theorem dX11_thread_1 : decode cX11_thread 1 = .ok (.invokevirtual 160, 3) := by decide +kernel
theorem dX11_thread_4 : decode cX11_thread 4 = .ok (.iload_n 1, 1) := by decide +kernel
theorem dX11_thread_5 : decode cX11_thread 5 = .ok (.aload_n 0, 1) := by decide +kernel
theorem dX11_thread_6 : decode cX11_thread 6 = .ok (.getfield 28, 3) := by decide +kernel
theorem dX11_thread_9 : decode cX11_thread 9 = .ok (.getfield 124, 3) := by decide +kernel
theorem dX11_thread_12 : decode cX11_thread 12 = .ok (.invokestatic 163, 3) := by decide +kernel
theorem dX11_thread_15 : decode cX11_thread 15 = .ok (.iload_n 2, 1) := by decide +kernel
theorem dX11_thread_16 : decode cX11_thread 16 = .ok (.iconst 5, 1) := by decide +kernel
theorem dX11_thread_17 : decode cX11_thread 17 = .ok (.invokestatic 132, 3) := by decide +kernel
theorem dX11_thread_20 : decode cX11_thread 20 = .ok (.iload_n 2, 1) := by decide +kernel
theorem dX11_thread_21 : decode cX11_thread 21 = .ok (.tableswitch 71 0 3 #[31, 41, 51, 62], 31) := by decide +kernel
theorem dX11_thread_52 : decode cX11_thread 52 = .ok (.aload_n 0, 1) := by decide +kernel
theorem dX11_thread_53 : decode cX11_thread 53 = .ok (.getfield 46, 3) := by decide +kernel
theorem dX11_thread_56 : decode cX11_thread 56 = .ok (.iload_n 1, 1) := by decide +kernel
theorem dX11_thread_57 : decode cX11_thread 57 = .ok (.iconst 0, 1) := by decide +kernel
theorem dX11_thread_58 : decode cX11_thread 58 = .ok (.invokevirtual 242, 3) := by decide +kernel
theorem dX11_thread_61 : decode cX11_thread 61 = .ok (.ireturn, 1) := by decide +kernel
theorem dX11_thread_62 : decode cX11_thread 62 = .ok (.aload_n 0, 1) := by decide +kernel
theorem dX11_thread_63 : decode cX11_thread 63 = .ok (.getfield 46, 3) := by decide +kernel
theorem dX11_thread_66 : decode cX11_thread 66 = .ok (.iload_n 1, 1) := by decide +kernel
theorem dX11_thread_67 : decode cX11_thread 67 = .ok (.iconst 1, 1) := by decide +kernel
theorem dX11_thread_68 : decode cX11_thread 68 = .ok (.invokevirtual 242, 3) := by decide +kernel
theorem dX11_thread_71 : decode cX11_thread 71 = .ok (.ireturn, 1) := by decide +kernel
theorem dX11_thread_72 : decode cX11_thread 72 = .ok (.aload_n 0, 1) := by decide +kernel
theorem dX11_thread_73 : decode cX11_thread 73 = .ok (.getfield 46, 3) := by decide +kernel
theorem dX11_thread_76 : decode cX11_thread 76 = .ok (.iload_n 1, 1) := by decide +kernel
theorem dX11_thread_77 : decode cX11_thread 77 = .ok (.bipush 7, 2) := by decide +kernel
theorem dX11_thread_79 : decode cX11_thread 79 = .ok (.invokevirtual 242, 3) := by decide +kernel
theorem dX11_thread_82 : decode cX11_thread 82 = .ok (.ireturn, 1) := by decide +kernel
theorem dX11_thread_83 : decode cX11_thread 83 = .ok (.aload_n 0, 1) := by decide +kernel
theorem dX11_thread_84 : decode cX11_thread 84 = .ok (.getfield 46, 3) := by decide +kernel
theorem dX11_thread_87 : decode cX11_thread 87 = .ok (.iload_n 1, 1) := by decide +kernel
theorem dX11_thread_88 : decode cX11_thread 88 = .ok (.invokevirtual 245, 3) := by decide +kernel
theorem dX11_thread_91 : decode cX11_thread 91 = .ok (.ireturn, 1) := by decide +kernel
theorem dX11_thread_92 : decode cX11_thread 92 = .ok (.aload_n 0, 1) := by decide +kernel
theorem dX11_thread_93 : decode cX11_thread 93 = .ok (.getfield 46, 3) := by decide +kernel
theorem dX11_thread_96 : decode cX11_thread 96 = .ok (.iload_n 1, 1) := by decide +kernel
theorem dX11_thread_97 : decode cX11_thread 97 = .ok (.invokevirtual 248, 3) := by decide +kernel
theorem dX11_thread_100 : decode cX11_thread 100 = .ok (.ireturn, 1) := by decide +kernel
theorem dX11_local_0 : decode cX11_local 0 = .ok (.aload_n 0, 1) := by decide +kernel
theorem dX11_local_1 : decode cX11_local 1 = .ok (.invokevirtual 160, 3) := by decide +kernel
theorem dX11_local_4 : decode cX11_local 4 = .ok (.iload_n 1, 1) := by decide +kernel
theorem dX11_local_5 : decode cX11_local 5 = .ok (.aload_n 0, 1) := by decide +kernel
theorem dX11_local_6 : decode cX11_local 6 = .ok (.getfield 28, 3) := by decide +kernel
theorem dX11_local_9 : decode cX11_local 9 = .ok (.getfield 124, 3) := by decide +kernel
theorem dX11_local_12 : decode cX11_local 12 = .ok (.invokestatic 163, 3) := by decide +kernel
theorem dX11_local_15 : decode cX11_local 15 = .ok (.iload_n 2, 1) := by decide +kernel
theorem dX11_local_16 : decode cX11_local 16 = .ok (.aload_n 0, 1) := by decide +kernel
theorem dX11_local_17 : decode cX11_local 17 = .ok (.getfield 46, 3) := by decide +kernel
theorem dX11_local_20 : decode cX11_local 20 = .ok (.iload_n 1, 1) := by decide +kernel
theorem dX11_local_21 : decode cX11_local 21 = .ok (.invokevirtual 245, 3) := by decide +kernel
theorem dX11_local_24 : decode cX11_local 24 = .ok (.invokestatic 163, 3) := by decide +kernel
theorem dX11_local_27 : decode cX11_local 27 = .ok (.aload_n 0, 1) := by decide +kernel
theorem dX11_local_28 : decode cX11_local 28 = .ok (.getfield 46, 3) := by decide +kernel
theorem dX11_local_31 : decode cX11_local 31 = .ok (.iload_n 1, 1) := by decide +kernel
theorem dX11_local_32 : decode cX11_local 32 = .ok (.bipush 8, 2) := by decide +kernel
theorem dX11_local_34 : decode cX11_local 34 = .ok (.iload_n 2, 1) := by decide +kernel
theorem dX11_local_35 : decode cX11_local 35 = .ok (.iadd, 1) := by decide +kernel
theorem dX11_local_36 : decode cX11_local 36 = .ok (.invokevirtual 242, 3) := by decide +kernel
theorem dX11_local_39 : decode cX11_local 39 = .ok (.ireturn, 1) := by decide +kernel
theorem dX11_act_0 : decode cX11_act 0 = .ok (.aload_n 0, 1) := by decide +kernel
theorem dX11_act_1 : decode cX11_act 1 = .ok (.invokevirtual 160, 3) := by decide +kernel
theorem dX11_act_4 : decode cX11_act 4 = .ok (.iload_n 1, 1) := by decide +kernel
theorem dX11_act_5 : decode cX11_act 5 = .ok (.aload_n 0, 1) := by decide +kernel
theorem dX11_act_6 : decode cX11_act 6 = .ok (.getfield 53, 3) := by decide +kernel
theorem dX11_act_9 : decode cX11_act 9 = .ok (.getfield 206, 3) := by decide +kernel
theorem dX11_act_12 : decode cX11_act 12 = .ok (.invokestatic 163, 3) := by decide +kernel
theorem dX11_act_15 : decode cX11_act 15 = .ok (.iload_n 2, 1) := by decide +kernel
theorem dX11_act_16 : decode cX11_act 16 = .ok (.iconst 5, 1) := by decide +kernel
theorem dX11_act_17 : decode cX11_act 17 = .ok (.invokestatic 132, 3) := by decide +kernel
theorem dX11_act_20 : decode cX11_act 20 = .ok (.iload_n 2, 1) := by decide +kernel
theorem dX11_act_21 : decode cX11_act 21 = .ok (.tableswitch 71 0 3 #[31, 41, 51, 61], 31) := by decide +kernel
theorem dX11_act_52 : decode cX11_act 52 = .ok (.aload_n 0, 1) := by decide +kernel
theorem dX11_act_53 : decode cX11_act 53 = .ok (.getfield 53, 3) := by decide +kernel
theorem dX11_act_56 : decode cX11_act 56 = .ok (.getfield 251, 3) := by decide +kernel
theorem dX11_act_59 : decode cX11_act 59 = .ok (.iload_n 1, 1) := by decide +kernel
theorem dX11_act_60 : decode cX11_act 60 = .ok (.iaload, 1) := by decide +kernel
theorem dX11_act_61 : decode cX11_act 61 = .ok (.ireturn, 1) := by decide +kernel
theorem dX11_act_62 : decode cX11_act 62 = .ok (.aload_n 0, 1) := by decide +kernel
theorem dX11_act_63 : decode cX11_act 63 = .ok (.getfield 53, 3) := by decide +kernel
theorem dX11_act_66 : decode cX11_act 66 = .ok (.getfield 254, 3) := by decide +kernel
theorem dX11_act_69 : decode cX11_act 69 = .ok (.iload_n 1, 1) := by decide +kernel
theorem dX11_act_70 : decode cX11_act 70 = .ok (.iaload, 1) := by decide +kernel
theorem dX11_act_71 : decode cX11_act 71 = .ok (.ireturn, 1) := by decide +kernel
theorem dX11_act_72 : decode cX11_act 72 = .ok (.aload_n 0, 1) := by decide +kernel
theorem dX11_act_73 : decode cX11_act 73 = .ok (.getfield 53, 3) := by decide +kernel
theorem dX11_act_76 : decode cX11_act 76 = .ok (.getfield 257, 3) := by decide +kernel
theorem dX11_act_79 : decode cX11_act 79 = .ok (.iload_n 1, 1) := by decide +kernel
theorem dX11_act_80 : decode cX11_act 80 = .ok (.iaload, 1) := by decide +kernel
theorem dX11_act_81 : decode cX11_act 81 = .ok (.ireturn, 1) := by decide +kernel
theorem dX11_act_82 : decode cX11_act 82 = .ok (.aload_n 0, 1) := by decide +kernel
theorem dX11_act_83 : decode cX11_act 83 = .ok (.getfield 53, 3) := by decide +kernel
theorem dX11_act_86 : decode cX11_act 86 = .ok (.getfield 260, 3) := by decide +kernel
theorem dX11_act_89 : decode cX11_act 89 = .ok (.iload_n 1, 1) := by decide +kernel
theorem dX11_act_90 : decode cX11_act 90 = .ok (.iaload, 1) := by decide +kernel
theorem dX11_act_91 : decode cX11_act 91 = .ok (.ireturn, 1) := by decide +kernel
theorem dX11_act_92 : decode cX11_act 92 = .ok (.aload_n 0, 1) := by decide +kernel
theorem dX11_act_93 : decode cX11_act 93 = .ok (.getfield 53, 3) := by decide +kernel
theorem dX11_act_96 : decode cX11_act 96 = .ok (.getfield 263, 3) := by decide +kernel
theorem dX11_act_99 : decode cX11_act 99 = .ok (.iload_n 1, 1) := by decide +kernel
theorem dX11_act_100 : decode cX11_act 100 = .ok (.iaload, 1) := by decide +kernel
theorem dX11_act_101 : decode cX11_act 101 = .ok (.ireturn, 1) := by decide +kernel
theorem dX11_before_0 : decode cX11_before 0 = .ok (.aload_n 0, 1) := by decide +kernel
theorem dX11_before_1 : decode cX11_before 1 = .ok (.invokevirtual 160, 3) := by decide +kernel
theorem dX11_before_4 : decode cX11_before 4 = .ok (.iload_n 1, 1) := by decide +kernel
theorem dX11_before_5 : decode cX11_before 5 = .ok (.aload_n 0, 1) := by decide +kernel
theorem dX11_before_6 : decode cX11_before 6 = .ok (.getfield 53, 3) := by decide +kernel
theorem dX11_before_9 : decode cX11_before 9 = .ok (.getfield 206, 3) := by decide +kernel
theorem dX11_before_12 : decode cX11_before 12 = .ok (.invokestatic 163, 3) := by decide +kernel
theorem dX11_before_15 : decode cX11_before 15 = .ok (.iload_n 2, 1) := by decide +kernel
theorem dX11_before_16 : decode cX11_before 16 = .ok (.aload_n 0, 1) := by decide +kernel
theorem dX11_before_17 : decode cX11_before 17 = .ok (.getfield 53, 3) := by decide +kernel
theorem dX11_before_20 : decode cX11_before 20 = .ok (.getfield 206, 3) := by decide +kernel
theorem dX11_before_23 : decode cX11_before 23 = .ok (.invokestatic 163, 3) := by decide +kernel
theorem dX11_before_26 : decode cX11_before 26 = .ok (.aload_n 0, 1) := by decide +kernel
theorem dX11_before_27 : decode cX11_before 27 = .ok (.getfield 53, 3) := by decide +kernel
theorem dX11_before_30 : decode cX11_before 30 = .ok (.iload_n 1, 1) := by decide +kernel
theorem dX11_before_31 : decode cX11_before 31 = .ok (.iload_n 2, 1) := by decide +kernel
theorem dX11_before_32 : decode cX11_before 32 = .ok (.invokevirtual 266, 3) := by decide +kernel
theorem dX11_before_35 : decode cX11_before 35 = .ok (.ireturn, 1) := by decide +kernel
theorem dX11_race_0 : decode cX11_race 0 = .ok (.aload_n 0, 1) := by decide +kernel
theorem dX11_race_1 : decode cX11_race 1 = .ok (.invokevirtual 160, 3) := by decide +kernel
theorem dX11_race_4 : decode cX11_race 4 = .ok (.iload_n 1, 1) := by decide +kernel
theorem dX11_race_5 : decode cX11_race 5 = .ok (.aload_n 0, 1) := by decide +kernel
theorem dX11_race_6 : decode cX11_race 6 = .ok (.getfield 53, 3) := by decide +kernel
theorem dX11_race_9 : decode cX11_race 9 = .ok (.invokevirtual 213, 3) := by decide +kernel
theorem dX11_race_12 : decode cX11_race 12 = .ok (.invokestatic 163, 3) := by decide +kernel
theorem dX11_race_15 : decode cX11_race 15 = .ok (.iload_n 2, 1) := by decide +kernel
theorem dX11_race_16 : decode cX11_race 16 = .ok (.iconst 2, 1) := by decide +kernel
theorem dX11_race_17 : decode cX11_race 17 = .ok (.invokestatic 132, 3) := by decide +kernel
theorem dX11_race_20 : decode cX11_race 20 = .ok (.aload_n 0, 1) := by decide +kernel
theorem dX11_race_21 : decode cX11_race 21 = .ok (.getfield 53, 3) := by decide +kernel
theorem dX11_race_24 : decode cX11_race 24 = .ok (.iload_n 1, 1) := by decide +kernel
theorem dX11_race_25 : decode cX11_race 25 = .ok (.invokevirtual 270, 3) := by decide +kernel
theorem dX11_race_28 : decode cX11_race 28 = .ok (.istore_n 3, 1) := by decide +kernel
theorem dX11_race_29 : decode cX11_race 29 = .ok (.iload_n 2, 1) := by decide +kernel
theorem dX11_race_30 : decode cX11_race 30 = .ok (.iconst 1, 1) := by decide +kernel
theorem dX11_race_31 : decode cX11_race 31 = .ok (.if_icmp .ne 7, 3) := by decide +kernel
theorem dX11_race_34 : decode cX11_race 34 = .ok (.iload_n 3, 1) := by decide +kernel
theorem dX11_race_35 : decode cX11_race 35 = .ok (.goto 12, 3) := by decide +kernel
theorem dX11_race_38 : decode cX11_race 38 = .ok (.aload_n 0, 1) := by decide +kernel
theorem dX11_race_39 : decode cX11_race 39 = .ok (.getfield 53, 3) := by decide +kernel
theorem dX11_race_42 : decode cX11_race 42 = .ok (.iload_n 1, 1) := by decide +kernel
theorem dX11_race_43 : decode cX11_race 43 = .ok (.iload_n 3, 1) := by decide +kernel
theorem dX11_race_44 : decode cX11_race 44 = .ok (.invokevirtual 273, 3) := by decide +kernel
theorem dX11_race_47 : decode cX11_race 47 = .ok (.ireturn, 1) := by decide +kernel
theorem dX11_linear_0 : decode cX11_linear 0 = .ok (.aload_n 0, 1) := by decide +kernel
theorem dX11_linear_1 : decode cX11_linear 1 = .ok (.invokevirtual 160, 3) := by decide +kernel
theorem dX11_linear_4 : decode cX11_linear 4 = .ok (.iload_n 1, 1) := by decide +kernel
theorem dX11_linear_5 : decode cX11_linear 5 = .ok (.ifCond .lt 8, 3) := by decide +kernel
theorem dX11_linear_8 : decode cX11_linear 8 = .ok (.iload_n 1, 1) := by decide +kernel
theorem dX11_linear_9 : decode cX11_linear 9 = .ok (.iconst 3, 1) := by decide +kernel
theorem dX11_linear_10 : decode cX11_linear 10 = .ok (.if_icmp .le 14, 3) := by decide +kernel
theorem dX11_linear_13 : decode cX11_linear 13 = .ok (.new 70, 3) := by decide +kernel
theorem dX11_linear_16 : decode cX11_linear 16 = .ok (.dup, 1) := by decide +kernel
theorem dX11_linear_17 : decode cX11_linear 17 = .ok (.ldc_w 276, 3) := by decide +kernel
theorem dX11_linear_20 : decode cX11_linear 20 = .ok (.invokespecial 74, 3) := by decide +kernel
theorem dX11_linear_23 : decode cX11_linear 23 = .ok (.athrow, 1) := by decide +kernel
theorem dX11_linear_24 : decode cX11_linear 24 = .ok (.aload_n 0, 1) := by decide +kernel
theorem dX11_linear_25 : decode cX11_linear 25 = .ok (.getfield 53, 3) := by decide +kernel
theorem dX11_linear_28 : decode cX11_linear 28 = .ok (.getfield 216, 3) := by decide +kernel
theorem dX11_linear_31 : decode cX11_linear 31 = .ok (.bipush 12, 2) := by decide +kernel
theorem dX11_linear_33 : decode cX11_linear 33 = .ok (.if_icmp .le 5, 3) := by decide +kernel
theorem dX11_linear_36 : decode cX11_linear 36 = .ok (.iconst (-1), 1) := by decide +kernel
theorem dX11_linear_37 : decode cX11_linear 37 = .ok (.ireturn, 1) := by decide +kernel
theorem dX11_linear_38 : decode cX11_linear 38 = .ok (.aload_n 0, 1) := by decide +kernel
theorem dX11_linear_39 : decode cX11_linear 39 = .ok (.getfield 280, 3) := by decide +kernel
theorem dX11_linear_42 : decode cX11_linear 42 = .ok (.ifnonnull 14, 3) := by decide +kernel
theorem dX11_linear_45 : decode cX11_linear 45 = .ok (.aload_n 0, 1) := by decide +kernel
theorem dX11_linear_46 : decode cX11_linear 46 = .ok (.new 278, 3) := by decide +kernel
theorem dX11_linear_49 : decode cX11_linear 49 = .ok (.dup, 1) := by decide +kernel
theorem dX11_linear_50 : decode cX11_linear 50 = .ok (.invokespecial 284, 3) := by decide +kernel
theorem dX11_linear_53 : decode cX11_linear 53 = .ok (.putfield 280, 3) := by decide +kernel
theorem dX11_linear_56 : decode cX11_linear 56 = .ok (.aload_n 0, 1) := by decide +kernel
theorem dX11_linear_57 : decode cX11_linear 57 = .ok (.getfield 280, 3) := by decide +kernel
theorem dX11_linear_60 : decode cX11_linear 60 = .ok (.aload_n 0, 1) := by decide +kernel
theorem dX11_linear_61 : decode cX11_linear 61 = .ok (.getfield 53, 3) := by decide +kernel
theorem dX11_linear_64 : decode cX11_linear 64 = .ok (.invokevirtual 285, 3) := by decide +kernel
theorem dX11_linear_67 : decode cX11_linear 67 = .ok (.aload_n 0, 1) := by decide +kernel
theorem dX11_linear_68 : decode cX11_linear 68 = .ok (.getfield 280, 3) := by decide +kernel
theorem dX11_linear_71 : decode cX11_linear 71 = .ok (.iload_n 1, 1) := by decide +kernel
theorem dX11_linear_72 : decode cX11_linear 72 = .ok (.invokevirtual 289, 3) := by decide +kernel
theorem dX11_linear_75 : decode cX11_linear 75 = .ok (.istore_n 2, 1) := by decide +kernel
theorem dX11_linear_76 : decode cX11_linear 76 = .ok (.iload_n 2, 1) := by decide +kernel
theorem dX11_linear_77 : decode cX11_linear 77 = .ok (.iconst (-1), 1) := by decide +kernel
theorem dX11_linear_78 : decode cX11_linear 78 = .ok (.if_icmp .ne 7, 3) := by decide +kernel
theorem dX11_linear_81 : decode cX11_linear 81 = .ok (.iconst 1, 1) := by decide +kernel
theorem dX11_linear_82 : decode cX11_linear 82 = .ok (.goto 7, 3) := by decide +kernel
theorem dX11_linear_85 : decode cX11_linear 85 = .ok (.bipush (-2), 2) := by decide +kernel
theorem dX11_linear_87 : decode cX11_linear 87 = .ok (.iload_n 2, 1) := by decide +kernel
theorem dX11_linear_88 : decode cX11_linear 88 = .ok (.isub, 1) := by decide +kernel
theorem dX11_linear_89 : decode cX11_linear 89 = .ok (.ireturn, 1) := by decide +kernel
theorem dX11_attempt_0 : decode cX11_attempt 0 = .ok (.aload_n 0, 1) := by decide +kernel
theorem dX11_attempt_1 : decode cX11_attempt 1 = .ok (.invokevirtual 148, 3) := by decide +kernel
theorem dX11_attempt_4 : decode cX11_attempt 4 = .ok (.iload_n 1, 1) := by decide +kernel
theorem dX11_attempt_5 : decode cX11_attempt 5 = .ok (.invokestatic 151, 3) := by decide +kernel
theorem dX11_attempt_8 : decode cX11_attempt 8 = .ok (.iload_n 2, 1) := by decide +kernel
theorem dX11_attempt_9 : decode cX11_attempt 9 = .ok (.iconst 1, 1) := by decide +kernel
theorem dX11_attempt_10 : decode cX11_attempt 10 = .ok (.if_icmp .lt 10, 3) := by decide +kernel
theorem dX11_attempt_13 : decode cX11_attempt 13 = .ok (.iload_n 2, 1) := by decide +kernel
theorem dX11_attempt_14 : decode cX11_attempt 14 = .ok (.sipush 3000, 3) := by decide +kernel
theorem dX11_attempt_17 : decode cX11_attempt 17 = .ok (.if_icmp .le 14, 3) := by decide +kernel
theorem dX11_attempt_20 : decode cX11_attempt 20 = .ok (.new 70, 3) := by decide +kernel
theorem dX11_attempt_23 : decode cX11_attempt 23 = .ok (.dup, 1) := by decide +kernel
theorem dX11_attempt_24 : decode cX11_attempt 24 = .ok (.ldc_w 292, 3) := by decide +kernel
theorem dX11_attempt_27 : decode cX11_attempt 27 = .ok (.invokespecial 74, 3) := by decide +kernel
theorem dX11_attempt_30 : decode cX11_attempt 30 = .ok (.athrow, 1) := by decide +kernel
theorem dX11_attempt_31 : decode cX11_attempt 31 = .ok (.aload_n 0, 1) := by decide +kernel
theorem dX11_attempt_32 : decode cX11_attempt 32 = .ok (.getfield 294, 3) := by decide +kernel
theorem dX11_attempt_35 : decode cX11_attempt 35 = .ok (.ifnonnull 18, 3) := by decide +kernel
theorem dX11_attempt_38 : decode cX11_attempt 38 = .ok (.aload_n 0, 1) := by decide +kernel
theorem dX11_attempt_39 : decode cX11_attempt 39 = .ok (.new 298, 3) := by decide +kernel
theorem dX11_attempt_42 : decode cX11_attempt 42 = .ok (.dup, 1) := by decide +kernel
theorem dX11_attempt_43 : decode cX11_attempt 43 = .ok (.aload_n 0, 1) := by decide +kernel
theorem dX11_attempt_44 : decode cX11_attempt 44 = .ok (.getfield 28, 3) := by decide +kernel
theorem dX11_attempt_47 : decode cX11_attempt 47 = .ok (.invokespecial 300, 3) := by decide +kernel
theorem dX11_attempt_50 : decode cX11_attempt 50 = .ok (.putfield 294, 3) := by decide +kernel
theorem dX11_attempt_53 : decode cX11_attempt 53 = .ok (.aload_n 0, 1) := by decide +kernel
theorem dX11_attempt_54 : decode cX11_attempt 54 = .ok (.getfield 59, 3) := by decide +kernel
theorem dX11_attempt_57 : decode cX11_attempt 57 = .ok (.iload_n 1, 1) := by decide +kernel
theorem dX11_attempt_58 : decode cX11_attempt 58 = .ok (.aaload, 1) := by decide +kernel
theorem dX11_attempt_59 : decode cX11_attempt 59 = .ok (.ifnonnull 16, 3) := by decide +kernel
theorem dX11_attempt_62 : decode cX11_attempt 62 = .ok (.aload_n 0, 1) := by decide +kernel
theorem dX11_attempt_63 : decode cX11_attempt 63 = .ok (.getfield 59, 3) := by decide +kernel
theorem dX11_attempt_66 : decode cX11_attempt 66 = .ok (.iload_n 1, 1) := by decide +kernel
theorem dX11_attempt_67 : decode cX11_attempt 67 = .ok (.new 57, 3) := by decide +kernel
theorem dX11_attempt_70 : decode cX11_attempt 70 = .ok (.dup, 1) := by decide +kernel
theorem dX11_attempt_71 : decode cX11_attempt 71 = .ok (.invokespecial 301, 3) := by decide +kernel
theorem dX11_attempt_74 : decode cX11_attempt 74 = .ok (.aastore, 1) := by decide +kernel
theorem dX11_attempt_75 : decode cX11_attempt 75 = .ok (.aload_n 0, 1) := by decide +kernel
theorem dX11_attempt_76 : decode cX11_attempt 76 = .ok (.getfield 294, 3) := by decide +kernel
theorem dX11_attempt_79 : decode cX11_attempt 79 = .ok (.iload_n 1, 1) := by decide +kernel
theorem dX11_attempt_80 : decode cX11_attempt 80 = .ok (.iload_n 2, 1) := by decide +kernel
theorem dX11_attempt_81 : decode cX11_attempt 81 = .ok (.aload_n 0, 1) := by decide +kernel
theorem dX11_attempt_82 : decode cX11_attempt 82 = .ok (.getfield 59, 3) := by decide +kernel
theorem dX11_attempt_85 : decode cX11_attempt 85 = .ok (.iload_n 1, 1) := by decide +kernel
theorem dX11_attempt_86 : decode cX11_attempt 86 = .ok (.aaload, 1) := by decide +kernel
theorem dX11_attempt_87 : decode cX11_attempt 87 = .ok (.invokevirtual 302, 3) := by decide +kernel
theorem dX11_attempt_90 : decode cX11_attempt 90 = .ok (.aload_n 0, 1) := by decide +kernel
theorem dX11_attempt_91 : decode cX11_attempt 91 = .ok (.getfield 59, 3) := by decide +kernel
theorem dX11_attempt_94 : decode cX11_attempt 94 = .ok (.iload_n 1, 1) := by decide +kernel
theorem dX11_attempt_95 : decode cX11_attempt 95 = .ok (.aaload, 1) := by decide +kernel
theorem dX11_attempt_96 : decode cX11_attempt 96 = .ok (.getfield 306, 3) := by decide +kernel
theorem dX11_attempt_99 : decode cX11_attempt 99 = .ok (.ireturn, 1) := by decide +kernel
theorem dX11_tried_0 : decode cX11_tried 0 = .ok (.iload_n 1, 1) := by decide +kernel
theorem dX11_tried_1 : decode cX11_tried 1 = .ok (.invokestatic 151, 3) := by decide +kernel
theorem dX11_tried_4 : decode cX11_tried 4 = .ok (.iload_n 2, 1) := by decide +kernel
theorem dX11_tried_5 : decode cX11_tried 5 = .ok (.bipush 6, 2) := by decide +kernel
theorem dX11_tried_7 : decode cX11_tried 7 = .ok (.invokestatic 132, 3) := by decide +kernel
theorem dX11_tried_10 : decode cX11_tried 10 = .ok (.aload_n 0, 1) := by decide +kernel
theorem dX11_tried_11 : decode cX11_tried 11 = .ok (.iload_n 1, 1) := by decide +kernel
theorem dX11_tried_12 : decode cX11_tried 12 = .ok (.invokevirtual 309, 3) := by decide +kernel
theorem dX11_tried_15 : decode cX11_tried 15 = .ok (.ifCond .ne 5, 3) := by decide +kernel
theorem dX11_tried_18 : decode cX11_tried 18 = .ok (.iconst 0, 1) := by decide +kernel
theorem dX11_tried_19 : decode cX11_tried 19 = .ok (.ireturn, 1) := by decide +kernel
theorem dX11_tried_20 : decode cX11_tried 20 = .ok (.aload_n 0, 1) := by decide +kernel
theorem dX11_tried_21 : decode cX11_tried 21 = .ok (.getfield 59, 3) := by decide +kernel
theorem dX11_tried_24 : decode cX11_tried 24 = .ok (.iload_n 1, 1) := by decide +kernel
theorem dX11_tried_25 : decode cX11_tried 25 = .ok (.aaload, 1) := by decide +kernel
theorem dX11_tried_26 : decode cX11_tried 26 = .ok (.astore_n 3, 1) := by decide +kernel
theorem dX11_tried_27 : decode cX11_tried 27 = .ok (.iload_n 2, 1) := by decide +kernel
theorem dX11_tried_28 : decode cX11_tried 28 = .ok (.tableswitch 69 0 4 #[36, 41, 54, 59, 64], 36) := by decide +kernel
theorem dX11_tried_64 : decode cX11_tried 64 = .ok (.aload_n 3, 1) := by decide +kernel
theorem dX11_tried_65 : decode cX11_tried 65 = .ok (.getfield 306, 3) := by decide +kernel
theorem dX11_tried_68 : decode cX11_tried 68 = .ok (.ireturn, 1) := by decide +kernel
theorem dX11_tried_69 : decode cX11_tried 69 = .ok (.aload_n 3, 1) := by decide +kernel
theorem dX11_tried_70 : decode cX11_tried 70 = .ok (.getfield 313, 3) := by decide +kernel
theorem dX11_tried_73 : decode cX11_tried 73 = .ok (.ifCond .eq 7, 3) := by decide +kernel
theorem dX11_tried_76 : decode cX11_tried 76 = .ok (.iconst 1, 1) := by decide +kernel
theorem dX11_tried_77 : decode cX11_tried 77 = .ok (.goto 4, 3) := by decide +kernel
theorem dX11_tried_80 : decode cX11_tried 80 = .ok (.iconst 0, 1) := by decide +kernel
theorem dX11_tried_81 : decode cX11_tried 81 = .ok (.ireturn, 1) := by decide +kernel
theorem dX11_tried_82 : decode cX11_tried 82 = .ok (.aload_n 3, 1) := by decide +kernel
theorem dX11_tried_83 : decode cX11_tried 83 = .ok (.getfield 316, 3) := by decide +kernel
theorem dX11_tried_86 : decode cX11_tried 86 = .ok (.ireturn, 1) := by decide +kernel
theorem dX11_tried_87 : decode cX11_tried 87 = .ok (.aload_n 3, 1) := by decide +kernel
theorem dX11_tried_88 : decode cX11_tried 88 = .ok (.getfield 319, 3) := by decide +kernel
theorem dX11_tried_91 : decode cX11_tried 91 = .ok (.ireturn, 1) := by decide +kernel
theorem dX11_tried_92 : decode cX11_tried 92 = .ok (.aload_n 3, 1) := by decide +kernel
theorem dX11_tried_93 : decode cX11_tried 93 = .ok (.getfield 322, 3) := by decide +kernel
theorem dX11_tried_96 : decode cX11_tried 96 = .ok (.ireturn, 1) := by decide +kernel
theorem dX11_tried_97 : decode cX11_tried 97 = .ok (.aload_n 3, 1) := by decide +kernel
theorem dX11_tried_98 : decode cX11_tried 98 = .ok (.getfield 325, 3) := by decide +kernel
theorem dX11_tried_101 : decode cX11_tried 101 = .ok (.ireturn, 1) := by decide +kernel
theorem dX11_outcome_0 : decode cX11_outcome 0 = .ok (.iload_n 1, 1) := by decide +kernel
theorem dX11_outcome_1 : decode cX11_outcome 1 = .ok (.invokestatic 151, 3) := by decide +kernel
theorem dX11_outcome_4 : decode cX11_outcome 4 = .ok (.iload_n 2, 1) := by decide +kernel
theorem dX11_outcome_5 : decode cX11_outcome 5 = .ok (.aload_n 0, 1) := by decide +kernel
theorem dX11_outcome_6 : decode cX11_outcome 6 = .ok (.iload_n 1, 1) := by decide +kernel
theorem dX11_outcome_7 : decode cX11_outcome 7 = .ok (.invokevirtual 309, 3) := by decide +kernel
theorem dX11_outcome_10 : decode cX11_outcome 10 = .ok (.ifCond .eq 15, 3) := by decide +kernel
theorem dX11_outcome_13 : decode cX11_outcome 13 = .ok (.aload_n 0, 1) := by decide +kernel
theorem dX11_outcome_14 : decode cX11_outcome 14 = .ok (.getfield 59, 3) := by decide +kernel
theorem dX11_outcome_17 : decode cX11_outcome 17 = .ok (.iload_n 1, 1) := by decide +kernel
theorem dX11_outcome_18 : decode cX11_outcome 18 = .ok (.aaload, 1) := by decide +kernel
theorem dX11_outcome_19 : decode cX11_outcome 19 = .ok (.getfield 319, 3) := by decide +kernel
theorem dX11_outcome_22 : decode cX11_outcome 22 = .ok (.goto 4, 3) := by decide +kernel
theorem dX11_outcome_25 : decode cX11_outcome 25 = .ok (.iconst 0, 1) := by decide +kernel
theorem dX11_outcome_26 : decode cX11_outcome 26 = .ok (.invokestatic 163, 3) := by decide +kernel
theorem dX11_outcome_29 : decode cX11_outcome 29 = .ok (.iload_n 3, 1) := by decide +kernel
theorem dX11_outcome_30 : decode cX11_outcome 30 = .ok (.aload_n 0, 1) := by decide +kernel
theorem dX11_outcome_31 : decode cX11_outcome 31 = .ok (.getfield 28, 3) := by decide +kernel
theorem dX11_outcome_34 : decode cX11_outcome 34 = .ok (.getfield 136, 3) := by decide +kernel
theorem dX11_outcome_37 : decode cX11_outcome 37 = .ok (.invokestatic 163, 3) := by decide +kernel
theorem dX11_outcome_40 : decode cX11_outcome 40 = .ok (.aload_n 0, 1) := by decide +kernel
theorem dX11_outcome_41 : decode cX11_outcome 41 = .ok (.getfield 59, 3) := by decide +kernel
theorem dX11_outcome_44 : decode cX11_outcome 44 = .ok (.iload_n 1, 1) := by decide +kernel
theorem dX11_outcome_45 : decode cX11_outcome 45 = .ok (.aaload, 1) := by decide +kernel
theorem dX11_outcome_46 : decode cX11_outcome 46 = .ok (.iload_n 2, 1) := by decide +kernel
theorem dX11_outcome_47 : decode cX11_outcome 47 = .ok (.iload_n 3, 1) := by decide +kernel
theorem dX11_outcome_48 : decode cX11_outcome 48 = .ok (.invokevirtual 328, 3) := by decide +kernel
theorem dX11_outcome_51 : decode cX11_outcome 51 = .ok (.ireturn, 1) := by decide +kernel
theorem dX11_finding_0 : decode cX11_finding 0 = .ok (.iload_n 1, 1) := by decide +kernel
theorem dX11_finding_1 : decode cX11_finding 1 = .ok (.invokestatic 151, 3) := by decide +kernel
theorem dX11_finding_4 : decode cX11_finding 4 = .ok (.iload_n 2, 1) := by decide +kernel
theorem dX11_finding_5 : decode cX11_finding 5 = .ok (.invokestatic 331, 3) := by decide +kernel
theorem dX11_finding_8 : decode cX11_finding 8 = .ok (.aload_n 0, 1) := by decide +kernel
theorem dX11_finding_9 : decode cX11_finding 9 = .ok (.iload_n 1, 1) := by decide +kernel
theorem dX11_finding_10 : decode cX11_finding 10 = .ok (.iload_n 2, 1) := by decide +kernel
theorem dX11_finding_11 : decode cX11_finding 11 = .ok (.invokevirtual 334, 3) := by decide +kernel
theorem dX11_finding_14 : decode cX11_finding 14 = .ok (.istore_n 3, 1) := by decide +kernel
theorem dX11_finding_15 : decode cX11_finding 15 = .ok (.iload_n 3, 1) := by decide +kernel
theorem dX11_finding_16 : decode cX11_finding 16 = .ok (.iconst (-1), 1) := by decide +kernel
theorem dX11_finding_17 : decode cX11_finding 17 = .ok (.if_icmp .ne 7, 3) := by decide +kernel
theorem dX11_finding_20 : decode cX11_finding 20 = .ok (.iconst (-1), 1) := by decide +kernel
theorem dX11_finding_21 : decode cX11_finding 21 = .ok (.goto 14, 3) := by decide +kernel
theorem dX11_finding_24 : decode cX11_finding 24 = .ok (.aload_n 0, 1) := by decide +kernel
theorem dX11_finding_25 : decode cX11_finding 25 = .ok (.getfield 59, 3) := by decide +kernel
theorem dX11_finding_28 : decode cX11_finding 28 = .ok (.iload_n 1, 1) := by decide +kernel
theorem dX11_finding_29 : decode cX11_finding 29 = .ok (.aaload, 1) := by decide +kernel
theorem dX11_finding_30 : decode cX11_finding 30 = .ok (.getfield 337, 3) := by decide +kernel
theorem dX11_finding_33 : decode cX11_finding 33 = .ok (.iload_n 3, 1) := by decide +kernel
theorem dX11_finding_34 : decode cX11_finding 34 = .ok (.iaload, 1) := by decide +kernel
theorem dX11_finding_35 : decode cX11_finding 35 = .ok (.ireturn, 1) := by decide +kernel
theorem dX11_show_0 : decode cX11_show 0 = .ok (.iload_n 1, 1) := by decide +kernel
theorem dX11_show_1 : decode cX11_show 1 = .ok (.invokestatic 151, 3) := by decide +kernel
theorem dX11_show_4 : decode cX11_show 4 = .ok (.iload_n 2, 1) := by decide +kernel
theorem dX11_show_5 : decode cX11_show 5 = .ok (.invokestatic 331, 3) := by decide +kernel
theorem dX11_show_8 : decode cX11_show 8 = .ok (.aload_n 0, 1) := by decide +kernel
theorem dX11_show_9 : decode cX11_show 9 = .ok (.iload_n 1, 1) := by decide +kernel
theorem dX11_show_10 : decode cX11_show 10 = .ok (.iload_n 2, 1) := by decide +kernel
theorem dX11_show_11 : decode cX11_show 11 = .ok (.invokevirtual 334, 3) := by decide +kernel
theorem dX11_show_14 : decode cX11_show 14 = .ok (.istore_n 3, 1) := by decide +kernel
theorem dX11_show_15 : decode cX11_show 15 = .ok (.iload_n 3, 1) := by decide +kernel
theorem dX11_show_16 : decode cX11_show 16 = .ok (.iconst (-1), 1) := by decide +kernel
theorem dX11_show_17 : decode cX11_show 17 = .ok (.if_icmp .ne 14, 3) := by decide +kernel
theorem dX11_show_20 : decode cX11_show 20 = .ok (.new 102, 3) := by decide +kernel
theorem dX11_show_23 : decode cX11_show 23 = .ok (.dup, 1) := by decide +kernel
theorem dX11_show_24 : decode cX11_show 24 = .ok (.ldc_w 340, 3) := by decide +kernel
theorem dX11_show_27 : decode cX11_show 27 = .ok (.invokespecial 191, 3) := by decide +kernel
theorem dX11_show_30 : decode cX11_show 30 = .ok (.athrow, 1) := by decide +kernel
theorem dX11_show_31 : decode cX11_show 31 = .ok (.aload_n 0, 1) := by decide +kernel
theorem dX11_show_32 : decode cX11_show 32 = .ok (.getfield 59, 3) := by decide +kernel
theorem dX11_show_35 : decode cX11_show 35 = .ok (.iload_n 1, 1) := by decide +kernel
theorem dX11_show_36 : decode cX11_show 36 = .ok (.aaload, 1) := by decide +kernel
theorem dX11_show_37 : decode cX11_show 37 = .ok (.getfield 337, 3) := by decide +kernel
theorem dX11_show_40 : decode cX11_show 40 = .ok (.iload_n 3, 1) := by decide +kernel
theorem dX11_show_41 : decode cX11_show 41 = .ok (.iaload, 1) := by decide +kernel
theorem dX11_show_42 : decode cX11_show 42 = .ok (.istore 4, 2) := by decide +kernel
theorem dX11_show_44 : decode cX11_show 44 = .ok (.iload 4, 2) := by decide +kernel
theorem dX11_show_46 : decode cX11_show 46 = .ok (.sipush 400, 3) := by decide +kernel
theorem dX11_show_49 : decode cX11_show 49 = .ok (.if_icmp .le 14, 3) := by decide +kernel
theorem dX11_show_52 : decode cX11_show 52 = .ok (.new 102, 3) := by decide +kernel
theorem dX11_show_55 : decode cX11_show 55 = .ok (.dup, 1) := by decide +kernel
theorem dX11_show_56 : decode cX11_show 56 = .ok (.ldc_w 342, 3) := by decide +kernel
theorem dX11_show_59 : decode cX11_show 59 = .ok (.invokespecial 191, 3) := by decide +kernel
theorem dX11_show_62 : decode cX11_show 62 = .ok (.athrow, 1) := by decide +kernel
theorem dX11_show_63 : decode cX11_show 63 = .ok (.aload_n 0, 1) := by decide +kernel
theorem dX11_show_64 : decode cX11_show 64 = .ok (.getfield 59, 3) := by decide +kernel
theorem dX11_show_67 : decode cX11_show 67 = .ok (.iload_n 1, 1) := by decide +kernel
theorem dX11_show_68 : decode cX11_show 68 = .ok (.aaload, 1) := by decide +kernel
theorem dX11_show_69 : decode cX11_show 69 = .ok (.iload_n 3, 1) := by decide +kernel
theorem dX11_show_70 : decode cX11_show 70 = .ok (.aload_n 0, 1) := by decide +kernel
theorem dX11_show_71 : decode cX11_show 71 = .ok (.getfield 53, 3) := by decide +kernel
theorem dX11_show_74 : decode cX11_show 74 = .ok (.getfield 203, 3) := by decide +kernel
theorem dX11_show_77 : decode cX11_show 77 = .ok (.invokevirtual 344, 3) := by decide +kernel
theorem dX11_show_80 : decode cX11_show 80 = .ok (.aload_n 0, 1) := by decide +kernel
theorem dX11_show_81 : decode cX11_show 81 = .ok (.iload_n 1, 1) := by decide +kernel
theorem dX11_show_82 : decode cX11_show 82 = .ok (.invokevirtual 154, 3) := by decide +kernel
theorem dX11_show_85 : decode cX11_show 85 = .ok (.iconst 0, 1) := by decide +kernel
theorem dX11_show_86 : decode cX11_show 86 = .ok (.istore 5, 2) := by decide +kernel
theorem dX11_show_88 : decode cX11_show 88 = .ok (.iload 5, 2) := by decide +kernel
theorem dX11_show_90 : decode cX11_show 90 = .ok (.iload 4, 2) := by decide +kernel
theorem dX11_show_92 : decode cX11_show 92 = .ok (.if_icmp .ge 23, 3) := by decide +kernel
theorem dX11_show_95 : decode cX11_show 95 = .ok (.aload_n 0, 1) := by decide +kernel
theorem dX11_show_96 : decode cX11_show 96 = .ok (.aload_n 0, 1) := by decide +kernel
theorem dX11_show_97 : decode cX11_show 97 = .ok (.getfield 53, 3) := by decide +kernel
theorem dX11_show_100 : decode cX11_show 100 = .ok (.getfield 203, 3) := by decide +kernel
theorem dX11_show_103 : decode cX11_show 103 = .ok (.iload 5, 2) := by decide +kernel
theorem dX11_show_105 : decode cX11_show 105 = .ok (.iaload, 1) := by decide +kernel
theorem dX11_show_106 : decode cX11_show 106 = .ok (.invokevirtual 192, 3) := by decide +kernel
theorem dX11_show_109 : decode cX11_show 109 = .ok (.iinc 5 1, 3) := by decide +kernel
theorem dX11_show_112 : decode cX11_show 112 = .ok (.goto (-24), 3) := by decide +kernel
theorem dX11_show_115 : decode cX11_show 115 = .ok (.iload 4, 2) := by decide +kernel
theorem dX11_show_117 : decode cX11_show 117 = .ok (.ireturn, 1) := by decide +kernel
theorem dX11_common_0 : decode cX11_common 0 = .ok (.iload_n 1, 1) := by decide +kernel
theorem dX11_common_1 : decode cX11_common 1 = .ok (.invokestatic 151, 3) := by decide +kernel
theorem dX11_common_4 : decode cX11_common 4 = .ok (.iload_n 2, 1) := by decide +kernel
theorem dX11_common_5 : decode cX11_common 5 = .ok (.aload_n 0, 1) := by decide +kernel
theorem dX11_common_6 : decode cX11_common 6 = .ok (.getfield 110, 3) := by decide +kernel
theorem dX11_common_9 : decode cX11_common 9 = .ok (.ifCond .eq 13, 3) := by decide +kernel
theorem dX11_common_12 : decode cX11_common 12 = .ok (.aload_n 0, 1) := by decide +kernel
theorem dX11_common_13 : decode cX11_common 13 = .ok (.getfield 28, 3) := by decide +kernel
theorem dX11_common_16 : decode cX11_common 16 = .ok (.getfield 136, 3) := by decide +kernel
theorem dX11_common_19 : decode cX11_common 19 = .ok (.goto 4, 3) := by decide +kernel
theorem dX11_common_22 : decode cX11_common 22 = .ok (.iconst 0, 1) := by decide +kernel
theorem dX11_common_23 : decode cX11_common 23 = .ok (.invokestatic 163, 3) := by decide +kernel
theorem dX11_common_26 : decode cX11_common 26 = .ok (.aload_n 0, 1) := by decide +kernel
theorem dX11_common_27 : decode cX11_common 27 = .ok (.iload_n 1, 1) := by decide +kernel
theorem dX11_common_28 : decode cX11_common 28 = .ok (.invokevirtual 309, 3) := by decide +kernel
theorem dX11_common_31 : decode cX11_common 31 = .ok (.ifCond .eq 17, 3) := by decide +kernel
theorem dX11_common_34 : decode cX11_common 34 = .ok (.aload_n 0, 1) := by decide +kernel
theorem dX11_common_35 : decode cX11_common 35 = .ok (.getfield 59, 3) := by decide +kernel
theorem dX11_common_38 : decode cX11_common 38 = .ok (.iload_n 1, 1) := by decide +kernel
theorem dX11_common_39 : decode cX11_common 39 = .ok (.aaload, 1) := by decide +kernel
theorem dX11_common_40 : decode cX11_common 40 = .ok (.getfield 348, 3) := by decide +kernel
theorem dX11_common_43 : decode cX11_common 43 = .ok (.iload_n 2, 1) := by decide +kernel
theorem dX11_common_44 : decode cX11_common 44 = .ok (.iaload, 1) := by decide +kernel
theorem dX11_common_45 : decode cX11_common 45 = .ok (.goto 14, 3) := by decide +kernel
theorem dX11_common_48 : decode cX11_common 48 = .ok (.iconst 1, 1) := by decide +kernel
theorem dX11_common_49 : decode cX11_common 49 = .ok (.aload_n 0, 1) := by decide +kernel
theorem dX11_common_50 : decode cX11_common 50 = .ok (.getfield 28, 3) := by decide +kernel
theorem dX11_common_53 : decode cX11_common 53 = .ok (.getfield 139, 3) := by decide +kernel
theorem dX11_common_56 : decode cX11_common 56 = .ok (.ishl, 1) := by decide +kernel
theorem dX11_common_57 : decode cX11_common 57 = .ok (.iconst 1, 1) := by decide +kernel
theorem dX11_common_58 : decode cX11_common 58 = .ok (.isub, 1) := by decide +kernel
theorem dX11_common_59 : decode cX11_common 59 = .ok (.ireturn, 1) := by decide +kernel
theorem dX11_ring_0 : decode cX11_ring 0 = .ok (.iload_n 1, 1) := by decide +kernel
theorem dX11_ring_1 : decode cX11_ring 1 = .ok (.invokestatic 151, 3) := by decide +kernel
theorem dX11_ring_4 : decode cX11_ring 4 = .ok (.aload_n 0, 1) := by decide +kernel
theorem dX11_ring_5 : decode cX11_ring 5 = .ok (.iload_n 1, 1) := by decide +kernel
theorem dX11_ring_6 : decode cX11_ring 6 = .ok (.invokevirtual 309, 3) := by decide +kernel
theorem dX11_ring_9 : decode cX11_ring 9 = .ok (.ifCond .eq 15, 3) := by decide +kernel
theorem dX11_ring_12 : decode cX11_ring 12 = .ok (.aload_n 0, 1) := by decide +kernel
theorem dX11_ring_13 : decode cX11_ring 13 = .ok (.getfield 59, 3) := by decide +kernel
theorem dX11_ring_16 : decode cX11_ring 16 = .ok (.iload_n 1, 1) := by decide +kernel
theorem dX11_ring_17 : decode cX11_ring 17 = .ok (.aaload, 1) := by decide +kernel
theorem dX11_ring_18 : decode cX11_ring 18 = .ok (.invokevirtual 351, 3) := by decide +kernel
theorem dX11_ring_21 : decode cX11_ring 21 = .ok (.goto 4, 3) := by decide +kernel
theorem dX11_ring_24 : decode cX11_ring 24 = .ok (.iconst 0, 1) := by decide +kernel
theorem dX11_ring_25 : decode cX11_ring 25 = .ok (.ireturn, 1) := by decide +kernel
theorem dX11_alike_0 : decode cX11_alike 0 = .ok (.aload_n 0, 1) := by decide +kernel
theorem dX11_alike_1 : decode cX11_alike 1 = .ok (.iconst 0, 1) := by decide +kernel
theorem dX11_alike_2 : decode cX11_alike 2 = .ok (.invokevirtual 309, 3) := by decide +kernel
theorem dX11_alike_5 : decode cX11_alike 5 = .ok (.ifCond .eq 35, 3) := by decide +kernel
theorem dX11_alike_8 : decode cX11_alike 8 = .ok (.aload_n 0, 1) := by decide +kernel
theorem dX11_alike_9 : decode cX11_alike 9 = .ok (.iconst 1, 1) := by decide +kernel
theorem dX11_alike_10 : decode cX11_alike 10 = .ok (.invokevirtual 309, 3) := by decide +kernel
theorem dX11_alike_13 : decode cX11_alike 13 = .ok (.ifCond .eq 27, 3) := by decide +kernel
theorem dX11_alike_16 : decode cX11_alike 16 = .ok (.aload_n 0, 1) := by decide +kernel
theorem dX11_alike_17 : decode cX11_alike 17 = .ok (.getfield 59, 3) := by decide +kernel
theorem dX11_alike_20 : decode cX11_alike 20 = .ok (.iconst 0, 1) := by decide +kernel
theorem dX11_alike_21 : decode cX11_alike 21 = .ok (.aaload, 1) := by decide +kernel
theorem dX11_alike_22 : decode cX11_alike 22 = .ok (.getfield 313, 3) := by decide +kernel
theorem dX11_alike_25 : decode cX11_alike 25 = .ok (.ifCond .ne 15, 3) := by decide +kernel
theorem dX11_alike_28 : decode cX11_alike 28 = .ok (.aload_n 0, 1) := by decide +kernel
theorem dX11_alike_29 : decode cX11_alike 29 = .ok (.getfield 59, 3) := by decide +kernel
theorem dX11_alike_32 : decode cX11_alike 32 = .ok (.iconst 1, 1) := by decide +kernel
theorem dX11_alike_33 : decode cX11_alike 33 = .ok (.aaload, 1) := by decide +kernel
theorem dX11_alike_34 : decode cX11_alike 34 = .ok (.getfield 313, 3) := by decide +kernel
theorem dX11_alike_37 : decode cX11_alike 37 = .ok (.ifCond .eq 5, 3) := by decide +kernel
theorem dX11_alike_40 : decode cX11_alike 40 = .ok (.iconst (-1), 1) := by decide +kernel
theorem dX11_alike_41 : decode cX11_alike 41 = .ok (.ireturn, 1) := by decide +kernel
theorem dX11_alike_42 : decode cX11_alike 42 = .ok (.aload_n 0, 1) := by decide +kernel
theorem dX11_alike_43 : decode cX11_alike 43 = .ok (.getfield 59, 3) := by decide +kernel
theorem dX11_alike_46 : decode cX11_alike 46 = .ok (.iconst 0, 1) := by decide +kernel
theorem dX11_alike_47 : decode cX11_alike 47 = .ok (.aaload, 1) := by decide +kernel
theorem dX11_alike_48 : decode cX11_alike 48 = .ok (.aload_n 0, 1) := by decide +kernel
theorem dX11_alike_49 : decode cX11_alike 49 = .ok (.getfield 59, 3) := by decide +kernel
theorem dX11_alike_52 : decode cX11_alike 52 = .ok (.iconst 1, 1) := by decide +kernel
theorem dX11_alike_53 : decode cX11_alike 53 = .ok (.aaload, 1) := by decide +kernel
theorem dX11_alike_54 : decode cX11_alike 54 = .ok (.aload_n 0, 1) := by decide +kernel
theorem dX11_alike_55 : decode cX11_alike 55 = .ok (.getfield 28, 3) := by decide +kernel
theorem dX11_alike_58 : decode cX11_alike 58 = .ok (.getfield 136, 3) := by decide +kernel
theorem dX11_alike_61 : decode cX11_alike 61 = .ok (.invokevirtual 354, 3) := by decide +kernel
theorem dX11_alike_64 : decode cX11_alike 64 = .ok (.ifCond .eq 7, 3) := by decide +kernel
theorem dX11_alike_67 : decode cX11_alike 67 = .ok (.iconst 1, 1) := by decide +kernel
theorem dX11_alike_68 : decode cX11_alike 68 = .ok (.goto 4, 3) := by decide +kernel
theorem dX11_alike_71 : decode cX11_alike 71 = .ok (.iconst 0, 1) := by decide +kernel
theorem dX11_alike_72 : decode cX11_alike 72 = .ok (.ireturn, 1) := by decide +kernel
theorem dX11_forgetAll_0 : decode cX11_forgetAll 0 = .ok (.aload_n 0, 1) := by decide +kernel
theorem dX11_forgetAll_1 : decode cX11_forgetAll 1 = .ok (.iconst 0, 1) := by decide +kernel
theorem dX11_forgetAll_2 : decode cX11_forgetAll 2 = .ok (.putfield 110, 3) := by decide +kernel
theorem dX11_forgetAll_5 : decode cX11_forgetAll 5 = .ok (.aload_n 0, 1) := by decide +kernel
theorem dX11_forgetAll_6 : decode cX11_forgetAll 6 = .ok (.iconst 0, 1) := by decide +kernel
theorem dX11_forgetAll_7 : decode cX11_forgetAll 7 = .ok (.putfield 358, 3) := by decide +kernel
theorem dX11_forgetAll_10 : decode cX11_forgetAll 10 = .ok (.iconst 0, 1) := by decide +kernel
theorem dX11_forgetAll_11 : decode cX11_forgetAll 11 = .ok (.istore_n 1, 1) := by decide +kernel
theorem dX11_forgetAll_12 : decode cX11_forgetAll 12 = .ok (.iload_n 1, 1) := by decide +kernel
theorem dX11_forgetAll_13 : decode cX11_forgetAll 13 = .ok (.iconst 2, 1) := by decide +kernel
theorem dX11_forgetAll_14 : decode cX11_forgetAll 14 = .ok (.if_icmp .ge 28, 3) := by decide +kernel
theorem dX11_forgetAll_17 : decode cX11_forgetAll 17 = .ok (.aload_n 0, 1) := by decide +kernel
theorem dX11_forgetAll_18 : decode cX11_forgetAll 18 = .ok (.getfield 59, 3) := by decide +kernel
theorem dX11_forgetAll_21 : decode cX11_forgetAll 21 = .ok (.iload_n 1, 1) := by decide +kernel
theorem dX11_forgetAll_22 : decode cX11_forgetAll 22 = .ok (.aaload, 1) := by decide +kernel
theorem dX11_forgetAll_23 : decode cX11_forgetAll 23 = .ok (.ifnull 13, 3) := by decide +kernel
theorem dX11_forgetAll_26 : decode cX11_forgetAll 26 = .ok (.aload_n 0, 1) := by decide +kernel
theorem dX11_forgetAll_27 : decode cX11_forgetAll 27 = .ok (.getfield 59, 3) := by decide +kernel
theorem dX11_forgetAll_30 : decode cX11_forgetAll 30 = .ok (.iload_n 1, 1) := by decide +kernel
theorem dX11_forgetAll_31 : decode cX11_forgetAll 31 = .ok (.aaload, 1) := by decide +kernel
theorem dX11_forgetAll_32 : decode cX11_forgetAll 32 = .ok (.iconst 0, 1) := by decide +kernel
theorem dX11_forgetAll_33 : decode cX11_forgetAll 33 = .ok (.putfield 306, 3) := by decide +kernel
theorem dX11_forgetAll_36 : decode cX11_forgetAll 36 = .ok (.iinc 1 1, 3) := by decide +kernel
theorem dX11_forgetAll_39 : decode cX11_forgetAll 39 = .ok (.goto (-27), 3) := by decide +kernel
theorem dX11_forgetAll_42 : decode cX11_forgetAll 42 = .ok (.return_, 1) := by decide +kernel
theorem dX11_wasTried_0 : decode cX11_wasTried 0 = .ok (.aload_n 0, 1) := by decide +kernel
theorem dX11_wasTried_1 : decode cX11_wasTried 1 = .ok (.getfield 59, 3) := by decide +kernel
theorem dX11_wasTried_4 : decode cX11_wasTried 4 = .ok (.iload_n 1, 1) := by decide +kernel
theorem dX11_wasTried_5 : decode cX11_wasTried 5 = .ok (.aaload, 1) := by decide +kernel
theorem dX11_wasTried_6 : decode cX11_wasTried 6 = .ok (.ifnull 19, 3) := by decide +kernel
theorem dX11_wasTried_9 : decode cX11_wasTried 9 = .ok (.aload_n 0, 1) := by decide +kernel
theorem dX11_wasTried_10 : decode cX11_wasTried 10 = .ok (.getfield 59, 3) := by decide +kernel
theorem dX11_wasTried_13 : decode cX11_wasTried 13 = .ok (.iload_n 1, 1) := by decide +kernel
theorem dX11_wasTried_14 : decode cX11_wasTried 14 = .ok (.aaload, 1) := by decide +kernel
theorem dX11_wasTried_15 : decode cX11_wasTried 15 = .ok (.getfield 306, 3) := by decide +kernel
theorem dX11_wasTried_18 : decode cX11_wasTried 18 = .ok (.ifCond .le 7, 3) := by decide +kernel
theorem dX11_wasTried_21 : decode cX11_wasTried 21 = .ok (.iconst 1, 1) := by decide +kernel
theorem dX11_wasTried_22 : decode cX11_wasTried 22 = .ok (.goto 4, 3) := by decide +kernel
theorem dX11_wasTried_25 : decode cX11_wasTried 25 = .ok (.iconst 0, 1) := by decide +kernel
theorem dX11_wasTried_26 : decode cX11_wasTried 26 = .ok (.ireturn, 1) := by decide +kernel
theorem dX11_firstState_0 : decode cX11_firstState 0 = .ok (.aload_n 0, 1) := by decide +kernel
theorem dX11_firstState_1 : decode cX11_firstState 1 = .ok (.iload_n 1, 1) := by decide +kernel
theorem dX11_firstState_2 : decode cX11_firstState 2 = .ok (.invokevirtual 309, 3) := by decide +kernel
theorem dX11_firstState_5 : decode cX11_firstState 5 = .ok (.ifCond .eq 17, 3) := by decide +kernel
theorem dX11_firstState_8 : decode cX11_firstState 8 = .ok (.aload_n 0, 1) := by decide +kernel
theorem dX11_firstState_9 : decode cX11_firstState 9 = .ok (.getfield 59, 3) := by decide +kernel
theorem dX11_firstState_12 : decode cX11_firstState 12 = .ok (.iload_n 1, 1) := by decide +kernel
theorem dX11_firstState_13 : decode cX11_firstState 13 = .ok (.aaload, 1) := by decide +kernel
theorem dX11_firstState_14 : decode cX11_firstState 14 = .ok (.getfield 381, 3) := by decide +kernel
theorem dX11_firstState_17 : decode cX11_firstState 17 = .ok (.iload_n 2, 1) := by decide +kernel
theorem dX11_firstState_18 : decode cX11_firstState 18 = .ok (.iaload, 1) := by decide +kernel
theorem dX11_firstState_19 : decode cX11_firstState 19 = .ok (.goto 4, 3) := by decide +kernel
theorem dX11_firstState_22 : decode cX11_firstState 22 = .ok (.iconst (-1), 1) := by decide +kernel
theorem dX11_firstState_23 : decode cX11_firstState 23 = .ok (.ireturn, 1) := by decide +kernel
theorem dX11_needCompiled_0 : decode cX11_needCompiled 0 = .ok (.aload_n 0, 1) := by decide +kernel
theorem dX11_needCompiled_1 : decode cX11_needCompiled 1 = .ok (.getfield 110, 3) := by decide +kernel
theorem dX11_needCompiled_4 : decode cX11_needCompiled 4 = .ok (.ifCond .ne 14, 3) := by decide +kernel
theorem dX11_needCompiled_7 : decode cX11_needCompiled 7 = .ok (.new 102, 3) := by decide +kernel
theorem dX11_needCompiled_10 : decode cX11_needCompiled 10 = .ok (.dup, 1) := by decide +kernel
theorem dX11_needCompiled_11 : decode cX11_needCompiled 11 = .ok (.ldc_w 384, 3) := by decide +kernel
theorem dX11_needCompiled_14 : decode cX11_needCompiled 14 = .ok (.invokespecial 191, 3) := by decide +kernel
theorem dX11_needCompiled_17 : decode cX11_needCompiled 17 = .ok (.athrow, 1) := by decide +kernel
theorem dX11_needCompiled_18 : decode cX11_needCompiled 18 = .ok (.return_, 1) := by decide +kernel
theorem dX11_needRun_0 : decode cX11_needRun 0 = .ok (.aload_n 0, 1) := by decide +kernel
theorem dX11_needRun_1 : decode cX11_needRun 1 = .ok (.getfield 358, 3) := by decide +kernel
theorem dX11_needRun_4 : decode cX11_needRun 4 = .ok (.ifCond .ne 14, 3) := by decide +kernel
theorem dX11_needRun_7 : decode cX11_needRun 7 = .ok (.new 102, 3) := by decide +kernel
theorem dX11_needRun_10 : decode cX11_needRun 10 = .ok (.dup, 1) := by decide +kernel
theorem dX11_needRun_11 : decode cX11_needRun 11 = .ok (.ldc_w 386, 3) := by decide +kernel
theorem dX11_needRun_14 : decode cX11_needRun 14 = .ok (.invokespecial 191, 3) := by decide +kernel
theorem dX11_needRun_17 : decode cX11_needRun 17 = .ok (.athrow, 1) := by decide +kernel
theorem dX11_needRun_18 : decode cX11_needRun 18 = .ok (.return_, 1) := by decide +kernel
theorem dX11_needWay_0 : decode cX11_needWay 0 = .ok (.iload_n 0, 1) := by decide +kernel
theorem dX11_needWay_1 : decode cX11_needWay 1 = .ok (.ifCond .lt 8, 3) := by decide +kernel
theorem dX11_needWay_4 : decode cX11_needWay 4 = .ok (.iload_n 0, 1) := by decide +kernel
theorem dX11_needWay_5 : decode cX11_needWay 5 = .ok (.iconst 2, 1) := by decide +kernel
theorem dX11_needWay_6 : decode cX11_needWay 6 = .ok (.if_icmp .lt 14, 3) := by decide +kernel
theorem dX11_needWay_9 : decode cX11_needWay 9 = .ok (.new 70, 3) := by decide +kernel
theorem dX11_needWay_12 : decode cX11_needWay 12 = .ok (.dup, 1) := by decide +kernel
theorem dX11_needWay_13 : decode cX11_needWay 13 = .ok (.ldc_w 388, 3) := by decide +kernel
theorem dX11_needWay_16 : decode cX11_needWay 16 = .ok (.invokespecial 74, 3) := by decide +kernel
theorem dX11_needWay_19 : decode cX11_needWay 19 = .ok (.athrow, 1) := by decide +kernel
theorem dX11_needWay_20 : decode cX11_needWay 20 = .ok (.return_, 1) := by decide +kernel
theorem dX11_needFinding_0 : decode cX11_needFinding 0 = .ok (.iload_n 0, 1) := by decide +kernel
theorem dX11_needFinding_1 : decode cX11_needFinding 1 = .ok (.ifCond .lt 9, 3) := by decide +kernel
theorem dX11_needFinding_4 : decode cX11_needFinding 4 = .ok (.iload_n 0, 1) := by decide +kernel
theorem dX11_needFinding_5 : decode cX11_needFinding 5 = .ok (.bipush 11, 2) := by decide +kernel
theorem dX11_needFinding_7 : decode cX11_needFinding 7 = .ok (.if_icmp .lt 14, 3) := by decide +kernel
theorem dX11_needFinding_10 : decode cX11_needFinding 10 = .ok (.new 70, 3) := by decide +kernel
theorem dX11_needFinding_13 : decode cX11_needFinding 13 = .ok (.dup, 1) := by decide +kernel
theorem dX11_needFinding_14 : decode cX11_needFinding 14 = .ok (.ldc_w 340, 3) := by decide +kernel
theorem dX11_needFinding_17 : decode cX11_needFinding 17 = .ok (.invokespecial 74, 3) := by decide +kernel
theorem dX11_needFinding_20 : decode cX11_needFinding 20 = .ok (.athrow, 1) := by decide +kernel
theorem dX11_needFinding_21 : decode cX11_needFinding 21 = .ok (.return_, 1) := by decide +kernel
theorem dX11_needIndex_0 : decode cX11_needIndex 0 = .ok (.iload_n 0, 1) := by decide +kernel
theorem dX11_needIndex_1 : decode cX11_needIndex 1 = .ok (.ifCond .lt 8, 3) := by decide +kernel
theorem dX11_needIndex_4 : decode cX11_needIndex 4 = .ok (.iload_n 0, 1) := by decide +kernel
theorem dX11_needIndex_5 : decode cX11_needIndex 5 = .ok (.iload_n 1, 1) := by decide +kernel
theorem dX11_needIndex_6 : decode cX11_needIndex 6 = .ok (.if_icmp .lt 14, 3) := by decide +kernel
theorem dX11_needIndex_9 : decode cX11_needIndex 9 = .ok (.new 127, 3) := by decide +kernel
theorem dX11_needIndex_12 : decode cX11_needIndex 12 = .ok (.dup, 1) := by decide +kernel
theorem dX11_needIndex_13 : decode cX11_needIndex 13 = .ok (.ldc_w 390, 3) := by decide +kernel
theorem dX11_needIndex_16 : decode cX11_needIndex 16 = .ok (.invokespecial 131, 3) := by decide +kernel
theorem dX11_needIndex_19 : decode cX11_needIndex 19 = .ok (.athrow, 1) := by decide +kernel
theorem dX11_needIndex_20 : decode cX11_needIndex 20 = .ok (.return_, 1) := by decide +kernel
theorem dX11_needWhat_0 : decode cX11_needWhat 0 = .ok (.iload_n 0, 1) := by decide +kernel
theorem dX11_needWhat_1 : decode cX11_needWhat 1 = .ok (.ifCond .lt 8, 3) := by decide +kernel
theorem dX11_needWhat_4 : decode cX11_needWhat 4 = .ok (.iload_n 0, 1) := by decide +kernel
theorem dX11_needWhat_5 : decode cX11_needWhat 5 = .ok (.iload_n 1, 1) := by decide +kernel
theorem dX11_needWhat_6 : decode cX11_needWhat 6 = .ok (.if_icmp .lt 13, 3) := by decide +kernel
theorem dX11_needWhat_9 : decode cX11_needWhat 9 = .ok (.new 127, 3) := by decide +kernel
theorem dX11_needWhat_12 : decode cX11_needWhat 12 = .ok (.dup, 1) := by decide +kernel
theorem dX11_needWhat_13 : decode cX11_needWhat 13 = .ok (.ldc 129, 2) := by decide +kernel
theorem dX11_needWhat_15 : decode cX11_needWhat 15 = .ok (.invokespecial 131, 3) := by decide +kernel
theorem dX11_needWhat_18 : decode cX11_needWhat 18 = .ok (.athrow, 1) := by decide +kernel
theorem dX11_needWhat_19 : decode cX11_needWhat 19 = .ok (.return_, 1) := by decide +kernel
theorem dX12_init_0 : decode cX12_init 0 = .ok (.aload_n 0, 1) := by decide +kernel
theorem dX12_init_1 : decode cX12_init 1 = .ok (.invokespecial 1, 3) := by decide +kernel
theorem dX12_init_4 : decode cX12_init 4 = .ok (.aload_n 0, 1) := by decide +kernel
theorem dX12_init_5 : decode cX12_init 5 = .ok (.sipush 3000, 3) := by decide +kernel
theorem dX12_init_8 : decode cX12_init 8 = .ok (.newarray .byte, 2) := by decide +kernel
theorem dX12_init_10 : decode cX12_init 10 = .ok (.putfield 7, 3) := by decide +kernel
theorem dX12_init_13 : decode cX12_init 13 = .ok (.aload_n 0, 1) := by decide +kernel
theorem dX12_init_14 : decode cX12_init 14 = .ok (.sipush 710, 3) := by decide +kernel
theorem dX12_init_17 : decode cX12_init 17 = .ok (.newarray .int, 2) := by decide +kernel
theorem dX12_init_19 : decode cX12_init 19 = .ok (.putfield 13, 3) := by decide +kernel
theorem dX12_init_22 : decode cX12_init 22 = .ok (.aload_n 0, 1) := by decide +kernel
theorem dX12_init_23 : decode cX12_init 23 = .ok (.sipush 710, 3) := by decide +kernel
theorem dX12_init_26 : decode cX12_init 26 = .ok (.newarray .int, 2) := by decide +kernel
theorem dX12_init_28 : decode cX12_init 28 = .ok (.putfield 17, 3) := by decide +kernel
theorem dX12_init_31 : decode cX12_init 31 = .ok (.aload_n 0, 1) := by decide +kernel
theorem dX12_init_32 : decode cX12_init 32 = .ok (.sipush 710, 3) := by decide +kernel
theorem dX12_init_35 : decode cX12_init 35 = .ok (.newarray .int, 2) := by decide +kernel
theorem dX12_init_37 : decode cX12_init 37 = .ok (.putfield 20, 3) := by decide +kernel
theorem dX12_init_40 : decode cX12_init 40 = .ok (.aload_n 0, 1) := by decide +kernel
theorem dX12_init_41 : decode cX12_init 41 = .ok (.sipush 710, 3) := by decide +kernel
theorem dX12_init_44 : decode cX12_init 44 = .ok (.newarray .int, 2) := by decide +kernel
theorem dX12_init_46 : decode cX12_init 46 = .ok (.putfield 23, 3) := by decide +kernel
theorem dX12_init_49 : decode cX12_init 49 = .ok (.aload_n 0, 1) := by decide +kernel
theorem dX12_init_50 : decode cX12_init 50 = .ok (.iconst (-1), 1) := by decide +kernel
theorem dX12_init_51 : decode cX12_init 51 = .ok (.putfield 26, 3) := by decide +kernel
theorem dX12_init_54 : decode cX12_init 54 = .ok (.aload_n 0, 1) := by decide +kernel
theorem dX12_init_55 : decode cX12_init 55 = .ok (.iconst (-1), 1) := by decide +kernel
theorem dX12_init_56 : decode cX12_init 56 = .ok (.putfield 30, 3) := by decide +kernel
theorem dX12_init_59 : decode cX12_init 59 = .ok (.aload_n 0, 1) := by decide +kernel
theorem dX12_init_60 : decode cX12_init 60 = .ok (.sipush 3000, 3) := by decide +kernel
theorem dX12_init_63 : decode cX12_init 63 = .ok (.newarray .int, 2) := by decide +kernel
theorem dX12_init_65 : decode cX12_init 65 = .ok (.putfield 33, 3) := by decide +kernel
theorem dX12_init_68 : decode cX12_init 68 = .ok (.aload_n 0, 1) := by decide +kernel
theorem dX12_init_69 : decode cX12_init 69 = .ok (.sipush 3000, 3) := by decide +kernel
theorem dX12_init_72 : decode cX12_init 72 = .ok (.newarray .int, 2) := by decide +kernel
theorem dX12_init_74 : decode cX12_init 74 = .ok (.putfield 36, 3) := by decide +kernel
theorem dX12_init_77 : decode cX12_init 77 = .ok (.aload_n 0, 1) := by decide +kernel
theorem dX12_init_78 : decode cX12_init 78 = .ok (.sipush 3000, 3) := by decide +kernel
theorem dX12_init_81 : decode cX12_init 81 = .ok (.newarray .int, 2) := by decide +kernel
theorem dX12_init_83 : decode cX12_init 83 = .ok (.putfield 39, 3) := by decide +kernel
theorem dX12_init_86 : decode cX12_init 86 = .ok (.aload_n 0, 1) := by decide +kernel
theorem dX12_init_87 : decode cX12_init 87 = .ok (.sipush 3000, 3) := by decide +kernel
theorem dX12_init_90 : decode cX12_init 90 = .ok (.newarray .int, 2) := by decide +kernel
theorem dX12_init_92 : decode cX12_init 92 = .ok (.putfield 42, 3) := by decide +kernel
theorem dX12_init_95 : decode cX12_init 95 = .ok (.aload_n 0, 1) := by decide +kernel
theorem dX12_init_96 : decode cX12_init 96 = .ok (.sipush 3000, 3) := by decide +kernel
theorem dX12_init_99 : decode cX12_init 99 = .ok (.newarray .int, 2) := by decide +kernel
theorem dX12_init_101 : decode cX12_init 101 = .ok (.putfield 45, 3) := by decide +kernel
theorem dX12_init_104 : decode cX12_init 104 = .ok (.aload_n 0, 1) := by decide +kernel
theorem dX12_init_105 : decode cX12_init 105 = .ok (.sipush 3000, 3) := by decide +kernel
theorem dX12_init_108 : decode cX12_init 108 = .ok (.newarray .int, 2) := by decide +kernel
theorem dX12_init_110 : decode cX12_init 110 = .ok (.putfield 48, 3) := by decide +kernel
theorem dX12_init_113 : decode cX12_init 113 = .ok (.aload_n 0, 1) := by decide +kernel
theorem dX12_init_114 : decode cX12_init 114 = .ok (.bipush 40, 2) := by decide +kernel
theorem dX12_init_116 : decode cX12_init 116 = .ok (.newarray .int, 2) := by decide +kernel
theorem dX12_init_118 : decode cX12_init 118 = .ok (.putfield 51, 3) := by decide +kernel
theorem dX12_init_121 : decode cX12_init 121 = .ok (.aload_n 0, 1) := by decide +kernel
theorem dX12_init_122 : decode cX12_init 122 = .ok (.bipush 40, 2) := by decide +kernel
theorem dX12_init_124 : decode cX12_init 124 = .ok (.newarray .int, 2) := by decide +kernel
theorem dX12_init_126 : decode cX12_init 126 = .ok (.putfield 54, 3) := by decide +kernel
theorem dX12_init_129 : decode cX12_init 129 = .ok (.aload_n 0, 1) := by decide +kernel
theorem dX12_init_130 : decode cX12_init 130 = .ok (.bipush 40, 2) := by decide +kernel
theorem dX12_init_132 : decode cX12_init 132 = .ok (.newarray .int, 2) := by decide +kernel
theorem dX12_init_134 : decode cX12_init 134 = .ok (.putfield 57, 3) := by decide +kernel
theorem dX12_init_137 : decode cX12_init 137 = .ok (.aload_n 0, 1) := by decide +kernel
theorem dX12_init_138 : decode cX12_init 138 = .ok (.bipush 40, 2) := by decide +kernel
theorem dX12_init_140 : decode cX12_init 140 = .ok (.newarray .int, 2) := by decide +kernel
theorem dX12_init_142 : decode cX12_init 142 = .ok (.putfield 60, 3) := by decide +kernel
theorem dX12_init_145 : decode cX12_init 145 = .ok (.aload_n 0, 1) := by decide +kernel
theorem dX12_init_146 : decode cX12_init 146 = .ok (.bipush 40, 2) := by decide +kernel
theorem dX12_init_148 : decode cX12_init 148 = .ok (.newarray .boolean, 2) := by decide +kernel
theorem dX12_init_150 : decode cX12_init 150 = .ok (.putfield 63, 3) := by decide +kernel
theorem dX12_init_153 : decode cX12_init 153 = .ok (.aload_n 0, 1) := by decide +kernel
theorem dX12_init_154 : decode cX12_init 154 = .ok (.bipush 40, 2) := by decide +kernel
theorem dX12_init_156 : decode cX12_init 156 = .ok (.newarray .int, 2) := by decide +kernel
theorem dX12_init_158 : decode cX12_init 158 = .ok (.putfield 67, 3) := by decide +kernel
theorem dX12_init_161 : decode cX12_init 161 = .ok (.aload_n 0, 1) := by decide +kernel
theorem dX12_init_162 : decode cX12_init 162 = .ok (.bipush 24, 2) := by decide +kernel
theorem dX12_init_164 : decode cX12_init 164 = .ok (.newarray .int, 2) := by decide +kernel
theorem dX12_init_166 : decode cX12_init 166 = .ok (.putfield 70, 3) := by decide +kernel
theorem dX12_init_169 : decode cX12_init 169 = .ok (.aload_n 0, 1) := by decide +kernel
theorem dX12_init_170 : decode cX12_init 170 = .ok (.bipush 24, 2) := by decide +kernel
theorem dX12_init_172 : decode cX12_init 172 = .ok (.newarray .boolean, 2) := by decide +kernel
theorem dX12_init_174 : decode cX12_init 174 = .ok (.putfield 73, 3) := by decide +kernel
theorem dX12_init_177 : decode cX12_init 177 = .ok (.aload_n 0, 1) := by decide +kernel
theorem dX12_init_178 : decode cX12_init 178 = .ok (.bipush 6, 2) := by decide +kernel
theorem dX12_init_180 : decode cX12_init 180 = .ok (.newarray .boolean, 2) := by decide +kernel
theorem dX12_init_182 : decode cX12_init 182 = .ok (.putfield 76, 3) := by decide +kernel
theorem dX12_init_185 : decode cX12_init 185 = .ok (.aload_n 0, 1) := by decide +kernel
theorem dX12_init_186 : decode cX12_init 186 = .ok (.bipush 6, 2) := by decide +kernel
theorem dX12_init_188 : decode cX12_init 188 = .ok (.newarray .int, 2) := by decide +kernel
theorem dX12_init_190 : decode cX12_init 190 = .ok (.putfield 79, 3) := by decide +kernel
theorem dX12_init_193 : decode cX12_init 193 = .ok (.aload_n 0, 1) := by decide +kernel
theorem dX12_init_194 : decode cX12_init 194 = .ok (.iconst 4, 1) := by decide +kernel
theorem dX12_init_195 : decode cX12_init 195 = .ok (.newarray .int, 2) := by decide +kernel
theorem dX12_init_197 : decode cX12_init 197 = .ok (.putfield 82, 3) := by decide +kernel
theorem dX12_init_200 : decode cX12_init 200 = .ok (.aload_n 0, 1) := by decide +kernel
theorem dX12_init_201 : decode cX12_init 201 = .ok (.iconst 4, 1) := by decide +kernel
theorem dX12_init_202 : decode cX12_init 202 = .ok (.newarray .int, 2) := by decide +kernel
theorem dX12_init_204 : decode cX12_init 204 = .ok (.putfield 85, 3) := by decide +kernel
theorem dX12_init_207 : decode cX12_init 207 = .ok (.aload_n 0, 1) := by decide +kernel
theorem dX12_init_208 : decode cX12_init 208 = .ok (.bipush 40, 2) := by decide +kernel
theorem dX12_init_210 : decode cX12_init 210 = .ok (.newarray .int, 2) := by decide +kernel
theorem dX12_init_212 : decode cX12_init 212 = .ok (.putfield 88, 3) := by decide +kernel
theorem dX12_init_215 : decode cX12_init 215 = .ok (.aload_n 0, 1) := by decide +kernel
theorem dX12_init_216 : decode cX12_init 216 = .ok (.bipush 40, 2) := by decide +kernel
theorem dX12_init_218 : decode cX12_init 218 = .ok (.newarray .int, 2) := by decide +kernel
theorem dX12_init_220 : decode cX12_init 220 = .ok (.putfield 91, 3) := by decide +kernel
theorem dX12_init_223 : decode cX12_init 223 = .ok (.aload_n 0, 1) := by decide +kernel
theorem dX12_init_224 : decode cX12_init 224 = .ok (.bipush 40, 2) := by decide +kernel
theorem dX12_init_226 : decode cX12_init 226 = .ok (.newarray .int, 2) := by decide +kernel
theorem dX12_init_228 : decode cX12_init 228 = .ok (.putfield 94, 3) := by decide +kernel
theorem dX12_init_231 : decode cX12_init 231 = .ok (.aload_n 0, 1) := by decide +kernel
theorem dX12_init_232 : decode cX12_init 232 = .ok (.sipush 6000, 3) := by decide +kernel
theorem dX12_init_235 : decode cX12_init 235 = .ok (.newarray .int, 2) := by decide +kernel
theorem dX12_init_237 : decode cX12_init 237 = .ok (.putfield 97, 3) := by decide +kernel
theorem dX12_init_240 : decode cX12_init 240 = .ok (.aload_n 0, 1) := by decide +kernel
theorem dX12_init_241 : decode cX12_init 241 = .ok (.sipush 6000, 3) := by decide +kernel
theorem dX12_init_244 : decode cX12_init 244 = .ok (.newarray .int, 2) := by decide +kernel
theorem dX12_init_246 : decode cX12_init 246 = .ok (.putfield 100, 3) := by decide +kernel
theorem dX12_init_249 : decode cX12_init 249 = .ok (.aload_n 0, 1) := by decide +kernel
theorem dX12_init_250 : decode cX12_init 250 = .ok (.sipush 1500, 3) := by decide +kernel
theorem dX12_init_253 : decode cX12_init 253 = .ok (.newarray .int, 2) := by decide +kernel
theorem dX12_init_255 : decode cX12_init 255 = .ok (.putfield 103, 3) := by decide +kernel
theorem dX12_init_258 : decode cX12_init 258 = .ok (.aload_n 0, 1) := by decide +kernel
theorem dX12_init_259 : decode cX12_init 259 = .ok (.sipush 1500, 3) := by decide +kernel
theorem dX12_init_262 : decode cX12_init 262 = .ok (.newarray .int, 2) := by decide +kernel
theorem dX12_init_264 : decode cX12_init 264 = .ok (.putfield 106, 3) := by decide +kernel
theorem dX12_init_267 : decode cX12_init 267 = .ok (.aload_n 0, 1) := by decide +kernel
theorem dX12_init_268 : decode cX12_init 268 = .ok (.sipush 1500, 3) := by decide +kernel
theorem dX12_init_271 : decode cX12_init 271 = .ok (.newarray .int, 2) := by decide +kernel
theorem dX12_init_273 : decode cX12_init 273 = .ok (.putfield 109, 3) := by decide +kernel
theorem dX12_init_276 : decode cX12_init 276 = .ok (.aload_n 0, 1) := by decide +kernel
theorem dX12_init_277 : decode cX12_init 277 = .ok (.sipush 1500, 3) := by decide +kernel
theorem dX12_init_280 : decode cX12_init 280 = .ok (.newarray .int, 2) := by decide +kernel
theorem dX12_init_282 : decode cX12_init 282 = .ok (.putfield 112, 3) := by decide +kernel
theorem dX12_init_285 : decode cX12_init 285 = .ok (.aload_n 0, 1) := by decide +kernel
theorem dX12_init_286 : decode cX12_init 286 = .ok (.sipush 1500, 3) := by decide +kernel
theorem dX12_init_289 : decode cX12_init 289 = .ok (.newarray .int, 2) := by decide +kernel
theorem dX12_init_291 : decode cX12_init 291 = .ok (.putfield 115, 3) := by decide +kernel
theorem dX12_init_294 : decode cX12_init 294 = .ok (.aload_n 0, 1) := by decide +kernel
theorem dX12_init_295 : decode cX12_init 295 = .ok (.sipush 1500, 3) := by decide +kernel
theorem dX12_init_298 : decode cX12_init 298 = .ok (.newarray .int, 2) := by decide +kernel
theorem dX12_init_300 : decode cX12_init 300 = .ok (.putfield 118, 3) := by decide +kernel
theorem dX12_init_303 : decode cX12_init 303 = .ok (.aload_n 0, 1) := by decide +kernel
theorem dX12_init_304 : decode cX12_init 304 = .ok (.sipush 1500, 3) := by decide +kernel
theorem dX12_init_307 : decode cX12_init 307 = .ok (.newarray .int, 2) := by decide +kernel
theorem dX12_init_309 : decode cX12_init 309 = .ok (.putfield 121, 3) := by decide +kernel
theorem dX12_init_312 : decode cX12_init 312 = .ok (.aload_n 0, 1) := by decide +kernel
theorem dX12_init_313 : decode cX12_init 313 = .ok (.sipush 1500, 3) := by decide +kernel
theorem dX12_init_316 : decode cX12_init 316 = .ok (.newarray .int, 2) := by decide +kernel
theorem dX12_init_318 : decode cX12_init 318 = .ok (.putfield 124, 3) := by decide +kernel
theorem dX12_init_321 : decode cX12_init 321 = .ok (.aload_n 0, 1) := by decide +kernel
theorem dX12_init_322 : decode cX12_init 322 = .ok (.sipush 1500, 3) := by decide +kernel
theorem dX12_init_325 : decode cX12_init 325 = .ok (.newarray .int, 2) := by decide +kernel
theorem dX12_init_327 : decode cX12_init 327 = .ok (.putfield 127, 3) := by decide +kernel
theorem dX12_init_330 : decode cX12_init 330 = .ok (.aload_n 0, 1) := by decide +kernel
theorem dX12_init_331 : decode cX12_init 331 = .ok (.sipush 1500, 3) := by decide +kernel
theorem dX12_init_334 : decode cX12_init 334 = .ok (.newarray .int, 2) := by decide +kernel
theorem dX12_init_336 : decode cX12_init 336 = .ok (.putfield 130, 3) := by decide +kernel
theorem dX12_init_339 : decode cX12_init 339 = .ok (.aload_n 0, 1) := by decide +kernel
theorem dX12_init_340 : decode cX12_init 340 = .ok (.bipush 6, 2) := by decide +kernel
theorem dX12_init_342 : decode cX12_init 342 = .ok (.newarray .int, 2) := by decide +kernel
theorem dX12_init_344 : decode cX12_init 344 = .ok (.putfield 133, 3) := by decide +kernel
theorem dX12_init_347 : decode cX12_init 347 = .ok (.aload_n 0, 1) := by decide +kernel
theorem dX12_init_348 : decode cX12_init 348 = .ok (.iconst 4, 1) := by decide +kernel
theorem dX12_init_349 : decode cX12_init 349 = .ok (.newarray .int, 2) := by decide +kernel
theorem dX12_init_351 : decode cX12_init 351 = .ok (.putfield 136, 3) := by decide +kernel
theorem dX12_init_354 : decode cX12_init 354 = .ok (.aload_n 0, 1) := by decide +kernel
theorem dX12_init_355 : decode cX12_init 355 = .ok (.iconst 4, 1) := by decide +kernel
theorem dX12_init_356 : decode cX12_init 356 = .ok (.newarray .int, 2) := by decide +kernel
theorem dX12_init_358 : decode cX12_init 358 = .ok (.putfield 139, 3) := by decide +kernel
theorem dX12_init_361 : decode cX12_init 361 = .ok (.aload_n 0, 1) := by decide +kernel
theorem dX12_init_362 : decode cX12_init 362 = .ok (.bipush 24, 2) := by decide +kernel
theorem dX12_init_364 : decode cX12_init 364 = .ok (.newarray .int, 2) := by decide +kernel
theorem dX12_init_366 : decode cX12_init 366 = .ok (.putfield 142, 3) := by decide +kernel
theorem dX12_init_369 : decode cX12_init 369 = .ok (.aload_n 0, 1) := by decide +kernel
theorem dX12_init_370 : decode cX12_init 370 = .ok (.bipush 6, 2) := by decide +kernel
theorem dX12_init_372 : decode cX12_init 372 = .ok (.newarray .int, 2) := by decide +kernel
theorem dX12_init_374 : decode cX12_init 374 = .ok (.putfield 145, 3) := by decide +kernel
theorem dX12_init_377 : decode cX12_init 377 = .ok (.aload_n 0, 1) := by decide +kernel
theorem dX12_init_378 : decode cX12_init 378 = .ok (.bipush 6, 2) := by decide +kernel
theorem dX12_init_380 : decode cX12_init 380 = .ok (.newarray .int, 2) := by decide +kernel
theorem dX12_init_382 : decode cX12_init 382 = .ok (.putfield 148, 3) := by decide +kernel
theorem dX12_init_385 : decode cX12_init 385 = .ok (.aload_n 0, 1) := by decide +kernel
theorem dX12_init_386 : decode cX12_init 386 = .ok (.bipush 6, 2) := by decide +kernel
theorem dX12_init_388 : decode cX12_init 388 = .ok (.newarray .int, 2) := by decide +kernel
theorem dX12_init_390 : decode cX12_init 390 = .ok (.putfield 151, 3) := by decide +kernel
theorem dX12_init_393 : decode cX12_init 393 = .ok (.aload_n 0, 1) := by decide +kernel
theorem dX12_init_394 : decode cX12_init 394 = .ok (.bipush 6, 2) := by decide +kernel
theorem dX12_init_396 : decode cX12_init 396 = .ok (.newarray .int, 2) := by decide +kernel
theorem dX12_init_398 : decode cX12_init 398 = .ok (.putfield 154, 3) := by decide +kernel
theorem dX12_init_401 : decode cX12_init 401 = .ok (.aload_n 0, 1) := by decide +kernel
theorem dX12_init_402 : decode cX12_init 402 = .ok (.bipush 6, 2) := by decide +kernel
theorem dX12_init_404 : decode cX12_init 404 = .ok (.newarray .int, 2) := by decide +kernel
theorem dX12_init_406 : decode cX12_init 406 = .ok (.putfield 157, 3) := by decide +kernel
theorem dX12_init_409 : decode cX12_init 409 = .ok (.aload_n 0, 1) := by decide +kernel
theorem dX12_init_410 : decode cX12_init 410 = .ok (.bipush 48, 2) := by decide +kernel
theorem dX12_init_412 : decode cX12_init 412 = .ok (.newarray .int, 2) := by decide +kernel
theorem dX12_init_414 : decode cX12_init 414 = .ok (.putfield 160, 3) := by decide +kernel
theorem dX12_init_417 : decode cX12_init 417 = .ok (.aload_n 0, 1) := by decide +kernel
theorem dX12_init_418 : decode cX12_init 418 = .ok (.bipush 6, 2) := by decide +kernel
theorem dX12_init_420 : decode cX12_init 420 = .ok (.newarray .int, 2) := by decide +kernel
theorem dX12_init_422 : decode cX12_init 422 = .ok (.putfield 163, 3) := by decide +kernel
theorem dX12_init_425 : decode cX12_init 425 = .ok (.aload_n 0, 1) := by decide +kernel
theorem dX12_init_426 : decode cX12_init 426 = .ok (.bipush 6, 2) := by decide +kernel
theorem dX12_init_428 : decode cX12_init 428 = .ok (.newarray .int, 2) := by decide +kernel
theorem dX12_init_430 : decode cX12_init 430 = .ok (.putfield 166, 3) := by decide +kernel
theorem dX12_init_433 : decode cX12_init 433 = .ok (.aload_n 0, 1) := by decide +kernel
theorem dX12_init_434 : decode cX12_init 434 = .ok (.bipush 6, 2) := by decide +kernel
theorem dX12_init_436 : decode cX12_init 436 = .ok (.newarray .int, 2) := by decide +kernel
theorem dX12_init_438 : decode cX12_init 438 = .ok (.putfield 169, 3) := by decide +kernel
theorem dX12_init_441 : decode cX12_init 441 = .ok (.aload_n 0, 1) := by decide +kernel
theorem dX12_init_442 : decode cX12_init 442 = .ok (.bipush 6, 2) := by decide +kernel
theorem dX12_init_444 : decode cX12_init 444 = .ok (.newarray .int, 2) := by decide +kernel
theorem dX12_init_446 : decode cX12_init 446 = .ok (.putfield 172, 3) := by decide +kernel
theorem dX12_init_449 : decode cX12_init 449 = .ok (.aload_n 0, 1) := by decide +kernel
theorem dX12_init_450 : decode cX12_init 450 = .ok (.bipush 60, 2) := by decide +kernel
theorem dX12_init_452 : decode cX12_init 452 = .ok (.newarray .int, 2) := by decide +kernel
theorem dX12_init_454 : decode cX12_init 454 = .ok (.putfield 175, 3) := by decide +kernel
theorem dX12_init_457 : decode cX12_init 457 = .ok (.aload_n 0, 1) := by decide +kernel
theorem dX12_init_458 : decode cX12_init 458 = .ok (.bipush 60, 2) := by decide +kernel
theorem dX12_init_460 : decode cX12_init 460 = .ok (.newarray .int, 2) := by decide +kernel
theorem dX12_init_462 : decode cX12_init 462 = .ok (.putfield 178, 3) := by decide +kernel
theorem dX12_init_465 : decode cX12_init 465 = .ok (.aload_n 0, 1) := by decide +kernel
theorem dX12_init_466 : decode cX12_init 466 = .ok (.bipush 60, 2) := by decide +kernel
theorem dX12_init_468 : decode cX12_init 468 = .ok (.newarray .int, 2) := by decide +kernel
theorem dX12_init_470 : decode cX12_init 470 = .ok (.putfield 181, 3) := by decide +kernel
theorem dX12_init_473 : decode cX12_init 473 = .ok (.aload_n 0, 1) := by decide +kernel
theorem dX12_init_474 : decode cX12_init 474 = .ok (.sipush 200, 3) := by decide +kernel
theorem dX12_init_477 : decode cX12_init 477 = .ok (.newarray .int, 2) := by decide +kernel
theorem dX12_init_479 : decode cX12_init 479 = .ok (.putfield 184, 3) := by decide +kernel
theorem dX12_init_482 : decode cX12_init 482 = .ok (.aload_n 0, 1) := by decide +kernel
theorem dX12_init_483 : decode cX12_init 483 = .ok (.sipush 200, 3) := by decide +kernel
theorem dX12_init_486 : decode cX12_init 486 = .ok (.newarray .int, 2) := by decide +kernel
theorem dX12_init_488 : decode cX12_init 488 = .ok (.putfield 187, 3) := by decide +kernel
theorem dX12_init_491 : decode cX12_init 491 = .ok (.aload_n 0, 1) := by decide +kernel
theorem dX12_init_492 : decode cX12_init 492 = .ok (.sipush 200, 3) := by decide +kernel
theorem dX12_init_495 : decode cX12_init 495 = .ok (.newarray .int, 2) := by decide +kernel
theorem dX12_init_497 : decode cX12_init 497 = .ok (.putfield 190, 3) := by decide +kernel
theorem dX12_init_500 : decode cX12_init 500 = .ok (.aload_n 0, 1) := by decide +kernel
theorem dX12_init_501 : decode cX12_init 501 = .ok (.sipush 400, 3) := by decide +kernel
theorem dX12_init_504 : decode cX12_init 504 = .ok (.newarray .int, 2) := by decide +kernel
theorem dX12_init_506 : decode cX12_init 506 = .ok (.putfield 193, 3) := by decide +kernel
theorem dX12_init_509 : decode cX12_init 509 = .ok (.aload_n 0, 1) := by decide +kernel
theorem dX12_init_510 : decode cX12_init 510 = .ok (.sipush 400, 3) := by decide +kernel
theorem dX12_init_513 : decode cX12_init 513 = .ok (.newarray .int, 2) := by decide +kernel
theorem dX12_init_515 : decode cX12_init 515 = .ok (.putfield 196, 3) := by decide +kernel
theorem dX12_init_518 : decode cX12_init 518 = .ok (.aload_n 0, 1) := by decide +kernel
theorem dX12_init_519 : decode cX12_init 519 = .ok (.sipush 400, 3) := by decide +kernel
theorem dX12_init_522 : decode cX12_init 522 = .ok (.newarray .int, 2) := by decide +kernel
theorem dX12_init_524 : decode cX12_init 524 = .ok (.putfield 199, 3) := by decide +kernel
theorem dX12_init_527 : decode cX12_init 527 = .ok (.aload_n 0, 1) := by decide +kernel
theorem dX12_init_528 : decode cX12_init 528 = .ok (.sipush 400, 3) := by decide +kernel
theorem dX12_init_531 : decode cX12_init 531 = .ok (.newarray .int, 2) := by decide +kernel
theorem dX12_init_533 : decode cX12_init 533 = .ok (.putfield 202, 3) := by decide +kernel
theorem dX12_init_536 : decode cX12_init 536 = .ok (.aload_n 0, 1) := by decide +kernel
theorem dX12_init_537 : decode cX12_init 537 = .ok (.sipush 400, 3) := by decide +kernel
theorem dX12_init_540 : decode cX12_init 540 = .ok (.newarray .int, 2) := by decide +kernel
theorem dX12_init_542 : decode cX12_init 542 = .ok (.putfield 205, 3) := by decide +kernel
theorem dX12_init_545 : decode cX12_init 545 = .ok (.aload_n 0, 1) := by decide +kernel
theorem dX12_init_546 : decode cX12_init 546 = .ok (.sipush 400, 3) := by decide +kernel
theorem dX12_init_549 : decode cX12_init 549 = .ok (.newarray .int, 2) := by decide +kernel
theorem dX12_init_551 : decode cX12_init 551 = .ok (.putfield 208, 3) := by decide +kernel
theorem dX12_init_554 : decode cX12_init 554 = .ok (.aload_n 0, 1) := by decide +kernel
theorem dX12_init_555 : decode cX12_init 555 = .ok (.sipush 400, 3) := by decide +kernel
theorem dX12_init_558 : decode cX12_init 558 = .ok (.newarray .boolean, 2) := by decide +kernel
theorem dX12_init_560 : decode cX12_init 560 = .ok (.putfield 211, 3) := by decide +kernel
theorem dX12_init_563 : decode cX12_init 563 = .ok (.aload_n 0, 1) := by decide +kernel
theorem dX12_init_564 : decode cX12_init 564 = .ok (.sipush 400, 3) := by decide +kernel
theorem dX12_init_567 : decode cX12_init 567 = .ok (.newarray .int, 2) := by decide +kernel
theorem dX12_init_569 : decode cX12_init 569 = .ok (.putfield 214, 3) := by decide +kernel
theorem dX12_init_572 : decode cX12_init 572 = .ok (.aload_n 0, 1) := by decide +kernel
theorem dX12_init_573 : decode cX12_init 573 = .ok (.sipush 2800, 3) := by decide +kernel
theorem dX12_init_576 : decode cX12_init 576 = .ok (.newarray .long, 2) := by decide +kernel
theorem dX12_init_578 : decode cX12_init 578 = .ok (.putfield 217, 3) := by decide +kernel
theorem dX12_init_581 : decode cX12_init 581 = .ok (.aload_n 0, 1) := by decide +kernel
theorem dX12_init_582 : decode cX12_init 582 = .ok (.bipush 6, 2) := by decide +kernel
theorem dX12_init_584 : decode cX12_init 584 = .ok (.newarray .int, 2) := by decide +kernel
theorem dX12_init_586 : decode cX12_init 586 = .ok (.putfield 221, 3) := by decide +kernel
theorem dX12_init_589 : decode cX12_init 589 = .ok (.aload_n 0, 1) := by decide +kernel
theorem dX12_init_590 : decode cX12_init 590 = .ok (.bipush 6, 2) := by decide +kernel
theorem dX12_init_592 : decode cX12_init 592 = .ok (.newarray .int, 2) := by decide +kernel
theorem dX12_init_594 : decode cX12_init 594 = .ok (.putfield 224, 3) := by decide +kernel
theorem dX12_init_597 : decode cX12_init 597 = .ok (.aload_n 0, 1) := by decide +kernel
theorem dX12_init_598 : decode cX12_init 598 = .ok (.bipush 14, 2) := by decide +kernel
theorem dX12_init_600 : decode cX12_init 600 = .ok (.newarray .int, 2) := by decide +kernel
theorem dX12_init_602 : decode cX12_init 602 = .ok (.putfield 227, 3) := by decide +kernel
theorem dX12_init_605 : decode cX12_init 605 = .ok (.aload_n 0, 1) := by decide +kernel
theorem dX12_init_606 : decode cX12_init 606 = .ok (.bipush 14, 2) := by decide +kernel
theorem dX12_init_608 : decode cX12_init 608 = .ok (.newarray .int, 2) := by decide +kernel
theorem dX12_init_610 : decode cX12_init 610 = .ok (.putfield 230, 3) := by decide +kernel
theorem dX12_init_613 : decode cX12_init 613 = .ok (.aload_n 0, 1) := by decide +kernel
theorem dX12_init_614 : decode cX12_init 614 = .ok (.bipush 14, 2) := by decide +kernel
theorem dX12_init_616 : decode cX12_init 616 = .ok (.newarray .int, 2) := by decide +kernel
theorem dX12_init_618 : decode cX12_init 618 = .ok (.putfield 233, 3) := by decide +kernel
theorem dX12_init_621 : decode cX12_init 621 = .ok (.aload_n 0, 1) := by decide +kernel
theorem dX12_init_622 : decode cX12_init 622 = .ok (.bipush 14, 2) := by decide +kernel
theorem dX12_init_624 : decode cX12_init 624 = .ok (.newarray .int, 2) := by decide +kernel
theorem dX12_init_626 : decode cX12_init 626 = .ok (.putfield 236, 3) := by decide +kernel
theorem dX12_init_629 : decode cX12_init 629 = .ok (.aload_n 0, 1) := by decide +kernel
theorem dX12_init_630 : decode cX12_init 630 = .ok (.bipush 14, 2) := by decide +kernel
theorem dX12_init_632 : decode cX12_init 632 = .ok (.newarray .int, 2) := by decide +kernel
theorem dX12_init_634 : decode cX12_init 634 = .ok (.putfield 239, 3) := by decide +kernel
theorem dX12_init_637 : decode cX12_init 637 = .ok (.aload_n 0, 1) := by decide +kernel
theorem dX12_init_638 : decode cX12_init 638 = .ok (.bipush 14, 2) := by decide +kernel
theorem dX12_init_640 : decode cX12_init 640 = .ok (.newarray .int, 2) := by decide +kernel
theorem dX12_init_642 : decode cX12_init 642 = .ok (.putfield 242, 3) := by decide +kernel
theorem dX12_init_645 : decode cX12_init 645 = .ok (.aload_n 0, 1) := by decide +kernel
theorem dX12_init_646 : decode cX12_init 646 = .ok (.bipush 14, 2) := by decide +kernel
theorem dX12_init_648 : decode cX12_init 648 = .ok (.newarray .int, 2) := by decide +kernel
theorem dX12_init_650 : decode cX12_init 650 = .ok (.putfield 245, 3) := by decide +kernel
theorem dX12_init_653 : decode cX12_init 653 = .ok (.aload_n 0, 1) := by decide +kernel
theorem dX12_init_654 : decode cX12_init 654 = .ok (.bipush 14, 2) := by decide +kernel
theorem dX12_init_656 : decode cX12_init 656 = .ok (.newarray .int, 2) := by decide +kernel
theorem dX12_init_658 : decode cX12_init 658 = .ok (.putfield 248, 3) := by decide +kernel
theorem dX12_init_661 : decode cX12_init 661 = .ok (.aload_n 0, 1) := by decide +kernel
theorem dX12_init_662 : decode cX12_init 662 = .ok (.bipush 6, 2) := by decide +kernel
theorem dX12_init_664 : decode cX12_init 664 = .ok (.newarray .int, 2) := by decide +kernel
theorem dX12_init_666 : decode cX12_init 666 = .ok (.putfield 251, 3) := by decide +kernel
theorem dX12_init_669 : decode cX12_init 669 = .ok (.aload_n 0, 1) := by decide +kernel
theorem dX12_init_670 : decode cX12_init 670 = .ok (.iconst 2, 1) := by decide +kernel
theorem dX12_init_671 : decode cX12_init 671 = .ok (.newarray .boolean, 2) := by decide +kernel
theorem dX12_init_673 : decode cX12_init 673 = .ok (.putfield 254, 3) := by decide +kernel
theorem dX12_init_676 : decode cX12_init 676 = .ok (.aload_n 0, 1) := by decide +kernel
theorem dX12_init_677 : decode cX12_init 677 = .ok (.iconst 2, 1) := by decide +kernel
theorem dX12_init_678 : decode cX12_init 678 = .ok (.newarray .int, 2) := by decide +kernel
theorem dX12_init_680 : decode cX12_init 680 = .ok (.putfield 257, 3) := by decide +kernel
theorem dX12_init_683 : decode cX12_init 683 = .ok (.aload_n 0, 1) := by decide +kernel
theorem dX12_init_684 : decode cX12_init 684 = .ok (.iconst 2, 1) := by decide +kernel
theorem dX12_init_685 : decode cX12_init 685 = .ok (.newarray .boolean, 2) := by decide +kernel
theorem dX12_init_687 : decode cX12_init 687 = .ok (.putfield 260, 3) := by decide +kernel
theorem dX12_init_690 : decode cX12_init 690 = .ok (.aload_n 0, 1) := by decide +kernel
theorem dX12_init_691 : decode cX12_init 691 = .ok (.iconst 2, 1) := by decide +kernel
theorem dX12_init_692 : decode cX12_init 692 = .ok (.newarray .int, 2) := by decide +kernel
theorem dX12_init_694 : decode cX12_init 694 = .ok (.putfield 263, 3) := by decide +kernel
theorem dX12_init_697 : decode cX12_init 697 = .ok (.aload_n 0, 1) := by decide +kernel
theorem dX12_init_698 : decode cX12_init 698 = .ok (.iconst 2, 1) := by decide +kernel
theorem dX12_init_699 : decode cX12_init 699 = .ok (.newarray .int, 2) := by decide +kernel
theorem dX12_init_701 : decode cX12_init 701 = .ok (.putfield 266, 3) := by decide +kernel
theorem dX12_init_704 : decode cX12_init 704 = .ok (.aload_n 0, 1) := by decide +kernel
theorem dX12_init_705 : decode cX12_init 705 = .ok (.iconst 2, 1) := by decide +kernel
theorem dX12_init_706 : decode cX12_init 706 = .ok (.newarray .int, 2) := by decide +kernel
theorem dX12_init_708 : decode cX12_init 708 = .ok (.putfield 269, 3) := by decide +kernel
theorem dX12_init_711 : decode cX12_init 711 = .ok (.aload_n 0, 1) := by decide +kernel
theorem dX12_init_712 : decode cX12_init 712 = .ok (.iconst 2, 1) := by decide +kernel
theorem dX12_init_713 : decode cX12_init 713 = .ok (.newarray .int, 2) := by decide +kernel
theorem dX12_init_715 : decode cX12_init 715 = .ok (.putfield 272, 3) := by decide +kernel
theorem dX12_init_718 : decode cX12_init 718 = .ok (.aload_n 0, 1) := by decide +kernel
theorem dX12_init_719 : decode cX12_init 719 = .ok (.bipush 22, 2) := by decide +kernel
theorem dX12_init_721 : decode cX12_init 721 = .ok (.newarray .int, 2) := by decide +kernel
theorem dX12_init_723 : decode cX12_init 723 = .ok (.putfield 275, 3) := by decide +kernel
theorem dX12_init_726 : decode cX12_init 726 = .ok (.aload_n 0, 1) := by decide +kernel
theorem dX12_init_727 : decode cX12_init 727 = .ok (.bipush 48, 2) := by decide +kernel
theorem dX12_init_729 : decode cX12_init 729 = .ok (.newarray .int, 2) := by decide +kernel
theorem dX12_init_731 : decode cX12_init 731 = .ok (.putfield 278, 3) := by decide +kernel
theorem dX12_init_734 : decode cX12_init 734 = .ok (.aload_n 0, 1) := by decide +kernel
theorem dX12_init_735 : decode cX12_init 735 = .ok (.bipush 72, 2) := by decide +kernel
theorem dX12_init_737 : decode cX12_init 737 = .ok (.newarray .boolean, 2) := by decide +kernel
theorem dX12_init_739 : decode cX12_init 739 = .ok (.putfield 281, 3) := by decide +kernel
theorem dX12_init_742 : decode cX12_init 742 = .ok (.aload_n 0, 1) := by decide +kernel
theorem dX12_init_743 : decode cX12_init 743 = .ok (.ldc_w 284, 3) := by decide +kernel
theorem dX12_init_746 : decode cX12_init 746 = .ok (.newarray .int, 2) := by decide +kernel
theorem dX12_init_748 : decode cX12_init 748 = .ok (.putfield 285, 3) := by decide +kernel
theorem dX12_init_751 : decode cX12_init 751 = .ok (.aload_n 0, 1) := by decide +kernel
theorem dX12_init_752 : decode cX12_init 752 = .ok (.sipush 6000, 3) := by decide +kernel
theorem dX12_init_755 : decode cX12_init 755 = .ok (.newarray .int, 2) := by decide +kernel
theorem dX12_init_757 : decode cX12_init 757 = .ok (.putfield 288, 3) := by decide +kernel
theorem dX12_init_760 : decode cX12_init 760 = .ok (.aload_n 0, 1) := by decide +kernel
theorem dX12_init_761 : decode cX12_init 761 = .ok (.sipush 6000, 3) := by decide +kernel
theorem dX12_init_764 : decode cX12_init 764 = .ok (.newarray .int, 2) := by decide +kernel
theorem dX12_init_766 : decode cX12_init 766 = .ok (.putfield 291, 3) := by decide +kernel
theorem dX12_init_769 : decode cX12_init 769 = .ok (.aload_n 0, 1) := by decide +kernel
theorem dX12_init_770 : decode cX12_init 770 = .ok (.sipush 6000, 3) := by decide +kernel
theorem dX12_init_773 : decode cX12_init 773 = .ok (.newarray .int, 2) := by decide +kernel
theorem dX12_init_775 : decode cX12_init 775 = .ok (.putfield 294, 3) := by decide +kernel
theorem dX12_init_778 : decode cX12_init 778 = .ok (.aload_n 0, 1) := by decide +kernel
theorem dX12_init_779 : decode cX12_init 779 = .ok (.ldc_w 297, 3) := by decide +kernel
theorem dX12_init_782 : decode cX12_init 782 = .ok (.newarray .int, 2) := by decide +kernel
theorem dX12_init_784 : decode cX12_init 784 = .ok (.putfield 298, 3) := by decide +kernel
theorem dX12_init_787 : decode cX12_init 787 = .ok (.aload_n 0, 1) := by decide +kernel
theorem dX12_init_788 : decode cX12_init 788 = .ok (.sipush 3001, 3) := by decide +kernel
theorem dX12_init_791 : decode cX12_init 791 = .ok (.newarray .int, 2) := by decide +kernel
theorem dX12_init_793 : decode cX12_init 793 = .ok (.putfield 301, 3) := by decide +kernel
theorem dX12_init_796 : decode cX12_init 796 = .ok (.aload_n 0, 1) := by decide +kernel
theorem dX12_init_797 : decode cX12_init 797 = .ok (.sipush 4096, 3) := by decide +kernel
theorem dX12_init_800 : decode cX12_init 800 = .ok (.newarray .int, 2) := by decide +kernel
theorem dX12_init_802 : decode cX12_init 802 = .ok (.putfield 304, 3) := by decide +kernel
theorem dX12_init_805 : decode cX12_init 805 = .ok (.aload_n 0, 1) := by decide +kernel
theorem dX12_init_806 : decode cX12_init 806 = .ok (.sipush 240, 3) := by decide +kernel
theorem dX12_init_809 : decode cX12_init 809 = .ok (.newarray .int, 2) := by decide +kernel
theorem dX12_init_811 : decode cX12_init 811 = .ok (.putfield 307, 3) := by decide +kernel
theorem dX12_init_814 : decode cX12_init 814 = .ok (.aload_n 0, 1) := by decide +kernel
theorem dX12_init_815 : decode cX12_init 815 = .ok (.sipush 400, 3) := by decide +kernel
theorem dX12_init_818 : decode cX12_init 818 = .ok (.newarray .int, 2) := by decide +kernel
theorem dX12_init_820 : decode cX12_init 820 = .ok (.putfield 310, 3) := by decide +kernel
theorem dX12_init_823 : decode cX12_init 823 = .ok (.aload_n 0, 1) := by decide +kernel
theorem dX12_init_824 : decode cX12_init 824 = .ok (.bipush 6, 2) := by decide +kernel
theorem dX12_init_826 : decode cX12_init 826 = .ok (.newarray .int, 2) := by decide +kernel
theorem dX12_init_828 : decode cX12_init 828 = .ok (.putfield 313, 3) := by decide +kernel
theorem dX12_init_831 : decode cX12_init 831 = .ok (.return_, 1) := by decide +kernel
theorem dX12_thrown_0 : decode cX12_thrown 0 = .ok (.aload_n 0, 1) := by decide +kernel
theorem dX12_thrown_1 : decode cX12_thrown 1 = .ok (.getfield 316, 3) := by decide +kernel
theorem dX12_thrown_4 : decode cX12_thrown 4 = .ok (.ireturn, 1) := by decide +kernel
theorem dX12_in_0 : decode cX12_in 0 = .ok (.iload_n 0, 1) := by decide +kernel
theorem dX12_in_1 : decode cX12_in 1 = .ok (.iload_n 1, 1) := by decide +kernel
theorem dX12_in_2 : decode cX12_in 2 = .ok (.if_icmp .lt 12, 3) := by decide +kernel
theorem dX12_in_5 : decode cX12_in 5 = .ok (.iload_n 0, 1) := by decide +kernel
theorem dX12_in_6 : decode cX12_in 6 = .ok (.iload_n 2, 1) := by decide +kernel
theorem dX12_in_7 : decode cX12_in 7 = .ok (.if_icmp .gt 7, 3) := by decide +kernel
theorem dX12_in_10 : decode cX12_in 10 = .ok (.iconst 1, 1) := by decide +kernel
theorem dX12_in_11 : decode cX12_in 11 = .ok (.goto 4, 3) := by decide +kernel
theorem dX12_in_14 : decode cX12_in 14 = .ok (.iconst 0, 1) := by decide +kernel
theorem dX12_in_15 : decode cX12_in 15 = .ok (.ireturn, 1) := by decide +kernel
theorem dX12_refuses_0 : decode cX12_refuses 0 = .ok (.aload_n 0, 1) := by decide +kernel
theorem dX12_refuses_1 : decode cX12_refuses 1 = .ok (.getfield 316, 3) := by decide +kernel
theorem dX12_refuses_4 : decode cX12_refuses 4 = .ok (.ifCond .ne 12, 3) := by decide +kernel
theorem dX12_refuses_7 : decode cX12_refuses 7 = .ok (.iload_n 1, 1) := by decide +kernel
theorem dX12_refuses_8 : decode cX12_refuses 8 = .ok (.ifCond .eq 8, 3) := by decide +kernel
theorem dX12_refuses_11 : decode cX12_refuses 11 = .ok (.aload_n 0, 1) := by decide +kernel
theorem dX12_refuses_12 : decode cX12_refuses 12 = .ok (.iload_n 2, 1) := by decide +kernel
theorem dX12_refuses_13 : decode cX12_refuses 13 = .ok (.putfield 316, 3) := by decide +kernel
theorem dX12_refuses_16 : decode cX12_refuses 16 = .ok (.aload_n 0, 1) := by decide +kernel
theorem dX12_refuses_17 : decode cX12_refuses 17 = .ok (.getfield 316, 3) := by decide +kernel
theorem dX12_refuses_20 : decode cX12_refuses 20 = .ok (.ifCond .le 7, 3) := by decide +kernel
theorem dX12_refuses_23 : decode cX12_refuses 23 = .ok (.iconst 1, 1) := by decide +kernel
theorem dX12_refuses_24 : decode cX12_refuses 24 = .ok (.goto 4, 3) := by decide +kernel
theorem dX12_refuses_27 : decode cX12_refuses 27 = .ok (.iconst 0, 1) := by decide +kernel
theorem dX12_refuses_28 : decode cX12_refuses 28 = .ok (.ireturn, 1) := by decide +kernel
theorem dX12_byteAt_0 : decode cX12_byteAt 0 = .ok (.iload_n 1, 1) := by decide +kernel
theorem dX12_byteAt_1 : decode cX12_byteAt 1 = .ok (.aload_n 0, 1) := by decide +kernel
theorem dX12_byteAt_2 : decode cX12_byteAt 2 = .ok (.getfield 319, 3) := by decide +kernel
theorem dX12_byteAt_5 : decode cX12_byteAt 5 = .ok (.if_icmp .ge 16, 3) := by decide +kernel
theorem dX12_byteAt_8 : decode cX12_byteAt 8 = .ok (.aload_n 0, 1) := by decide +kernel
theorem dX12_byteAt_9 : decode cX12_byteAt 9 = .ok (.getfield 7, 3) := by decide +kernel
theorem dX12_byteAt_12 : decode cX12_byteAt 12 = .ok (.iload_n 1, 1) := by decide +kernel
theorem dX12_byteAt_13 : decode cX12_byteAt 13 = .ok (.baload, 1) := by decide +kernel
theorem dX12_byteAt_14 : decode cX12_byteAt 14 = .ok (.sipush 255, 3) := by decide +kernel
theorem dX12_byteAt_17 : decode cX12_byteAt 17 = .ok (.iand, 1) := by decide +kernel
theorem dX12_byteAt_18 : decode cX12_byteAt 18 = .ok (.goto 4, 3) := by decide +kernel
theorem dX12_byteAt_21 : decode cX12_byteAt 21 = .ok (.iconst (-1), 1) := by decide +kernel
theorem dX12_byteAt_22 : decode cX12_byteAt 22 = .ok (.ireturn, 1) := by decide +kernel
theorem dX12_isLetter_0 : decode cX12_isLetter 0 = .ok (.iload_n 0, 1) := by decide +kernel
theorem dX12_isLetter_1 : decode cX12_isLetter 1 = .ok (.bipush 97, 2) := by decide +kernel
theorem dX12_isLetter_3 : decode cX12_isLetter 3 = .ok (.bipush 122, 2) := by decide +kernel
theorem dX12_isLetter_5 : decode cX12_isLetter 5 = .ok (.invokestatic 322, 3) := by decide +kernel
theorem dX12_isLetter_8 : decode cX12_isLetter 8 = .ok (.ifCond .ne 14, 3) := by decide +kernel
theorem dX12_isLetter_11 : decode cX12_isLetter 11 = .ok (.iload_n 0, 1) := by decide +kernel
theorem dX12_isLetter_12 : decode cX12_isLetter 12 = .ok (.bipush 65, 2) := by decide +kernel
theorem dX12_isLetter_14 : decode cX12_isLetter 14 = .ok (.bipush 90, 2) := by decide +kernel
theorem dX12_isLetter_16 : decode cX12_isLetter 16 = .ok (.invokestatic 322, 3) := by decide +kernel
theorem dX12_isLetter_19 : decode cX12_isLetter 19 = .ok (.ifCond .eq 7, 3) := by decide +kernel
theorem dX12_isLetter_22 : decode cX12_isLetter 22 = .ok (.iconst 1, 1) := by decide +kernel
theorem dX12_isLetter_23 : decode cX12_isLetter 23 = .ok (.goto 4, 3) := by decide +kernel
theorem dX12_isLetter_26 : decode cX12_isLetter 26 = .ok (.iconst 0, 1) := by decide +kernel
theorem dX12_isLetter_27 : decode cX12_isLetter 27 = .ok (.ireturn, 1) := by decide +kernel
theorem dX12_isDigit_0 : decode cX12_isDigit 0 = .ok (.iload_n 0, 1) := by decide +kernel
theorem dX12_isDigit_1 : decode cX12_isDigit 1 = .ok (.bipush 48, 2) := by decide +kernel
theorem dX12_isDigit_3 : decode cX12_isDigit 3 = .ok (.bipush 57, 2) := by decide +kernel
theorem dX12_isDigit_5 : decode cX12_isDigit 5 = .ok (.invokestatic 322, 3) := by decide +kernel
theorem dX12_isDigit_8 : decode cX12_isDigit 8 = .ok (.ireturn, 1) := by decide +kernel
theorem dX12_put_0 : decode cX12_put 0 = .ok (.aload_n 0, 1) := by decide +kernel
theorem dX12_put_1 : decode cX12_put 1 = .ok (.getfield 13, 3) := by decide +kernel
theorem dX12_put_4 : decode cX12_put 4 = .ok (.aload_n 0, 1) := by decide +kernel
theorem dX12_put_5 : decode cX12_put 5 = .ok (.getfield 342, 3) := by decide +kernel
theorem dX12_put_8 : decode cX12_put 8 = .ok (.iload_n 1, 1) := by decide +kernel
theorem dX12_put_9 : decode cX12_put 9 = .ok (.iastore, 1) := by decide +kernel
theorem dX12_put_10 : decode cX12_put 10 = .ok (.aload_n 0, 1) := by decide +kernel
theorem dX12_put_11 : decode cX12_put 11 = .ok (.getfield 17, 3) := by decide +kernel
theorem dX12_put_14 : decode cX12_put 14 = .ok (.aload_n 0, 1) := by decide +kernel
theorem dX12_put_15 : decode cX12_put 15 = .ok (.getfield 342, 3) := by decide +kernel
theorem dX12_put_18 : decode cX12_put 18 = .ok (.iload_n 2, 1) := by decide +kernel
theorem dX12_put_19 : decode cX12_put 19 = .ok (.iastore, 1) := by decide +kernel
theorem dX12_put_20 : decode cX12_put 20 = .ok (.aload_n 0, 1) := by decide +kernel
theorem dX12_put_21 : decode cX12_put 21 = .ok (.getfield 23, 3) := by decide +kernel
theorem dX12_put_24 : decode cX12_put 24 = .ok (.aload_n 0, 1) := by decide +kernel
theorem dX12_put_25 : decode cX12_put 25 = .ok (.getfield 342, 3) := by decide +kernel
theorem dX12_put_28 : decode cX12_put 28 = .ok (.iload_n 3, 1) := by decide +kernel
theorem dX12_put_29 : decode cX12_put 29 = .ok (.iastore, 1) := by decide +kernel
theorem dX12_put_30 : decode cX12_put 30 = .ok (.aload_n 0, 1) := by decide +kernel
theorem dX12_put_31 : decode cX12_put 31 = .ok (.getfield 20, 3) := by decide +kernel
theorem dX12_put_34 : decode cX12_put 34 = .ok (.aload_n 0, 1) := by decide +kernel
theorem dX12_put_35 : decode cX12_put 35 = .ok (.getfield 342, 3) := by decide +kernel
theorem dX12_put_38 : decode cX12_put 38 = .ok (.iload 4, 2) := by decide +kernel
theorem dX12_put_40 : decode cX12_put 40 = .ok (.iastore, 1) := by decide +kernel
theorem dX12_put_41 : decode cX12_put 41 = .ok (.aload_n 0, 1) := by decide +kernel
theorem dX12_put_42 : decode cX12_put 42 = .ok (.dup, 1) := by decide +kernel
theorem dX12_put_43 : decode cX12_put 43 = .ok (.getfield 342, 3) := by decide +kernel
theorem dX12_put_46 : decode cX12_put 46 = .ok (.iconst 1, 1) := by decide +kernel
theorem dX12_put_47 : decode cX12_put 47 = .ok (.iadd, 1) := by decide +kernel
theorem dX12_put_48 : decode cX12_put 48 = .ok (.putfield 342, 3) := by decide +kernel
theorem dX12_put_51 : decode cX12_put 51 = .ok (.return_, 1) := by decide +kernel
theorem dX12_readTokens_0 : decode cX12_readTokens 0 = .ok (.aload_n 0, 1) := by decide +kernel
theorem dX12_readTokens_1 : decode cX12_readTokens 1 = .ok (.iconst 0, 1) := by decide +kernel
theorem dX12_readTokens_2 : decode cX12_readTokens 2 = .ok (.putfield 342, 3) := by decide +kernel
theorem dX12_readTokens_5 : decode cX12_readTokens 5 = .ok (.iconst 0, 1) := by decide +kernel
theorem dX12_readTokens_6 : decode cX12_readTokens 6 = .ok (.istore_n 1, 1) := by decide +kernel
theorem dX12_readTokens_7 : decode cX12_readTokens 7 = .ok (.aload_n 0, 1) := by decide +kernel
theorem dX12_readTokens_8 : decode cX12_readTokens 8 = .ok (.getfield 342, 3) := by decide +kernel
theorem dX12_readTokens_11 : decode cX12_readTokens 11 = .ok (.sipush 700, 3) := by decide +kernel
theorem dX12_readTokens_14 : decode cX12_readTokens 14 = .ok (.if_icmp .gt 367, 3) := by decide +kernel
theorem dX12_readTokens_17 : decode cX12_readTokens 17 = .ok (.iconst 1, 1) := by decide +kernel
theorem dX12_readTokens_18 : decode cX12_readTokens 18 = .ok (.istore_n 2, 1) := by decide +kernel
theorem dX12_readTokens_19 : decode cX12_readTokens 19 = .ok (.iload_n 2, 1) := by decide +kernel
theorem dX12_readTokens_20 : decode cX12_readTokens 20 = .ok (.ifCond .eq 98, 3) := by decide +kernel
theorem dX12_readTokens_23 : decode cX12_readTokens 23 = .ok (.aload_n 0, 1) := by decide +kernel
theorem dX12_readTokens_24 : decode cX12_readTokens 24 = .ok (.iload_n 1, 1) := by decide +kernel
theorem dX12_readTokens_25 : decode cX12_readTokens 25 = .ok (.invokevirtual 338, 3) := by decide +kernel
theorem dX12_readTokens_28 : decode cX12_readTokens 28 = .ok (.istore_n 3, 1) := by decide +kernel
theorem dX12_readTokens_29 : decode cX12_readTokens 29 = .ok (.iload_n 3, 1) := by decide +kernel
theorem dX12_readTokens_30 : decode cX12_readTokens 30 = .ok (.bipush 32, 2) := by decide +kernel
theorem dX12_readTokens_32 : decode cX12_readTokens 32 = .ok (.if_icmp .eq 21, 3) := by decide +kernel
theorem dX12_readTokens_35 : decode cX12_readTokens 35 = .ok (.iload_n 3, 1) := by decide +kernel
theorem dX12_readTokens_36 : decode cX12_readTokens 36 = .ok (.bipush 9, 2) := by decide +kernel
theorem dX12_readTokens_38 : decode cX12_readTokens 38 = .ok (.if_icmp .eq 15, 3) := by decide +kernel
theorem dX12_readTokens_41 : decode cX12_readTokens 41 = .ok (.iload_n 3, 1) := by decide +kernel
theorem dX12_readTokens_42 : decode cX12_readTokens 42 = .ok (.bipush 13, 2) := by decide +kernel
theorem dX12_readTokens_44 : decode cX12_readTokens 44 = .ok (.if_icmp .eq 9, 3) := by decide +kernel
theorem dX12_readTokens_47 : decode cX12_readTokens 47 = .ok (.iload_n 3, 1) := by decide +kernel
theorem dX12_readTokens_48 : decode cX12_readTokens 48 = .ok (.bipush 10, 2) := by decide +kernel
theorem dX12_readTokens_50 : decode cX12_readTokens 50 = .ok (.if_icmp .ne 7, 3) := by decide +kernel
theorem dX12_readTokens_53 : decode cX12_readTokens 53 = .ok (.iconst 1, 1) := by decide +kernel
theorem dX12_readTokens_54 : decode cX12_readTokens 54 = .ok (.goto 4, 3) := by decide +kernel
theorem dX12_readTokens_57 : decode cX12_readTokens 57 = .ok (.iconst 0, 1) := by decide +kernel
theorem dX12_readTokens_58 : decode cX12_readTokens 58 = .ok (.istore_n 2, 1) := by decide +kernel
theorem dX12_readTokens_59 : decode cX12_readTokens 59 = .ok (.iload_n 1, 1) := by decide +kernel
theorem dX12_readTokens_60 : decode cX12_readTokens 60 = .ok (.iload_n 2, 1) := by decide +kernel
theorem dX12_readTokens_61 : decode cX12_readTokens 61 = .ok (.ifCond .eq 7, 3) := by decide +kernel
theorem dX12_readTokens_64 : decode cX12_readTokens 64 = .ok (.iconst 1, 1) := by decide +kernel
theorem dX12_readTokens_65 : decode cX12_readTokens 65 = .ok (.goto 4, 3) := by decide +kernel
theorem dX12_readTokens_68 : decode cX12_readTokens 68 = .ok (.iconst 0, 1) := by decide +kernel
theorem dX12_readTokens_69 : decode cX12_readTokens 69 = .ok (.iadd, 1) := by decide +kernel
theorem dX12_readTokens_70 : decode cX12_readTokens 70 = .ok (.istore_n 1, 1) := by decide +kernel
theorem dX12_readTokens_71 : decode cX12_readTokens 71 = .ok (.iload_n 3, 1) := by decide +kernel
theorem dX12_readTokens_72 : decode cX12_readTokens 72 = .ok (.bipush 47, 2) := by decide +kernel
theorem dX12_readTokens_74 : decode cX12_readTokens 74 = .ok (.if_icmp .ne 41, 3) := by decide +kernel
theorem dX12_readTokens_77 : decode cX12_readTokens 77 = .ok (.aload_n 0, 1) := by decide +kernel
theorem dX12_readTokens_78 : decode cX12_readTokens 78 = .ok (.iload_n 1, 1) := by decide +kernel
theorem dX12_readTokens_79 : decode cX12_readTokens 79 = .ok (.iconst 1, 1) := by decide +kernel
theorem dX12_readTokens_80 : decode cX12_readTokens 80 = .ok (.iadd, 1) := by decide +kernel
theorem dX12_readTokens_81 : decode cX12_readTokens 81 = .ok (.invokevirtual 338, 3) := by decide +kernel
theorem dX12_readTokens_84 : decode cX12_readTokens 84 = .ok (.bipush 47, 2) := by decide +kernel
theorem dX12_readTokens_86 : decode cX12_readTokens 86 = .ok (.if_icmp .ne 29, 3) := by decide +kernel
theorem dX12_readTokens_89 : decode cX12_readTokens 89 = .ok (.iconst 1, 1) := by decide +kernel
theorem dX12_readTokens_90 : decode cX12_readTokens 90 = .ok (.istore_n 2, 1) := by decide +kernel
theorem dX12_readTokens_91 : decode cX12_readTokens 91 = .ok (.iload_n 1, 1) := by decide +kernel
theorem dX12_readTokens_92 : decode cX12_readTokens 92 = .ok (.aload_n 0, 1) := by decide +kernel
theorem dX12_readTokens_93 : decode cX12_readTokens 93 = .ok (.getfield 319, 3) := by decide +kernel
theorem dX12_readTokens_96 : decode cX12_readTokens 96 = .ok (.if_icmp .ge 19, 3) := by decide +kernel
theorem dX12_readTokens_99 : decode cX12_readTokens 99 = .ok (.aload_n 0, 1) := by decide +kernel
theorem dX12_readTokens_100 : decode cX12_readTokens 100 = .ok (.iload_n 1, 1) := by decide +kernel
theorem dX12_readTokens_101 : decode cX12_readTokens 101 = .ok (.invokevirtual 338, 3) := by decide +kernel
theorem dX12_readTokens_104 : decode cX12_readTokens 104 = .ok (.bipush 10, 2) := by decide +kernel
theorem dX12_readTokens_106 : decode cX12_readTokens 106 = .ok (.if_icmp .eq 9, 3) := by decide +kernel
theorem dX12_readTokens_109 : decode cX12_readTokens 109 = .ok (.iinc 1 1, 3) := by decide +kernel
theorem dX12_readTokens_112 : decode cX12_readTokens 112 = .ok (.goto (-21), 3) := by decide +kernel
theorem dX12_readTokens_115 : decode cX12_readTokens 115 = .ok (.goto (-96), 3) := by decide +kernel
theorem dX12_readTokens_118 : decode cX12_readTokens 118 = .ok (.aload_n 0, 1) := by decide +kernel
theorem dX12_readTokens_119 : decode cX12_readTokens 119 = .ok (.iload_n 1, 1) := by decide +kernel
theorem dX12_readTokens_120 : decode cX12_readTokens 120 = .ok (.invokevirtual 338, 3) := by decide +kernel
theorem dX12_readTokens_123 : decode cX12_readTokens 123 = .ok (.istore_n 3, 1) := by decide +kernel
theorem dX12_readTokens_124 : decode cX12_readTokens 124 = .ok (.iconst 0, 1) := by decide +kernel
theorem dX12_readTokens_125 : decode cX12_readTokens 125 = .ok (.istore 4, 2) := by decide +kernel
theorem dX12_readTokens_127 : decode cX12_readTokens 127 = .ok (.iconst 0, 1) := by decide +kernel
theorem dX12_readTokens_128 : decode cX12_readTokens 128 = .ok (.istore 5, 2) := by decide +kernel
theorem dX12_readTokens_130 : decode cX12_readTokens 130 = .ok (.iconst 0, 1) := by decide +kernel
theorem dX12_readTokens_131 : decode cX12_readTokens 131 = .ok (.istore 6, 2) := by decide +kernel
theorem dX12_readTokens_133 : decode cX12_readTokens 133 = .ok (.iload_n 3, 1) := by decide +kernel
theorem dX12_readTokens_134 : decode cX12_readTokens 134 = .ok (.invokestatic 345, 3) := by decide +kernel
theorem dX12_readTokens_137 : decode cX12_readTokens 137 = .ok (.ifCond .eq 70, 3) := by decide +kernel
theorem dX12_readTokens_140 : decode cX12_readTokens 140 = .ok (.aload_n 0, 1) := by decide +kernel
theorem dX12_readTokens_141 : decode cX12_readTokens 141 = .ok (.iload_n 1, 1) := by decide +kernel
theorem dX12_readTokens_142 : decode cX12_readTokens 142 = .ok (.iload 4, 2) := by decide +kernel
theorem dX12_readTokens_144 : decode cX12_readTokens 144 = .ok (.iadd, 1) := by decide +kernel
theorem dX12_readTokens_145 : decode cX12_readTokens 145 = .ok (.invokevirtual 338, 3) := by decide +kernel
theorem dX12_readTokens_148 : decode cX12_readTokens 148 = .ok (.invokestatic 345, 3) := by decide +kernel
theorem dX12_readTokens_151 : decode cX12_readTokens 151 = .ok (.ifCond .ne 17, 3) := by decide +kernel
theorem dX12_readTokens_154 : decode cX12_readTokens 154 = .ok (.aload_n 0, 1) := by decide +kernel
theorem dX12_readTokens_155 : decode cX12_readTokens 155 = .ok (.iload_n 1, 1) := by decide +kernel
theorem dX12_readTokens_156 : decode cX12_readTokens 156 = .ok (.iload 4, 2) := by decide +kernel
theorem dX12_readTokens_158 : decode cX12_readTokens 158 = .ok (.iadd, 1) := by decide +kernel
theorem dX12_readTokens_159 : decode cX12_readTokens 159 = .ok (.invokevirtual 338, 3) := by decide +kernel
theorem dX12_readTokens_162 : decode cX12_readTokens 162 = .ok (.invokestatic 349, 3) := by decide +kernel
theorem dX12_readTokens_165 : decode cX12_readTokens 165 = .ok (.ifCond .eq 9, 3) := by decide +kernel
theorem dX12_readTokens_168 : decode cX12_readTokens 168 = .ok (.iinc 4 1, 3) := by decide +kernel
theorem dX12_readTokens_171 : decode cX12_readTokens 171 = .ok (.goto (-31), 3) := by decide +kernel
theorem dX12_readTokens_174 : decode cX12_readTokens 174 = .ok (.aload_n 0, 1) := by decide +kernel
theorem dX12_readTokens_175 : decode cX12_readTokens 175 = .ok (.iload_n 1, 1) := by decide +kernel
theorem dX12_readTokens_176 : decode cX12_readTokens 176 = .ok (.iload 4, 2) := by decide +kernel
theorem dX12_readTokens_178 : decode cX12_readTokens 178 = .ok (.invokevirtual 352, 3) := by decide +kernel
theorem dX12_readTokens_181 : decode cX12_readTokens 181 = .ok (.istore 6, 2) := by decide +kernel
theorem dX12_readTokens_183 : decode cX12_readTokens 183 = .ok (.iload 6, 2) := by decide +kernel
theorem dX12_readTokens_185 : decode cX12_readTokens 185 = .ok (.iconst 1, 1) := by decide +kernel
theorem dX12_readTokens_186 : decode cX12_readTokens 186 = .ok (.if_icmp .ne 14, 3) := by decide +kernel
theorem dX12_readTokens_189 : decode cX12_readTokens 189 = .ok (.iload 4, 2) := by decide +kernel
theorem dX12_readTokens_191 : decode cX12_readTokens 191 = .ok (.bipush 12, 2) := by decide +kernel
theorem dX12_readTokens_193 : decode cX12_readTokens 193 = .ok (.if_icmp .le 7, 3) := by decide +kernel
theorem dX12_readTokens_196 : decode cX12_readTokens 196 = .ok (.iconst 3, 1) := by decide +kernel
theorem dX12_readTokens_197 : decode cX12_readTokens 197 = .ok (.goto 5, 3) := by decide +kernel
theorem dX12_readTokens_200 : decode cX12_readTokens 200 = .ok (.iload 6, 2) := by decide +kernel
theorem dX12_readTokens_202 : decode cX12_readTokens 202 = .ok (.istore 6, 2) := by decide +kernel
theorem dX12_readTokens_204 : decode cX12_readTokens 204 = .ok (.goto 146, 3) := by decide +kernel
theorem dX12_readTokens_207 : decode cX12_readTokens 207 = .ok (.iload_n 3, 1) := by decide +kernel
theorem dX12_readTokens_208 : decode cX12_readTokens 208 = .ok (.invokestatic 349, 3) := by decide +kernel
theorem dX12_readTokens_211 : decode cX12_readTokens 211 = .ok (.ifCond .eq 85, 3) := by decide +kernel
theorem dX12_readTokens_214 : decode cX12_readTokens 214 = .ok (.aload_n 0, 1) := by decide +kernel
theorem dX12_readTokens_215 : decode cX12_readTokens 215 = .ok (.iload_n 1, 1) := by decide +kernel
theorem dX12_readTokens_216 : decode cX12_readTokens 216 = .ok (.iload 4, 2) := by decide +kernel
theorem dX12_readTokens_218 : decode cX12_readTokens 218 = .ok (.iadd, 1) := by decide +kernel
theorem dX12_readTokens_219 : decode cX12_readTokens 219 = .ok (.invokevirtual 338, 3) := by decide +kernel
theorem dX12_readTokens_222 : decode cX12_readTokens 222 = .ok (.invokestatic 349, 3) := by decide +kernel
theorem dX12_readTokens_225 : decode cX12_readTokens 225 = .ok (.ifCond .eq 40, 3) := by decide +kernel
theorem dX12_readTokens_228 : decode cX12_readTokens 228 = .ok (.iload 4, 2) := by decide +kernel
theorem dX12_readTokens_230 : decode cX12_readTokens 230 = .ok (.bipush 9, 2) := by decide +kernel
theorem dX12_readTokens_232 : decode cX12_readTokens 232 = .ok (.if_icmp .ge 23, 3) := by decide +kernel
theorem dX12_readTokens_235 : decode cX12_readTokens 235 = .ok (.bipush 10, 2) := by decide +kernel
theorem dX12_readTokens_237 : decode cX12_readTokens 237 = .ok (.iload 5, 2) := by decide +kernel
theorem dX12_readTokens_239 : decode cX12_readTokens 239 = .ok (.imul, 1) := by decide +kernel
theorem dX12_readTokens_240 : decode cX12_readTokens 240 = .ok (.aload_n 0, 1) := by decide +kernel
theorem dX12_readTokens_241 : decode cX12_readTokens 241 = .ok (.iload_n 1, 1) := by decide +kernel
theorem dX12_readTokens_242 : decode cX12_readTokens 242 = .ok (.iload 4, 2) := by decide +kernel
theorem dX12_readTokens_244 : decode cX12_readTokens 244 = .ok (.iadd, 1) := by decide +kernel
theorem dX12_readTokens_245 : decode cX12_readTokens 245 = .ok (.invokevirtual 338, 3) := by decide +kernel
theorem dX12_readTokens_248 : decode cX12_readTokens 248 = .ok (.iadd, 1) := by decide +kernel
theorem dX12_readTokens_249 : decode cX12_readTokens 249 = .ok (.bipush 48, 2) := by decide +kernel
theorem dX12_readTokens_251 : decode cX12_readTokens 251 = .ok (.isub, 1) := by decide +kernel
theorem dX12_readTokens_252 : decode cX12_readTokens 252 = .ok (.goto 5, 3) := by decide +kernel
theorem dX12_readTokens_255 : decode cX12_readTokens 255 = .ok (.iload 5, 2) := by decide +kernel
theorem dX12_readTokens_257 : decode cX12_readTokens 257 = .ok (.istore 5, 2) := by decide +kernel
theorem dX12_readTokens_259 : decode cX12_readTokens 259 = .ok (.iinc 4 1, 3) := by decide +kernel
theorem dX12_readTokens_262 : decode cX12_readTokens 262 = .ok (.goto (-48), 3) := by decide +kernel
theorem dX12_readTokens_265 : decode cX12_readTokens 265 = .ok (.iload 4, 2) := by decide +kernel
theorem dX12_readTokens_267 : decode cX12_readTokens 267 = .ok (.bipush 9, 2) := by decide +kernel
theorem dX12_readTokens_269 : decode cX12_readTokens 269 = .ok (.if_icmp .gt 17, 3) := by decide +kernel
theorem dX12_readTokens_272 : decode cX12_readTokens 272 = .ok (.aload_n 0, 1) := by decide +kernel
theorem dX12_readTokens_273 : decode cX12_readTokens 273 = .ok (.iload_n 1, 1) := by decide +kernel
theorem dX12_readTokens_274 : decode cX12_readTokens 274 = .ok (.iload 4, 2) := by decide +kernel
theorem dX12_readTokens_276 : decode cX12_readTokens 276 = .ok (.iadd, 1) := by decide +kernel
theorem dX12_readTokens_277 : decode cX12_readTokens 277 = .ok (.invokevirtual 338, 3) := by decide +kernel
theorem dX12_readTokens_280 : decode cX12_readTokens 280 = .ok (.invokestatic 345, 3) := by decide +kernel
theorem dX12_readTokens_283 : decode cX12_readTokens 283 = .ok (.ifCond .eq 7, 3) := by decide +kernel
theorem dX12_readTokens_286 : decode cX12_readTokens 286 = .ok (.iconst 3, 1) := by decide +kernel
theorem dX12_readTokens_287 : decode cX12_readTokens 287 = .ok (.goto 4, 3) := by decide +kernel
theorem dX12_readTokens_290 : decode cX12_readTokens 290 = .ok (.iconst 2, 1) := by decide +kernel
theorem dX12_readTokens_291 : decode cX12_readTokens 291 = .ok (.istore 6, 2) := by decide +kernel
theorem dX12_readTokens_293 : decode cX12_readTokens 293 = .ok (.goto 57, 3) := by decide +kernel
theorem dX12_readTokens_296 : decode cX12_readTokens 296 = .ok (.iload_n 3, 1) := by decide +kernel
theorem dX12_readTokens_297 : decode cX12_readTokens 297 = .ok (.iconst (-1), 1) := by decide +kernel
theorem dX12_readTokens_298 : decode cX12_readTokens 298 = .ok (.if_icmp .eq 52, 3) := by decide +kernel
theorem dX12_readTokens_301 : decode cX12_readTokens 301 = .ok (.aload_n 0, 1) := by decide +kernel
theorem dX12_readTokens_302 : decode cX12_readTokens 302 = .ok (.iload_n 3, 1) := by decide +kernel
theorem dX12_readTokens_303 : decode cX12_readTokens 303 = .ok (.aload_n 0, 1) := by decide +kernel
theorem dX12_readTokens_304 : decode cX12_readTokens 304 = .ok (.iload_n 1, 1) := by decide +kernel
theorem dX12_readTokens_305 : decode cX12_readTokens 305 = .ok (.iconst 1, 1) := by decide +kernel
theorem dX12_readTokens_306 : decode cX12_readTokens 306 = .ok (.iadd, 1) := by decide +kernel
theorem dX12_readTokens_307 : decode cX12_readTokens 307 = .ok (.invokevirtual 338, 3) := by decide +kernel
theorem dX12_readTokens_310 : decode cX12_readTokens 310 = .ok (.invokevirtual 356, 3) := by decide +kernel
theorem dX12_readTokens_313 : decode cX12_readTokens 313 = .ok (.istore 6, 2) := by decide +kernel
theorem dX12_readTokens_315 : decode cX12_readTokens 315 = .ok (.iload 6, 2) := by decide +kernel
theorem dX12_readTokens_317 : decode cX12_readTokens 317 = .ok (.bipush 51, 2) := by decide +kernel
theorem dX12_readTokens_319 : decode cX12_readTokens 319 = .ok (.if_icmp .eq 24, 3) := by decide +kernel
theorem dX12_readTokens_322 : decode cX12_readTokens 322 = .ok (.iload 6, 2) := by decide +kernel
theorem dX12_readTokens_324 : decode cX12_readTokens 324 = .ok (.bipush 52, 2) := by decide +kernel
theorem dX12_readTokens_326 : decode cX12_readTokens 326 = .ok (.if_icmp .eq 17, 3) := by decide +kernel
theorem dX12_readTokens_329 : decode cX12_readTokens 329 = .ok (.iload 6, 2) := by decide +kernel
theorem dX12_readTokens_331 : decode cX12_readTokens 331 = .ok (.bipush 54, 2) := by decide +kernel
theorem dX12_readTokens_333 : decode cX12_readTokens 333 = .ok (.if_icmp .eq 10, 3) := by decide +kernel
theorem dX12_readTokens_336 : decode cX12_readTokens 336 = .ok (.iload 6, 2) := by decide +kernel
theorem dX12_readTokens_338 : decode cX12_readTokens 338 = .ok (.bipush 56, 2) := by decide +kernel
theorem dX12_readTokens_340 : decode cX12_readTokens 340 = .ok (.if_icmp .ne 7, 3) := by decide +kernel
theorem dX12_readTokens_343 : decode cX12_readTokens 343 = .ok (.iconst 2, 1) := by decide +kernel
theorem dX12_readTokens_344 : decode cX12_readTokens 344 = .ok (.goto 4, 3) := by decide +kernel
theorem dX12_readTokens_347 : decode cX12_readTokens 347 = .ok (.iconst 1, 1) := by decide +kernel
theorem dX12_readTokens_348 : decode cX12_readTokens 348 = .ok (.istore 4, 2) := by decide +kernel
theorem dX12_readTokens_350 : decode cX12_readTokens 350 = .ok (.aload_n 0, 1) := by decide +kernel
theorem dX12_readTokens_351 : decode cX12_readTokens 351 = .ok (.iload 6, 2) := by decide +kernel
theorem dX12_readTokens_353 : decode cX12_readTokens 353 = .ok (.iload_n 1, 1) := by decide +kernel
theorem dX12_readTokens_354 : decode cX12_readTokens 354 = .ok (.iload 4, 2) := by decide +kernel
theorem dX12_readTokens_356 : decode cX12_readTokens 356 = .ok (.iload 5, 2) := by decide +kernel
theorem dX12_readTokens_358 : decode cX12_readTokens 358 = .ok (.invokevirtual 359, 3) := by decide +kernel
theorem dX12_readTokens_361 : decode cX12_readTokens 361 = .ok (.iload 6, 2) := by decide +kernel
theorem dX12_readTokens_363 : decode cX12_readTokens 363 = .ok (.ifCond .eq 9, 3) := by decide +kernel
theorem dX12_readTokens_366 : decode cX12_readTokens 366 = .ok (.iload 6, 2) := by decide +kernel
theorem dX12_readTokens_368 : decode cX12_readTokens 368 = .ok (.iconst 3, 1) := by decide +kernel
theorem dX12_readTokens_369 : decode cX12_readTokens 369 = .ok (.if_icmp .ne 4, 3) := by decide +kernel
theorem dX12_readTokens_372 : decode cX12_readTokens 372 = .ok (.return_, 1) := by decide +kernel
theorem dX12_readTokens_373 : decode cX12_readTokens 373 = .ok (.iload_n 1, 1) := by decide +kernel
theorem dX12_readTokens_374 : decode cX12_readTokens 374 = .ok (.iload 4, 2) := by decide +kernel
theorem dX12_readTokens_376 : decode cX12_readTokens 376 = .ok (.iadd, 1) := by decide +kernel
theorem dX12_readTokens_377 : decode cX12_readTokens 377 = .ok (.istore_n 1, 1) := by decide +kernel
theorem dX12_readTokens_378 : decode cX12_readTokens 378 = .ok (.goto (-371), 3) := by decide +kernel
theorem dX12_readTokens_381 : decode cX12_readTokens 381 = .ok (.return_, 1) := by decide +kernel
theorem dX12_fault_0 : decode cX12_fault 0 = .ok (.aload_n 0, 1) := by decide +kernel
theorem dX12_fault_1 : decode cX12_fault 1 = .ok (.getfield 366, 3) := by decide +kernel
theorem dX12_fault_4 : decode cX12_fault 4 = .ok (.ifCond .ne 32, 3) := by decide +kernel
theorem dX12_fault_7 : decode cX12_fault 7 = .ok (.aload_n 0, 1) := by decide +kernel
theorem dX12_fault_8 : decode cX12_fault 8 = .ok (.aload_n 0, 1) := by decide +kernel
theorem dX12_fault_9 : decode cX12_fault 9 = .ok (.getfield 13, 3) := by decide +kernel
theorem dX12_fault_12 : decode cX12_fault 12 = .ok (.iload_n 2, 1) := by decide +kernel
theorem dX12_fault_13 : decode cX12_fault 13 = .ok (.iaload, 1) := by decide +kernel
theorem dX12_fault_14 : decode cX12_fault 14 = .ok (.iconst 3, 1) := by decide +kernel
theorem dX12_fault_15 : decode cX12_fault 15 = .ok (.if_icmp .ne 7, 3) := by decide +kernel
theorem dX12_fault_18 : decode cX12_fault 18 = .ok (.iconst 1, 1) := by decide +kernel
theorem dX12_fault_19 : decode cX12_fault 19 = .ok (.goto 4, 3) := by decide +kernel
theorem dX12_fault_22 : decode cX12_fault 22 = .ok (.iload_n 1, 1) := by decide +kernel
theorem dX12_fault_23 : decode cX12_fault 23 = .ok (.putfield 366, 3) := by decide +kernel
theorem dX12_fault_26 : decode cX12_fault 26 = .ok (.aload_n 0, 1) := by decide +kernel
theorem dX12_fault_27 : decode cX12_fault 27 = .ok (.aload_n 0, 1) := by decide +kernel
theorem dX12_fault_28 : decode cX12_fault 28 = .ok (.getfield 17, 3) := by decide +kernel
theorem dX12_fault_31 : decode cX12_fault 31 = .ok (.iload_n 2, 1) := by decide +kernel
theorem dX12_fault_32 : decode cX12_fault 32 = .ok (.iaload, 1) := by decide +kernel
theorem dX12_fault_33 : decode cX12_fault 33 = .ok (.putfield 369, 3) := by decide +kernel
theorem dX12_fault_36 : decode cX12_fault 36 = .ok (.return_, 1) := by decide +kernel
theorem dX12_here_0 : decode cX12_here 0 = .ok (.aload_n 0, 1) := by decide +kernel
theorem dX12_here_1 : decode cX12_here 1 = .ok (.getfield 366, 3) := by decide +kernel
theorem dX12_here_4 : decode cX12_here 4 = .ok (.ifCond .le 7, 3) := by decide +kernel
theorem dX12_here_7 : decode cX12_here 7 = .ok (.iconst 0, 1) := by decide +kernel
theorem dX12_here_8 : decode cX12_here 8 = .ok (.goto 12, 3) := by decide +kernel
theorem dX12_here_11 : decode cX12_here 11 = .ok (.aload_n 0, 1) := by decide +kernel
theorem dX12_here_12 : decode cX12_here 12 = .ok (.getfield 13, 3) := by decide +kernel
theorem dX12_here_15 : decode cX12_here 15 = .ok (.aload_n 0, 1) := by decide +kernel
theorem dX12_here_16 : decode cX12_here 16 = .ok (.getfield 372, 3) := by decide +kernel
theorem dX12_here_19 : decode cX12_here 19 = .ok (.iaload, 1) := by decide +kernel
theorem dX12_here_20 : decode cX12_here 20 = .ok (.ireturn, 1) := by decide +kernel
theorem dX12_judge_0 : decode cX12_judge 0 = .ok (.aload_n 0, 1) := by decide +kernel
theorem dX12_judge_1 : decode cX12_judge 1 = .ok (.iconst 0, 1) := by decide +kernel
theorem dX12_judge_2 : decode cX12_judge 2 = .ok (.putfield 470, 3) := by decide +kernel
theorem dX12_judge_5 : decode cX12_judge 5 = .ok (.aload_n 0, 1) := by decide +kernel
theorem dX12_judge_6 : decode cX12_judge 6 = .ok (.iconst 0, 1) := by decide +kernel
theorem dX12_judge_7 : decode cX12_judge 7 = .ok (.putfield 483, 3) := by decide +kernel
theorem dX12_judge_10 : decode cX12_judge 10 = .ok (.aload_n 0, 1) := by decide +kernel
theorem dX12_judge_11 : decode cX12_judge 11 = .ok (.iconst 0, 1) := by decide +kernel
theorem dX12_judge_12 : decode cX12_judge 12 = .ok (.putfield 502, 3) := by decide +kernel
theorem dX12_judge_15 : decode cX12_judge 15 = .ok (.iconst 0, 1) := by decide +kernel
theorem dX12_judge_16 : decode cX12_judge 16 = .ok (.istore_n 1, 1) := by decide +kernel
theorem dX12_judge_17 : decode cX12_judge 17 = .ok (.iload_n 1, 1) := by decide +kernel
theorem dX12_judge_18 : decode cX12_judge 18 = .ok (.aload_n 0, 1) := by decide +kernel
theorem dX12_judge_19 : decode cX12_judge 19 = .ok (.getfield 445, 3) := by decide +kernel
theorem dX12_judge_22 : decode cX12_judge 22 = .ok (.if_icmp .ge 75, 3) := by decide +kernel
theorem dX12_judge_25 : decode cX12_judge 25 = .ok (.aload_n 0, 1) := by decide +kernel
theorem dX12_judge_26 : decode cX12_judge 26 = .ok (.aload_n 0, 1) := by decide +kernel
theorem dX12_judge_27 : decode cX12_judge 27 = .ok (.getfield 51, 3) := by decide +kernel
theorem dX12_judge_30 : decode cX12_judge 30 = .ok (.iload_n 1, 1) := by decide +kernel
theorem dX12_judge_31 : decode cX12_judge 31 = .ok (.iaload, 1) := by decide +kernel
theorem dX12_judge_32 : decode cX12_judge 32 = .ok (.invokevirtual 555, 3) := by decide +kernel
theorem dX12_judge_35 : decode cX12_judge 35 = .ok (.iload_n 1, 1) := by decide +kernel
theorem dX12_judge_36 : decode cX12_judge 36 = .ok (.if_icmp .eq 14, 3) := by decide +kernel
theorem dX12_judge_39 : decode cX12_judge 39 = .ok (.aload_n 0, 1) := by decide +kernel
theorem dX12_judge_40 : decode cX12_judge 40 = .ok (.iconst 4, 1) := by decide +kernel
theorem dX12_judge_41 : decode cX12_judge 41 = .ok (.aload_n 0, 1) := by decide +kernel
theorem dX12_judge_42 : decode cX12_judge 42 = .ok (.getfield 51, 3) := by decide +kernel
theorem dX12_judge_45 : decode cX12_judge 45 = .ok (.iload_n 1, 1) := by decide +kernel
theorem dX12_judge_46 : decode cX12_judge 46 = .ok (.iaload, 1) := by decide +kernel
theorem dX12_judge_47 : decode cX12_judge 47 = .ok (.invokevirtual 495, 3) := by decide +kernel
theorem dX12_judge_50 : decode cX12_judge 50 = .ok (.aload_n 0, 1) := by decide +kernel
theorem dX12_judge_51 : decode cX12_judge 51 = .ok (.getfield 63, 3) := by decide +kernel
theorem dX12_judge_54 : decode cX12_judge 54 = .ok (.iload_n 1, 1) := by decide +kernel
theorem dX12_judge_55 : decode cX12_judge 55 = .ok (.baload, 1) := by decide +kernel
theorem dX12_judge_56 : decode cX12_judge 56 = .ok (.ifCond .eq 35, 3) := by decide +kernel
theorem dX12_judge_59 : decode cX12_judge 59 = .ok (.aload_n 0, 1) := by decide +kernel
theorem dX12_judge_60 : decode cX12_judge 60 = .ok (.getfield 20, 3) := by decide +kernel
theorem dX12_judge_63 : decode cX12_judge 63 = .ok (.aload_n 0, 1) := by decide +kernel
theorem dX12_judge_64 : decode cX12_judge 64 = .ok (.getfield 67, 3) := by decide +kernel
theorem dX12_judge_67 : decode cX12_judge 67 = .ok (.iload_n 1, 1) := by decide +kernel
theorem dX12_judge_68 : decode cX12_judge 68 = .ok (.iaload, 1) := by decide +kernel
theorem dX12_judge_69 : decode cX12_judge 69 = .ok (.iaload, 1) := by decide +kernel
theorem dX12_judge_70 : decode cX12_judge 70 = .ok (.iconst 1, 1) := by decide +kernel
theorem dX12_judge_71 : decode cX12_judge 71 = .ok (.bipush 8, 2) := by decide +kernel
theorem dX12_judge_73 : decode cX12_judge 73 = .ok (.invokestatic 322, 3) := by decide +kernel
theorem dX12_judge_76 : decode cX12_judge 76 = .ok (.ifCond .ne 15, 3) := by decide +kernel
theorem dX12_judge_79 : decode cX12_judge 79 = .ok (.aload_n 0, 1) := by decide +kernel
theorem dX12_judge_80 : decode cX12_judge 80 = .ok (.bipush 6, 2) := by decide +kernel
theorem dX12_judge_82 : decode cX12_judge 82 = .ok (.aload_n 0, 1) := by decide +kernel
theorem dX12_judge_83 : decode cX12_judge 83 = .ok (.getfield 67, 3) := by decide +kernel
theorem dX12_judge_86 : decode cX12_judge 86 = .ok (.iload_n 1, 1) := by decide +kernel
theorem dX12_judge_87 : decode cX12_judge 87 = .ok (.iaload, 1) := by decide +kernel
theorem dX12_judge_88 : decode cX12_judge 88 = .ok (.invokevirtual 495, 3) := by decide +kernel
theorem dX12_judge_91 : decode cX12_judge 91 = .ok (.iinc 1 1, 3) := by decide +kernel
theorem dX12_judge_94 : decode cX12_judge 94 = .ok (.goto (-77), 3) := by decide +kernel
theorem dX12_judge_97 : decode cX12_judge 97 = .ok (.iconst 0, 1) := by decide +kernel
theorem dX12_judge_98 : decode cX12_judge 98 = .ok (.istore_n 1, 1) := by decide +kernel
theorem dX12_judge_99 : decode cX12_judge 99 = .ok (.iload_n 1, 1) := by decide +kernel
theorem dX12_judge_100 : decode cX12_judge 100 = .ok (.aload_n 0, 1) := by decide +kernel
theorem dX12_judge_101 : decode cX12_judge 101 = .ok (.getfield 461, 3) := by decide +kernel
theorem dX12_judge_104 : decode cX12_judge 104 = .ok (.if_icmp .ge 46, 3) := by decide +kernel
theorem dX12_judge_107 : decode cX12_judge 107 = .ok (.aload_n 0, 1) := by decide +kernel
theorem dX12_judge_108 : decode cX12_judge 108 = .ok (.iconst 0, 1) := by decide +kernel
theorem dX12_judge_109 : decode cX12_judge 109 = .ok (.putfield 480, 3) := by decide +kernel
theorem dX12_judge_112 : decode cX12_judge 112 = .ok (.aload_n 0, 1) := by decide +kernel
theorem dX12_judge_113 : decode cX12_judge 113 = .ok (.iconst 0, 1) := by decide +kernel
theorem dX12_judge_114 : decode cX12_judge 114 = .ok (.putfield 533, 3) := by decide +kernel
theorem dX12_judge_117 : decode cX12_judge 117 = .ok (.aload_n 0, 1) := by decide +kernel
theorem dX12_judge_118 : decode cX12_judge 118 = .ok (.getfield 133, 3) := by decide +kernel
theorem dX12_judge_121 : decode cX12_judge 121 = .ok (.iload_n 1, 1) := by decide +kernel
theorem dX12_judge_122 : decode cX12_judge 122 = .ok (.aload_n 0, 1) := by decide +kernel
theorem dX12_judge_123 : decode cX12_judge 123 = .ok (.getfield 502, 3) := by decide +kernel
theorem dX12_judge_126 : decode cX12_judge 126 = .ok (.iastore, 1) := by decide +kernel
theorem dX12_judge_127 : decode cX12_judge 127 = .ok (.aload_n 0, 1) := by decide +kernel
theorem dX12_judge_128 : decode cX12_judge 128 = .ok (.aload_n 0, 1) := by decide +kernel
theorem dX12_judge_129 : decode cX12_judge 129 = .ok (.getfield 79, 3) := by decide +kernel
theorem dX12_judge_132 : decode cX12_judge 132 = .ok (.iload_n 1, 1) := by decide +kernel
theorem dX12_judge_133 : decode cX12_judge 133 = .ok (.iaload, 1) := by decide +kernel
theorem dX12_judge_134 : decode cX12_judge 134 = .ok (.invokevirtual 543, 3) := by decide +kernel
theorem dX12_judge_137 : decode cX12_judge 137 = .ok (.aload_n 0, 1) := by decide +kernel
theorem dX12_judge_138 : decode cX12_judge 138 = .ok (.iconst 5, 1) := by decide +kernel
theorem dX12_judge_139 : decode cX12_judge 139 = .ok (.iconst (-1), 1) := by decide +kernel
theorem dX12_judge_140 : decode cX12_judge 140 = .ok (.invokevirtual 511, 3) := by decide +kernel
theorem dX12_judge_143 : decode cX12_judge 143 = .ok (.istore_n 2, 1) := by decide +kernel
theorem dX12_judge_144 : decode cX12_judge 144 = .ok (.iinc 1 1, 3) := by decide +kernel
theorem dX12_judge_147 : decode cX12_judge 147 = .ok (.goto (-48), 3) := by decide +kernel
theorem dX12_judge_150 : decode cX12_judge 150 = .ok (.iconst 0, 1) := by decide +kernel
theorem dX12_judge_151 : decode cX12_judge 151 = .ok (.istore_n 1, 1) := by decide +kernel
theorem dX12_judge_152 : decode cX12_judge 152 = .ok (.iload_n 1, 1) := by decide +kernel
theorem dX12_judge_153 : decode cX12_judge 153 = .ok (.aload_n 0, 1) := by decide +kernel
theorem dX12_judge_154 : decode cX12_judge 154 = .ok (.getfield 464, 3) := by decide +kernel
theorem dX12_judge_157 : decode cX12_judge 157 = .ok (.if_icmp .ge 26, 3) := by decide +kernel
theorem dX12_judge_160 : decode cX12_judge 160 = .ok (.aload_n 0, 1) := by decide +kernel
theorem dX12_judge_161 : decode cX12_judge 161 = .ok (.getfield 136, 3) := by decide +kernel
theorem dX12_judge_164 : decode cX12_judge 164 = .ok (.iload_n 1, 1) := by decide +kernel
theorem dX12_judge_165 : decode cX12_judge 165 = .ok (.aload_n 0, 1) := by decide +kernel
theorem dX12_judge_166 : decode cX12_judge 166 = .ok (.aload_n 0, 1) := by decide +kernel
theorem dX12_judge_167 : decode cX12_judge 167 = .ok (.getfield 82, 3) := by decide +kernel
theorem dX12_judge_170 : decode cX12_judge 170 = .ok (.iload_n 1, 1) := by decide +kernel
theorem dX12_judge_171 : decode cX12_judge 171 = .ok (.iaload, 1) := by decide +kernel
theorem dX12_judge_172 : decode cX12_judge 172 = .ok (.iconst 1, 1) := by decide +kernel
theorem dX12_judge_173 : decode cX12_judge 173 = .ok (.invokevirtual 517, 3) := by decide +kernel
theorem dX12_judge_176 : decode cX12_judge 176 = .ok (.iastore, 1) := by decide +kernel
theorem dX12_judge_177 : decode cX12_judge 177 = .ok (.iinc 1 1, 3) := by decide +kernel
theorem dX12_judge_180 : decode cX12_judge 180 = .ok (.goto (-28), 3) := by decide +kernel
theorem dX12_judge_183 : decode cX12_judge 183 = .ok (.iconst 0, 1) := by decide +kernel
theorem dX12_judge_184 : decode cX12_judge 184 = .ok (.istore_n 1, 1) := by decide +kernel
theorem dX12_judge_185 : decode cX12_judge 185 = .ok (.iload_n 1, 1) := by decide +kernel
theorem dX12_judge_186 : decode cX12_judge 186 = .ok (.aload_n 0, 1) := by decide +kernel
theorem dX12_judge_187 : decode cX12_judge 187 = .ok (.getfield 467, 3) := by decide +kernel
theorem dX12_judge_190 : decode cX12_judge 190 = .ok (.if_icmp .ge 26, 3) := by decide +kernel
theorem dX12_judge_193 : decode cX12_judge 193 = .ok (.aload_n 0, 1) := by decide +kernel
theorem dX12_judge_194 : decode cX12_judge 194 = .ok (.getfield 139, 3) := by decide +kernel
theorem dX12_judge_197 : decode cX12_judge 197 = .ok (.iload_n 1, 1) := by decide +kernel
theorem dX12_judge_198 : decode cX12_judge 198 = .ok (.aload_n 0, 1) := by decide +kernel
theorem dX12_judge_199 : decode cX12_judge 199 = .ok (.aload_n 0, 1) := by decide +kernel
theorem dX12_judge_200 : decode cX12_judge 200 = .ok (.getfield 85, 3) := by decide +kernel
theorem dX12_judge_203 : decode cX12_judge 203 = .ok (.iload_n 1, 1) := by decide +kernel
theorem dX12_judge_204 : decode cX12_judge 204 = .ok (.iaload, 1) := by decide +kernel
theorem dX12_judge_205 : decode cX12_judge 205 = .ok (.iconst 1, 1) := by decide +kernel
theorem dX12_judge_206 : decode cX12_judge 206 = .ok (.invokevirtual 517, 3) := by decide +kernel
theorem dX12_judge_209 : decode cX12_judge 209 = .ok (.iastore, 1) := by decide +kernel
theorem dX12_judge_210 : decode cX12_judge 210 = .ok (.iinc 1 1, 3) := by decide +kernel
theorem dX12_judge_213 : decode cX12_judge 213 = .ok (.goto (-28), 3) := by decide +kernel
theorem dX12_judge_216 : decode cX12_judge 216 = .ok (.return_, 1) := by decide +kernel
theorem dX12_feed_0 : decode cX12_feed 0 = .ok (.aload_n 0, 1) := by decide +kernel
theorem dX12_feed_1 : decode cX12_feed 1 = .ok (.iconst 0, 1) := by decide +kernel
theorem dX12_feed_2 : decode cX12_feed 2 = .ok (.putfield 316, 3) := by decide +kernel
theorem dX12_feed_5 : decode cX12_feed 5 = .ok (.aload_n 0, 1) := by decide +kernel
theorem dX12_feed_6 : decode cX12_feed 6 = .ok (.iload_n 1, 1) := by decide +kernel
theorem dX12_feed_7 : decode cX12_feed 7 = .ok (.iconst 1, 1) := by decide +kernel
theorem dX12_feed_8 : decode cX12_feed 8 = .ok (.bipush 8, 2) := by decide +kernel
theorem dX12_feed_10 : decode cX12_feed 10 = .ok (.invokestatic 322, 3) := by decide +kernel
theorem dX12_feed_13 : decode cX12_feed 13 = .ok (.ifCond .eq 15, 3) := by decide +kernel
theorem dX12_feed_16 : decode cX12_feed 16 = .ok (.aload_n 0, 1) := by decide +kernel
theorem dX12_feed_17 : decode cX12_feed 17 = .ok (.getfield 319, 3) := by decide +kernel
theorem dX12_feed_20 : decode cX12_feed 20 = .ok (.iload_n 1, 1) := by decide +kernel
theorem dX12_feed_21 : decode cX12_feed 21 = .ok (.iadd, 1) := by decide +kernel
theorem dX12_feed_22 : decode cX12_feed 22 = .ok (.sipush 3000, 3) := by decide +kernel
theorem dX12_feed_25 : decode cX12_feed 25 = .ok (.if_icmp .le 7, 3) := by decide +kernel
theorem dX12_feed_28 : decode cX12_feed 28 = .ok (.iconst 1, 1) := by decide +kernel
theorem dX12_feed_29 : decode cX12_feed 29 = .ok (.goto 4, 3) := by decide +kernel
theorem dX12_feed_32 : decode cX12_feed 32 = .ok (.iconst 0, 1) := by decide +kernel
theorem dX12_feed_33 : decode cX12_feed 33 = .ok (.iconst 1, 1) := by decide +kernel
theorem dX12_feed_34 : decode cX12_feed 34 = .ok (.invokevirtual 558, 3) := by decide +kernel
theorem dX12_feed_37 : decode cX12_feed 37 = .ok (.ifCond .eq 5, 3) := by decide +kernel
theorem dX12_feed_40 : decode cX12_feed 40 = .ok (.iconst 0, 1) := by decide +kernel
theorem dX12_feed_41 : decode cX12_feed 41 = .ok (.ireturn, 1) := by decide +kernel
theorem dX12_feed_42 : decode cX12_feed 42 = .ok (.iconst 0, 1) := by decide +kernel
theorem dX12_feed_43 : decode cX12_feed 43 = .ok (.istore 4, 2) := by decide +kernel
theorem dX12_feed_45 : decode cX12_feed 45 = .ok (.iload 4, 2) := by decide +kernel
theorem dX12_feed_47 : decode cX12_feed 47 = .ok (.iload_n 1, 1) := by decide +kernel
theorem dX12_feed_48 : decode cX12_feed 48 = .ok (.if_icmp .ge 37, 3) := by decide +kernel
theorem dX12_feed_51 : decode cX12_feed 51 = .ok (.aload_n 0, 1) := by decide +kernel
theorem dX12_feed_52 : decode cX12_feed 52 = .ok (.getfield 7, 3) := by decide +kernel
theorem dX12_feed_55 : decode cX12_feed 55 = .ok (.aload_n 0, 1) := by decide +kernel
theorem dX12_feed_56 : decode cX12_feed 56 = .ok (.getfield 319, 3) := by decide +kernel
theorem dX12_feed_59 : decode cX12_feed 59 = .ok (.lload_n 2, 1) := by decide +kernel
theorem dX12_feed_60 : decode cX12_feed 60 = .ok (.bipush 8, 2) := by decide +kernel
theorem dX12_feed_62 : decode cX12_feed 62 = .ok (.iload 4, 2) := by decide +kernel
theorem dX12_feed_64 : decode cX12_feed 64 = .ok (.imul, 1) := by decide +kernel
theorem dX12_feed_65 : decode cX12_feed 65 = .ok (.lshr, 1) := by decide +kernel
theorem dX12_feed_66 : decode cX12_feed 66 = .ok (.l2i, 1) := by decide +kernel
theorem dX12_feed_67 : decode cX12_feed 67 = .ok (.i2b, 1) := by decide +kernel
theorem dX12_feed_68 : decode cX12_feed 68 = .ok (.bastore, 1) := by decide +kernel
theorem dX12_feed_69 : decode cX12_feed 69 = .ok (.aload_n 0, 1) := by decide +kernel
theorem dX12_feed_70 : decode cX12_feed 70 = .ok (.dup, 1) := by decide +kernel
theorem dX12_feed_71 : decode cX12_feed 71 = .ok (.getfield 319, 3) := by decide +kernel
theorem dX12_feed_74 : decode cX12_feed 74 = .ok (.iconst 1, 1) := by decide +kernel
theorem dX12_feed_75 : decode cX12_feed 75 = .ok (.iadd, 1) := by decide +kernel
theorem dX12_feed_76 : decode cX12_feed 76 = .ok (.putfield 319, 3) := by decide +kernel
theorem dX12_feed_79 : decode cX12_feed 79 = .ok (.iinc 4 1, 3) := by decide +kernel
theorem dX12_feed_82 : decode cX12_feed 82 = .ok (.goto (-37), 3) := by decide +kernel
theorem dX12_feed_85 : decode cX12_feed 85 = .ok (.aload_n 0, 1) := by decide +kernel
theorem dX12_feed_86 : decode cX12_feed 86 = .ok (.invokevirtual 562, 3) := by decide +kernel
theorem dX12_feed_89 : decode cX12_feed 89 = .ok (.aload_n 0, 1) := by decide +kernel
theorem dX12_feed_90 : decode cX12_feed 90 = .ok (.getfield 319, 3) := by decide +kernel
theorem dX12_feed_93 : decode cX12_feed 93 = .ok (.ireturn, 1) := by decide +kernel
theorem dX12_wipe_0 : decode cX12_wipe 0 = .ok (.aload_n 0, 1) := by decide +kernel
theorem dX12_wipe_1 : decode cX12_wipe 1 = .ok (.iconst 0, 1) := by decide +kernel
theorem dX12_wipe_2 : decode cX12_wipe 2 = .ok (.putfield 316, 3) := by decide +kernel
theorem dX12_wipe_5 : decode cX12_wipe 5 = .ok (.aload_n 0, 1) := by decide +kernel
theorem dX12_wipe_6 : decode cX12_wipe 6 = .ok (.getfield 319, 3) := by decide +kernel
theorem dX12_wipe_9 : decode cX12_wipe 9 = .ok (.istore_n 1, 1) := by decide +kernel
theorem dX12_wipe_10 : decode cX12_wipe 10 = .ok (.aload_n 0, 1) := by decide +kernel
theorem dX12_wipe_11 : decode cX12_wipe 11 = .ok (.iconst 0, 1) := by decide +kernel
theorem dX12_wipe_12 : decode cX12_wipe 12 = .ok (.putfield 319, 3) := by decide +kernel
theorem dX12_wipe_15 : decode cX12_wipe 15 = .ok (.aload_n 0, 1) := by decide +kernel
theorem dX12_wipe_16 : decode cX12_wipe 16 = .ok (.invokevirtual 562, 3) := by decide +kernel
theorem dX12_wipe_19 : decode cX12_wipe 19 = .ok (.iload_n 1, 1) := by decide +kernel
theorem dX12_wipe_20 : decode cX12_wipe 20 = .ok (.ireturn, 1) := by decide +kernel
theorem dX12_forget_0 : decode cX12_forget 0 = .ok (.aload_n 0, 1) := by decide +kernel
theorem dX12_forget_1 : decode cX12_forget 1 = .ok (.iconst 0, 1) := by decide +kernel
theorem dX12_forget_2 : decode cX12_forget 2 = .ok (.putfield 565, 3) := by decide +kernel
theorem dX12_forget_5 : decode cX12_forget 5 = .ok (.aload_n 0, 1) := by decide +kernel
theorem dX12_forget_6 : decode cX12_forget 6 = .ok (.iconst 0, 1) := by decide +kernel
theorem dX12_forget_7 : decode cX12_forget 7 = .ok (.putfield 569, 3) := by decide +kernel
theorem dX12_forget_10 : decode cX12_forget 10 = .ok (.aload_n 0, 1) := by decide +kernel
theorem dX12_forget_11 : decode cX12_forget 11 = .ok (.iconst 0, 1) := by decide +kernel
theorem dX12_forget_12 : decode cX12_forget 12 = .ok (.putfield 448, 3) := by decide +kernel
theorem dX12_forget_15 : decode cX12_forget 15 = .ok (.aload_n 0, 1) := by decide +kernel
theorem dX12_forget_16 : decode cX12_forget 16 = .ok (.iconst 0, 1) := by decide +kernel
theorem dX12_forget_17 : decode cX12_forget 17 = .ok (.putfield 458, 3) := by decide +kernel
theorem dX12_forget_20 : decode cX12_forget 20 = .ok (.aload_n 0, 1) := by decide +kernel
theorem dX12_forget_21 : decode cX12_forget 21 = .ok (.iconst 0, 1) := by decide +kernel
theorem dX12_forget_22 : decode cX12_forget 22 = .ok (.putfield 461, 3) := by decide +kernel
theorem dX12_forget_25 : decode cX12_forget 25 = .ok (.aload_n 0, 1) := by decide +kernel
theorem dX12_forget_26 : decode cX12_forget 26 = .ok (.iconst 0, 1) := by decide +kernel
theorem dX12_forget_27 : decode cX12_forget 27 = .ok (.putfield 464, 3) := by decide +kernel
theorem dX12_forget_30 : decode cX12_forget 30 = .ok (.aload_n 0, 1) := by decide +kernel
theorem dX12_forget_31 : decode cX12_forget 31 = .ok (.iconst 0, 1) := by decide +kernel
theorem dX12_forget_32 : decode cX12_forget 32 = .ok (.putfield 467, 3) := by decide +kernel
theorem dX12_forget_35 : decode cX12_forget 35 = .ok (.aload_n 0, 1) := by decide +kernel
theorem dX12_forget_36 : decode cX12_forget 36 = .ok (.getfield 254, 3) := by decide +kernel
theorem dX12_forget_39 : decode cX12_forget 39 = .ok (.iconst 0, 1) := by decide +kernel
theorem dX12_forget_40 : decode cX12_forget 40 = .ok (.iconst 0, 1) := by decide +kernel
theorem dX12_forget_41 : decode cX12_forget 41 = .ok (.bastore, 1) := by decide +kernel
theorem dX12_forget_42 : decode cX12_forget 42 = .ok (.aload_n 0, 1) := by decide +kernel
theorem dX12_forget_43 : decode cX12_forget 43 = .ok (.getfield 254, 3) := by decide +kernel
theorem dX12_forget_46 : decode cX12_forget 46 = .ok (.iconst 1, 1) := by decide +kernel
theorem dX12_forget_47 : decode cX12_forget 47 = .ok (.iconst 0, 1) := by decide +kernel
theorem dX12_forget_48 : decode cX12_forget 48 = .ok (.bastore, 1) := by decide +kernel
theorem dX12_forget_49 : decode cX12_forget 49 = .ok (.return_, 1) := by decide +kernel
theorem dX12_compile_0 : decode cX12_compile 0 = .ok (.aload_n 0, 1) := by decide +kernel
theorem dX12_compile_1 : decode cX12_compile 1 = .ok (.iconst 0, 1) := by decide +kernel
theorem dX12_compile_2 : decode cX12_compile 2 = .ok (.putfield 316, 3) := by decide +kernel
theorem dX12_compile_5 : decode cX12_compile 5 = .ok (.aload_n 0, 1) := by decide +kernel
theorem dX12_compile_6 : decode cX12_compile 6 = .ok (.invokevirtual 562, 3) := by decide +kernel
theorem dX12_compile_9 : decode cX12_compile 9 = .ok (.aload_n 0, 1) := by decide +kernel
theorem dX12_compile_10 : decode cX12_compile 10 = .ok (.iconst (-1), 1) := by decide +kernel
theorem dX12_compile_11 : decode cX12_compile 11 = .ok (.putfield 26, 3) := by decide +kernel
theorem dX12_compile_14 : decode cX12_compile 14 = .ok (.aload_n 0, 1) := by decide +kernel
theorem dX12_compile_15 : decode cX12_compile 15 = .ok (.iconst (-1), 1) := by decide +kernel
theorem dX12_compile_16 : decode cX12_compile 16 = .ok (.putfield 30, 3) := by decide +kernel
theorem dX12_compile_19 : decode cX12_compile 19 = .ok (.aload_n 0, 1) := by decide +kernel
theorem dX12_compile_20 : decode cX12_compile 20 = .ok (.invokevirtual 572, 3) := by decide +kernel
theorem dX12_compile_23 : decode cX12_compile 23 = .ok (.aload_n 0, 1) := by decide +kernel
theorem dX12_compile_24 : decode cX12_compile 24 = .ok (.iconst 0, 1) := by decide +kernel
theorem dX12_compile_25 : decode cX12_compile 25 = .ok (.putfield 372, 3) := by decide +kernel
theorem dX12_compile_28 : decode cX12_compile 28 = .ok (.aload_n 0, 1) := by decide +kernel
theorem dX12_compile_29 : decode cX12_compile 29 = .ok (.iconst 0, 1) := by decide +kernel
theorem dX12_compile_30 : decode cX12_compile 30 = .ok (.putfield 366, 3) := by decide +kernel
theorem dX12_compile_33 : decode cX12_compile 33 = .ok (.aload_n 0, 1) := by decide +kernel
theorem dX12_compile_34 : decode cX12_compile 34 = .ok (.iconst 0, 1) := by decide +kernel
theorem dX12_compile_35 : decode cX12_compile 35 = .ok (.putfield 445, 3) := by decide +kernel
theorem dX12_compile_38 : decode cX12_compile 38 = .ok (.aload_n 0, 1) := by decide +kernel
theorem dX12_compile_39 : decode cX12_compile 39 = .ok (.iconst 0, 1) := by decide +kernel
theorem dX12_compile_40 : decode cX12_compile 40 = .ok (.putfield 363, 3) := by decide +kernel
theorem dX12_compile_43 : decode cX12_compile 43 = .ok (.aload_n 0, 1) := by decide +kernel
theorem dX12_compile_44 : decode cX12_compile 44 = .ok (.iconst 0, 1) := by decide +kernel
theorem dX12_compile_45 : decode cX12_compile 45 = .ok (.putfield 527, 3) := by decide +kernel
theorem dX12_compile_48 : decode cX12_compile 48 = .ok (.aload_n 0, 1) := by decide +kernel
theorem dX12_compile_49 : decode cX12_compile 49 = .ok (.getfield 366, 3) := by decide +kernel
theorem dX12_compile_52 : decode cX12_compile 52 = .ok (.ifCond .ne 17, 3) := by decide +kernel
theorem dX12_compile_55 : decode cX12_compile 55 = .ok (.aload_n 0, 1) := by decide +kernel
theorem dX12_compile_56 : decode cX12_compile 56 = .ok (.invokevirtual 389, 3) := by decide +kernel
theorem dX12_compile_59 : decode cX12_compile 59 = .ok (.ifCond .eq 10, 3) := by decide +kernel
theorem dX12_compile_62 : decode cX12_compile 62 = .ok (.aload_n 0, 1) := by decide +kernel
theorem dX12_compile_63 : decode cX12_compile 63 = .ok (.invokevirtual 575, 3) := by decide +kernel
theorem dX12_compile_66 : decode cX12_compile 66 = .ok (.goto (-18), 3) := by decide +kernel
theorem dX12_compile_69 : decode cX12_compile 69 = .ok (.aload_n 0, 1) := by decide +kernel
theorem dX12_compile_70 : decode cX12_compile 70 = .ok (.getfield 366, 3) := by decide +kernel
theorem dX12_compile_73 : decode cX12_compile 73 = .ok (.ifCond .ne 23, 3) := by decide +kernel
theorem dX12_compile_76 : decode cX12_compile 76 = .ok (.aload_n 0, 1) := by decide +kernel
theorem dX12_compile_77 : decode cX12_compile 77 = .ok (.invokevirtual 578, 3) := by decide +kernel
theorem dX12_compile_80 : decode cX12_compile 80 = .ok (.aload_n 0, 1) := by decide +kernel
theorem dX12_compile_81 : decode cX12_compile 81 = .ok (.aload_n 0, 1) := by decide +kernel
theorem dX12_compile_82 : decode cX12_compile 82 = .ok (.getfield 470, 3) := by decide +kernel
theorem dX12_compile_85 : decode cX12_compile 85 = .ok (.putfield 366, 3) := by decide +kernel
theorem dX12_compile_88 : decode cX12_compile 88 = .ok (.aload_n 0, 1) := by decide +kernel
theorem dX12_compile_89 : decode cX12_compile 89 = .ok (.aload_n 0, 1) := by decide +kernel
theorem dX12_compile_90 : decode cX12_compile 90 = .ok (.getfield 473, 3) := by decide +kernel
theorem dX12_compile_93 : decode cX12_compile 93 = .ok (.putfield 369, 3) := by decide +kernel
theorem dX12_compile_96 : decode cX12_compile 96 = .ok (.aload_n 0, 1) := by decide +kernel
theorem dX12_compile_97 : decode cX12_compile 97 = .ok (.getfield 366, 3) := by decide +kernel
theorem dX12_compile_100 : decode cX12_compile 100 = .ok (.ifCond .le 33, 3) := by decide +kernel
theorem dX12_compile_103 : decode cX12_compile 103 = .ok (.aload_n 0, 1) := by decide +kernel
theorem dX12_compile_104 : decode cX12_compile 104 = .ok (.aload_n 0, 1) := by decide +kernel
theorem dX12_compile_105 : decode cX12_compile 105 = .ok (.getfield 369, 3) := by decide +kernel
theorem dX12_compile_108 : decode cX12_compile 108 = .ok (.putfield 26, 3) := by decide +kernel
theorem dX12_compile_111 : decode cX12_compile 111 = .ok (.aload_n 0, 1) := by decide +kernel
theorem dX12_compile_112 : decode cX12_compile 112 = .ok (.aload_n 0, 1) := by decide +kernel
theorem dX12_compile_113 : decode cX12_compile 113 = .ok (.aload_n 0, 1) := by decide +kernel
theorem dX12_compile_114 : decode cX12_compile 114 = .ok (.getfield 369, 3) := by decide +kernel
theorem dX12_compile_117 : decode cX12_compile 117 = .ok (.invokevirtual 508, 3) := by decide +kernel
theorem dX12_compile_120 : decode cX12_compile 120 = .ok (.putfield 30, 3) := by decide +kernel
theorem dX12_compile_123 : decode cX12_compile 123 = .ok (.aload_n 0, 1) := by decide +kernel
theorem dX12_compile_124 : decode cX12_compile 124 = .ok (.invokevirtual 562, 3) := by decide +kernel
theorem dX12_compile_127 : decode cX12_compile 127 = .ok (.aload_n 0, 1) := by decide +kernel
theorem dX12_compile_128 : decode cX12_compile 128 = .ok (.getfield 366, 3) := by decide +kernel
theorem dX12_compile_131 : decode cX12_compile 131 = .ok (.ineg, 1) := by decide +kernel
theorem dX12_compile_132 : decode cX12_compile 132 = .ok (.ireturn, 1) := by decide +kernel
theorem dX12_compile_133 : decode cX12_compile 133 = .ok (.aload_n 0, 1) := by decide +kernel
theorem dX12_compile_134 : decode cX12_compile 134 = .ok (.iconst 1, 1) := by decide +kernel
theorem dX12_compile_135 : decode cX12_compile 135 = .ok (.putfield 565, 3) := by decide +kernel
theorem dX12_compile_138 : decode cX12_compile 138 = .ok (.aload_n 0, 1) := by decide +kernel
theorem dX12_compile_139 : decode cX12_compile 139 = .ok (.getfield 461, 3) := by decide +kernel
theorem dX12_compile_142 : decode cX12_compile 142 = .ok (.ireturn, 1) := by decide +kernel
theorem dX12_count_0 : decode cX12_count 0 = .ok (.aload_n 0, 1) := by decide +kernel
theorem dX12_count_1 : decode cX12_count 1 = .ok (.iconst 0, 1) := by decide +kernel
theorem dX12_count_2 : decode cX12_count 2 = .ok (.putfield 316, 3) := by decide +kernel
theorem dX12_count_5 : decode cX12_count 5 = .ok (.aload_n 0, 1) := by decide +kernel
theorem dX12_count_6 : decode cX12_count 6 = .ok (.iload_n 1, 1) := by decide +kernel
theorem dX12_count_7 : decode cX12_count 7 = .ok (.iconst 0, 1) := by decide +kernel
theorem dX12_count_8 : decode cX12_count 8 = .ok (.iconst 4, 1) := by decide +kernel
theorem dX12_count_9 : decode cX12_count 9 = .ok (.invokestatic 322, 3) := by decide +kernel
theorem dX12_count_12 : decode cX12_count 12 = .ok (.ifCond .ne 7, 3) := by decide +kernel
theorem dX12_count_15 : decode cX12_count 15 = .ok (.iconst 1, 1) := by decide +kernel
theorem dX12_count_16 : decode cX12_count 16 = .ok (.goto 4, 3) := by decide +kernel
theorem dX12_count_19 : decode cX12_count 19 = .ok (.iconst 0, 1) := by decide +kernel
theorem dX12_count_20 : decode cX12_count 20 = .ok (.iconst 1, 1) := by decide +kernel
theorem dX12_count_21 : decode cX12_count 21 = .ok (.invokevirtual 558, 3) := by decide +kernel
theorem dX12_count_24 : decode cX12_count 24 = .ok (.ifCond .eq 5, 3) := by decide +kernel
theorem dX12_count_27 : decode cX12_count 27 = .ok (.iconst 0, 1) := by decide +kernel
theorem dX12_count_28 : decode cX12_count 28 = .ok (.ireturn, 1) := by decide +kernel
theorem dX12_count_29 : decode cX12_count 29 = .ok (.iload_n 1, 1) := by decide +kernel
theorem dX12_count_30 : decode cX12_count 30 = .ok (.ifCond .ne 10, 3) := by decide +kernel
theorem dX12_count_33 : decode cX12_count 33 = .ok (.aload_n 0, 1) := by decide +kernel
theorem dX12_count_34 : decode cX12_count 34 = .ok (.getfield 448, 3) := by decide +kernel
theorem dX12_count_37 : decode cX12_count 37 = .ok (.goto 43, 3) := by decide +kernel
theorem dX12_count_40 : decode cX12_count 40 = .ok (.iload_n 1, 1) := by decide +kernel
theorem dX12_count_41 : decode cX12_count 41 = .ok (.iconst 1, 1) := by decide +kernel
theorem dX12_count_42 : decode cX12_count 42 = .ok (.if_icmp .ne 10, 3) := by decide +kernel
theorem dX12_count_45 : decode cX12_count 45 = .ok (.aload_n 0, 1) := by decide +kernel
theorem dX12_count_46 : decode cX12_count 46 = .ok (.getfield 458, 3) := by decide +kernel
theorem dX12_count_49 : decode cX12_count 49 = .ok (.goto 31, 3) := by decide +kernel
theorem dX12_count_52 : decode cX12_count 52 = .ok (.iload_n 1, 1) := by decide +kernel
theorem dX12_count_53 : decode cX12_count 53 = .ok (.iconst 2, 1) := by decide +kernel
theorem dX12_count_54 : decode cX12_count 54 = .ok (.if_icmp .ne 10, 3) := by decide +kernel
theorem dX12_count_57 : decode cX12_count 57 = .ok (.aload_n 0, 1) := by decide +kernel
theorem dX12_count_58 : decode cX12_count 58 = .ok (.getfield 461, 3) := by decide +kernel
theorem dX12_count_61 : decode cX12_count 61 = .ok (.goto 19, 3) := by decide +kernel
theorem dX12_count_64 : decode cX12_count 64 = .ok (.iload_n 1, 1) := by decide +kernel
theorem dX12_count_65 : decode cX12_count 65 = .ok (.iconst 3, 1) := by decide +kernel
theorem dX12_count_66 : decode cX12_count 66 = .ok (.if_icmp .ne 10, 3) := by decide +kernel
theorem dX12_count_69 : decode cX12_count 69 = .ok (.aload_n 0, 1) := by decide +kernel
theorem dX12_count_70 : decode cX12_count 70 = .ok (.getfield 464, 3) := by decide +kernel
theorem dX12_count_73 : decode cX12_count 73 = .ok (.goto 7, 3) := by decide +kernel
theorem dX12_count_76 : decode cX12_count 76 = .ok (.aload_n 0, 1) := by decide +kernel
theorem dX12_count_77 : decode cX12_count 77 = .ok (.getfield 467, 3) := by decide +kernel
theorem dX12_count_80 : decode cX12_count 80 = .ok (.ireturn, 1) := by decide +kernel
theorem dX12_one_0 : decode cX12_one 0 = .ok (.iload_n 0, 1) := by decide +kernel
theorem dX12_one_1 : decode cX12_one 1 = .ok (.ifCond .eq 7, 3) := by decide +kernel
theorem dX12_one_4 : decode cX12_one 4 = .ok (.iconst 1, 1) := by decide +kernel
theorem dX12_one_5 : decode cX12_one 5 = .ok (.goto 4, 3) := by decide +kernel
theorem dX12_one_8 : decode cX12_one 8 = .ok (.iconst 0, 1) := by decide +kernel
theorem dX12_one_9 : decode cX12_one 9 = .ok (.ireturn, 1) := by decide +kernel
theorem dX12_noRun_0 : decode cX12_noRun 0 = .ok (.aload_n 0, 1) := by decide +kernel
theorem dX12_noRun_1 : decode cX12_noRun 1 = .ok (.aload_n 0, 1) := by decide +kernel
theorem dX12_noRun_2 : decode cX12_noRun 2 = .ok (.getfield 569, 3) := by decide +kernel
theorem dX12_noRun_5 : decode cX12_noRun 5 = .ok (.ifCond .ne 7, 3) := by decide +kernel
theorem dX12_noRun_8 : decode cX12_noRun 8 = .ok (.iconst 1, 1) := by decide +kernel
theorem dX12_noRun_9 : decode cX12_noRun 9 = .ok (.goto 4, 3) := by decide +kernel
theorem dX12_noRun_12 : decode cX12_noRun 12 = .ok (.iconst 0, 1) := by decide +kernel
theorem dX12_noRun_13 : decode cX12_noRun 13 = .ok (.iconst 1, 1) := by decide +kernel
theorem dX12_noRun_14 : decode cX12_noRun 14 = .ok (.invokevirtual 558, 3) := by decide +kernel
theorem dX12_noRun_17 : decode cX12_noRun 17 = .ok (.ireturn, 1) := by decide +kernel
theorem dX12_begin_0 : decode cX12_begin 0 = .ok (.aload_n 0, 1) := by decide +kernel
theorem dX12_begin_1 : decode cX12_begin 1 = .ok (.iconst 0, 1) := by decide +kernel
theorem dX12_begin_2 : decode cX12_begin 2 = .ok (.putfield 316, 3) := by decide +kernel
theorem dX12_begin_5 : decode cX12_begin 5 = .ok (.aload_n 0, 1) := by decide +kernel
theorem dX12_begin_6 : decode cX12_begin 6 = .ok (.aload_n 0, 1) := by decide +kernel
theorem dX12_begin_7 : decode cX12_begin 7 = .ok (.getfield 565, 3) := by decide +kernel
theorem dX12_begin_10 : decode cX12_begin 10 = .ok (.ifCond .ne 7, 3) := by decide +kernel
theorem dX12_begin_13 : decode cX12_begin 13 = .ok (.iconst 1, 1) := by decide +kernel
theorem dX12_begin_14 : decode cX12_begin 14 = .ok (.goto 4, 3) := by decide +kernel
theorem dX12_begin_17 : decode cX12_begin 17 = .ok (.iconst 0, 1) := by decide +kernel
theorem dX12_begin_18 : decode cX12_begin 18 = .ok (.iconst 1, 1) := by decide +kernel
theorem dX12_begin_19 : decode cX12_begin 19 = .ok (.invokevirtual 558, 3) := by decide +kernel
theorem dX12_begin_22 : decode cX12_begin 22 = .ok (.ifCond .ne 25, 3) := by decide +kernel
theorem dX12_begin_25 : decode cX12_begin 25 = .ok (.aload_n 0, 1) := by decide +kernel
theorem dX12_begin_26 : decode cX12_begin 26 = .ok (.iload_n 1, 1) := by decide +kernel
theorem dX12_begin_27 : decode cX12_begin 27 = .ok (.iconst 0, 1) := by decide +kernel
theorem dX12_begin_28 : decode cX12_begin 28 = .ok (.iconst 1, 1) := by decide +kernel
theorem dX12_begin_29 : decode cX12_begin 29 = .ok (.invokestatic 322, 3) := by decide +kernel
theorem dX12_begin_32 : decode cX12_begin 32 = .ok (.ifCond .ne 7, 3) := by decide +kernel
theorem dX12_begin_35 : decode cX12_begin 35 = .ok (.iconst 1, 1) := by decide +kernel
theorem dX12_begin_36 : decode cX12_begin 36 = .ok (.goto 4, 3) := by decide +kernel
theorem dX12_begin_39 : decode cX12_begin 39 = .ok (.iconst 0, 1) := by decide +kernel
theorem dX12_begin_40 : decode cX12_begin 40 = .ok (.iconst 2, 1) := by decide +kernel
theorem dX12_begin_41 : decode cX12_begin 41 = .ok (.invokevirtual 558, 3) := by decide +kernel
theorem dX12_begin_44 : decode cX12_begin 44 = .ok (.ifCond .eq 5, 3) := by decide +kernel
theorem dX12_begin_47 : decode cX12_begin 47 = .ok (.iconst 0, 1) := by decide +kernel
theorem dX12_begin_48 : decode cX12_begin 48 = .ok (.ireturn, 1) := by decide +kernel
theorem dX12_begin_49 : decode cX12_begin 49 = .ok (.aload_n 0, 1) := by decide +kernel
theorem dX12_begin_50 : decode cX12_begin 50 = .ok (.iload_n 1, 1) := by decide +kernel
theorem dX12_begin_51 : decode cX12_begin 51 = .ok (.invokevirtual 677, 3) := by decide +kernel
theorem dX12_begin_54 : decode cX12_begin 54 = .ok (.aload_n 0, 1) := by decide +kernel
theorem dX12_begin_55 : decode cX12_begin 55 = .ok (.getfield 611, 3) := by decide +kernel
theorem dX12_begin_58 : decode cX12_begin 58 = .ok (.ireturn, 1) := by decide +kernel
theorem dX12_choices_0 : decode cX12_choices 0 = .ok (.aload_n 0, 1) := by decide +kernel
theorem dX12_choices_1 : decode cX12_choices 1 = .ok (.iconst 0, 1) := by decide +kernel
theorem dX12_choices_2 : decode cX12_choices 2 = .ok (.putfield 316, 3) := by decide +kernel
theorem dX12_choices_5 : decode cX12_choices 5 = .ok (.aload_n 0, 1) := by decide +kernel
theorem dX12_choices_6 : decode cX12_choices 6 = .ok (.invokevirtual 680, 3) := by decide +kernel
theorem dX12_choices_9 : decode cX12_choices 9 = .ok (.ifCond .eq 7, 3) := by decide +kernel
theorem dX12_choices_12 : decode cX12_choices 12 = .ok (.iconst 0, 1) := by decide +kernel
theorem dX12_choices_13 : decode cX12_choices 13 = .ok (.goto 7, 3) := by decide +kernel
theorem dX12_choices_16 : decode cX12_choices 16 = .ok (.aload_n 0, 1) := by decide +kernel
theorem dX12_choices_17 : decode cX12_choices 17 = .ok (.getfield 611, 3) := by decide +kernel
theorem dX12_choices_20 : decode cX12_choices 20 = .ok (.ireturn, 1) := by decide +kernel
theorem dX12_choice_0 : decode cX12_choice 0 = .ok (.aload_n 0, 1) := by decide +kernel
theorem dX12_choice_1 : decode cX12_choice 1 = .ok (.iconst 0, 1) := by decide +kernel
theorem dX12_choice_2 : decode cX12_choice 2 = .ok (.putfield 316, 3) := by decide +kernel
theorem dX12_choice_5 : decode cX12_choice 5 = .ok (.aload_n 0, 1) := by decide +kernel
theorem dX12_choice_6 : decode cX12_choice 6 = .ok (.invokevirtual 680, 3) := by decide +kernel
theorem dX12_choice_9 : decode cX12_choice 9 = .ok (.ifCond .ne 39, 3) := by decide +kernel
theorem dX12_choice_12 : decode cX12_choice 12 = .ok (.aload_n 0, 1) := by decide +kernel
theorem dX12_choice_13 : decode cX12_choice 13 = .ok (.iload_n 1, 1) := by decide +kernel
theorem dX12_choice_14 : decode cX12_choice 14 = .ok (.iconst 0, 1) := by decide +kernel
theorem dX12_choice_15 : decode cX12_choice 15 = .ok (.aload_n 0, 1) := by decide +kernel
theorem dX12_choice_16 : decode cX12_choice 16 = .ok (.getfield 611, 3) := by decide +kernel
theorem dX12_choice_19 : decode cX12_choice 19 = .ok (.iconst 1, 1) := by decide +kernel
theorem dX12_choice_20 : decode cX12_choice 20 = .ok (.isub, 1) := by decide +kernel
theorem dX12_choice_21 : decode cX12_choice 21 = .ok (.invokestatic 322, 3) := by decide +kernel
theorem dX12_choice_24 : decode cX12_choice 24 = .ok (.ifCond .eq 12, 3) := by decide +kernel
theorem dX12_choice_27 : decode cX12_choice 27 = .ok (.iload_n 2, 1) := by decide +kernel
theorem dX12_choice_28 : decode cX12_choice 28 = .ok (.iconst 0, 1) := by decide +kernel
theorem dX12_choice_29 : decode cX12_choice 29 = .ok (.iconst 4, 1) := by decide +kernel
theorem dX12_choice_30 : decode cX12_choice 30 = .ok (.invokestatic 322, 3) := by decide +kernel
theorem dX12_choice_33 : decode cX12_choice 33 = .ok (.ifCond .ne 7, 3) := by decide +kernel
theorem dX12_choice_36 : decode cX12_choice 36 = .ok (.iconst 1, 1) := by decide +kernel
theorem dX12_choice_37 : decode cX12_choice 37 = .ok (.goto 4, 3) := by decide +kernel
theorem dX12_choice_40 : decode cX12_choice 40 = .ok (.iconst 0, 1) := by decide +kernel
theorem dX12_choice_41 : decode cX12_choice 41 = .ok (.iconst 2, 1) := by decide +kernel
theorem dX12_choice_42 : decode cX12_choice 42 = .ok (.invokevirtual 558, 3) := by decide +kernel
theorem dX12_choice_45 : decode cX12_choice 45 = .ok (.ifCond .eq 5, 3) := by decide +kernel
theorem dX12_choice_48 : decode cX12_choice 48 = .ok (.iconst 0, 1) := by decide +kernel
theorem dX12_choice_49 : decode cX12_choice 49 = .ok (.ireturn, 1) := by decide +kernel
theorem dX12_choice_50 : decode cX12_choice 50 = .ok (.aload_n 0, 1) := by decide +kernel
theorem dX12_choice_51 : decode cX12_choice 51 = .ok (.getfield 184, 3) := by decide +kernel
theorem dX12_choice_54 : decode cX12_choice 54 = .ok (.iload_n 1, 1) := by decide +kernel
theorem dX12_choice_55 : decode cX12_choice 55 = .ok (.iaload, 1) := by decide +kernel
theorem dX12_choice_56 : decode cX12_choice 56 = .ok (.istore_n 3, 1) := by decide +kernel
theorem dX12_choice_57 : decode cX12_choice 57 = .ok (.aload_n 0, 1) := by decide +kernel
theorem dX12_choice_58 : decode cX12_choice 58 = .ok (.getfield 187, 3) := by decide +kernel
theorem dX12_choice_61 : decode cX12_choice 61 = .ok (.iload_n 1, 1) := by decide +kernel
theorem dX12_choice_62 : decode cX12_choice 62 = .ok (.iaload, 1) := by decide +kernel
theorem dX12_choice_63 : decode cX12_choice 63 = .ok (.istore 4, 2) := by decide +kernel
theorem dX12_choice_65 : decode cX12_choice 65 = .ok (.iload_n 2, 1) := by decide +kernel
theorem dX12_choice_66 : decode cX12_choice 66 = .ok (.ifCond .ne 5, 3) := by decide +kernel
theorem dX12_choice_69 : decode cX12_choice 69 = .ok (.iload_n 3, 1) := by decide +kernel
theorem dX12_choice_70 : decode cX12_choice 70 = .ok (.ireturn, 1) := by decide +kernel
theorem dX12_choice_71 : decode cX12_choice 71 = .ok (.iload 4, 2) := by decide +kernel
theorem dX12_choice_73 : decode cX12_choice 73 = .ok (.iconst (-1), 1) := by decide +kernel
theorem dX12_choice_74 : decode cX12_choice 74 = .ok (.if_icmp .eq 39, 3) := by decide +kernel
theorem dX12_choice_77 : decode cX12_choice 77 = .ok (.iload_n 2, 1) := by decide +kernel
theorem dX12_choice_78 : decode cX12_choice 78 = .ok (.iconst 1, 1) := by decide +kernel
theorem dX12_choice_79 : decode cX12_choice 79 = .ok (.if_icmp .eq 8, 3) := by decide +kernel
theorem dX12_choice_82 : decode cX12_choice 82 = .ok (.iload_n 2, 1) := by decide +kernel
theorem dX12_choice_83 : decode cX12_choice 83 = .ok (.iconst 2, 1) := by decide +kernel
theorem dX12_choice_84 : decode cX12_choice 84 = .ok (.if_icmp .ne 7, 3) := by decide +kernel
theorem dX12_choice_87 : decode cX12_choice 87 = .ok (.iconst 1, 1) := by decide +kernel
theorem dX12_choice_88 : decode cX12_choice 88 = .ok (.goto 24, 3) := by decide +kernel
theorem dX12_choice_91 : decode cX12_choice 91 = .ok (.iload_n 2, 1) := by decide +kernel
theorem dX12_choice_92 : decode cX12_choice 92 = .ok (.iconst 3, 1) := by decide +kernel
theorem dX12_choice_93 : decode cX12_choice 93 = .ok (.if_icmp .ne 18, 3) := by decide +kernel
theorem dX12_choice_96 : decode cX12_choice 96 = .ok (.aload_n 0, 1) := by decide +kernel
theorem dX12_choice_97 : decode cX12_choice 97 = .ok (.getfield 175, 3) := by decide +kernel
theorem dX12_choice_100 : decode cX12_choice 100 = .ok (.bipush 10, 2) := by decide +kernel
theorem dX12_choice_102 : decode cX12_choice 102 = .ok (.iload_n 3, 1) := by decide +kernel
theorem dX12_choice_103 : decode cX12_choice 103 = .ok (.imul, 1) := by decide +kernel
theorem dX12_choice_104 : decode cX12_choice 104 = .ok (.iload 4, 2) := by decide +kernel
theorem dX12_choice_106 : decode cX12_choice 106 = .ok (.iadd, 1) := by decide +kernel
theorem dX12_choice_107 : decode cX12_choice 107 = .ok (.iaload, 1) := by decide +kernel
theorem dX12_choice_108 : decode cX12_choice 108 = .ok (.goto 4, 3) := by decide +kernel
theorem dX12_choice_111 : decode cX12_choice 111 = .ok (.iconst (-1), 1) := by decide +kernel
theorem dX12_choice_112 : decode cX12_choice 112 = .ok (.ireturn, 1) := by decide +kernel
theorem dX12_choice_113 : decode cX12_choice 113 = .ok (.iload_n 2, 1) := by decide +kernel
theorem dX12_choice_114 : decode cX12_choice 114 = .ok (.iconst 3, 1) := by decide +kernel
theorem dX12_choice_115 : decode cX12_choice 115 = .ok (.if_icmp .ne 13, 3) := by decide +kernel
theorem dX12_choice_118 : decode cX12_choice 118 = .ok (.aload_n 0, 1) := by decide +kernel
theorem dX12_choice_119 : decode cX12_choice 119 = .ok (.iload_n 3, 1) := by decide +kernel
theorem dX12_choice_120 : decode cX12_choice 120 = .ok (.invokevirtual 632, 3) := by decide +kernel
theorem dX12_choice_123 : decode cX12_choice 123 = .ok (.aload_n 0, 1) := by decide +kernel
theorem dX12_choice_124 : decode cX12_choice 124 = .ok (.getfield 623, 3) := by decide +kernel
theorem dX12_choice_127 : decode cX12_choice 127 = .ok (.ireturn, 1) := by decide +kernel
theorem dX12_choice_128 : decode cX12_choice 128 = .ok (.iload_n 2, 1) := by decide +kernel
theorem dX12_choice_129 : decode cX12_choice 129 = .ok (.iconst 1, 1) := by decide +kernel
theorem dX12_choice_130 : decode cX12_choice 130 = .ok (.if_icmp .ne 7, 3) := by decide +kernel
theorem dX12_choice_133 : decode cX12_choice 133 = .ok (.iconst 0, 1) := by decide +kernel
theorem dX12_choice_134 : decode cX12_choice 134 = .ok (.goto 22, 3) := by decide +kernel
theorem dX12_choice_137 : decode cX12_choice 137 = .ok (.iload_n 2, 1) := by decide +kernel
theorem dX12_choice_138 : decode cX12_choice 138 = .ok (.iconst 2, 1) := by decide +kernel
theorem dX12_choice_139 : decode cX12_choice 139 = .ok (.if_icmp .ne 11, 3) := by decide +kernel
theorem dX12_choice_142 : decode cX12_choice 142 = .ok (.aload_n 0, 1) := by decide +kernel
theorem dX12_choice_143 : decode cX12_choice 143 = .ok (.iload_n 3, 1) := by decide +kernel
theorem dX12_choice_144 : decode cX12_choice 144 = .ok (.invokevirtual 602, 3) := by decide +kernel
theorem dX12_choice_147 : decode cX12_choice 147 = .ok (.goto 9, 3) := by decide +kernel
theorem dX12_choice_150 : decode cX12_choice 150 = .ok (.aload_n 0, 1) := by decide +kernel
theorem dX12_choice_151 : decode cX12_choice 151 = .ok (.getfield 190, 3) := by decide +kernel
theorem dX12_choice_154 : decode cX12_choice 154 = .ok (.iload_n 1, 1) := by decide +kernel
theorem dX12_choice_155 : decode cX12_choice 155 = .ok (.iaload, 1) := by decide +kernel
theorem dX12_choice_156 : decode cX12_choice 156 = .ok (.ireturn, 1) := by decide +kernel
theorem dX12_go_0 : decode cX12_go 0 = .ok (.aload_n 0, 1) := by decide +kernel
theorem dX12_go_1 : decode cX12_go 1 = .ok (.iconst 0, 1) := by decide +kernel
theorem dX12_go_2 : decode cX12_go 2 = .ok (.putfield 316, 3) := by decide +kernel
theorem dX12_go_5 : decode cX12_go 5 = .ok (.aload_n 0, 1) := by decide +kernel
theorem dX12_go_6 : decode cX12_go 6 = .ok (.invokevirtual 680, 3) := by decide +kernel
theorem dX12_go_9 : decode cX12_go 9 = .ok (.ifCond .ne 53, 3) := by decide +kernel
theorem dX12_go_12 : decode cX12_go 12 = .ok (.aload_n 0, 1) := by decide +kernel
theorem dX12_go_13 : decode cX12_go 13 = .ok (.aload_n 0, 1) := by decide +kernel
theorem dX12_go_14 : decode cX12_go 14 = .ok (.getfield 644, 3) := by decide +kernel
theorem dX12_go_17 : decode cX12_go 17 = .ok (.sipush 400, 3) := by decide +kernel
theorem dX12_go_20 : decode cX12_go 20 = .ok (.if_icmp .ne 7, 3) := by decide +kernel
theorem dX12_go_23 : decode cX12_go 23 = .ok (.iconst 1, 1) := by decide +kernel
theorem dX12_go_24 : decode cX12_go 24 = .ok (.goto 4, 3) := by decide +kernel
theorem dX12_go_27 : decode cX12_go 27 = .ok (.iconst 0, 1) := by decide +kernel
theorem dX12_go_28 : decode cX12_go 28 = .ok (.iconst 1, 1) := by decide +kernel
theorem dX12_go_29 : decode cX12_go 29 = .ok (.invokevirtual 558, 3) := by decide +kernel
theorem dX12_go_32 : decode cX12_go 32 = .ok (.ifCond .ne 30, 3) := by decide +kernel
theorem dX12_go_35 : decode cX12_go 35 = .ok (.aload_n 0, 1) := by decide +kernel
theorem dX12_go_36 : decode cX12_go 36 = .ok (.iload_n 1, 1) := by decide +kernel
theorem dX12_go_37 : decode cX12_go 37 = .ok (.iconst 0, 1) := by decide +kernel
theorem dX12_go_38 : decode cX12_go 38 = .ok (.aload_n 0, 1) := by decide +kernel
theorem dX12_go_39 : decode cX12_go 39 = .ok (.getfield 611, 3) := by decide +kernel
theorem dX12_go_42 : decode cX12_go 42 = .ok (.iconst 1, 1) := by decide +kernel
theorem dX12_go_43 : decode cX12_go 43 = .ok (.isub, 1) := by decide +kernel
theorem dX12_go_44 : decode cX12_go 44 = .ok (.invokestatic 322, 3) := by decide +kernel
theorem dX12_go_47 : decode cX12_go 47 = .ok (.ifCond .ne 7, 3) := by decide +kernel
theorem dX12_go_50 : decode cX12_go 50 = .ok (.iconst 1, 1) := by decide +kernel
theorem dX12_go_51 : decode cX12_go 51 = .ok (.goto 4, 3) := by decide +kernel
theorem dX12_go_54 : decode cX12_go 54 = .ok (.iconst 0, 1) := by decide +kernel
theorem dX12_go_55 : decode cX12_go 55 = .ok (.iconst 2, 1) := by decide +kernel
theorem dX12_go_56 : decode cX12_go 56 = .ok (.invokevirtual 558, 3) := by decide +kernel
theorem dX12_go_59 : decode cX12_go 59 = .ok (.ifCond .eq 5, 3) := by decide +kernel
theorem dX12_go_62 : decode cX12_go 62 = .ok (.iconst 0, 1) := by decide +kernel
theorem dX12_go_63 : decode cX12_go 63 = .ok (.ireturn, 1) := by decide +kernel
theorem dX12_go_64 : decode cX12_go 64 = .ok (.aload_n 0, 1) := by decide +kernel
theorem dX12_go_65 : decode cX12_go 65 = .ok (.iload_n 1, 1) := by decide +kernel
theorem dX12_go_66 : decode cX12_go 66 = .ok (.invokevirtual 683, 3) := by decide +kernel
theorem dX12_go_69 : decode cX12_go 69 = .ok (.aload_n 0, 1) := by decide +kernel
theorem dX12_go_70 : decode cX12_go 70 = .ok (.getfield 611, 3) := by decide +kernel
theorem dX12_go_73 : decode cX12_go 73 = .ok (.ireturn, 1) := by decide +kernel
theorem dX12_draw_0 : decode cX12_draw 0 = .ok (.aload_n 0, 1) := by decide +kernel
theorem dX12_draw_1 : decode cX12_draw 1 = .ok (.iconst 0, 1) := by decide +kernel
theorem dX12_draw_2 : decode cX12_draw 2 = .ok (.putfield 316, 3) := by decide +kernel
theorem dX12_draw_5 : decode cX12_draw 5 = .ok (.aload_n 0, 1) := by decide +kernel
theorem dX12_draw_6 : decode cX12_draw 6 = .ok (.invokevirtual 680, 3) := by decide +kernel
theorem dX12_draw_9 : decode cX12_draw 9 = .ok (.ifCond .ne 27, 3) := by decide +kernel
theorem dX12_draw_12 : decode cX12_draw 12 = .ok (.aload_n 0, 1) := by decide +kernel
theorem dX12_draw_13 : decode cX12_draw 13 = .ok (.iload_n 2, 1) := by decide +kernel
theorem dX12_draw_14 : decode cX12_draw 14 = .ok (.iconst 0, 1) := by decide +kernel
theorem dX12_draw_15 : decode cX12_draw 15 = .ok (.sipush 400, 3) := by decide +kernel
theorem dX12_draw_18 : decode cX12_draw 18 = .ok (.invokestatic 322, 3) := by decide +kernel
theorem dX12_draw_21 : decode cX12_draw 21 = .ok (.ifCond .ne 7, 3) := by decide +kernel
theorem dX12_draw_24 : decode cX12_draw 24 = .ok (.iconst 1, 1) := by decide +kernel
theorem dX12_draw_25 : decode cX12_draw 25 = .ok (.goto 4, 3) := by decide +kernel
theorem dX12_draw_28 : decode cX12_draw 28 = .ok (.iconst 0, 1) := by decide +kernel
theorem dX12_draw_29 : decode cX12_draw 29 = .ok (.iconst 2, 1) := by decide +kernel
theorem dX12_draw_30 : decode cX12_draw 30 = .ok (.invokevirtual 558, 3) := by decide +kernel
theorem dX12_draw_33 : decode cX12_draw 33 = .ok (.ifCond .eq 5, 3) := by decide +kernel
theorem dX12_draw_36 : decode cX12_draw 36 = .ok (.iconst 0, 1) := by decide +kernel
theorem dX12_draw_37 : decode cX12_draw 37 = .ok (.ireturn, 1) := by decide +kernel
theorem dX12_draw_38 : decode cX12_draw 38 = .ok (.iload_n 1, 1) := by decide +kernel
theorem dX12_draw_39 : decode cX12_draw 39 = .ok (.istore_n 3, 1) := by decide +kernel
theorem dX12_draw_40 : decode cX12_draw 40 = .ok (.iconst 0, 1) := by decide +kernel
theorem dX12_draw_41 : decode cX12_draw 41 = .ok (.istore 4, 2) := by decide +kernel
theorem dX12_draw_43 : decode cX12_draw 43 = .ok (.iload 4, 2) := by decide +kernel
theorem dX12_draw_45 : decode cX12_draw 45 = .ok (.iload_n 2, 1) := by decide +kernel
theorem dX12_draw_46 : decode cX12_draw 46 = .ok (.if_icmp .ge 53, 3) := by decide +kernel
theorem dX12_draw_49 : decode cX12_draw 49 = .ok (.aload_n 0, 1) := by decide +kernel
theorem dX12_draw_50 : decode cX12_draw 50 = .ok (.getfield 611, 3) := by decide +kernel
theorem dX12_draw_53 : decode cX12_draw 53 = .ok (.ifCond .le 46, 3) := by decide +kernel
theorem dX12_draw_56 : decode cX12_draw 56 = .ok (.aload_n 0, 1) := by decide +kernel
theorem dX12_draw_57 : decode cX12_draw 57 = .ok (.getfield 644, 3) := by decide +kernel
theorem dX12_draw_60 : decode cX12_draw 60 = .ok (.sipush 400, 3) := by decide +kernel
theorem dX12_draw_63 : decode cX12_draw 63 = .ok (.if_icmp .ge 36, 3) := by decide +kernel
theorem dX12_draw_66 : decode cX12_draw 66 = .ok (.iload_n 3, 1) := by decide +kernel
theorem dX12_draw_67 : decode cX12_draw 67 = .ok (.ldc_w 686, 3) := by decide +kernel
theorem dX12_draw_70 : decode cX12_draw 70 = .ok (.imul, 1) := by decide +kernel
theorem dX12_draw_71 : decode cX12_draw 71 = .ok (.sipush 12345, 3) := by decide +kernel
theorem dX12_draw_74 : decode cX12_draw 74 = .ok (.iadd, 1) := by decide +kernel
theorem dX12_draw_75 : decode cX12_draw 75 = .ok (.istore_n 3, 1) := by decide +kernel
theorem dX12_draw_76 : decode cX12_draw 76 = .ok (.aload_n 0, 1) := by decide +kernel
theorem dX12_draw_77 : decode cX12_draw 77 = .ok (.iload_n 3, 1) := by decide +kernel
theorem dX12_draw_78 : decode cX12_draw 78 = .ok (.bipush 16, 2) := by decide +kernel
theorem dX12_draw_80 : decode cX12_draw 80 = .ok (.ishr, 1) := by decide +kernel
theorem dX12_draw_81 : decode cX12_draw 81 = .ok (.sipush 32767, 3) := by decide +kernel
theorem dX12_draw_84 : decode cX12_draw 84 = .ok (.iand, 1) := by decide +kernel
theorem dX12_draw_85 : decode cX12_draw 85 = .ok (.aload_n 0, 1) := by decide +kernel
theorem dX12_draw_86 : decode cX12_draw 86 = .ok (.getfield 611, 3) := by decide +kernel
theorem dX12_draw_89 : decode cX12_draw 89 = .ok (.irem, 1) := by decide +kernel
theorem dX12_draw_90 : decode cX12_draw 90 = .ok (.invokevirtual 683, 3) := by decide +kernel
theorem dX12_draw_93 : decode cX12_draw 93 = .ok (.iinc 4 1, 3) := by decide +kernel
theorem dX12_draw_96 : decode cX12_draw 96 = .ok (.goto (-53), 3) := by decide +kernel
theorem dX12_draw_99 : decode cX12_draw 99 = .ok (.iload 4, 2) := by decide +kernel
theorem dX12_draw_101 : decode cX12_draw 101 = .ok (.ireturn, 1) := by decide +kernel
theorem dX12_again_0 : decode cX12_again 0 = .ok (.aload_n 0, 1) := by decide +kernel
theorem dX12_again_1 : decode cX12_again 1 = .ok (.iconst 0, 1) := by decide +kernel
theorem dX12_again_2 : decode cX12_again 2 = .ok (.putfield 316, 3) := by decide +kernel
theorem dX12_again_5 : decode cX12_again 5 = .ok (.aload_n 0, 1) := by decide +kernel
theorem dX12_again_6 : decode cX12_again 6 = .ok (.invokevirtual 680, 3) := by decide +kernel
theorem dX12_again_9 : decode cX12_again 9 = .ok (.ifCond .ne 28, 3) := by decide +kernel
theorem dX12_again_12 : decode cX12_again 12 = .ok (.aload_n 0, 1) := by decide +kernel
theorem dX12_again_13 : decode cX12_again 13 = .ok (.iload_n 1, 1) := by decide +kernel
theorem dX12_again_14 : decode cX12_again 14 = .ok (.iconst 0, 1) := by decide +kernel
theorem dX12_again_15 : decode cX12_again 15 = .ok (.aload_n 0, 1) := by decide +kernel
theorem dX12_again_16 : decode cX12_again 16 = .ok (.getfield 644, 3) := by decide +kernel
theorem dX12_again_19 : decode cX12_again 19 = .ok (.invokestatic 322, 3) := by decide +kernel
theorem dX12_again_22 : decode cX12_again 22 = .ok (.ifCond .ne 7, 3) := by decide +kernel
theorem dX12_again_25 : decode cX12_again 25 = .ok (.iconst 1, 1) := by decide +kernel
theorem dX12_again_26 : decode cX12_again 26 = .ok (.goto 4, 3) := by decide +kernel
theorem dX12_again_29 : decode cX12_again 29 = .ok (.iconst 0, 1) := by decide +kernel
theorem dX12_again_30 : decode cX12_again 30 = .ok (.iconst 2, 1) := by decide +kernel
theorem dX12_again_31 : decode cX12_again 31 = .ok (.invokevirtual 558, 3) := by decide +kernel
theorem dX12_again_34 : decode cX12_again 34 = .ok (.ifCond .eq 5, 3) := by decide +kernel
theorem dX12_again_37 : decode cX12_again 37 = .ok (.iconst 0, 1) := by decide +kernel
theorem dX12_again_38 : decode cX12_again 38 = .ok (.ireturn, 1) := by decide +kernel
theorem dX12_again_39 : decode cX12_again 39 = .ok (.aload_n 0, 1) := by decide +kernel
theorem dX12_again_40 : decode cX12_again 40 = .ok (.aload_n 0, 1) := by decide +kernel
theorem dX12_again_41 : decode cX12_again 41 = .ok (.getfield 608, 3) := by decide +kernel
theorem dX12_again_44 : decode cX12_again 44 = .ok (.invokevirtual 677, 3) := by decide +kernel
theorem dX12_again_47 : decode cX12_again 47 = .ok (.iconst 0, 1) := by decide +kernel
theorem dX12_again_48 : decode cX12_again 48 = .ok (.istore_n 2, 1) := by decide +kernel
theorem dX12_again_49 : decode cX12_again 49 = .ok (.iload_n 2, 1) := by decide +kernel
theorem dX12_again_50 : decode cX12_again 50 = .ok (.iload_n 1, 1) := by decide +kernel
theorem dX12_again_51 : decode cX12_again 51 = .ok (.if_icmp .ge 19, 3) := by decide +kernel
theorem dX12_again_54 : decode cX12_again 54 = .ok (.aload_n 0, 1) := by decide +kernel
theorem dX12_again_55 : decode cX12_again 55 = .ok (.aload_n 0, 1) := by decide +kernel
theorem dX12_again_56 : decode cX12_again 56 = .ok (.getfield 193, 3) := by decide +kernel
theorem dX12_again_59 : decode cX12_again 59 = .ok (.iload_n 2, 1) := by decide +kernel
theorem dX12_again_60 : decode cX12_again 60 = .ok (.iaload, 1) := by decide +kernel
theorem dX12_again_61 : decode cX12_again 61 = .ok (.invokevirtual 683, 3) := by decide +kernel
theorem dX12_again_64 : decode cX12_again 64 = .ok (.iinc 2 1, 3) := by decide +kernel
theorem dX12_again_67 : decode cX12_again 67 = .ok (.goto (-18), 3) := by decide +kernel
theorem dX12_again_70 : decode cX12_again 70 = .ok (.aload_n 0, 1) := by decide +kernel
theorem dX12_again_71 : decode cX12_again 71 = .ok (.getfield 611, 3) := by decide +kernel
theorem dX12_again_74 : decode cX12_again 74 = .ok (.ireturn, 1) := by decide +kernel
theorem dX12_run_0 : decode cX12_run 0 = .ok (.aload_n 0, 1) := by decide +kernel
theorem dX12_run_1 : decode cX12_run 1 = .ok (.iconst 0, 1) := by decide +kernel
theorem dX12_run_2 : decode cX12_run 2 = .ok (.putfield 316, 3) := by decide +kernel
theorem dX12_run_5 : decode cX12_run 5 = .ok (.aload_n 0, 1) := by decide +kernel
theorem dX12_run_6 : decode cX12_run 6 = .ok (.invokevirtual 680, 3) := by decide +kernel
theorem dX12_run_9 : decode cX12_run 9 = .ok (.ifCond .ne 26, 3) := by decide +kernel
theorem dX12_run_12 : decode cX12_run 12 = .ok (.aload_n 0, 1) := by decide +kernel
theorem dX12_run_13 : decode cX12_run 13 = .ok (.iload_n 1, 1) := by decide +kernel
theorem dX12_run_14 : decode cX12_run 14 = .ok (.iconst 0, 1) := by decide +kernel
theorem dX12_run_15 : decode cX12_run 15 = .ok (.bipush 7, 2) := by decide +kernel
theorem dX12_run_17 : decode cX12_run 17 = .ok (.invokestatic 322, 3) := by decide +kernel
theorem dX12_run_20 : decode cX12_run 20 = .ok (.ifCond .ne 7, 3) := by decide +kernel
theorem dX12_run_23 : decode cX12_run 23 = .ok (.iconst 1, 1) := by decide +kernel
theorem dX12_run_24 : decode cX12_run 24 = .ok (.goto 4, 3) := by decide +kernel
theorem dX12_run_27 : decode cX12_run 27 = .ok (.iconst 0, 1) := by decide +kernel
theorem dX12_run_28 : decode cX12_run 28 = .ok (.iconst 2, 1) := by decide +kernel
theorem dX12_run_29 : decode cX12_run 29 = .ok (.invokevirtual 558, 3) := by decide +kernel
theorem dX12_run_32 : decode cX12_run 32 = .ok (.ifCond .eq 5, 3) := by decide +kernel
theorem dX12_run_35 : decode cX12_run 35 = .ok (.iconst 0, 1) := by decide +kernel
theorem dX12_run_36 : decode cX12_run 36 = .ok (.ireturn, 1) := by decide +kernel
theorem dX12_run_37 : decode cX12_run 37 = .ok (.iconst 0, 1) := by decide +kernel
theorem dX12_run_38 : decode cX12_run 38 = .ok (.istore_n 2, 1) := by decide +kernel
theorem dX12_run_39 : decode cX12_run 39 = .ok (.iload_n 1, 1) := by decide +kernel
theorem dX12_run_40 : decode cX12_run 40 = .ok (.tableswitch 178 0 6 #[44, 49, 54, 59, 75, 83, 129], 44) := by decide +kernel
theorem dX12_run_84 : decode cX12_run 84 = .ok (.aload_n 0, 1) := by decide +kernel
theorem dX12_run_85 : decode cX12_run 85 = .ok (.getfield 608, 3) := by decide +kernel
theorem dX12_run_88 : decode cX12_run 88 = .ok (.ireturn, 1) := by decide +kernel
theorem dX12_run_89 : decode cX12_run 89 = .ok (.aload_n 0, 1) := by decide +kernel
theorem dX12_run_90 : decode cX12_run 90 = .ok (.getfield 644, 3) := by decide +kernel
theorem dX12_run_93 : decode cX12_run 93 = .ok (.ireturn, 1) := by decide +kernel
theorem dX12_run_94 : decode cX12_run 94 = .ok (.aload_n 0, 1) := by decide +kernel
theorem dX12_run_95 : decode cX12_run 95 = .ok (.getfield 647, 3) := by decide +kernel
theorem dX12_run_98 : decode cX12_run 98 = .ok (.ireturn, 1) := by decide +kernel
theorem dX12_run_99 : decode cX12_run 99 = .ok (.aload_n 0, 1) := by decide +kernel
theorem dX12_run_100 : decode cX12_run 100 = .ok (.getfield 611, 3) := by decide +kernel
theorem dX12_run_103 : decode cX12_run 103 = .ok (.ifCond .ne 7, 3) := by decide +kernel
theorem dX12_run_106 : decode cX12_run 106 = .ok (.iconst 1, 1) := by decide +kernel
theorem dX12_run_107 : decode cX12_run 107 = .ok (.goto 4, 3) := by decide +kernel
theorem dX12_run_110 : decode cX12_run 110 = .ok (.iconst 0, 1) := by decide +kernel
theorem dX12_run_111 : decode cX12_run 111 = .ok (.invokestatic 587, 3) := by decide +kernel
theorem dX12_run_114 : decode cX12_run 114 = .ok (.ireturn, 1) := by decide +kernel
theorem dX12_run_115 : decode cX12_run 115 = .ok (.aload_n 0, 1) := by decide +kernel
theorem dX12_run_116 : decode cX12_run 116 = .ok (.invokevirtual 687, 3) := by decide +kernel
theorem dX12_run_119 : decode cX12_run 119 = .ok (.invokestatic 587, 3) := by decide +kernel
theorem dX12_run_122 : decode cX12_run 122 = .ok (.ireturn, 1) := by decide +kernel
theorem dX12_run_123 : decode cX12_run 123 = .ok (.iconst 0, 1) := by decide +kernel
theorem dX12_run_124 : decode cX12_run 124 = .ok (.istore_n 3, 1) := by decide +kernel
theorem dX12_run_125 : decode cX12_run 125 = .ok (.iload_n 3, 1) := by decide +kernel
theorem dX12_run_126 : decode cX12_run 126 = .ok (.aload_n 0, 1) := by decide +kernel
theorem dX12_run_127 : decode cX12_run 127 = .ok (.getfield 647, 3) := by decide +kernel
theorem dX12_run_130 : decode cX12_run 130 = .ok (.if_icmp .ge 37, 3) := by decide +kernel
theorem dX12_run_133 : decode cX12_run 133 = .ok (.iconst 0, 1) := by decide +kernel
theorem dX12_run_134 : decode cX12_run 134 = .ok (.istore 4, 2) := by decide +kernel
theorem dX12_run_136 : decode cX12_run 136 = .ok (.iload 4, 2) := by decide +kernel
theorem dX12_run_138 : decode cX12_run 138 = .ok (.iload_n 3, 1) := by decide +kernel
theorem dX12_run_139 : decode cX12_run 139 = .ok (.if_icmp .ge 22, 3) := by decide +kernel
theorem dX12_run_142 : decode cX12_run 142 = .ok (.iload_n 2, 1) := by decide +kernel
theorem dX12_run_143 : decode cX12_run 143 = .ok (.aload_n 0, 1) := by decide +kernel
theorem dX12_run_144 : decode cX12_run 144 = .ok (.iload 4, 2) := by decide +kernel
theorem dX12_run_146 : decode cX12_run 146 = .ok (.iload_n 3, 1) := by decide +kernel
theorem dX12_run_147 : decode cX12_run 147 = .ok (.invokevirtual 690, 3) := by decide +kernel
theorem dX12_run_150 : decode cX12_run 150 = .ok (.invokestatic 587, 3) := by decide +kernel
theorem dX12_run_153 : decode cX12_run 153 = .ok (.iadd, 1) := by decide +kernel
theorem dX12_run_154 : decode cX12_run 154 = .ok (.istore_n 2, 1) := by decide +kernel
theorem dX12_run_155 : decode cX12_run 155 = .ok (.iinc 4 1, 3) := by decide +kernel
theorem dX12_run_158 : decode cX12_run 158 = .ok (.goto (-22), 3) := by decide +kernel
theorem dX12_run_161 : decode cX12_run 161 = .ok (.iinc 3 1, 3) := by decide +kernel
theorem dX12_run_164 : decode cX12_run 164 = .ok (.goto (-39), 3) := by decide +kernel
theorem dX12_run_167 : decode cX12_run 167 = .ok (.iload_n 2, 1) := by decide +kernel
theorem dX12_run_168 : decode cX12_run 168 = .ok (.ireturn, 1) := by decide +kernel
theorem dX12_run_169 : decode cX12_run 169 = .ok (.iconst 0, 1) := by decide +kernel
theorem dX12_run_170 : decode cX12_run 170 = .ok (.istore_n 3, 1) := by decide +kernel
theorem dX12_run_171 : decode cX12_run 171 = .ok (.iload_n 3, 1) := by decide +kernel
theorem dX12_run_172 : decode cX12_run 172 = .ok (.aload_n 0, 1) := by decide +kernel
theorem dX12_run_173 : decode cX12_run 173 = .ok (.getfield 647, 3) := by decide +kernel
theorem dX12_run_176 : decode cX12_run 176 = .ok (.if_icmp .ge 40, 3) := by decide +kernel
theorem dX12_run_179 : decode cX12_run 179 = .ok (.iload_n 2, 1) := by decide +kernel
theorem dX12_run_180 : decode cX12_run 180 = .ok (.aload_n 0, 1) := by decide +kernel
theorem dX12_run_181 : decode cX12_run 181 = .ok (.getfield 199, 3) := by decide +kernel
theorem dX12_run_184 : decode cX12_run 184 = .ok (.iload_n 3, 1) := by decide +kernel
theorem dX12_run_185 : decode cX12_run 185 = .ok (.iaload, 1) := by decide +kernel
theorem dX12_run_186 : decode cX12_run 186 = .ok (.bipush 13, 2) := by decide +kernel
theorem dX12_run_188 : decode cX12_run 188 = .ok (.if_icmp .ne 16, 3) := by decide +kernel
theorem dX12_run_191 : decode cX12_run 191 = .ok (.aload_n 0, 1) := by decide +kernel
theorem dX12_run_192 : decode cX12_run 192 = .ok (.getfield 211, 3) := by decide +kernel
theorem dX12_run_195 : decode cX12_run 195 = .ok (.iload_n 3, 1) := by decide +kernel
theorem dX12_run_196 : decode cX12_run 196 = .ok (.baload, 1) := by decide +kernel
theorem dX12_run_197 : decode cX12_run 197 = .ok (.ifCond .ne 7, 3) := by decide +kernel
theorem dX12_run_200 : decode cX12_run 200 = .ok (.iconst 1, 1) := by decide +kernel
theorem dX12_run_201 : decode cX12_run 201 = .ok (.goto 4, 3) := by decide +kernel
theorem dX12_run_204 : decode cX12_run 204 = .ok (.iconst 0, 1) := by decide +kernel
theorem dX12_run_205 : decode cX12_run 205 = .ok (.invokestatic 587, 3) := by decide +kernel
theorem dX12_run_208 : decode cX12_run 208 = .ok (.iadd, 1) := by decide +kernel
theorem dX12_run_209 : decode cX12_run 209 = .ok (.istore_n 2, 1) := by decide +kernel
theorem dX12_run_210 : decode cX12_run 210 = .ok (.iinc 3 1, 3) := by decide +kernel
theorem dX12_run_213 : decode cX12_run 213 = .ok (.goto (-42), 3) := by decide +kernel
theorem dX12_run_216 : decode cX12_run 216 = .ok (.iload_n 2, 1) := by decide +kernel
theorem dX12_run_217 : decode cX12_run 217 = .ok (.ireturn, 1) := by decide +kernel
theorem dX12_run_218 : decode cX12_run 218 = .ok (.iconst 0, 1) := by decide +kernel
theorem dX12_run_219 : decode cX12_run 219 = .ok (.istore_n 3, 1) := by decide +kernel
theorem dX12_run_220 : decode cX12_run 220 = .ok (.iload_n 3, 1) := by decide +kernel
theorem dX12_run_221 : decode cX12_run 221 = .ok (.aload_n 0, 1) := by decide +kernel
theorem dX12_run_222 : decode cX12_run 222 = .ok (.getfield 461, 3) := by decide +kernel
theorem dX12_run_225 : decode cX12_run 225 = .ok (.if_icmp .ge 18, 3) := by decide +kernel
theorem dX12_run_228 : decode cX12_run 228 = .ok (.iload_n 2, 1) := by decide +kernel
theorem dX12_run_229 : decode cX12_run 229 = .ok (.aload_n 0, 1) := by decide +kernel
theorem dX12_run_230 : decode cX12_run 230 = .ok (.getfield 172, 3) := by decide +kernel
theorem dX12_run_233 : decode cX12_run 233 = .ok (.iload_n 3, 1) := by decide +kernel
theorem dX12_run_234 : decode cX12_run 234 = .ok (.iaload, 1) := by decide +kernel
theorem dX12_run_235 : decode cX12_run 235 = .ok (.iadd, 1) := by decide +kernel
theorem dX12_run_236 : decode cX12_run 236 = .ok (.istore_n 2, 1) := by decide +kernel
theorem dX12_run_237 : decode cX12_run 237 = .ok (.iinc 3 1, 3) := by decide +kernel
theorem dX12_run_240 : decode cX12_run 240 = .ok (.goto (-20), 3) := by decide +kernel
theorem dX12_run_243 : decode cX12_run 243 = .ok (.iload_n 2, 1) := by decide +kernel
theorem dX12_run_244 : decode cX12_run 244 = .ok (.ireturn, 1) := by decide +kernel
theorem dX12_cell_0 : decode cX12_cell 0 = .ok (.aload_n 0, 1) := by decide +kernel
theorem dX12_cell_1 : decode cX12_cell 1 = .ok (.iconst 0, 1) := by decide +kernel
theorem dX12_cell_2 : decode cX12_cell 2 = .ok (.putfield 316, 3) := by decide +kernel
theorem dX12_cell_5 : decode cX12_cell 5 = .ok (.aload_n 0, 1) := by decide +kernel
theorem dX12_cell_6 : decode cX12_cell 6 = .ok (.invokevirtual 680, 3) := by decide +kernel
theorem dX12_cell_9 : decode cX12_cell 9 = .ok (.ifCond .ne 30, 3) := by decide +kernel
theorem dX12_cell_12 : decode cX12_cell 12 = .ok (.aload_n 0, 1) := by decide +kernel
theorem dX12_cell_13 : decode cX12_cell 13 = .ok (.iload_n 1, 1) := by decide +kernel
theorem dX12_cell_14 : decode cX12_cell 14 = .ok (.iconst 0, 1) := by decide +kernel
theorem dX12_cell_15 : decode cX12_cell 15 = .ok (.aload_n 0, 1) := by decide +kernel
theorem dX12_cell_16 : decode cX12_cell 16 = .ok (.getfield 448, 3) := by decide +kernel
theorem dX12_cell_19 : decode cX12_cell 19 = .ok (.iconst 1, 1) := by decide +kernel
theorem dX12_cell_20 : decode cX12_cell 20 = .ok (.isub, 1) := by decide +kernel
theorem dX12_cell_21 : decode cX12_cell 21 = .ok (.invokestatic 322, 3) := by decide +kernel
theorem dX12_cell_24 : decode cX12_cell 24 = .ok (.ifCond .ne 7, 3) := by decide +kernel
theorem dX12_cell_27 : decode cX12_cell 27 = .ok (.iconst 1, 1) := by decide +kernel
theorem dX12_cell_28 : decode cX12_cell 28 = .ok (.goto 4, 3) := by decide +kernel
theorem dX12_cell_31 : decode cX12_cell 31 = .ok (.iconst 0, 1) := by decide +kernel
theorem dX12_cell_32 : decode cX12_cell 32 = .ok (.iconst 2, 1) := by decide +kernel
theorem dX12_cell_33 : decode cX12_cell 33 = .ok (.invokevirtual 558, 3) := by decide +kernel
theorem dX12_cell_36 : decode cX12_cell 36 = .ok (.ifCond .eq 7, 3) := by decide +kernel
theorem dX12_cell_39 : decode cX12_cell 39 = .ok (.iconst 0, 1) := by decide +kernel
theorem dX12_cell_40 : decode cX12_cell 40 = .ok (.goto 9, 3) := by decide +kernel
theorem dX12_cell_43 : decode cX12_cell 43 = .ok (.aload_n 0, 1) := by decide +kernel
theorem dX12_cell_44 : decode cX12_cell 44 = .ok (.getfield 142, 3) := by decide +kernel
theorem dX12_cell_47 : decode cX12_cell 47 = .ok (.iload_n 1, 1) := by decide +kernel
theorem dX12_cell_48 : decode cX12_cell 48 = .ok (.iaload, 1) := by decide +kernel
theorem dX12_cell_49 : decode cX12_cell 49 = .ok (.ireturn, 1) := by decide +kernel
theorem dX12_seen_0 : decode cX12_seen 0 = .ok (.aload_n 0, 1) := by decide +kernel
theorem dX12_seen_1 : decode cX12_seen 1 = .ok (.iconst 0, 1) := by decide +kernel
theorem dX12_seen_2 : decode cX12_seen 2 = .ok (.putfield 316, 3) := by decide +kernel
theorem dX12_seen_5 : decode cX12_seen 5 = .ok (.aload_n 0, 1) := by decide +kernel
theorem dX12_seen_6 : decode cX12_seen 6 = .ok (.invokevirtual 680, 3) := by decide +kernel
theorem dX12_seen_9 : decode cX12_seen 9 = .ok (.ifCond .ne 44, 3) := by decide +kernel
theorem dX12_seen_12 : decode cX12_seen 12 = .ok (.aload_n 0, 1) := by decide +kernel
theorem dX12_seen_13 : decode cX12_seen 13 = .ok (.iload_n 1, 1) := by decide +kernel
theorem dX12_seen_14 : decode cX12_seen 14 = .ok (.iconst 0, 1) := by decide +kernel
theorem dX12_seen_15 : decode cX12_seen 15 = .ok (.aload_n 0, 1) := by decide +kernel
theorem dX12_seen_16 : decode cX12_seen 16 = .ok (.getfield 461, 3) := by decide +kernel
theorem dX12_seen_19 : decode cX12_seen 19 = .ok (.iconst 1, 1) := by decide +kernel
theorem dX12_seen_20 : decode cX12_seen 20 = .ok (.isub, 1) := by decide +kernel
theorem dX12_seen_21 : decode cX12_seen 21 = .ok (.invokestatic 322, 3) := by decide +kernel
theorem dX12_seen_24 : decode cX12_seen 24 = .ok (.ifCond .eq 17, 3) := by decide +kernel
theorem dX12_seen_27 : decode cX12_seen 27 = .ok (.iload_n 2, 1) := by decide +kernel
theorem dX12_seen_28 : decode cX12_seen 28 = .ok (.iconst 0, 1) := by decide +kernel
theorem dX12_seen_29 : decode cX12_seen 29 = .ok (.aload_n 0, 1) := by decide +kernel
theorem dX12_seen_30 : decode cX12_seen 30 = .ok (.getfield 448, 3) := by decide +kernel
theorem dX12_seen_33 : decode cX12_seen 33 = .ok (.iconst 1, 1) := by decide +kernel
theorem dX12_seen_34 : decode cX12_seen 34 = .ok (.isub, 1) := by decide +kernel
theorem dX12_seen_35 : decode cX12_seen 35 = .ok (.invokestatic 322, 3) := by decide +kernel
theorem dX12_seen_38 : decode cX12_seen 38 = .ok (.ifCond .ne 7, 3) := by decide +kernel
theorem dX12_seen_41 : decode cX12_seen 41 = .ok (.iconst 1, 1) := by decide +kernel
theorem dX12_seen_42 : decode cX12_seen 42 = .ok (.goto 4, 3) := by decide +kernel
theorem dX12_seen_45 : decode cX12_seen 45 = .ok (.iconst 0, 1) := by decide +kernel
theorem dX12_seen_46 : decode cX12_seen 46 = .ok (.iconst 2, 1) := by decide +kernel
theorem dX12_seen_47 : decode cX12_seen 47 = .ok (.invokevirtual 558, 3) := by decide +kernel
theorem dX12_seen_50 : decode cX12_seen 50 = .ok (.ifCond .eq 7, 3) := by decide +kernel
theorem dX12_seen_53 : decode cX12_seen 53 = .ok (.iconst 0, 1) := by decide +kernel
theorem dX12_seen_54 : decode cX12_seen 54 = .ok (.goto 9, 3) := by decide +kernel
theorem dX12_seen_57 : decode cX12_seen 57 = .ok (.aload_n 0, 1) := by decide +kernel
theorem dX12_seen_58 : decode cX12_seen 58 = .ok (.iload_n 1, 1) := by decide +kernel
theorem dX12_seen_59 : decode cX12_seen 59 = .ok (.iload_n 2, 1) := by decide +kernel
theorem dX12_seen_60 : decode cX12_seen 60 = .ok (.invokevirtual 641, 3) := by decide +kernel
theorem dX12_seen_63 : decode cX12_seen 63 = .ok (.ireturn, 1) := by decide +kernel
theorem dX12_lock_0 : decode cX12_lock 0 = .ok (.aload_n 0, 1) := by decide +kernel
theorem dX12_lock_1 : decode cX12_lock 1 = .ok (.iconst 0, 1) := by decide +kernel
theorem dX12_lock_2 : decode cX12_lock 2 = .ok (.putfield 316, 3) := by decide +kernel
theorem dX12_lock_5 : decode cX12_lock 5 = .ok (.aload_n 0, 1) := by decide +kernel
theorem dX12_lock_6 : decode cX12_lock 6 = .ok (.invokevirtual 680, 3) := by decide +kernel
theorem dX12_lock_9 : decode cX12_lock 9 = .ok (.ifCond .ne 39, 3) := by decide +kernel
theorem dX12_lock_12 : decode cX12_lock 12 = .ok (.aload_n 0, 1) := by decide +kernel
theorem dX12_lock_13 : decode cX12_lock 13 = .ok (.iload_n 1, 1) := by decide +kernel
theorem dX12_lock_14 : decode cX12_lock 14 = .ok (.iconst 0, 1) := by decide +kernel
theorem dX12_lock_15 : decode cX12_lock 15 = .ok (.aload_n 0, 1) := by decide +kernel
theorem dX12_lock_16 : decode cX12_lock 16 = .ok (.getfield 458, 3) := by decide +kernel
theorem dX12_lock_19 : decode cX12_lock 19 = .ok (.iconst 1, 1) := by decide +kernel
theorem dX12_lock_20 : decode cX12_lock 20 = .ok (.isub, 1) := by decide +kernel
theorem dX12_lock_21 : decode cX12_lock 21 = .ok (.invokestatic 322, 3) := by decide +kernel
theorem dX12_lock_24 : decode cX12_lock 24 = .ok (.ifCond .eq 12, 3) := by decide +kernel
theorem dX12_lock_27 : decode cX12_lock 27 = .ok (.iload_n 2, 1) := by decide +kernel
theorem dX12_lock_28 : decode cX12_lock 28 = .ok (.iconst 0, 1) := by decide +kernel
theorem dX12_lock_29 : decode cX12_lock 29 = .ok (.iconst 2, 1) := by decide +kernel
theorem dX12_lock_30 : decode cX12_lock 30 = .ok (.invokestatic 322, 3) := by decide +kernel
theorem dX12_lock_33 : decode cX12_lock 33 = .ok (.ifCond .ne 7, 3) := by decide +kernel
theorem dX12_lock_36 : decode cX12_lock 36 = .ok (.iconst 1, 1) := by decide +kernel
theorem dX12_lock_37 : decode cX12_lock 37 = .ok (.goto 4, 3) := by decide +kernel
theorem dX12_lock_40 : decode cX12_lock 40 = .ok (.iconst 0, 1) := by decide +kernel
theorem dX12_lock_41 : decode cX12_lock 41 = .ok (.iconst 2, 1) := by decide +kernel
theorem dX12_lock_42 : decode cX12_lock 42 = .ok (.invokevirtual 558, 3) := by decide +kernel
theorem dX12_lock_45 : decode cX12_lock 45 = .ok (.ifCond .eq 5, 3) := by decide +kernel
theorem dX12_lock_48 : decode cX12_lock 48 = .ok (.iconst 0, 1) := by decide +kernel
theorem dX12_lock_49 : decode cX12_lock 49 = .ok (.ireturn, 1) := by decide +kernel
theorem dX12_lock_50 : decode cX12_lock 50 = .ok (.iconst 0, 1) := by decide +kernel
theorem dX12_lock_51 : decode cX12_lock 51 = .ok (.istore_n 3, 1) := by decide +kernel
theorem dX12_lock_52 : decode cX12_lock 52 = .ok (.iconst 0, 1) := by decide +kernel
theorem dX12_lock_53 : decode cX12_lock 53 = .ok (.istore 4, 2) := by decide +kernel
theorem dX12_lock_55 : decode cX12_lock 55 = .ok (.iload 4, 2) := by decide +kernel
theorem dX12_lock_57 : decode cX12_lock 57 = .ok (.aload_n 0, 1) := by decide +kernel
theorem dX12_lock_58 : decode cX12_lock 58 = .ok (.getfield 461, 3) := by decide +kernel
theorem dX12_lock_61 : decode cX12_lock 61 = .ok (.if_icmp .ge 47, 3) := by decide +kernel
theorem dX12_lock_64 : decode cX12_lock 64 = .ok (.iload_n 3, 1) := by decide +kernel
theorem dX12_lock_65 : decode cX12_lock 65 = .ok (.aload_n 0, 1) := by decide +kernel
theorem dX12_lock_66 : decode cX12_lock 66 = .ok (.getfield 163, 3) := by decide +kernel
theorem dX12_lock_69 : decode cX12_lock 69 = .ok (.iload 4, 2) := by decide +kernel
theorem dX12_lock_71 : decode cX12_lock 71 = .ok (.iaload, 1) := by decide +kernel
theorem dX12_lock_72 : decode cX12_lock 72 = .ok (.iconst 1, 1) := by decide +kernel
theorem dX12_lock_73 : decode cX12_lock 73 = .ok (.if_icmp .ne 23, 3) := by decide +kernel
theorem dX12_lock_76 : decode cX12_lock 76 = .ok (.aload_n 0, 1) := by decide +kernel
theorem dX12_lock_77 : decode cX12_lock 77 = .ok (.getfield 109, 3) := by decide +kernel
theorem dX12_lock_80 : decode cX12_lock 80 = .ok (.aload_n 0, 1) := by decide +kernel
theorem dX12_lock_81 : decode cX12_lock 81 = .ok (.getfield 154, 3) := by decide +kernel
theorem dX12_lock_84 : decode cX12_lock 84 = .ok (.iload 4, 2) := by decide +kernel
theorem dX12_lock_86 : decode cX12_lock 86 = .ok (.iaload, 1) := by decide +kernel
theorem dX12_lock_87 : decode cX12_lock 87 = .ok (.iaload, 1) := by decide +kernel
theorem dX12_lock_88 : decode cX12_lock 88 = .ok (.iload_n 1, 1) := by decide +kernel
theorem dX12_lock_89 : decode cX12_lock 89 = .ok (.if_icmp .ne 7, 3) := by decide +kernel
theorem dX12_lock_92 : decode cX12_lock 92 = .ok (.iconst 1, 1) := by decide +kernel
theorem dX12_lock_93 : decode cX12_lock 93 = .ok (.goto 4, 3) := by decide +kernel
theorem dX12_lock_96 : decode cX12_lock 96 = .ok (.iconst 0, 1) := by decide +kernel
theorem dX12_lock_97 : decode cX12_lock 97 = .ok (.invokestatic 587, 3) := by decide +kernel
theorem dX12_lock_100 : decode cX12_lock 100 = .ok (.iadd, 1) := by decide +kernel
theorem dX12_lock_101 : decode cX12_lock 101 = .ok (.istore_n 3, 1) := by decide +kernel
theorem dX12_lock_102 : decode cX12_lock 102 = .ok (.iinc 4 1, 3) := by decide +kernel
theorem dX12_lock_105 : decode cX12_lock 105 = .ok (.goto (-50), 3) := by decide +kernel
theorem dX12_lock_108 : decode cX12_lock 108 = .ok (.iload_n 2, 1) := by decide +kernel
theorem dX12_lock_109 : decode cX12_lock 109 = .ok (.ifCond .ne 12, 3) := by decide +kernel
theorem dX12_lock_112 : decode cX12_lock 112 = .ok (.aload_n 0, 1) := by decide +kernel
theorem dX12_lock_113 : decode cX12_lock 113 = .ok (.getfield 145, 3) := by decide +kernel
theorem dX12_lock_116 : decode cX12_lock 116 = .ok (.iload_n 1, 1) := by decide +kernel
theorem dX12_lock_117 : decode cX12_lock 117 = .ok (.iaload, 1) := by decide +kernel
theorem dX12_lock_118 : decode cX12_lock 118 = .ok (.goto 18, 3) := by decide +kernel
theorem dX12_lock_121 : decode cX12_lock 121 = .ok (.iload_n 2, 1) := by decide +kernel
theorem dX12_lock_122 : decode cX12_lock 122 = .ok (.iconst 1, 1) := by decide +kernel
theorem dX12_lock_123 : decode cX12_lock 123 = .ok (.if_icmp .ne 12, 3) := by decide +kernel
theorem dX12_lock_126 : decode cX12_lock 126 = .ok (.aload_n 0, 1) := by decide +kernel
theorem dX12_lock_127 : decode cX12_lock 127 = .ok (.getfield 148, 3) := by decide +kernel
theorem dX12_lock_130 : decode cX12_lock 130 = .ok (.iload_n 1, 1) := by decide +kernel
theorem dX12_lock_131 : decode cX12_lock 131 = .ok (.iaload, 1) := by decide +kernel
theorem dX12_lock_132 : decode cX12_lock 132 = .ok (.goto 4, 3) := by decide +kernel
theorem dX12_lock_135 : decode cX12_lock 135 = .ok (.iload_n 3, 1) := by decide +kernel
theorem dX12_lock_136 : decode cX12_lock 136 = .ok (.ireturn, 1) := by decide +kernel
theorem dX12_thread_0 : decode cX12_thread 0 = .ok (.aload_n 0, 1) := by decide +kernel
theorem dX12_thread_1 : decode cX12_thread 1 = .ok (.iconst 0, 1) := by decide +kernel
theorem dX12_thread_2 : decode cX12_thread 2 = .ok (.putfield 316, 3) := by decide +kernel
theorem dX12_thread_5 : decode cX12_thread 5 = .ok (.aload_n 0, 1) := by decide +kernel
theorem dX12_thread_6 : decode cX12_thread 6 = .ok (.invokevirtual 680, 3) := by decide +kernel
theorem dX12_thread_9 : decode cX12_thread 9 = .ok (.ifCond .ne 39, 3) := by decide +kernel
theorem dX12_thread_12 : decode cX12_thread 12 = .ok (.aload_n 0, 1) := by decide +kernel
theorem dX12_thread_13 : decode cX12_thread 13 = .ok (.iload_n 1, 1) := by decide +kernel
theorem dX12_thread_14 : decode cX12_thread 14 = .ok (.iconst 0, 1) := by decide +kernel
theorem dX12_thread_15 : decode cX12_thread 15 = .ok (.aload_n 0, 1) := by decide +kernel
theorem dX12_thread_16 : decode cX12_thread 16 = .ok (.getfield 461, 3) := by decide +kernel
theorem dX12_thread_19 : decode cX12_thread 19 = .ok (.iconst 1, 1) := by decide +kernel
theorem dX12_thread_20 : decode cX12_thread 20 = .ok (.isub, 1) := by decide +kernel
theorem dX12_thread_21 : decode cX12_thread 21 = .ok (.invokestatic 322, 3) := by decide +kernel
theorem dX12_thread_24 : decode cX12_thread 24 = .ok (.ifCond .eq 12, 3) := by decide +kernel
theorem dX12_thread_27 : decode cX12_thread 27 = .ok (.iload_n 2, 1) := by decide +kernel
theorem dX12_thread_28 : decode cX12_thread 28 = .ok (.iconst 0, 1) := by decide +kernel
theorem dX12_thread_29 : decode cX12_thread 29 = .ok (.iconst 4, 1) := by decide +kernel
theorem dX12_thread_30 : decode cX12_thread 30 = .ok (.invokestatic 322, 3) := by decide +kernel
theorem dX12_thread_33 : decode cX12_thread 33 = .ok (.ifCond .ne 7, 3) := by decide +kernel
theorem dX12_thread_36 : decode cX12_thread 36 = .ok (.iconst 1, 1) := by decide +kernel
theorem dX12_thread_37 : decode cX12_thread 37 = .ok (.goto 4, 3) := by decide +kernel
theorem dX12_thread_40 : decode cX12_thread 40 = .ok (.iconst 0, 1) := by decide +kernel
theorem dX12_thread_41 : decode cX12_thread 41 = .ok (.iconst 2, 1) := by decide +kernel
theorem dX12_thread_42 : decode cX12_thread 42 = .ok (.invokevirtual 558, 3) := by decide +kernel
theorem dX12_thread_45 : decode cX12_thread 45 = .ok (.ifCond .eq 5, 3) := by decide +kernel
theorem dX12_thread_48 : decode cX12_thread 48 = .ok (.iconst 0, 1) := by decide +kernel
theorem dX12_thread_49 : decode cX12_thread 49 = .ok (.ireturn, 1) := by decide +kernel
theorem dX12_thread_50 : decode cX12_thread 50 = .ok (.iload_n 2, 1) := by decide +kernel
theorem dX12_thread_51 : decode cX12_thread 51 = .ok (.ifCond .ne 12, 3) := by decide +kernel
theorem dX12_thread_54 : decode cX12_thread 54 = .ok (.aload_n 0, 1) := by decide +kernel
theorem dX12_thread_55 : decode cX12_thread 55 = .ok (.getfield 151, 3) := by decide +kernel
theorem dX12_thread_58 : decode cX12_thread 58 = .ok (.iload_n 1, 1) := by decide +kernel
theorem dX12_thread_59 : decode cX12_thread 59 = .ok (.iaload, 1) := by decide +kernel
theorem dX12_thread_60 : decode cX12_thread 60 = .ok (.goto 72, 3) := by decide +kernel
theorem dX12_thread_63 : decode cX12_thread 63 = .ok (.iload_n 2, 1) := by decide +kernel
theorem dX12_thread_64 : decode cX12_thread 64 = .ok (.iconst 1, 1) := by decide +kernel
theorem dX12_thread_65 : decode cX12_thread 65 = .ok (.if_icmp .ne 12, 3) := by decide +kernel
theorem dX12_thread_68 : decode cX12_thread 68 = .ok (.aload_n 0, 1) := by decide +kernel
theorem dX12_thread_69 : decode cX12_thread 69 = .ok (.getfield 157, 3) := by decide +kernel
theorem dX12_thread_72 : decode cX12_thread 72 = .ok (.iload_n 1, 1) := by decide +kernel
theorem dX12_thread_73 : decode cX12_thread 73 = .ok (.iaload, 1) := by decide +kernel
theorem dX12_thread_74 : decode cX12_thread 74 = .ok (.goto 58, 3) := by decide +kernel
theorem dX12_thread_77 : decode cX12_thread 77 = .ok (.iload_n 2, 1) := by decide +kernel
theorem dX12_thread_78 : decode cX12_thread 78 = .ok (.iconst 2, 1) := by decide +kernel
theorem dX12_thread_79 : decode cX12_thread 79 = .ok (.if_icmp .ne 12, 3) := by decide +kernel
theorem dX12_thread_82 : decode cX12_thread 82 = .ok (.aload_n 0, 1) := by decide +kernel
theorem dX12_thread_83 : decode cX12_thread 83 = .ok (.getfield 172, 3) := by decide +kernel
theorem dX12_thread_86 : decode cX12_thread 86 = .ok (.iload_n 1, 1) := by decide +kernel
theorem dX12_thread_87 : decode cX12_thread 87 = .ok (.iaload, 1) := by decide +kernel
theorem dX12_thread_88 : decode cX12_thread 88 = .ok (.goto 44, 3) := by decide +kernel
theorem dX12_thread_91 : decode cX12_thread 91 = .ok (.iload_n 2, 1) := by decide +kernel
theorem dX12_thread_92 : decode cX12_thread 92 = .ok (.iconst 3, 1) := by decide +kernel
theorem dX12_thread_93 : decode cX12_thread 93 = .ok (.if_icmp .ne 14, 3) := by decide +kernel
theorem dX12_thread_96 : decode cX12_thread 96 = .ok (.aload_n 0, 1) := by decide +kernel
theorem dX12_thread_97 : decode cX12_thread 97 = .ok (.iload_n 1, 1) := by decide +kernel
theorem dX12_thread_98 : decode cX12_thread 98 = .ok (.invokevirtual 693, 3) := by decide +kernel
theorem dX12_thread_101 : decode cX12_thread 101 = .ok (.invokestatic 696, 3) := by decide +kernel
theorem dX12_thread_104 : decode cX12_thread 104 = .ok (.goto 28, 3) := by decide +kernel
theorem dX12_thread_107 : decode cX12_thread 107 = .ok (.aload_n 0, 1) := by decide +kernel
theorem dX12_thread_108 : decode cX12_thread 108 = .ok (.getfield 151, 3) := by decide +kernel
theorem dX12_thread_111 : decode cX12_thread 111 = .ok (.iload_n 1, 1) := by decide +kernel
theorem dX12_thread_112 : decode cX12_thread 112 = .ok (.iaload, 1) := by decide +kernel
theorem dX12_thread_113 : decode cX12_thread 113 = .ok (.iconst 1, 1) := by decide +kernel
theorem dX12_thread_114 : decode cX12_thread 114 = .ok (.if_icmp .ne 17, 3) := by decide +kernel
theorem dX12_thread_117 : decode cX12_thread 117 = .ok (.aload_n 0, 1) := by decide +kernel
theorem dX12_thread_118 : decode cX12_thread 118 = .ok (.getfield 130, 3) := by decide +kernel
theorem dX12_thread_121 : decode cX12_thread 121 = .ok (.aload_n 0, 1) := by decide +kernel
theorem dX12_thread_122 : decode cX12_thread 122 = .ok (.getfield 154, 3) := by decide +kernel
theorem dX12_thread_125 : decode cX12_thread 125 = .ok (.iload_n 1, 1) := by decide +kernel
theorem dX12_thread_126 : decode cX12_thread 126 = .ok (.iaload, 1) := by decide +kernel
theorem dX12_thread_127 : decode cX12_thread 127 = .ok (.iaload, 1) := by decide +kernel
theorem dX12_thread_128 : decode cX12_thread 128 = .ok (.goto 4, 3) := by decide +kernel
theorem dX12_thread_131 : decode cX12_thread 131 = .ok (.iconst 0, 1) := by decide +kernel
theorem dX12_thread_132 : decode cX12_thread 132 = .ok (.ireturn, 1) := by decide +kernel
theorem dX12_local_0 : decode cX12_local 0 = .ok (.aload_n 0, 1) := by decide +kernel
theorem dX12_local_1 : decode cX12_local 1 = .ok (.iconst 0, 1) := by decide +kernel
theorem dX12_local_2 : decode cX12_local 2 = .ok (.putfield 316, 3) := by decide +kernel
theorem dX12_local_5 : decode cX12_local 5 = .ok (.aload_n 0, 1) := by decide +kernel
theorem dX12_local_6 : decode cX12_local 6 = .ok (.invokevirtual 680, 3) := by decide +kernel
theorem dX12_local_9 : decode cX12_local 9 = .ok (.ifCond .ne 30, 3) := by decide +kernel
theorem dX12_local_12 : decode cX12_local 12 = .ok (.aload_n 0, 1) := by decide +kernel
theorem dX12_local_13 : decode cX12_local 13 = .ok (.iload_n 1, 1) := by decide +kernel
theorem dX12_local_14 : decode cX12_local 14 = .ok (.iconst 0, 1) := by decide +kernel
theorem dX12_local_15 : decode cX12_local 15 = .ok (.aload_n 0, 1) := by decide +kernel
theorem dX12_local_16 : decode cX12_local 16 = .ok (.getfield 461, 3) := by decide +kernel
theorem dX12_local_19 : decode cX12_local 19 = .ok (.iconst 1, 1) := by decide +kernel
theorem dX12_local_20 : decode cX12_local 20 = .ok (.isub, 1) := by decide +kernel
theorem dX12_local_21 : decode cX12_local 21 = .ok (.invokestatic 322, 3) := by decide +kernel
theorem dX12_local_24 : decode cX12_local 24 = .ok (.ifCond .ne 7, 3) := by decide +kernel
theorem dX12_local_27 : decode cX12_local 27 = .ok (.iconst 1, 1) := by decide +kernel
theorem dX12_local_28 : decode cX12_local 28 = .ok (.goto 4, 3) := by decide +kernel
theorem dX12_local_31 : decode cX12_local 31 = .ok (.iconst 0, 1) := by decide +kernel
theorem dX12_local_32 : decode cX12_local 32 = .ok (.iconst 2, 1) := by decide +kernel
theorem dX12_local_33 : decode cX12_local 33 = .ok (.invokevirtual 558, 3) := by decide +kernel
theorem dX12_local_36 : decode cX12_local 36 = .ok (.ifCond .eq 5, 3) := by decide +kernel
theorem dX12_local_39 : decode cX12_local 39 = .ok (.iconst 0, 1) := by decide +kernel
theorem dX12_local_40 : decode cX12_local 40 = .ok (.ireturn, 1) := by decide +kernel
theorem dX12_local_41 : decode cX12_local 41 = .ok (.aload_n 0, 1) := by decide +kernel
theorem dX12_local_42 : decode cX12_local 42 = .ok (.iload_n 1, 1) := by decide +kernel
theorem dX12_local_43 : decode cX12_local 43 = .ok (.invokevirtual 693, 3) := by decide +kernel
theorem dX12_local_46 : decode cX12_local 46 = .ok (.istore_n 3, 1) := by decide +kernel
theorem dX12_local_47 : decode cX12_local 47 = .ok (.iconst 0, 1) := by decide +kernel
theorem dX12_local_48 : decode cX12_local 48 = .ok (.istore 4, 2) := by decide +kernel
theorem dX12_local_50 : decode cX12_local 50 = .ok (.iconst 0, 1) := by decide +kernel
theorem dX12_local_51 : decode cX12_local 51 = .ok (.istore 5, 2) := by decide +kernel
theorem dX12_local_53 : decode cX12_local 53 = .ok (.iload 5, 2) := by decide +kernel
theorem dX12_local_55 : decode cX12_local 55 = .ok (.bipush 8, 2) := by decide +kernel
theorem dX12_local_57 : decode cX12_local 57 = .ok (.if_icmp .ge 41, 3) := by decide +kernel
theorem dX12_local_60 : decode cX12_local 60 = .ok (.iload_n 3, 1) := by decide +kernel
theorem dX12_local_61 : decode cX12_local 61 = .ok (.iload 5, 2) := by decide +kernel
theorem dX12_local_63 : decode cX12_local 63 = .ok (.ishr, 1) := by decide +kernel
theorem dX12_local_64 : decode cX12_local 64 = .ok (.iconst 1, 1) := by decide +kernel
theorem dX12_local_65 : decode cX12_local 65 = .ok (.iand, 1) := by decide +kernel
theorem dX12_local_66 : decode cX12_local 66 = .ok (.iconst 1, 1) := by decide +kernel
theorem dX12_local_67 : decode cX12_local 67 = .ok (.if_icmp .ne 25, 3) := by decide +kernel
theorem dX12_local_70 : decode cX12_local 70 = .ok (.iload 4, 2) := by decide +kernel
theorem dX12_local_72 : decode cX12_local 72 = .ok (.iload_n 2, 1) := by decide +kernel
theorem dX12_local_73 : decode cX12_local 73 = .ok (.if_icmp .ne 16, 3) := by decide +kernel
theorem dX12_local_76 : decode cX12_local 76 = .ok (.aload_n 0, 1) := by decide +kernel
theorem dX12_local_77 : decode cX12_local 77 = .ok (.getfield 160, 3) := by decide +kernel
theorem dX12_local_80 : decode cX12_local 80 = .ok (.bipush 8, 2) := by decide +kernel
theorem dX12_local_82 : decode cX12_local 82 = .ok (.iload_n 1, 1) := by decide +kernel
theorem dX12_local_83 : decode cX12_local 83 = .ok (.imul, 1) := by decide +kernel
theorem dX12_local_84 : decode cX12_local 84 = .ok (.iload 5, 2) := by decide +kernel
theorem dX12_local_86 : decode cX12_local 86 = .ok (.iadd, 1) := by decide +kernel
theorem dX12_local_87 : decode cX12_local 87 = .ok (.iaload, 1) := by decide +kernel
theorem dX12_local_88 : decode cX12_local 88 = .ok (.ireturn, 1) := by decide +kernel
theorem dX12_local_89 : decode cX12_local 89 = .ok (.iinc 4 1, 3) := by decide +kernel
theorem dX12_local_92 : decode cX12_local 92 = .ok (.iinc 5 1, 3) := by decide +kernel
theorem dX12_local_95 : decode cX12_local 95 = .ok (.goto (-42), 3) := by decide +kernel
theorem dX12_local_98 : decode cX12_local 98 = .ok (.aload_n 0, 1) := by decide +kernel
theorem dX12_local_99 : decode cX12_local 99 = .ok (.iconst 1, 1) := by decide +kernel
theorem dX12_local_100 : decode cX12_local 100 = .ok (.iconst 2, 1) := by decide +kernel
theorem dX12_local_101 : decode cX12_local 101 = .ok (.invokevirtual 558, 3) := by decide +kernel
theorem dX12_local_104 : decode cX12_local 104 = .ok (.istore 5, 2) := by decide +kernel
theorem dX12_local_106 : decode cX12_local 106 = .ok (.iconst 0, 1) := by decide +kernel
theorem dX12_local_107 : decode cX12_local 107 = .ok (.ireturn, 1) := by decide +kernel
theorem dX12_act_0 : decode cX12_act 0 = .ok (.aload_n 0, 1) := by decide +kernel
theorem dX12_act_1 : decode cX12_act 1 = .ok (.iconst 0, 1) := by decide +kernel
theorem dX12_act_2 : decode cX12_act 2 = .ok (.putfield 316, 3) := by decide +kernel
theorem dX12_act_5 : decode cX12_act 5 = .ok (.aload_n 0, 1) := by decide +kernel
theorem dX12_act_6 : decode cX12_act 6 = .ok (.invokevirtual 680, 3) := by decide +kernel
theorem dX12_act_9 : decode cX12_act 9 = .ok (.ifCond .ne 39, 3) := by decide +kernel
theorem dX12_act_12 : decode cX12_act 12 = .ok (.aload_n 0, 1) := by decide +kernel
theorem dX12_act_13 : decode cX12_act 13 = .ok (.iload_n 1, 1) := by decide +kernel
theorem dX12_act_14 : decode cX12_act 14 = .ok (.iconst 0, 1) := by decide +kernel
theorem dX12_act_15 : decode cX12_act 15 = .ok (.aload_n 0, 1) := by decide +kernel
theorem dX12_act_16 : decode cX12_act 16 = .ok (.getfield 647, 3) := by decide +kernel
theorem dX12_act_19 : decode cX12_act 19 = .ok (.iconst 1, 1) := by decide +kernel
theorem dX12_act_20 : decode cX12_act 20 = .ok (.isub, 1) := by decide +kernel
theorem dX12_act_21 : decode cX12_act 21 = .ok (.invokestatic 322, 3) := by decide +kernel
theorem dX12_act_24 : decode cX12_act 24 = .ok (.ifCond .eq 12, 3) := by decide +kernel
theorem dX12_act_27 : decode cX12_act 27 = .ok (.iload_n 2, 1) := by decide +kernel
theorem dX12_act_28 : decode cX12_act 28 = .ok (.iconst 0, 1) := by decide +kernel
theorem dX12_act_29 : decode cX12_act 29 = .ok (.iconst 4, 1) := by decide +kernel
theorem dX12_act_30 : decode cX12_act 30 = .ok (.invokestatic 322, 3) := by decide +kernel
theorem dX12_act_33 : decode cX12_act 33 = .ok (.ifCond .ne 7, 3) := by decide +kernel
theorem dX12_act_36 : decode cX12_act 36 = .ok (.iconst 1, 1) := by decide +kernel
theorem dX12_act_37 : decode cX12_act 37 = .ok (.goto 4, 3) := by decide +kernel
theorem dX12_act_40 : decode cX12_act 40 = .ok (.iconst 0, 1) := by decide +kernel
theorem dX12_act_41 : decode cX12_act 41 = .ok (.iconst 2, 1) := by decide +kernel
theorem dX12_act_42 : decode cX12_act 42 = .ok (.invokevirtual 558, 3) := by decide +kernel
theorem dX12_act_45 : decode cX12_act 45 = .ok (.ifCond .eq 5, 3) := by decide +kernel
theorem dX12_act_48 : decode cX12_act 48 = .ok (.iconst 0, 1) := by decide +kernel
theorem dX12_act_49 : decode cX12_act 49 = .ok (.ireturn, 1) := by decide +kernel
theorem dX12_act_50 : decode cX12_act 50 = .ok (.iload_n 2, 1) := by decide +kernel
theorem dX12_act_51 : decode cX12_act 51 = .ok (.ifCond .ne 12, 3) := by decide +kernel
theorem dX12_act_54 : decode cX12_act 54 = .ok (.aload_n 0, 1) := by decide +kernel
theorem dX12_act_55 : decode cX12_act 55 = .ok (.getfield 196, 3) := by decide +kernel
theorem dX12_act_58 : decode cX12_act 58 = .ok (.iload_n 1, 1) := by decide +kernel
theorem dX12_act_59 : decode cX12_act 59 = .ok (.iaload, 1) := by decide +kernel
theorem dX12_act_60 : decode cX12_act 60 = .ok (.goto 51, 3) := by decide +kernel
theorem dX12_act_63 : decode cX12_act 63 = .ok (.iload_n 2, 1) := by decide +kernel
theorem dX12_act_64 : decode cX12_act 64 = .ok (.iconst 1, 1) := by decide +kernel
theorem dX12_act_65 : decode cX12_act 65 = .ok (.if_icmp .ne 12, 3) := by decide +kernel
theorem dX12_act_68 : decode cX12_act 68 = .ok (.aload_n 0, 1) := by decide +kernel
theorem dX12_act_69 : decode cX12_act 69 = .ok (.getfield 199, 3) := by decide +kernel
theorem dX12_act_72 : decode cX12_act 72 = .ok (.iload_n 1, 1) := by decide +kernel
theorem dX12_act_73 : decode cX12_act 73 = .ok (.iaload, 1) := by decide +kernel
theorem dX12_act_74 : decode cX12_act 74 = .ok (.goto 37, 3) := by decide +kernel
theorem dX12_act_77 : decode cX12_act 77 = .ok (.iload_n 2, 1) := by decide +kernel
theorem dX12_act_78 : decode cX12_act 78 = .ok (.iconst 2, 1) := by decide +kernel
theorem dX12_act_79 : decode cX12_act 79 = .ok (.if_icmp .ne 12, 3) := by decide +kernel
theorem dX12_act_82 : decode cX12_act 82 = .ok (.aload_n 0, 1) := by decide +kernel
theorem dX12_act_83 : decode cX12_act 83 = .ok (.getfield 202, 3) := by decide +kernel
theorem dX12_act_86 : decode cX12_act 86 = .ok (.iload_n 1, 1) := by decide +kernel
theorem dX12_act_87 : decode cX12_act 87 = .ok (.iaload, 1) := by decide +kernel
theorem dX12_act_88 : decode cX12_act 88 = .ok (.goto 23, 3) := by decide +kernel
theorem dX12_act_91 : decode cX12_act 91 = .ok (.iload_n 2, 1) := by decide +kernel
theorem dX12_act_92 : decode cX12_act 92 = .ok (.iconst 3, 1) := by decide +kernel
theorem dX12_act_93 : decode cX12_act 93 = .ok (.if_icmp .ne 12, 3) := by decide +kernel
theorem dX12_act_96 : decode cX12_act 96 = .ok (.aload_n 0, 1) := by decide +kernel
theorem dX12_act_97 : decode cX12_act 97 = .ok (.getfield 205, 3) := by decide +kernel
theorem dX12_act_100 : decode cX12_act 100 = .ok (.iload_n 1, 1) := by decide +kernel
theorem dX12_act_101 : decode cX12_act 101 = .ok (.iaload, 1) := by decide +kernel
theorem dX12_act_102 : decode cX12_act 102 = .ok (.goto 9, 3) := by decide +kernel
theorem dX12_act_105 : decode cX12_act 105 = .ok (.aload_n 0, 1) := by decide +kernel
theorem dX12_act_106 : decode cX12_act 106 = .ok (.getfield 208, 3) := by decide +kernel
theorem dX12_act_109 : decode cX12_act 109 = .ok (.iload_n 1, 1) := by decide +kernel
theorem dX12_act_110 : decode cX12_act 110 = .ok (.iaload, 1) := by decide +kernel
theorem dX12_act_111 : decode cX12_act 111 = .ok (.ireturn, 1) := by decide +kernel
theorem dX12_before_0 : decode cX12_before 0 = .ok (.aload_n 0, 1) := by decide +kernel
theorem dX12_before_1 : decode cX12_before 1 = .ok (.iconst 0, 1) := by decide +kernel
theorem dX12_before_2 : decode cX12_before 2 = .ok (.putfield 316, 3) := by decide +kernel
theorem dX12_before_5 : decode cX12_before 5 = .ok (.aload_n 0, 1) := by decide +kernel
theorem dX12_before_6 : decode cX12_before 6 = .ok (.invokevirtual 680, 3) := by decide +kernel
theorem dX12_before_9 : decode cX12_before 9 = .ok (.ifCond .ne 57, 3) := by decide +kernel
theorem dX12_before_12 : decode cX12_before 12 = .ok (.aload_n 0, 1) := by decide +kernel
theorem dX12_before_13 : decode cX12_before 13 = .ok (.iload_n 1, 1) := by decide +kernel
theorem dX12_before_14 : decode cX12_before 14 = .ok (.iconst 0, 1) := by decide +kernel
theorem dX12_before_15 : decode cX12_before 15 = .ok (.aload_n 0, 1) := by decide +kernel
theorem dX12_before_16 : decode cX12_before 16 = .ok (.getfield 647, 3) := by decide +kernel
theorem dX12_before_19 : decode cX12_before 19 = .ok (.iconst 1, 1) := by decide +kernel
theorem dX12_before_20 : decode cX12_before 20 = .ok (.isub, 1) := by decide +kernel
theorem dX12_before_21 : decode cX12_before 21 = .ok (.invokestatic 322, 3) := by decide +kernel
theorem dX12_before_24 : decode cX12_before 24 = .ok (.ifCond .eq 17, 3) := by decide +kernel
theorem dX12_before_27 : decode cX12_before 27 = .ok (.iload_n 2, 1) := by decide +kernel
theorem dX12_before_28 : decode cX12_before 28 = .ok (.iconst 0, 1) := by decide +kernel
theorem dX12_before_29 : decode cX12_before 29 = .ok (.aload_n 0, 1) := by decide +kernel
theorem dX12_before_30 : decode cX12_before 30 = .ok (.getfield 647, 3) := by decide +kernel
theorem dX12_before_33 : decode cX12_before 33 = .ok (.iconst 1, 1) := by decide +kernel
theorem dX12_before_34 : decode cX12_before 34 = .ok (.isub, 1) := by decide +kernel
theorem dX12_before_35 : decode cX12_before 35 = .ok (.invokestatic 322, 3) := by decide +kernel
theorem dX12_before_38 : decode cX12_before 38 = .ok (.ifCond .ne 7, 3) := by decide +kernel
theorem dX12_before_41 : decode cX12_before 41 = .ok (.iconst 1, 1) := by decide +kernel
theorem dX12_before_42 : decode cX12_before 42 = .ok (.goto 4, 3) := by decide +kernel
theorem dX12_before_45 : decode cX12_before 45 = .ok (.iconst 0, 1) := by decide +kernel
theorem dX12_before_46 : decode cX12_before 46 = .ok (.iconst 2, 1) := by decide +kernel
theorem dX12_before_47 : decode cX12_before 47 = .ok (.invokevirtual 558, 3) := by decide +kernel
theorem dX12_before_50 : decode cX12_before 50 = .ok (.ifCond .ne 16, 3) := by decide +kernel
theorem dX12_before_53 : decode cX12_before 53 = .ok (.aload_n 0, 1) := by decide +kernel
theorem dX12_before_54 : decode cX12_before 54 = .ok (.iload_n 1, 1) := by decide +kernel
theorem dX12_before_55 : decode cX12_before 55 = .ok (.iload_n 2, 1) := by decide +kernel
theorem dX12_before_56 : decode cX12_before 56 = .ok (.invokevirtual 674, 3) := by decide +kernel
theorem dX12_before_59 : decode cX12_before 59 = .ok (.ifCond .eq 7, 3) := by decide +kernel
theorem dX12_before_62 : decode cX12_before 62 = .ok (.iconst 1, 1) := by decide +kernel
theorem dX12_before_63 : decode cX12_before 63 = .ok (.goto 4, 3) := by decide +kernel
theorem dX12_before_66 : decode cX12_before 66 = .ok (.iconst 0, 1) := by decide +kernel
theorem dX12_before_67 : decode cX12_before 67 = .ok (.ireturn, 1) := by decide +kernel
theorem dX12_race_0 : decode cX12_race 0 = .ok (.aload_n 0, 1) := by decide +kernel
theorem dX12_race_1 : decode cX12_race 1 = .ok (.iconst 0, 1) := by decide +kernel
theorem dX12_race_2 : decode cX12_race 2 = .ok (.putfield 316, 3) := by decide +kernel
theorem dX12_race_5 : decode cX12_race 5 = .ok (.aload_n 0, 1) := by decide +kernel
theorem dX12_race_6 : decode cX12_race 6 = .ok (.invokevirtual 680, 3) := by decide +kernel
theorem dX12_race_9 : decode cX12_race 9 = .ok (.ifCond .eq 5, 3) := by decide +kernel
theorem dX12_race_12 : decode cX12_race 12 = .ok (.iconst 0, 1) := by decide +kernel
theorem dX12_race_13 : decode cX12_race 13 = .ok (.ireturn, 1) := by decide +kernel
theorem dX12_race_14 : decode cX12_race 14 = .ok (.iconst 0, 1) := by decide +kernel
theorem dX12_race_15 : decode cX12_race 15 = .ok (.istore_n 3, 1) := by decide +kernel
theorem dX12_race_16 : decode cX12_race 16 = .ok (.iconst 0, 1) := by decide +kernel
theorem dX12_race_17 : decode cX12_race 17 = .ok (.istore 4, 2) := by decide +kernel
theorem dX12_race_19 : decode cX12_race 19 = .ok (.iload 4, 2) := by decide +kernel
theorem dX12_race_21 : decode cX12_race 21 = .ok (.aload_n 0, 1) := by decide +kernel
theorem dX12_race_22 : decode cX12_race 22 = .ok (.getfield 647, 3) := by decide +kernel
theorem dX12_race_25 : decode cX12_race 25 = .ok (.if_icmp .ge 65, 3) := by decide +kernel
theorem dX12_race_28 : decode cX12_race 28 = .ok (.iload_n 2, 1) := by decide +kernel
theorem dX12_race_29 : decode cX12_race 29 = .ok (.iconst 0, 1) := by decide +kernel
theorem dX12_race_30 : decode cX12_race 30 = .ok (.iconst 1, 1) := by decide +kernel
theorem dX12_race_31 : decode cX12_race 31 = .ok (.invokestatic 322, 3) := by decide +kernel
theorem dX12_race_34 : decode cX12_race 34 = .ok (.ifCond .eq 56, 3) := by decide +kernel
theorem dX12_race_37 : decode cX12_race 37 = .ok (.iconst 0, 1) := by decide +kernel
theorem dX12_race_38 : decode cX12_race 38 = .ok (.istore 5, 2) := by decide +kernel
theorem dX12_race_40 : decode cX12_race 40 = .ok (.iload 5, 2) := by decide +kernel
theorem dX12_race_42 : decode cX12_race 42 = .ok (.iload 4, 2) := by decide +kernel
theorem dX12_race_44 : decode cX12_race 44 = .ok (.if_icmp .ge 40, 3) := by decide +kernel
theorem dX12_race_47 : decode cX12_race 47 = .ok (.aload_n 0, 1) := by decide +kernel
theorem dX12_race_48 : decode cX12_race 48 = .ok (.iload 5, 2) := by decide +kernel
theorem dX12_race_50 : decode cX12_race 50 = .ok (.iload 4, 2) := by decide +kernel
theorem dX12_race_52 : decode cX12_race 52 = .ok (.invokevirtual 690, 3) := by decide +kernel
theorem dX12_race_55 : decode cX12_race 55 = .ok (.ifCond .eq 23, 3) := by decide +kernel
theorem dX12_race_58 : decode cX12_race 58 = .ok (.iload_n 3, 1) := by decide +kernel
theorem dX12_race_59 : decode cX12_race 59 = .ok (.iload_n 1, 1) := by decide +kernel
theorem dX12_race_60 : decode cX12_race 60 = .ok (.if_icmp .ne 15, 3) := by decide +kernel
theorem dX12_race_63 : decode cX12_race 63 = .ok (.iload_n 2, 1) := by decide +kernel
theorem dX12_race_64 : decode cX12_race 64 = .ok (.ifCond .ne 8, 3) := by decide +kernel
theorem dX12_race_67 : decode cX12_race 67 = .ok (.iload 5, 2) := by decide +kernel
theorem dX12_race_69 : decode cX12_race 69 = .ok (.goto 5, 3) := by decide +kernel
theorem dX12_race_72 : decode cX12_race 72 = .ok (.iload 4, 2) := by decide +kernel
theorem dX12_race_74 : decode cX12_race 74 = .ok (.ireturn, 1) := by decide +kernel
theorem dX12_race_75 : decode cX12_race 75 = .ok (.iinc 3 1, 3) := by decide +kernel
theorem dX12_race_78 : decode cX12_race 78 = .ok (.iinc 5 1, 3) := by decide +kernel
theorem dX12_race_81 : decode cX12_race 81 = .ok (.goto (-41), 3) := by decide +kernel
theorem dX12_race_84 : decode cX12_race 84 = .ok (.iinc 4 1, 3) := by decide +kernel
theorem dX12_race_87 : decode cX12_race 87 = .ok (.goto (-68), 3) := by decide +kernel
theorem dX12_race_90 : decode cX12_race 90 = .ok (.aload_n 0, 1) := by decide +kernel
theorem dX12_race_91 : decode cX12_race 91 = .ok (.iconst 1, 1) := by decide +kernel
theorem dX12_race_92 : decode cX12_race 92 = .ok (.iconst 2, 1) := by decide +kernel
theorem dX12_race_93 : decode cX12_race 93 = .ok (.invokevirtual 558, 3) := by decide +kernel
theorem dX12_race_96 : decode cX12_race 96 = .ok (.istore 4, 2) := by decide +kernel
theorem dX12_race_98 : decode cX12_race 98 = .ok (.iconst 0, 1) := by decide +kernel
theorem dX12_race_99 : decode cX12_race 99 = .ok (.ireturn, 1) := by decide +kernel
theorem dX12_linear_0 : decode cX12_linear 0 = .ok (.aload_n 0, 1) := by decide +kernel
theorem dX12_linear_1 : decode cX12_linear 1 = .ok (.iconst 0, 1) := by decide +kernel
theorem dX12_linear_2 : decode cX12_linear 2 = .ok (.putfield 316, 3) := by decide +kernel
theorem dX12_linear_5 : decode cX12_linear 5 = .ok (.aload_n 0, 1) := by decide +kernel
theorem dX12_linear_6 : decode cX12_linear 6 = .ok (.invokevirtual 680, 3) := by decide +kernel
theorem dX12_linear_9 : decode cX12_linear 9 = .ok (.ifCond .ne 25, 3) := by decide +kernel
theorem dX12_linear_12 : decode cX12_linear 12 = .ok (.aload_n 0, 1) := by decide +kernel
theorem dX12_linear_13 : decode cX12_linear 13 = .ok (.iload_n 1, 1) := by decide +kernel
theorem dX12_linear_14 : decode cX12_linear 14 = .ok (.iconst 0, 1) := by decide +kernel
theorem dX12_linear_15 : decode cX12_linear 15 = .ok (.iconst 3, 1) := by decide +kernel
theorem dX12_linear_16 : decode cX12_linear 16 = .ok (.invokestatic 322, 3) := by decide +kernel
theorem dX12_linear_19 : decode cX12_linear 19 = .ok (.ifCond .ne 7, 3) := by decide +kernel
theorem dX12_linear_22 : decode cX12_linear 22 = .ok (.iconst 1, 1) := by decide +kernel
theorem dX12_linear_23 : decode cX12_linear 23 = .ok (.goto 4, 3) := by decide +kernel
theorem dX12_linear_26 : decode cX12_linear 26 = .ok (.iconst 0, 1) := by decide +kernel
theorem dX12_linear_27 : decode cX12_linear 27 = .ok (.iconst 2, 1) := by decide +kernel
theorem dX12_linear_28 : decode cX12_linear 28 = .ok (.invokevirtual 558, 3) := by decide +kernel
theorem dX12_linear_31 : decode cX12_linear 31 = .ok (.ifCond .eq 5, 3) := by decide +kernel
theorem dX12_linear_34 : decode cX12_linear 34 = .ok (.iconst 0, 1) := by decide +kernel
theorem dX12_linear_35 : decode cX12_linear 35 = .ok (.ireturn, 1) := by decide +kernel
theorem dX12_linear_36 : decode cX12_linear 36 = .ok (.aload_n 0, 1) := by decide +kernel
theorem dX12_linear_37 : decode cX12_linear 37 = .ok (.sipush 1000, 3) := by decide +kernel
theorem dX12_linear_40 : decode cX12_linear 40 = .ok (.invokevirtual 714, 3) := by decide +kernel
theorem dX12_linear_43 : decode cX12_linear 43 = .ok (.istore_n 2, 1) := by decide +kernel
theorem dX12_linear_44 : decode cX12_linear 44 = .ok (.aload_n 0, 1) := by decide +kernel
theorem dX12_linear_45 : decode cX12_linear 45 = .ok (.getfield 699, 3) := by decide +kernel
theorem dX12_linear_48 : decode cX12_linear 48 = .ok (.bipush 12, 2) := by decide +kernel
theorem dX12_linear_50 : decode cX12_linear 50 = .ok (.if_icmp .le 5, 3) := by decide +kernel
theorem dX12_linear_53 : decode cX12_linear 53 = .ok (.iconst (-1), 1) := by decide +kernel
theorem dX12_linear_54 : decode cX12_linear 54 = .ok (.ireturn, 1) := by decide +kernel
theorem dX12_linear_55 : decode cX12_linear 55 = .ok (.iconst 1, 1) := by decide +kernel
theorem dX12_linear_56 : decode cX12_linear 56 = .ok (.istore_n 3, 1) := by decide +kernel
theorem dX12_linear_57 : decode cX12_linear 57 = .ok (.iload_n 3, 1) := by decide +kernel
theorem dX12_linear_58 : decode cX12_linear 58 = .ok (.iload_n 2, 1) := by decide +kernel
theorem dX12_linear_59 : decode cX12_linear 59 = .ok (.if_icmp .gt 29, 3) := by decide +kernel
theorem dX12_linear_62 : decode cX12_linear 62 = .ok (.aload_n 0, 1) := by decide +kernel
theorem dX12_linear_63 : decode cX12_linear 63 = .ok (.iload_n 3, 1) := by decide +kernel
theorem dX12_linear_64 : decode cX12_linear 64 = .ok (.invokevirtual 714, 3) := by decide +kernel
theorem dX12_linear_67 : decode cX12_linear 67 = .ok (.istore 4, 2) := by decide +kernel
theorem dX12_linear_69 : decode cX12_linear 69 = .ok (.aload_n 0, 1) := by decide +kernel
theorem dX12_linear_70 : decode cX12_linear 70 = .ok (.iload_n 1, 1) := by decide +kernel
theorem dX12_linear_71 : decode cX12_linear 71 = .ok (.invokevirtual 717, 3) := by decide +kernel
theorem dX12_linear_74 : decode cX12_linear 74 = .ok (.ifCond .ne 8, 3) := by decide +kernel
theorem dX12_linear_77 : decode cX12_linear 77 = .ok (.bipush (-2), 2) := by decide +kernel
theorem dX12_linear_79 : decode cX12_linear 79 = .ok (.iload_n 3, 1) := by decide +kernel
theorem dX12_linear_80 : decode cX12_linear 80 = .ok (.isub, 1) := by decide +kernel
theorem dX12_linear_81 : decode cX12_linear 81 = .ok (.ireturn, 1) := by decide +kernel
theorem dX12_linear_82 : decode cX12_linear 82 = .ok (.iinc 3 1, 3) := by decide +kernel
theorem dX12_linear_85 : decode cX12_linear 85 = .ok (.goto (-28), 3) := by decide +kernel
theorem dX12_linear_88 : decode cX12_linear 88 = .ok (.iconst 1, 1) := by decide +kernel
theorem dX12_linear_89 : decode cX12_linear 89 = .ok (.ireturn, 1) := by decide +kernel
theorem dX12_attempt_0 : decode cX12_attempt 0 = .ok (.aload_n 0, 1) := by decide +kernel
theorem dX12_attempt_1 : decode cX12_attempt 1 = .ok (.iconst 0, 1) := by decide +kernel
theorem dX12_attempt_2 : decode cX12_attempt 2 = .ok (.putfield 316, 3) := by decide +kernel
theorem dX12_attempt_5 : decode cX12_attempt 5 = .ok (.aload_n 0, 1) := by decide +kernel
theorem dX12_attempt_6 : decode cX12_attempt 6 = .ok (.aload_n 0, 1) := by decide +kernel
theorem dX12_attempt_7 : decode cX12_attempt 7 = .ok (.getfield 565, 3) := by decide +kernel
theorem dX12_attempt_10 : decode cX12_attempt 10 = .ok (.ifCond .ne 7, 3) := by decide +kernel
theorem dX12_attempt_13 : decode cX12_attempt 13 = .ok (.iconst 1, 1) := by decide +kernel
theorem dX12_attempt_14 : decode cX12_attempt 14 = .ok (.goto 4, 3) := by decide +kernel
theorem dX12_attempt_17 : decode cX12_attempt 17 = .ok (.iconst 0, 1) := by decide +kernel
theorem dX12_attempt_18 : decode cX12_attempt 18 = .ok (.iconst 1, 1) := by decide +kernel
theorem dX12_attempt_19 : decode cX12_attempt 19 = .ok (.invokevirtual 558, 3) := by decide +kernel
theorem dX12_attempt_22 : decode cX12_attempt 22 = .ok (.ifCond .ne 36, 3) := by decide +kernel
theorem dX12_attempt_25 : decode cX12_attempt 25 = .ok (.aload_n 0, 1) := by decide +kernel
theorem dX12_attempt_26 : decode cX12_attempt 26 = .ok (.iload_n 1, 1) := by decide +kernel
theorem dX12_attempt_27 : decode cX12_attempt 27 = .ok (.iconst 0, 1) := by decide +kernel
theorem dX12_attempt_28 : decode cX12_attempt 28 = .ok (.iconst 1, 1) := by decide +kernel
theorem dX12_attempt_29 : decode cX12_attempt 29 = .ok (.invokestatic 322, 3) := by decide +kernel
theorem dX12_attempt_32 : decode cX12_attempt 32 = .ok (.ifCond .eq 14, 3) := by decide +kernel
theorem dX12_attempt_35 : decode cX12_attempt 35 = .ok (.iload_n 2, 1) := by decide +kernel
theorem dX12_attempt_36 : decode cX12_attempt 36 = .ok (.iconst 1, 1) := by decide +kernel
theorem dX12_attempt_37 : decode cX12_attempt 37 = .ok (.sipush 3000, 3) := by decide +kernel
theorem dX12_attempt_40 : decode cX12_attempt 40 = .ok (.invokestatic 322, 3) := by decide +kernel
theorem dX12_attempt_43 : decode cX12_attempt 43 = .ok (.ifCond .ne 7, 3) := by decide +kernel
theorem dX12_attempt_46 : decode cX12_attempt 46 = .ok (.iconst 1, 1) := by decide +kernel
theorem dX12_attempt_47 : decode cX12_attempt 47 = .ok (.goto 4, 3) := by decide +kernel
theorem dX12_attempt_50 : decode cX12_attempt 50 = .ok (.iconst 0, 1) := by decide +kernel
theorem dX12_attempt_51 : decode cX12_attempt 51 = .ok (.iconst 2, 1) := by decide +kernel
theorem dX12_attempt_52 : decode cX12_attempt 52 = .ok (.invokevirtual 558, 3) := by decide +kernel
theorem dX12_attempt_55 : decode cX12_attempt 55 = .ok (.ifCond .eq 5, 3) := by decide +kernel
theorem dX12_attempt_58 : decode cX12_attempt 58 = .ok (.iconst 0, 1) := by decide +kernel
theorem dX12_attempt_59 : decode cX12_attempt 59 = .ok (.ireturn, 1) := by decide +kernel
theorem dX12_attempt_60 : decode cX12_attempt 60 = .ok (.aload_n 0, 1) := by decide +kernel
theorem dX12_attempt_61 : decode cX12_attempt 61 = .ok (.getfield 608, 3) := by decide +kernel
theorem dX12_attempt_64 : decode cX12_attempt 64 = .ok (.istore_n 3, 1) := by decide +kernel
theorem dX12_attempt_65 : decode cX12_attempt 65 = .ok (.aload_n 0, 1) := by decide +kernel
theorem dX12_attempt_66 : decode cX12_attempt 66 = .ok (.getfield 569, 3) := by decide +kernel
theorem dX12_attempt_69 : decode cX12_attempt 69 = .ok (.ifCond .eq 12, 3) := by decide +kernel
theorem dX12_attempt_72 : decode cX12_attempt 72 = .ok (.aload_n 0, 1) := by decide +kernel
theorem dX12_attempt_73 : decode cX12_attempt 73 = .ok (.aload_n 0, 1) := by decide +kernel
theorem dX12_attempt_74 : decode cX12_attempt 74 = .ok (.getfield 307, 3) := by decide +kernel
theorem dX12_attempt_77 : decode cX12_attempt 77 = .ok (.iconst 0, 1) := by decide +kernel
theorem dX12_attempt_78 : decode cX12_attempt 78 = .ok (.invokevirtual 723, 3) := by decide +kernel
theorem dX12_attempt_81 : decode cX12_attempt 81 = .ok (.aload_n 0, 1) := by decide +kernel
theorem dX12_attempt_82 : decode cX12_attempt 82 = .ok (.iload_n 1, 1) := by decide +kernel
theorem dX12_attempt_83 : decode cX12_attempt 83 = .ok (.putfield 608, 3) := by decide +kernel
theorem dX12_attempt_86 : decode cX12_attempt 86 = .ok (.aload_n 0, 1) := by decide +kernel
theorem dX12_attempt_87 : decode cX12_attempt 87 = .ok (.iload_n 1, 1) := by decide +kernel
theorem dX12_attempt_88 : decode cX12_attempt 88 = .ok (.iload_n 2, 1) := by decide +kernel
theorem dX12_attempt_89 : decode cX12_attempt 89 = .ok (.invokevirtual 755, 3) := by decide +kernel
theorem dX12_attempt_92 : decode cX12_attempt 92 = .ok (.aload_n 0, 1) := by decide +kernel
theorem dX12_attempt_93 : decode cX12_attempt 93 = .ok (.getfield 254, 3) := by decide +kernel
theorem dX12_attempt_96 : decode cX12_attempt 96 = .ok (.iload_n 1, 1) := by decide +kernel
theorem dX12_attempt_97 : decode cX12_attempt 97 = .ok (.iconst 1, 1) := by decide +kernel
theorem dX12_attempt_98 : decode cX12_attempt 98 = .ok (.bastore, 1) := by decide +kernel
theorem dX12_attempt_99 : decode cX12_attempt 99 = .ok (.aload_n 0, 1) := by decide +kernel
theorem dX12_attempt_100 : decode cX12_attempt 100 = .ok (.iload_n 3, 1) := by decide +kernel
theorem dX12_attempt_101 : decode cX12_attempt 101 = .ok (.putfield 608, 3) := by decide +kernel
theorem dX12_attempt_104 : decode cX12_attempt 104 = .ok (.aload_n 0, 1) := by decide +kernel
theorem dX12_attempt_105 : decode cX12_attempt 105 = .ok (.getfield 569, 3) := by decide +kernel
theorem dX12_attempt_108 : decode cX12_attempt 108 = .ok (.ifCond .eq 16, 3) := by decide +kernel
theorem dX12_attempt_111 : decode cX12_attempt 111 = .ok (.aload_n 0, 1) := by decide +kernel
theorem dX12_attempt_112 : decode cX12_attempt 112 = .ok (.aload_n 0, 1) := by decide +kernel
theorem dX12_attempt_113 : decode cX12_attempt 113 = .ok (.getfield 307, 3) := by decide +kernel
theorem dX12_attempt_116 : decode cX12_attempt 116 = .ok (.iconst 0, 1) := by decide +kernel
theorem dX12_attempt_117 : decode cX12_attempt 117 = .ok (.invokevirtual 749, 3) := by decide +kernel
theorem dX12_attempt_120 : decode cX12_attempt 120 = .ok (.aload_n 0, 1) := by decide +kernel
theorem dX12_attempt_121 : decode cX12_attempt 121 = .ok (.invokevirtual 653, 3) := by decide +kernel
theorem dX12_attempt_124 : decode cX12_attempt 124 = .ok (.aload_n 0, 1) := by decide +kernel
theorem dX12_attempt_125 : decode cX12_attempt 125 = .ok (.getfield 257, 3) := by decide +kernel
theorem dX12_attempt_128 : decode cX12_attempt 128 = .ok (.iload_n 1, 1) := by decide +kernel
theorem dX12_attempt_129 : decode cX12_attempt 129 = .ok (.iaload, 1) := by decide +kernel
theorem dX12_attempt_130 : decode cX12_attempt 130 = .ok (.ireturn, 1) := by decide +kernel
theorem dX12_tried_0 : decode cX12_tried 0 = .ok (.aload_n 0, 1) := by decide +kernel
theorem dX12_tried_1 : decode cX12_tried 1 = .ok (.iconst 0, 1) := by decide +kernel
theorem dX12_tried_2 : decode cX12_tried 2 = .ok (.putfield 316, 3) := by decide +kernel
theorem dX12_tried_5 : decode cX12_tried 5 = .ok (.aload_n 0, 1) := by decide +kernel
theorem dX12_tried_6 : decode cX12_tried 6 = .ok (.iload_n 1, 1) := by decide +kernel
theorem dX12_tried_7 : decode cX12_tried 7 = .ok (.iconst 0, 1) := by decide +kernel
theorem dX12_tried_8 : decode cX12_tried 8 = .ok (.iconst 1, 1) := by decide +kernel
theorem dX12_tried_9 : decode cX12_tried 9 = .ok (.invokestatic 322, 3) := by decide +kernel
theorem dX12_tried_12 : decode cX12_tried 12 = .ok (.ifCond .ne 7, 3) := by decide +kernel
theorem dX12_tried_15 : decode cX12_tried 15 = .ok (.iconst 1, 1) := by decide +kernel
theorem dX12_tried_16 : decode cX12_tried 16 = .ok (.goto 4, 3) := by decide +kernel
theorem dX12_tried_19 : decode cX12_tried 19 = .ok (.iconst 0, 1) := by decide +kernel
theorem dX12_tried_20 : decode cX12_tried 20 = .ok (.iconst 1, 1) := by decide +kernel
theorem dX12_tried_21 : decode cX12_tried 21 = .ok (.invokevirtual 558, 3) := by decide +kernel
theorem dX12_tried_24 : decode cX12_tried 24 = .ok (.ifCond .ne 34, 3) := by decide +kernel
theorem dX12_tried_27 : decode cX12_tried 27 = .ok (.aload_n 0, 1) := by decide +kernel
theorem dX12_tried_28 : decode cX12_tried 28 = .ok (.iload_n 2, 1) := by decide +kernel
theorem dX12_tried_29 : decode cX12_tried 29 = .ok (.iconst 0, 1) := by decide +kernel
theorem dX12_tried_30 : decode cX12_tried 30 = .ok (.iconst 5, 1) := by decide +kernel
theorem dX12_tried_31 : decode cX12_tried 31 = .ok (.invokestatic 322, 3) := by decide +kernel
theorem dX12_tried_34 : decode cX12_tried 34 = .ok (.ifCond .ne 7, 3) := by decide +kernel
theorem dX12_tried_37 : decode cX12_tried 37 = .ok (.iconst 1, 1) := by decide +kernel
theorem dX12_tried_38 : decode cX12_tried 38 = .ok (.goto 4, 3) := by decide +kernel
theorem dX12_tried_41 : decode cX12_tried 41 = .ok (.iconst 0, 1) := by decide +kernel
theorem dX12_tried_42 : decode cX12_tried 42 = .ok (.iconst 2, 1) := by decide +kernel
theorem dX12_tried_43 : decode cX12_tried 43 = .ok (.invokevirtual 558, 3) := by decide +kernel
theorem dX12_tried_46 : decode cX12_tried 46 = .ok (.ifCond .ne 12, 3) := by decide +kernel
theorem dX12_tried_49 : decode cX12_tried 49 = .ok (.aload_n 0, 1) := by decide +kernel
theorem dX12_tried_50 : decode cX12_tried 50 = .ok (.getfield 254, 3) := by decide +kernel
theorem dX12_tried_53 : decode cX12_tried 53 = .ok (.iload_n 1, 1) := by decide +kernel
theorem dX12_tried_54 : decode cX12_tried 54 = .ok (.baload, 1) := by decide +kernel
theorem dX12_tried_55 : decode cX12_tried 55 = .ok (.ifCond .ne 5, 3) := by decide +kernel
theorem dX12_tried_58 : decode cX12_tried 58 = .ok (.iconst 0, 1) := by decide +kernel
theorem dX12_tried_59 : decode cX12_tried 59 = .ok (.ireturn, 1) := by decide +kernel
theorem dX12_tried_60 : decode cX12_tried 60 = .ok (.iload_n 2, 1) := by decide +kernel
theorem dX12_tried_61 : decode cX12_tried 61 = .ok (.ifCond .ne 12, 3) := by decide +kernel
theorem dX12_tried_64 : decode cX12_tried 64 = .ok (.aload_n 0, 1) := by decide +kernel
theorem dX12_tried_65 : decode cX12_tried 65 = .ok (.getfield 257, 3) := by decide +kernel
theorem dX12_tried_68 : decode cX12_tried 68 = .ok (.iload_n 1, 1) := by decide +kernel
theorem dX12_tried_69 : decode cX12_tried 69 = .ok (.iaload, 1) := by decide +kernel
theorem dX12_tried_70 : decode cX12_tried 70 = .ok (.goto 68, 3) := by decide +kernel
theorem dX12_tried_73 : decode cX12_tried 73 = .ok (.iload_n 2, 1) := by decide +kernel
theorem dX12_tried_74 : decode cX12_tried 74 = .ok (.iconst 1, 1) := by decide +kernel
theorem dX12_tried_75 : decode cX12_tried 75 = .ok (.if_icmp .ne 15, 3) := by decide +kernel
theorem dX12_tried_78 : decode cX12_tried 78 = .ok (.aload_n 0, 1) := by decide +kernel
theorem dX12_tried_79 : decode cX12_tried 79 = .ok (.getfield 260, 3) := by decide +kernel
theorem dX12_tried_82 : decode cX12_tried 82 = .ok (.iload_n 1, 1) := by decide +kernel
theorem dX12_tried_83 : decode cX12_tried 83 = .ok (.baload, 1) := by decide +kernel
theorem dX12_tried_84 : decode cX12_tried 84 = .ok (.invokestatic 587, 3) := by decide +kernel
theorem dX12_tried_87 : decode cX12_tried 87 = .ok (.goto 51, 3) := by decide +kernel
theorem dX12_tried_90 : decode cX12_tried 90 = .ok (.iload_n 2, 1) := by decide +kernel
theorem dX12_tried_91 : decode cX12_tried 91 = .ok (.iconst 2, 1) := by decide +kernel
theorem dX12_tried_92 : decode cX12_tried 92 = .ok (.if_icmp .ne 12, 3) := by decide +kernel
theorem dX12_tried_95 : decode cX12_tried 95 = .ok (.aload_n 0, 1) := by decide +kernel
theorem dX12_tried_96 : decode cX12_tried 96 = .ok (.getfield 263, 3) := by decide +kernel
theorem dX12_tried_99 : decode cX12_tried 99 = .ok (.iload_n 1, 1) := by decide +kernel
theorem dX12_tried_100 : decode cX12_tried 100 = .ok (.iaload, 1) := by decide +kernel
theorem dX12_tried_101 : decode cX12_tried 101 = .ok (.goto 37, 3) := by decide +kernel
theorem dX12_tried_104 : decode cX12_tried 104 = .ok (.iload_n 2, 1) := by decide +kernel
theorem dX12_tried_105 : decode cX12_tried 105 = .ok (.iconst 3, 1) := by decide +kernel
theorem dX12_tried_106 : decode cX12_tried 106 = .ok (.if_icmp .ne 12, 3) := by decide +kernel
theorem dX12_tried_109 : decode cX12_tried 109 = .ok (.aload_n 0, 1) := by decide +kernel
theorem dX12_tried_110 : decode cX12_tried 110 = .ok (.getfield 266, 3) := by decide +kernel
theorem dX12_tried_113 : decode cX12_tried 113 = .ok (.iload_n 1, 1) := by decide +kernel
theorem dX12_tried_114 : decode cX12_tried 114 = .ok (.iaload, 1) := by decide +kernel
theorem dX12_tried_115 : decode cX12_tried 115 = .ok (.goto 23, 3) := by decide +kernel
theorem dX12_tried_118 : decode cX12_tried 118 = .ok (.iload_n 2, 1) := by decide +kernel
theorem dX12_tried_119 : decode cX12_tried 119 = .ok (.iconst 4, 1) := by decide +kernel
theorem dX12_tried_120 : decode cX12_tried 120 = .ok (.if_icmp .ne 12, 3) := by decide +kernel
theorem dX12_tried_123 : decode cX12_tried 123 = .ok (.aload_n 0, 1) := by decide +kernel
theorem dX12_tried_124 : decode cX12_tried 124 = .ok (.getfield 269, 3) := by decide +kernel
theorem dX12_tried_127 : decode cX12_tried 127 = .ok (.iload_n 1, 1) := by decide +kernel
theorem dX12_tried_128 : decode cX12_tried 128 = .ok (.iaload, 1) := by decide +kernel
theorem dX12_tried_129 : decode cX12_tried 129 = .ok (.goto 9, 3) := by decide +kernel
theorem dX12_tried_132 : decode cX12_tried 132 = .ok (.aload_n 0, 1) := by decide +kernel
theorem dX12_tried_133 : decode cX12_tried 133 = .ok (.getfield 272, 3) := by decide +kernel
theorem dX12_tried_136 : decode cX12_tried 136 = .ok (.iload_n 1, 1) := by decide +kernel
theorem dX12_tried_137 : decode cX12_tried 137 = .ok (.iaload, 1) := by decide +kernel
theorem dX12_tried_138 : decode cX12_tried 138 = .ok (.ireturn, 1) := by decide +kernel
theorem dX12_outcome_0 : decode cX12_outcome 0 = .ok (.aload_n 0, 1) := by decide +kernel
theorem dX12_outcome_1 : decode cX12_outcome 1 = .ok (.iconst 0, 1) := by decide +kernel
theorem dX12_outcome_2 : decode cX12_outcome 2 = .ok (.putfield 316, 3) := by decide +kernel
theorem dX12_outcome_5 : decode cX12_outcome 5 = .ok (.aload_n 0, 1) := by decide +kernel
theorem dX12_outcome_6 : decode cX12_outcome 6 = .ok (.iload_n 1, 1) := by decide +kernel
theorem dX12_outcome_7 : decode cX12_outcome 7 = .ok (.iconst 0, 1) := by decide +kernel
theorem dX12_outcome_8 : decode cX12_outcome 8 = .ok (.iconst 1, 1) := by decide +kernel
theorem dX12_outcome_9 : decode cX12_outcome 9 = .ok (.invokestatic 322, 3) := by decide +kernel
theorem dX12_outcome_12 : decode cX12_outcome 12 = .ok (.ifCond .ne 7, 3) := by decide +kernel
theorem dX12_outcome_15 : decode cX12_outcome 15 = .ok (.iconst 1, 1) := by decide +kernel
theorem dX12_outcome_16 : decode cX12_outcome 16 = .ok (.goto 4, 3) := by decide +kernel
theorem dX12_outcome_19 : decode cX12_outcome 19 = .ok (.iconst 0, 1) := by decide +kernel
theorem dX12_outcome_20 : decode cX12_outcome 20 = .ok (.iconst 1, 1) := by decide +kernel
theorem dX12_outcome_21 : decode cX12_outcome 21 = .ok (.invokevirtual 558, 3) := by decide +kernel
theorem dX12_outcome_24 : decode cX12_outcome 24 = .ok (.ifCond .ne 55, 3) := by decide +kernel
theorem dX12_outcome_27 : decode cX12_outcome 27 = .ok (.aload_n 0, 1) := by decide +kernel
theorem dX12_outcome_28 : decode cX12_outcome 28 = .ok (.aload_n 0, 1) := by decide +kernel
theorem dX12_outcome_29 : decode cX12_outcome 29 = .ok (.getfield 254, 3) := by decide +kernel
theorem dX12_outcome_32 : decode cX12_outcome 32 = .ok (.iload_n 1, 1) := by decide +kernel
theorem dX12_outcome_33 : decode cX12_outcome 33 = .ok (.baload, 1) := by decide +kernel
theorem dX12_outcome_34 : decode cX12_outcome 34 = .ok (.ifCond .eq 33, 3) := by decide +kernel
theorem dX12_outcome_37 : decode cX12_outcome 37 = .ok (.iload_n 2, 1) := by decide +kernel
theorem dX12_outcome_38 : decode cX12_outcome 38 = .ok (.iconst 0, 1) := by decide +kernel
theorem dX12_outcome_39 : decode cX12_outcome 39 = .ok (.aload_n 0, 1) := by decide +kernel
theorem dX12_outcome_40 : decode cX12_outcome 40 = .ok (.getfield 266, 3) := by decide +kernel
theorem dX12_outcome_43 : decode cX12_outcome 43 = .ok (.iload_n 1, 1) := by decide +kernel
theorem dX12_outcome_44 : decode cX12_outcome 44 = .ok (.iaload, 1) := by decide +kernel
theorem dX12_outcome_45 : decode cX12_outcome 45 = .ok (.iconst 1, 1) := by decide +kernel
theorem dX12_outcome_46 : decode cX12_outcome 46 = .ok (.isub, 1) := by decide +kernel
theorem dX12_outcome_47 : decode cX12_outcome 47 = .ok (.invokestatic 322, 3) := by decide +kernel
theorem dX12_outcome_50 : decode cX12_outcome 50 = .ok (.ifCond .eq 17, 3) := by decide +kernel
theorem dX12_outcome_53 : decode cX12_outcome 53 = .ok (.iload_n 3, 1) := by decide +kernel
theorem dX12_outcome_54 : decode cX12_outcome 54 = .ok (.iconst 0, 1) := by decide +kernel
theorem dX12_outcome_55 : decode cX12_outcome 55 = .ok (.aload_n 0, 1) := by decide +kernel
theorem dX12_outcome_56 : decode cX12_outcome 56 = .ok (.getfield 448, 3) := by decide +kernel
theorem dX12_outcome_59 : decode cX12_outcome 59 = .ok (.iconst 1, 1) := by decide +kernel
theorem dX12_outcome_60 : decode cX12_outcome 60 = .ok (.isub, 1) := by decide +kernel
theorem dX12_outcome_61 : decode cX12_outcome 61 = .ok (.invokestatic 322, 3) := by decide +kernel
theorem dX12_outcome_64 : decode cX12_outcome 64 = .ok (.ifCond .ne 7, 3) := by decide +kernel
theorem dX12_outcome_67 : decode cX12_outcome 67 = .ok (.iconst 1, 1) := by decide +kernel
theorem dX12_outcome_68 : decode cX12_outcome 68 = .ok (.goto 4, 3) := by decide +kernel
theorem dX12_outcome_71 : decode cX12_outcome 71 = .ok (.iconst 0, 1) := by decide +kernel
theorem dX12_outcome_72 : decode cX12_outcome 72 = .ok (.iconst 2, 1) := by decide +kernel
theorem dX12_outcome_73 : decode cX12_outcome 73 = .ok (.invokevirtual 558, 3) := by decide +kernel
theorem dX12_outcome_76 : decode cX12_outcome 76 = .ok (.ifCond .eq 5, 3) := by decide +kernel
theorem dX12_outcome_79 : decode cX12_outcome 79 = .ok (.iconst 0, 1) := by decide +kernel
theorem dX12_outcome_80 : decode cX12_outcome 80 = .ok (.ireturn, 1) := by decide +kernel
theorem dX12_outcome_81 : decode cX12_outcome 81 = .ok (.aload_n 0, 1) := by decide +kernel
theorem dX12_outcome_82 : decode cX12_outcome 82 = .ok (.getfield 285, 3) := by decide +kernel
theorem dX12_outcome_85 : decode cX12_outcome 85 = .ok (.ldc_w 727, 3) := by decide +kernel
theorem dX12_outcome_88 : decode cX12_outcome 88 = .ok (.iload_n 1, 1) := by decide +kernel
theorem dX12_outcome_89 : decode cX12_outcome 89 = .ok (.imul, 1) := by decide +kernel
theorem dX12_outcome_90 : decode cX12_outcome 90 = .ok (.bipush 24, 2) := by decide +kernel
theorem dX12_outcome_92 : decode cX12_outcome 92 = .ok (.iload_n 2, 1) := by decide +kernel
theorem dX12_outcome_93 : decode cX12_outcome 93 = .ok (.imul, 1) := by decide +kernel
theorem dX12_outcome_94 : decode cX12_outcome 94 = .ok (.iadd, 1) := by decide +kernel
theorem dX12_outcome_95 : decode cX12_outcome 95 = .ok (.iload_n 3, 1) := by decide +kernel
theorem dX12_outcome_96 : decode cX12_outcome 96 = .ok (.iadd, 1) := by decide +kernel
theorem dX12_outcome_97 : decode cX12_outcome 97 = .ok (.iaload, 1) := by decide +kernel
theorem dX12_outcome_98 : decode cX12_outcome 98 = .ok (.ireturn, 1) := by decide +kernel
theorem dX12_finding_0 : decode cX12_finding 0 = .ok (.aload_n 0, 1) := by decide +kernel
theorem dX12_finding_1 : decode cX12_finding 1 = .ok (.iconst 0, 1) := by decide +kernel
theorem dX12_finding_2 : decode cX12_finding 2 = .ok (.putfield 316, 3) := by decide +kernel
theorem dX12_finding_5 : decode cX12_finding 5 = .ok (.aload_n 0, 1) := by decide +kernel
theorem dX12_finding_6 : decode cX12_finding 6 = .ok (.iload_n 1, 1) := by decide +kernel
theorem dX12_finding_7 : decode cX12_finding 7 = .ok (.iconst 0, 1) := by decide +kernel
theorem dX12_finding_8 : decode cX12_finding 8 = .ok (.iconst 1, 1) := by decide +kernel
theorem dX12_finding_9 : decode cX12_finding 9 = .ok (.invokestatic 322, 3) := by decide +kernel
theorem dX12_finding_12 : decode cX12_finding 12 = .ok (.ifCond .eq 13, 3) := by decide +kernel
theorem dX12_finding_15 : decode cX12_finding 15 = .ok (.iload_n 2, 1) := by decide +kernel
theorem dX12_finding_16 : decode cX12_finding 16 = .ok (.iconst 0, 1) := by decide +kernel
theorem dX12_finding_17 : decode cX12_finding 17 = .ok (.bipush 10, 2) := by decide +kernel
theorem dX12_finding_19 : decode cX12_finding 19 = .ok (.invokestatic 322, 3) := by decide +kernel
theorem dX12_finding_22 : decode cX12_finding 22 = .ok (.ifCond .ne 7, 3) := by decide +kernel
theorem dX12_finding_25 : decode cX12_finding 25 = .ok (.iconst 1, 1) := by decide +kernel
theorem dX12_finding_26 : decode cX12_finding 26 = .ok (.goto 4, 3) := by decide +kernel
theorem dX12_finding_29 : decode cX12_finding 29 = .ok (.iconst 0, 1) := by decide +kernel
theorem dX12_finding_30 : decode cX12_finding 30 = .ok (.iconst 1, 1) := by decide +kernel
theorem dX12_finding_31 : decode cX12_finding 31 = .ok (.invokevirtual 558, 3) := by decide +kernel
theorem dX12_finding_34 : decode cX12_finding 34 = .ok (.ifCond .eq 5, 3) := by decide +kernel
theorem dX12_finding_37 : decode cX12_finding 37 = .ok (.iconst 0, 1) := by decide +kernel
theorem dX12_finding_38 : decode cX12_finding 38 = .ok (.ireturn, 1) := by decide +kernel
theorem dX12_finding_39 : decode cX12_finding 39 = .ok (.aload_n 0, 1) := by decide +kernel
theorem dX12_finding_40 : decode cX12_finding 40 = .ok (.getfield 254, 3) := by decide +kernel
theorem dX12_finding_43 : decode cX12_finding 43 = .ok (.iload_n 1, 1) := by decide +kernel
theorem dX12_finding_44 : decode cX12_finding 44 = .ok (.baload, 1) := by decide +kernel
theorem dX12_finding_45 : decode cX12_finding 45 = .ok (.ifCond .eq 17, 3) := by decide +kernel
theorem dX12_finding_48 : decode cX12_finding 48 = .ok (.aload_n 0, 1) := by decide +kernel
theorem dX12_finding_49 : decode cX12_finding 49 = .ok (.getfield 275, 3) := by decide +kernel
theorem dX12_finding_52 : decode cX12_finding 52 = .ok (.bipush 11, 2) := by decide +kernel
theorem dX12_finding_54 : decode cX12_finding 54 = .ok (.iload_n 1, 1) := by decide +kernel
theorem dX12_finding_55 : decode cX12_finding 55 = .ok (.imul, 1) := by decide +kernel
theorem dX12_finding_56 : decode cX12_finding 56 = .ok (.iload_n 2, 1) := by decide +kernel
theorem dX12_finding_57 : decode cX12_finding 57 = .ok (.iadd, 1) := by decide +kernel
theorem dX12_finding_58 : decode cX12_finding 58 = .ok (.iaload, 1) := by decide +kernel
theorem dX12_finding_59 : decode cX12_finding 59 = .ok (.goto 4, 3) := by decide +kernel
theorem dX12_finding_62 : decode cX12_finding 62 = .ok (.iconst (-1), 1) := by decide +kernel
theorem dX12_finding_63 : decode cX12_finding 63 = .ok (.istore_n 3, 1) := by decide +kernel
theorem dX12_finding_64 : decode cX12_finding 64 = .ok (.iload_n 3, 1) := by decide +kernel
theorem dX12_finding_65 : decode cX12_finding 65 = .ok (.iconst (-1), 1) := by decide +kernel
theorem dX12_finding_66 : decode cX12_finding 66 = .ok (.if_icmp .ne 7, 3) := by decide +kernel
theorem dX12_finding_69 : decode cX12_finding 69 = .ok (.iconst (-1), 1) := by decide +kernel
theorem dX12_finding_70 : decode cX12_finding 70 = .ok (.goto 15, 3) := by decide +kernel
theorem dX12_finding_73 : decode cX12_finding 73 = .ok (.aload_n 0, 1) := by decide +kernel
theorem dX12_finding_74 : decode cX12_finding 74 = .ok (.getfield 294, 3) := by decide +kernel
theorem dX12_finding_77 : decode cX12_finding 77 = .ok (.sipush 3000, 3) := by decide +kernel
theorem dX12_finding_80 : decode cX12_finding 80 = .ok (.iload_n 1, 1) := by decide +kernel
theorem dX12_finding_81 : decode cX12_finding 81 = .ok (.imul, 1) := by decide +kernel
theorem dX12_finding_82 : decode cX12_finding 82 = .ok (.iload_n 3, 1) := by decide +kernel
theorem dX12_finding_83 : decode cX12_finding 83 = .ok (.iadd, 1) := by decide +kernel
theorem dX12_finding_84 : decode cX12_finding 84 = .ok (.iaload, 1) := by decide +kernel
theorem dX12_finding_85 : decode cX12_finding 85 = .ok (.ireturn, 1) := by decide +kernel
theorem dX12_show_0 : decode cX12_show 0 = .ok (.aload_n 0, 1) := by decide +kernel
theorem dX12_show_1 : decode cX12_show 1 = .ok (.iconst 0, 1) := by decide +kernel
theorem dX12_show_2 : decode cX12_show 2 = .ok (.putfield 316, 3) := by decide +kernel
theorem dX12_show_5 : decode cX12_show 5 = .ok (.aload_n 0, 1) := by decide +kernel
theorem dX12_show_6 : decode cX12_show 6 = .ok (.iload_n 1, 1) := by decide +kernel
theorem dX12_show_7 : decode cX12_show 7 = .ok (.iconst 0, 1) := by decide +kernel
theorem dX12_show_8 : decode cX12_show 8 = .ok (.iconst 1, 1) := by decide +kernel
theorem dX12_show_9 : decode cX12_show 9 = .ok (.invokestatic 322, 3) := by decide +kernel
theorem dX12_show_12 : decode cX12_show 12 = .ok (.ifCond .eq 13, 3) := by decide +kernel
theorem dX12_show_15 : decode cX12_show 15 = .ok (.iload_n 2, 1) := by decide +kernel
theorem dX12_show_16 : decode cX12_show 16 = .ok (.iconst 0, 1) := by decide +kernel
theorem dX12_show_17 : decode cX12_show 17 = .ok (.bipush 10, 2) := by decide +kernel
theorem dX12_show_19 : decode cX12_show 19 = .ok (.invokestatic 322, 3) := by decide +kernel
theorem dX12_show_22 : decode cX12_show 22 = .ok (.ifCond .ne 7, 3) := by decide +kernel
theorem dX12_show_25 : decode cX12_show 25 = .ok (.iconst 1, 1) := by decide +kernel
theorem dX12_show_26 : decode cX12_show 26 = .ok (.goto 4, 3) := by decide +kernel
theorem dX12_show_29 : decode cX12_show 29 = .ok (.iconst 0, 1) := by decide +kernel
theorem dX12_show_30 : decode cX12_show 30 = .ok (.iconst 1, 1) := by decide +kernel
theorem dX12_show_31 : decode cX12_show 31 = .ok (.invokevirtual 558, 3) := by decide +kernel
theorem dX12_show_34 : decode cX12_show 34 = .ok (.ifCond .eq 5, 3) := by decide +kernel
theorem dX12_show_37 : decode cX12_show 37 = .ok (.iconst 0, 1) := by decide +kernel
theorem dX12_show_38 : decode cX12_show 38 = .ok (.ireturn, 1) := by decide +kernel
theorem dX12_show_39 : decode cX12_show 39 = .ok (.aload_n 0, 1) := by decide +kernel
theorem dX12_show_40 : decode cX12_show 40 = .ok (.getfield 254, 3) := by decide +kernel
theorem dX12_show_43 : decode cX12_show 43 = .ok (.iload_n 1, 1) := by decide +kernel
theorem dX12_show_44 : decode cX12_show 44 = .ok (.baload, 1) := by decide +kernel
theorem dX12_show_45 : decode cX12_show 45 = .ok (.ifCond .eq 17, 3) := by decide +kernel
theorem dX12_show_48 : decode cX12_show 48 = .ok (.aload_n 0, 1) := by decide +kernel
theorem dX12_show_49 : decode cX12_show 49 = .ok (.getfield 275, 3) := by decide +kernel
theorem dX12_show_52 : decode cX12_show 52 = .ok (.bipush 11, 2) := by decide +kernel
theorem dX12_show_54 : decode cX12_show 54 = .ok (.iload_n 1, 1) := by decide +kernel
theorem dX12_show_55 : decode cX12_show 55 = .ok (.imul, 1) := by decide +kernel
theorem dX12_show_56 : decode cX12_show 56 = .ok (.iload_n 2, 1) := by decide +kernel
theorem dX12_show_57 : decode cX12_show 57 = .ok (.iadd, 1) := by decide +kernel
theorem dX12_show_58 : decode cX12_show 58 = .ok (.iaload, 1) := by decide +kernel
theorem dX12_show_59 : decode cX12_show 59 = .ok (.goto 4, 3) := by decide +kernel
theorem dX12_show_62 : decode cX12_show 62 = .ok (.iconst (-1), 1) := by decide +kernel
theorem dX12_show_63 : decode cX12_show 63 = .ok (.istore_n 3, 1) := by decide +kernel
theorem dX12_show_64 : decode cX12_show 64 = .ok (.aload_n 0, 1) := by decide +kernel
theorem dX12_show_65 : decode cX12_show 65 = .ok (.iload_n 3, 1) := by decide +kernel
theorem dX12_show_66 : decode cX12_show 66 = .ok (.iconst (-1), 1) := by decide +kernel
theorem dX12_show_67 : decode cX12_show 67 = .ok (.if_icmp .ne 7, 3) := by decide +kernel
theorem dX12_show_70 : decode cX12_show 70 = .ok (.iconst 1, 1) := by decide +kernel
theorem dX12_show_71 : decode cX12_show 71 = .ok (.goto 4, 3) := by decide +kernel
theorem dX12_show_74 : decode cX12_show 74 = .ok (.iconst 0, 1) := by decide +kernel
theorem dX12_show_75 : decode cX12_show 75 = .ok (.iconst 2, 1) := by decide +kernel
theorem dX12_show_76 : decode cX12_show 76 = .ok (.invokevirtual 558, 3) := by decide +kernel
theorem dX12_show_79 : decode cX12_show 79 = .ok (.ifCond .ne 34, 3) := by decide +kernel
theorem dX12_show_82 : decode cX12_show 82 = .ok (.aload_n 0, 1) := by decide +kernel
theorem dX12_show_83 : decode cX12_show 83 = .ok (.aload_n 0, 1) := by decide +kernel
theorem dX12_show_84 : decode cX12_show 84 = .ok (.getfield 294, 3) := by decide +kernel
theorem dX12_show_87 : decode cX12_show 87 = .ok (.sipush 3000, 3) := by decide +kernel
theorem dX12_show_90 : decode cX12_show 90 = .ok (.iload_n 1, 1) := by decide +kernel
theorem dX12_show_91 : decode cX12_show 91 = .ok (.imul, 1) := by decide +kernel
theorem dX12_show_92 : decode cX12_show 92 = .ok (.iload_n 3, 1) := by decide +kernel
theorem dX12_show_93 : decode cX12_show 93 = .ok (.iadd, 1) := by decide +kernel
theorem dX12_show_94 : decode cX12_show 94 = .ok (.iaload, 1) := by decide +kernel
theorem dX12_show_95 : decode cX12_show 95 = .ok (.sipush 400, 3) := by decide +kernel
theorem dX12_show_98 : decode cX12_show 98 = .ok (.if_icmp .le 7, 3) := by decide +kernel
theorem dX12_show_101 : decode cX12_show 101 = .ok (.iconst 1, 1) := by decide +kernel
theorem dX12_show_102 : decode cX12_show 102 = .ok (.goto 4, 3) := by decide +kernel
theorem dX12_show_105 : decode cX12_show 105 = .ok (.iconst 0, 1) := by decide +kernel
theorem dX12_show_106 : decode cX12_show 106 = .ok (.iconst 2, 1) := by decide +kernel
theorem dX12_show_107 : decode cX12_show 107 = .ok (.invokevirtual 558, 3) := by decide +kernel
theorem dX12_show_110 : decode cX12_show 110 = .ok (.ifCond .eq 5, 3) := by decide +kernel
theorem dX12_show_113 : decode cX12_show 113 = .ok (.iconst 0, 1) := by decide +kernel
theorem dX12_show_114 : decode cX12_show 114 = .ok (.ireturn, 1) := by decide +kernel
theorem dX12_show_115 : decode cX12_show 115 = .ok (.aload_n 0, 1) := by decide +kernel
theorem dX12_show_116 : decode cX12_show 116 = .ok (.getfield 294, 3) := by decide +kernel
theorem dX12_show_119 : decode cX12_show 119 = .ok (.sipush 3000, 3) := by decide +kernel
theorem dX12_show_122 : decode cX12_show 122 = .ok (.iload_n 1, 1) := by decide +kernel
theorem dX12_show_123 : decode cX12_show 123 = .ok (.imul, 1) := by decide +kernel
theorem dX12_show_124 : decode cX12_show 124 = .ok (.iload_n 3, 1) := by decide +kernel
theorem dX12_show_125 : decode cX12_show 125 = .ok (.iadd, 1) := by decide +kernel
theorem dX12_show_126 : decode cX12_show 126 = .ok (.iaload, 1) := by decide +kernel
theorem dX12_show_127 : decode cX12_show 127 = .ok (.istore 4, 2) := by decide +kernel
theorem dX12_show_129 : decode cX12_show 129 = .ok (.iload 4, 2) := by decide +kernel
theorem dX12_show_131 : decode cX12_show 131 = .ok (.iconst 1, 1) := by decide +kernel
theorem dX12_show_132 : decode cX12_show 132 = .ok (.isub, 1) := by decide +kernel
theorem dX12_show_133 : decode cX12_show 133 = .ok (.istore 5, 2) := by decide +kernel
theorem dX12_show_135 : decode cX12_show 135 = .ok (.iload 5, 2) := by decide +kernel
theorem dX12_show_137 : decode cX12_show 137 = .ok (.ifCond .lt 41, 3) := by decide +kernel
theorem dX12_show_140 : decode cX12_show 140 = .ok (.aload_n 0, 1) := by decide +kernel
theorem dX12_show_141 : decode cX12_show 141 = .ok (.getfield 310, 3) := by decide +kernel
theorem dX12_show_144 : decode cX12_show 144 = .ok (.iload 5, 2) := by decide +kernel
theorem dX12_show_146 : decode cX12_show 146 = .ok (.aload_n 0, 1) := by decide +kernel
theorem dX12_show_147 : decode cX12_show 147 = .ok (.getfield 291, 3) := by decide +kernel
theorem dX12_show_150 : decode cX12_show 150 = .ok (.sipush 3000, 3) := by decide +kernel
theorem dX12_show_153 : decode cX12_show 153 = .ok (.iload_n 1, 1) := by decide +kernel
theorem dX12_show_154 : decode cX12_show 154 = .ok (.imul, 1) := by decide +kernel
theorem dX12_show_155 : decode cX12_show 155 = .ok (.iload_n 3, 1) := by decide +kernel
theorem dX12_show_156 : decode cX12_show 156 = .ok (.iadd, 1) := by decide +kernel
theorem dX12_show_157 : decode cX12_show 157 = .ok (.iaload, 1) := by decide +kernel
theorem dX12_show_158 : decode cX12_show 158 = .ok (.iastore, 1) := by decide +kernel
theorem dX12_show_159 : decode cX12_show 159 = .ok (.aload_n 0, 1) := by decide +kernel
theorem dX12_show_160 : decode cX12_show 160 = .ok (.getfield 288, 3) := by decide +kernel
theorem dX12_show_163 : decode cX12_show 163 = .ok (.sipush 3000, 3) := by decide +kernel
theorem dX12_show_166 : decode cX12_show 166 = .ok (.iload_n 1, 1) := by decide +kernel
theorem dX12_show_167 : decode cX12_show 167 = .ok (.imul, 1) := by decide +kernel
theorem dX12_show_168 : decode cX12_show 168 = .ok (.iload_n 3, 1) := by decide +kernel
theorem dX12_show_169 : decode cX12_show 169 = .ok (.iadd, 1) := by decide +kernel
theorem dX12_show_170 : decode cX12_show 170 = .ok (.iaload, 1) := by decide +kernel
theorem dX12_show_171 : decode cX12_show 171 = .ok (.istore_n 3, 1) := by decide +kernel
theorem dX12_show_172 : decode cX12_show 172 = .ok (.iinc 5 (-1), 3) := by decide +kernel
theorem dX12_show_175 : decode cX12_show 175 = .ok (.goto (-40), 3) := by decide +kernel
theorem dX12_show_178 : decode cX12_show 178 = .ok (.aload_n 0, 1) := by decide +kernel
theorem dX12_show_179 : decode cX12_show 179 = .ok (.iload_n 1, 1) := by decide +kernel
theorem dX12_show_180 : decode cX12_show 180 = .ok (.invokevirtual 677, 3) := by decide +kernel
theorem dX12_show_183 : decode cX12_show 183 = .ok (.iconst 0, 1) := by decide +kernel
theorem dX12_show_184 : decode cX12_show 184 = .ok (.istore 5, 2) := by decide +kernel
theorem dX12_show_186 : decode cX12_show 186 = .ok (.iload 5, 2) := by decide +kernel
theorem dX12_show_188 : decode cX12_show 188 = .ok (.iload 4, 2) := by decide +kernel
theorem dX12_show_190 : decode cX12_show 190 = .ok (.if_icmp .ge 20, 3) := by decide +kernel
theorem dX12_show_193 : decode cX12_show 193 = .ok (.aload_n 0, 1) := by decide +kernel
theorem dX12_show_194 : decode cX12_show 194 = .ok (.aload_n 0, 1) := by decide +kernel
theorem dX12_show_195 : decode cX12_show 195 = .ok (.getfield 310, 3) := by decide +kernel
theorem dX12_show_198 : decode cX12_show 198 = .ok (.iload 5, 2) := by decide +kernel
theorem dX12_show_200 : decode cX12_show 200 = .ok (.iaload, 1) := by decide +kernel
theorem dX12_show_201 : decode cX12_show 201 = .ok (.invokevirtual 683, 3) := by decide +kernel
theorem dX12_show_204 : decode cX12_show 204 = .ok (.iinc 5 1, 3) := by decide +kernel
theorem dX12_show_207 : decode cX12_show 207 = .ok (.goto (-21), 3) := by decide +kernel
theorem dX12_show_210 : decode cX12_show 210 = .ok (.aload_n 0, 1) := by decide +kernel
theorem dX12_show_211 : decode cX12_show 211 = .ok (.getfield 644, 3) := by decide +kernel
theorem dX12_show_214 : decode cX12_show 214 = .ok (.ireturn, 1) := by decide +kernel
theorem dX12_common_0 : decode cX12_common 0 = .ok (.aload_n 0, 1) := by decide +kernel
theorem dX12_common_1 : decode cX12_common 1 = .ok (.iconst 0, 1) := by decide +kernel
theorem dX12_common_2 : decode cX12_common 2 = .ok (.putfield 316, 3) := by decide +kernel
theorem dX12_common_5 : decode cX12_common 5 = .ok (.aload_n 0, 1) := by decide +kernel
theorem dX12_common_6 : decode cX12_common 6 = .ok (.iload_n 1, 1) := by decide +kernel
theorem dX12_common_7 : decode cX12_common 7 = .ok (.iconst 0, 1) := by decide +kernel
theorem dX12_common_8 : decode cX12_common 8 = .ok (.iconst 1, 1) := by decide +kernel
theorem dX12_common_9 : decode cX12_common 9 = .ok (.invokestatic 322, 3) := by decide +kernel
theorem dX12_common_12 : decode cX12_common 12 = .ok (.ifCond .ne 7, 3) := by decide +kernel
theorem dX12_common_15 : decode cX12_common 15 = .ok (.iconst 1, 1) := by decide +kernel
theorem dX12_common_16 : decode cX12_common 16 = .ok (.goto 4, 3) := by decide +kernel
theorem dX12_common_19 : decode cX12_common 19 = .ok (.iconst 0, 1) := by decide +kernel
theorem dX12_common_20 : decode cX12_common 20 = .ok (.iconst 1, 1) := by decide +kernel
theorem dX12_common_21 : decode cX12_common 21 = .ok (.invokevirtual 558, 3) := by decide +kernel
theorem dX12_common_24 : decode cX12_common 24 = .ok (.ifCond .ne 30, 3) := by decide +kernel
theorem dX12_common_27 : decode cX12_common 27 = .ok (.aload_n 0, 1) := by decide +kernel
theorem dX12_common_28 : decode cX12_common 28 = .ok (.iload_n 2, 1) := by decide +kernel
theorem dX12_common_29 : decode cX12_common 29 = .ok (.iconst 0, 1) := by decide +kernel
theorem dX12_common_30 : decode cX12_common 30 = .ok (.aload_n 0, 1) := by decide +kernel
theorem dX12_common_31 : decode cX12_common 31 = .ok (.getfield 448, 3) := by decide +kernel
theorem dX12_common_34 : decode cX12_common 34 = .ok (.iconst 1, 1) := by decide +kernel
theorem dX12_common_35 : decode cX12_common 35 = .ok (.isub, 1) := by decide +kernel
theorem dX12_common_36 : decode cX12_common 36 = .ok (.invokestatic 322, 3) := by decide +kernel
theorem dX12_common_39 : decode cX12_common 39 = .ok (.ifCond .ne 7, 3) := by decide +kernel
theorem dX12_common_42 : decode cX12_common 42 = .ok (.iconst 1, 1) := by decide +kernel
theorem dX12_common_43 : decode cX12_common 43 = .ok (.goto 4, 3) := by decide +kernel
theorem dX12_common_46 : decode cX12_common 46 = .ok (.iconst 0, 1) := by decide +kernel
theorem dX12_common_47 : decode cX12_common 47 = .ok (.iconst 2, 1) := by decide +kernel
theorem dX12_common_48 : decode cX12_common 48 = .ok (.invokevirtual 558, 3) := by decide +kernel
theorem dX12_common_51 : decode cX12_common 51 = .ok (.ifCond .eq 5, 3) := by decide +kernel
theorem dX12_common_54 : decode cX12_common 54 = .ok (.iconst 0, 1) := by decide +kernel
theorem dX12_common_55 : decode cX12_common 55 = .ok (.ireturn, 1) := by decide +kernel
theorem dX12_common_56 : decode cX12_common 56 = .ok (.aload_n 0, 1) := by decide +kernel
theorem dX12_common_57 : decode cX12_common 57 = .ok (.getfield 254, 3) := by decide +kernel
theorem dX12_common_60 : decode cX12_common 60 = .ok (.iload_n 1, 1) := by decide +kernel
theorem dX12_common_61 : decode cX12_common 61 = .ok (.baload, 1) := by decide +kernel
theorem dX12_common_62 : decode cX12_common 62 = .ok (.ifCond .eq 17, 3) := by decide +kernel
theorem dX12_common_65 : decode cX12_common 65 = .ok (.aload_n 0, 1) := by decide +kernel
theorem dX12_common_66 : decode cX12_common 66 = .ok (.getfield 278, 3) := by decide +kernel
theorem dX12_common_69 : decode cX12_common 69 = .ok (.bipush 24, 2) := by decide +kernel
theorem dX12_common_71 : decode cX12_common 71 = .ok (.iload_n 1, 1) := by decide +kernel
theorem dX12_common_72 : decode cX12_common 72 = .ok (.imul, 1) := by decide +kernel
theorem dX12_common_73 : decode cX12_common 73 = .ok (.iload_n 2, 1) := by decide +kernel
theorem dX12_common_74 : decode cX12_common 74 = .ok (.iadd, 1) := by decide +kernel
theorem dX12_common_75 : decode cX12_common 75 = .ok (.iaload, 1) := by decide +kernel
theorem dX12_common_76 : decode cX12_common 76 = .ok (.goto 11, 3) := by decide +kernel
theorem dX12_common_79 : decode cX12_common 79 = .ok (.iconst 1, 1) := by decide +kernel
theorem dX12_common_80 : decode cX12_common 80 = .ok (.aload_n 0, 1) := by decide +kernel
theorem dX12_common_81 : decode cX12_common 81 = .ok (.getfield 458, 3) := by decide +kernel
theorem dX12_common_84 : decode cX12_common 84 = .ok (.ishl, 1) := by decide +kernel
theorem dX12_common_85 : decode cX12_common 85 = .ok (.iconst 1, 1) := by decide +kernel
theorem dX12_common_86 : decode cX12_common 86 = .ok (.isub, 1) := by decide +kernel
theorem dX12_common_87 : decode cX12_common 87 = .ok (.ireturn, 1) := by decide +kernel
theorem dX12_ring_0 : decode cX12_ring 0 = .ok (.aload_n 0, 1) := by decide +kernel
theorem dX12_ring_1 : decode cX12_ring 1 = .ok (.iconst 0, 1) := by decide +kernel
theorem dX12_ring_2 : decode cX12_ring 2 = .ok (.putfield 316, 3) := by decide +kernel
theorem dX12_ring_5 : decode cX12_ring 5 = .ok (.aload_n 0, 1) := by decide +kernel
theorem dX12_ring_6 : decode cX12_ring 6 = .ok (.iload_n 1, 1) := by decide +kernel
theorem dX12_ring_7 : decode cX12_ring 7 = .ok (.iconst 0, 1) := by decide +kernel
theorem dX12_ring_8 : decode cX12_ring 8 = .ok (.iconst 1, 1) := by decide +kernel
theorem dX12_ring_9 : decode cX12_ring 9 = .ok (.invokestatic 322, 3) := by decide +kernel
theorem dX12_ring_12 : decode cX12_ring 12 = .ok (.ifCond .ne 7, 3) := by decide +kernel
theorem dX12_ring_15 : decode cX12_ring 15 = .ok (.iconst 1, 1) := by decide +kernel
theorem dX12_ring_16 : decode cX12_ring 16 = .ok (.goto 4, 3) := by decide +kernel
theorem dX12_ring_19 : decode cX12_ring 19 = .ok (.iconst 0, 1) := by decide +kernel
theorem dX12_ring_20 : decode cX12_ring 20 = .ok (.iconst 1, 1) := by decide +kernel
theorem dX12_ring_21 : decode cX12_ring 21 = .ok (.invokevirtual 558, 3) := by decide +kernel
theorem dX12_ring_24 : decode cX12_ring 24 = .ok (.ifCond .ne 12, 3) := by decide +kernel
theorem dX12_ring_27 : decode cX12_ring 27 = .ok (.aload_n 0, 1) := by decide +kernel
theorem dX12_ring_28 : decode cX12_ring 28 = .ok (.getfield 254, 3) := by decide +kernel
theorem dX12_ring_31 : decode cX12_ring 31 = .ok (.iload_n 1, 1) := by decide +kernel
theorem dX12_ring_32 : decode cX12_ring 32 = .ok (.baload, 1) := by decide +kernel
theorem dX12_ring_33 : decode cX12_ring 33 = .ok (.ifCond .ne 5, 3) := by decide +kernel
theorem dX12_ring_36 : decode cX12_ring 36 = .ok (.iconst 0, 1) := by decide +kernel
theorem dX12_ring_37 : decode cX12_ring 37 = .ok (.ireturn, 1) := by decide +kernel
theorem dX12_ring_38 : decode cX12_ring 38 = .ok (.iconst 0, 1) := by decide +kernel
theorem dX12_ring_39 : decode cX12_ring 39 = .ok (.istore_n 2, 1) := by decide +kernel
theorem dX12_ring_40 : decode cX12_ring 40 = .ok (.iconst 0, 1) := by decide +kernel
theorem dX12_ring_41 : decode cX12_ring 41 = .ok (.istore_n 3, 1) := by decide +kernel
theorem dX12_ring_42 : decode cX12_ring 42 = .ok (.iload_n 3, 1) := by decide +kernel
theorem dX12_ring_43 : decode cX12_ring 43 = .ok (.aload_n 0, 1) := by decide +kernel
theorem dX12_ring_44 : decode cX12_ring 44 = .ok (.getfield 458, 3) := by decide +kernel
theorem dX12_ring_47 : decode cX12_ring 47 = .ok (.if_icmp .ge 209, 3) := by decide +kernel
theorem dX12_ring_50 : decode cX12_ring 50 = .ok (.iconst 0, 1) := by decide +kernel
theorem dX12_ring_51 : decode cX12_ring 51 = .ok (.istore 4, 2) := by decide +kernel
theorem dX12_ring_53 : decode cX12_ring 53 = .ok (.iload 4, 2) := by decide +kernel
theorem dX12_ring_55 : decode cX12_ring 55 = .ok (.aload_n 0, 1) := by decide +kernel
theorem dX12_ring_56 : decode cX12_ring 56 = .ok (.getfield 458, 3) := by decide +kernel
theorem dX12_ring_59 : decode cX12_ring 59 = .ok (.if_icmp .ge 17, 3) := by decide +kernel
theorem dX12_ring_62 : decode cX12_ring 62 = .ok (.aload_n 0, 1) := by decide +kernel
theorem dX12_ring_63 : decode cX12_ring 63 = .ok (.getfield 313, 3) := by decide +kernel
theorem dX12_ring_66 : decode cX12_ring 66 = .ok (.iload 4, 2) := by decide +kernel
theorem dX12_ring_68 : decode cX12_ring 68 = .ok (.iconst 0, 1) := by decide +kernel
theorem dX12_ring_69 : decode cX12_ring 69 = .ok (.iastore, 1) := by decide +kernel
theorem dX12_ring_70 : decode cX12_ring 70 = .ok (.iinc 4 1, 3) := by decide +kernel
theorem dX12_ring_73 : decode cX12_ring 73 = .ok (.goto (-20), 3) := by decide +kernel
theorem dX12_ring_76 : decode cX12_ring 76 = .ok (.iconst 1, 1) := by decide +kernel
theorem dX12_ring_77 : decode cX12_ring 77 = .ok (.istore 4, 2) := by decide +kernel
theorem dX12_ring_79 : decode cX12_ring 79 = .ok (.iload 4, 2) := by decide +kernel
theorem dX12_ring_81 : decode cX12_ring 81 = .ok (.aload_n 0, 1) := by decide +kernel
theorem dX12_ring_82 : decode cX12_ring 82 = .ok (.getfield 458, 3) := by decide +kernel
theorem dX12_ring_85 : decode cX12_ring 85 = .ok (.if_icmp .gt 131, 3) := by decide +kernel
theorem dX12_ring_88 : decode cX12_ring 88 = .ok (.iconst 0, 1) := by decide +kernel
theorem dX12_ring_89 : decode cX12_ring 89 = .ok (.istore 5, 2) := by decide +kernel
theorem dX12_ring_91 : decode cX12_ring 91 = .ok (.iload 5, 2) := by decide +kernel
theorem dX12_ring_93 : decode cX12_ring 93 = .ok (.aload_n 0, 1) := by decide +kernel
theorem dX12_ring_94 : decode cX12_ring 94 = .ok (.getfield 458, 3) := by decide +kernel
theorem dX12_ring_97 : decode cX12_ring 97 = .ok (.if_icmp .ge 113, 3) := by decide +kernel
theorem dX12_ring_100 : decode cX12_ring 100 = .ok (.iload 4, 2) := by decide +kernel
theorem dX12_ring_102 : decode cX12_ring 102 = .ok (.iconst 1, 1) := by decide +kernel
theorem dX12_ring_103 : decode cX12_ring 103 = .ok (.if_icmp .ne 17, 3) := by decide +kernel
theorem dX12_ring_106 : decode cX12_ring 106 = .ok (.iload 5, 2) := by decide +kernel
theorem dX12_ring_108 : decode cX12_ring 108 = .ok (.iload_n 3, 1) := by decide +kernel
theorem dX12_ring_109 : decode cX12_ring 109 = .ok (.if_icmp .ne 7, 3) := by decide +kernel
theorem dX12_ring_112 : decode cX12_ring 112 = .ok (.iconst 1, 1) := by decide +kernel
theorem dX12_ring_113 : decode cX12_ring 113 = .ok (.goto 26, 3) := by decide +kernel
theorem dX12_ring_116 : decode cX12_ring 116 = .ok (.iconst 0, 1) := by decide +kernel
theorem dX12_ring_117 : decode cX12_ring 117 = .ok (.goto 22, 3) := by decide +kernel
theorem dX12_ring_120 : decode cX12_ring 120 = .ok (.aload_n 0, 1) := by decide +kernel
theorem dX12_ring_121 : decode cX12_ring 121 = .ok (.getfield 313, 3) := by decide +kernel
theorem dX12_ring_124 : decode cX12_ring 124 = .ok (.iload 5, 2) := by decide +kernel
theorem dX12_ring_126 : decode cX12_ring 126 = .ok (.iaload, 1) := by decide +kernel
theorem dX12_ring_127 : decode cX12_ring 127 = .ok (.iload 4, 2) := by decide +kernel
theorem dX12_ring_129 : decode cX12_ring 129 = .ok (.iconst 1, 1) := by decide +kernel
theorem dX12_ring_130 : decode cX12_ring 130 = .ok (.isub, 1) := by decide +kernel
theorem dX12_ring_131 : decode cX12_ring 131 = .ok (.if_icmp .ne 7, 3) := by decide +kernel
theorem dX12_ring_134 : decode cX12_ring 134 = .ok (.iconst 1, 1) := by decide +kernel
theorem dX12_ring_135 : decode cX12_ring 135 = .ok (.goto 4, 3) := by decide +kernel
theorem dX12_ring_138 : decode cX12_ring 138 = .ok (.iconst 0, 1) := by decide +kernel
theorem dX12_ring_139 : decode cX12_ring 139 = .ok (.istore 6, 2) := by decide +kernel
theorem dX12_ring_141 : decode cX12_ring 141 = .ok (.iconst 0, 1) := by decide +kernel
theorem dX12_ring_142 : decode cX12_ring 142 = .ok (.istore 7, 2) := by decide +kernel
theorem dX12_ring_144 : decode cX12_ring 144 = .ok (.iload 7, 2) := by decide +kernel
theorem dX12_ring_146 : decode cX12_ring 146 = .ok (.aload_n 0, 1) := by decide +kernel
theorem dX12_ring_147 : decode cX12_ring 147 = .ok (.getfield 458, 3) := by decide +kernel
theorem dX12_ring_150 : decode cX12_ring 150 = .ok (.if_icmp .ge 54, 3) := by decide +kernel
theorem dX12_ring_153 : decode cX12_ring 153 = .ok (.iload 6, 2) := by decide +kernel
theorem dX12_ring_155 : decode cX12_ring 155 = .ok (.ifCond .eq 49, 3) := by decide +kernel
theorem dX12_ring_158 : decode cX12_ring 158 = .ok (.aload_n 0, 1) := by decide +kernel
theorem dX12_ring_159 : decode cX12_ring 159 = .ok (.getfield 281, 3) := by decide +kernel
theorem dX12_ring_162 : decode cX12_ring 162 = .ok (.bipush 36, 2) := by decide +kernel
theorem dX12_ring_164 : decode cX12_ring 164 = .ok (.iload_n 1, 1) := by decide +kernel
theorem dX12_ring_165 : decode cX12_ring 165 = .ok (.imul, 1) := by decide +kernel
theorem dX12_ring_166 : decode cX12_ring 166 = .ok (.bipush 6, 2) := by decide +kernel
theorem dX12_ring_168 : decode cX12_ring 168 = .ok (.iload 5, 2) := by decide +kernel
theorem dX12_ring_170 : decode cX12_ring 170 = .ok (.imul, 1) := by decide +kernel
theorem dX12_ring_171 : decode cX12_ring 171 = .ok (.iadd, 1) := by decide +kernel
theorem dX12_ring_172 : decode cX12_ring 172 = .ok (.iload 7, 2) := by decide +kernel
theorem dX12_ring_174 : decode cX12_ring 174 = .ok (.iadd, 1) := by decide +kernel
theorem dX12_ring_175 : decode cX12_ring 175 = .ok (.baload, 1) := by decide +kernel
theorem dX12_ring_176 : decode cX12_ring 176 = .ok (.ifCond .eq 22, 3) := by decide +kernel
theorem dX12_ring_179 : decode cX12_ring 179 = .ok (.aload_n 0, 1) := by decide +kernel
theorem dX12_ring_180 : decode cX12_ring 180 = .ok (.getfield 313, 3) := by decide +kernel
theorem dX12_ring_183 : decode cX12_ring 183 = .ok (.iload 7, 2) := by decide +kernel
theorem dX12_ring_185 : decode cX12_ring 185 = .ok (.iaload, 1) := by decide +kernel
theorem dX12_ring_186 : decode cX12_ring 186 = .ok (.ifCond .ne 12, 3) := by decide +kernel
theorem dX12_ring_189 : decode cX12_ring 189 = .ok (.aload_n 0, 1) := by decide +kernel
theorem dX12_ring_190 : decode cX12_ring 190 = .ok (.getfield 313, 3) := by decide +kernel
theorem dX12_ring_193 : decode cX12_ring 193 = .ok (.iload 7, 2) := by decide +kernel
theorem dX12_ring_195 : decode cX12_ring 195 = .ok (.iload 4, 2) := by decide +kernel
theorem dX12_ring_197 : decode cX12_ring 197 = .ok (.iastore, 1) := by decide +kernel
theorem dX12_ring_198 : decode cX12_ring 198 = .ok (.iinc 7 1, 3) := by decide +kernel
theorem dX12_ring_201 : decode cX12_ring 201 = .ok (.goto (-57), 3) := by decide +kernel
theorem dX12_ring_204 : decode cX12_ring 204 = .ok (.iinc 5 1, 3) := by decide +kernel
theorem dX12_ring_207 : decode cX12_ring 207 = .ok (.goto (-116), 3) := by decide +kernel
theorem dX12_ring_210 : decode cX12_ring 210 = .ok (.iinc 4 1, 3) := by decide +kernel
theorem dX12_ring_213 : decode cX12_ring 213 = .ok (.goto (-134), 3) := by decide +kernel
theorem dX12_ring_216 : decode cX12_ring 216 = .ok (.aload_n 0, 1) := by decide +kernel
theorem dX12_ring_217 : decode cX12_ring 217 = .ok (.getfield 313, 3) := by decide +kernel
theorem dX12_ring_220 : decode cX12_ring 220 = .ok (.iload_n 3, 1) := by decide +kernel
theorem dX12_ring_221 : decode cX12_ring 221 = .ok (.iaload, 1) := by decide +kernel
theorem dX12_ring_222 : decode cX12_ring 222 = .ok (.ifCond .le 26, 3) := by decide +kernel
theorem dX12_ring_225 : decode cX12_ring 225 = .ok (.iload_n 2, 1) := by decide +kernel
theorem dX12_ring_226 : decode cX12_ring 226 = .ok (.ifCond .eq 13, 3) := by decide +kernel
theorem dX12_ring_229 : decode cX12_ring 229 = .ok (.aload_n 0, 1) := by decide +kernel
theorem dX12_ring_230 : decode cX12_ring 230 = .ok (.getfield 313, 3) := by decide +kernel
theorem dX12_ring_233 : decode cX12_ring 233 = .ok (.iload_n 3, 1) := by decide +kernel
theorem dX12_ring_234 : decode cX12_ring 234 = .ok (.iaload, 1) := by decide +kernel
theorem dX12_ring_235 : decode cX12_ring 235 = .ok (.iload_n 2, 1) := by decide +kernel
theorem dX12_ring_236 : decode cX12_ring 236 = .ok (.if_icmp .ge 12, 3) := by decide +kernel
theorem dX12_ring_239 : decode cX12_ring 239 = .ok (.aload_n 0, 1) := by decide +kernel
theorem dX12_ring_240 : decode cX12_ring 240 = .ok (.getfield 313, 3) := by decide +kernel
theorem dX12_ring_243 : decode cX12_ring 243 = .ok (.iload_n 3, 1) := by decide +kernel
theorem dX12_ring_244 : decode cX12_ring 244 = .ok (.iaload, 1) := by decide +kernel
theorem dX12_ring_245 : decode cX12_ring 245 = .ok (.goto 4, 3) := by decide +kernel
theorem dX12_ring_248 : decode cX12_ring 248 = .ok (.iload_n 2, 1) := by decide +kernel
theorem dX12_ring_249 : decode cX12_ring 249 = .ok (.istore_n 2, 1) := by decide +kernel
theorem dX12_ring_250 : decode cX12_ring 250 = .ok (.iinc 3 1, 3) := by decide +kernel
theorem dX12_ring_253 : decode cX12_ring 253 = .ok (.goto (-211), 3) := by decide +kernel
theorem dX12_ring_256 : decode cX12_ring 256 = .ok (.iload_n 2, 1) := by decide +kernel
theorem dX12_ring_257 : decode cX12_ring 257 = .ok (.ireturn, 1) := by decide +kernel
theorem dX12_alike_0 : decode cX12_alike 0 = .ok (.aload_n 0, 1) := by decide +kernel
theorem dX12_alike_1 : decode cX12_alike 1 = .ok (.iconst 0, 1) := by decide +kernel
theorem dX12_alike_2 : decode cX12_alike 2 = .ok (.putfield 316, 3) := by decide +kernel
theorem dX12_alike_5 : decode cX12_alike 5 = .ok (.aload_n 0, 1) := by decide +kernel
theorem dX12_alike_6 : decode cX12_alike 6 = .ok (.getfield 254, 3) := by decide +kernel
theorem dX12_alike_9 : decode cX12_alike 9 = .ok (.iconst 0, 1) := by decide +kernel
theorem dX12_alike_10 : decode cX12_alike 10 = .ok (.baload, 1) := by decide +kernel
theorem dX12_alike_11 : decode cX12_alike 11 = .ok (.ifCond .eq 30, 3) := by decide +kernel
theorem dX12_alike_14 : decode cX12_alike 14 = .ok (.aload_n 0, 1) := by decide +kernel
theorem dX12_alike_15 : decode cX12_alike 15 = .ok (.getfield 254, 3) := by decide +kernel
theorem dX12_alike_18 : decode cX12_alike 18 = .ok (.iconst 1, 1) := by decide +kernel
theorem dX12_alike_19 : decode cX12_alike 19 = .ok (.baload, 1) := by decide +kernel
theorem dX12_alike_20 : decode cX12_alike 20 = .ok (.ifCond .eq 21, 3) := by decide +kernel
theorem dX12_alike_23 : decode cX12_alike 23 = .ok (.aload_n 0, 1) := by decide +kernel
theorem dX12_alike_24 : decode cX12_alike 24 = .ok (.getfield 260, 3) := by decide +kernel
theorem dX12_alike_27 : decode cX12_alike 27 = .ok (.iconst 0, 1) := by decide +kernel
theorem dX12_alike_28 : decode cX12_alike 28 = .ok (.baload, 1) := by decide +kernel
theorem dX12_alike_29 : decode cX12_alike 29 = .ok (.ifCond .ne 12, 3) := by decide +kernel
theorem dX12_alike_32 : decode cX12_alike 32 = .ok (.aload_n 0, 1) := by decide +kernel
theorem dX12_alike_33 : decode cX12_alike 33 = .ok (.getfield 260, 3) := by decide +kernel
theorem dX12_alike_36 : decode cX12_alike 36 = .ok (.iconst 1, 1) := by decide +kernel
theorem dX12_alike_37 : decode cX12_alike 37 = .ok (.baload, 1) := by decide +kernel
theorem dX12_alike_38 : decode cX12_alike 38 = .ok (.ifCond .eq 5, 3) := by decide +kernel
theorem dX12_alike_41 : decode cX12_alike 41 = .ok (.iconst (-1), 1) := by decide +kernel
theorem dX12_alike_42 : decode cX12_alike 42 = .ok (.ireturn, 1) := by decide +kernel
theorem dX12_alike_43 : decode cX12_alike 43 = .ok (.aload_n 0, 1) := by decide +kernel
theorem dX12_alike_44 : decode cX12_alike 44 = .ok (.getfield 266, 3) := by decide +kernel
theorem dX12_alike_47 : decode cX12_alike 47 = .ok (.iconst 0, 1) := by decide +kernel
theorem dX12_alike_48 : decode cX12_alike 48 = .ok (.iaload, 1) := by decide +kernel
theorem dX12_alike_49 : decode cX12_alike 49 = .ok (.aload_n 0, 1) := by decide +kernel
theorem dX12_alike_50 : decode cX12_alike 50 = .ok (.getfield 266, 3) := by decide +kernel
theorem dX12_alike_53 : decode cX12_alike 53 = .ok (.iconst 1, 1) := by decide +kernel
theorem dX12_alike_54 : decode cX12_alike 54 = .ok (.iaload, 1) := by decide +kernel
theorem dX12_alike_55 : decode cX12_alike 55 = .ok (.if_icmp .eq 5, 3) := by decide +kernel
theorem dX12_alike_58 : decode cX12_alike 58 = .ok (.iconst 0, 1) := by decide +kernel
theorem dX12_alike_59 : decode cX12_alike 59 = .ok (.ireturn, 1) := by decide +kernel
theorem dX12_alike_60 : decode cX12_alike 60 = .ok (.iconst 0, 1) := by decide +kernel
theorem dX12_alike_61 : decode cX12_alike 61 = .ok (.istore_n 1, 1) := by decide +kernel
theorem dX12_alike_62 : decode cX12_alike 62 = .ok (.iload_n 1, 1) := by decide +kernel
theorem dX12_alike_63 : decode cX12_alike 63 = .ok (.bipush 24, 2) := by decide +kernel
theorem dX12_alike_65 : decode cX12_alike 65 = .ok (.aload_n 0, 1) := by decide +kernel
theorem dX12_alike_66 : decode cX12_alike 66 = .ok (.getfield 266, 3) := by decide +kernel
theorem dX12_alike_69 : decode cX12_alike 69 = .ok (.iconst 0, 1) := by decide +kernel
theorem dX12_alike_70 : decode cX12_alike 70 = .ok (.iaload, 1) := by decide +kernel
theorem dX12_alike_71 : decode cX12_alike 71 = .ok (.imul, 1) := by decide +kernel
theorem dX12_alike_72 : decode cX12_alike 72 = .ok (.if_icmp .ge 30, 3) := by decide +kernel
theorem dX12_alike_75 : decode cX12_alike 75 = .ok (.aload_n 0, 1) := by decide +kernel
theorem dX12_alike_76 : decode cX12_alike 76 = .ok (.getfield 285, 3) := by decide +kernel
theorem dX12_alike_79 : decode cX12_alike 79 = .ok (.iload_n 1, 1) := by decide +kernel
theorem dX12_alike_80 : decode cX12_alike 80 = .ok (.iaload, 1) := by decide +kernel
theorem dX12_alike_81 : decode cX12_alike 81 = .ok (.aload_n 0, 1) := by decide +kernel
theorem dX12_alike_82 : decode cX12_alike 82 = .ok (.getfield 285, 3) := by decide +kernel
theorem dX12_alike_85 : decode cX12_alike 85 = .ok (.ldc_w 727, 3) := by decide +kernel
theorem dX12_alike_88 : decode cX12_alike 88 = .ok (.iload_n 1, 1) := by decide +kernel
theorem dX12_alike_89 : decode cX12_alike 89 = .ok (.iadd, 1) := by decide +kernel
theorem dX12_alike_90 : decode cX12_alike 90 = .ok (.iaload, 1) := by decide +kernel
theorem dX12_alike_91 : decode cX12_alike 91 = .ok (.if_icmp .eq 5, 3) := by decide +kernel
theorem dX12_alike_94 : decode cX12_alike 94 = .ok (.iconst 0, 1) := by decide +kernel
theorem dX12_alike_95 : decode cX12_alike 95 = .ok (.ireturn, 1) := by decide +kernel
theorem dX12_alike_96 : decode cX12_alike 96 = .ok (.iinc 1 1, 3) := by decide +kernel
theorem dX12_alike_99 : decode cX12_alike 99 = .ok (.goto (-37), 3) := by decide +kernel
theorem dX12_alike_102 : decode cX12_alike 102 = .ok (.iconst 1, 1) := by decide +kernel
theorem dX12_alike_103 : decode cX12_alike 103 = .ok (.ireturn, 1) := by decide +kernel
theorem dJ6_bitCount_0f7a4_0 : decode cJ6_bitCount_0f7a4 0 = .ok (.iload_n 0, 1) := by decide +kernel
theorem dJ6_bitCount_0f7a4_1 : decode cJ6_bitCount_0f7a4 1 = .ok (.iload_n 0, 1) := by decide +kernel
theorem dJ6_bitCount_0f7a4_2 : decode cJ6_bitCount_0f7a4 2 = .ok (.iconst 1, 1) := by decide +kernel
theorem dJ6_bitCount_0f7a4_3 : decode cJ6_bitCount_0f7a4 3 = .ok (.iushr, 1) := by decide +kernel
theorem dJ6_bitCount_0f7a4_4 : decode cJ6_bitCount_0f7a4 4 = .ok (.ldc_w 265, 3) := by decide +kernel
theorem dJ6_bitCount_0f7a4_7 : decode cJ6_bitCount_0f7a4 7 = .ok (.iand, 1) := by decide +kernel
theorem dJ6_bitCount_0f7a4_8 : decode cJ6_bitCount_0f7a4 8 = .ok (.isub, 1) := by decide +kernel
theorem dJ6_bitCount_0f7a4_9 : decode cJ6_bitCount_0f7a4 9 = .ok (.istore_n 0, 1) := by decide +kernel
theorem dJ6_bitCount_0f7a4_10 : decode cJ6_bitCount_0f7a4 10 = .ok (.iload_n 0, 1) := by decide +kernel
theorem dJ6_bitCount_0f7a4_11 : decode cJ6_bitCount_0f7a4 11 = .ok (.ldc_w 266, 3) := by decide +kernel
theorem dJ6_bitCount_0f7a4_14 : decode cJ6_bitCount_0f7a4 14 = .ok (.iand, 1) := by decide +kernel
theorem dJ6_bitCount_0f7a4_15 : decode cJ6_bitCount_0f7a4 15 = .ok (.iload_n 0, 1) := by decide +kernel
theorem dJ6_bitCount_0f7a4_16 : decode cJ6_bitCount_0f7a4 16 = .ok (.iconst 2, 1) := by decide +kernel
theorem dJ6_bitCount_0f7a4_17 : decode cJ6_bitCount_0f7a4 17 = .ok (.iushr, 1) := by decide +kernel
theorem dJ6_bitCount_0f7a4_18 : decode cJ6_bitCount_0f7a4 18 = .ok (.ldc_w 266, 3) := by decide +kernel
theorem dJ6_bitCount_0f7a4_21 : decode cJ6_bitCount_0f7a4 21 = .ok (.iand, 1) := by decide +kernel
theorem dJ6_bitCount_0f7a4_22 : decode cJ6_bitCount_0f7a4 22 = .ok (.iadd, 1) := by decide +kernel
theorem dJ6_bitCount_0f7a4_23 : decode cJ6_bitCount_0f7a4 23 = .ok (.istore_n 0, 1) := by decide +kernel
theorem dJ6_bitCount_0f7a4_24 : decode cJ6_bitCount_0f7a4 24 = .ok (.iload_n 0, 1) := by decide +kernel
theorem dJ6_bitCount_0f7a4_25 : decode cJ6_bitCount_0f7a4 25 = .ok (.iload_n 0, 1) := by decide +kernel
theorem dJ6_bitCount_0f7a4_26 : decode cJ6_bitCount_0f7a4 26 = .ok (.iconst 4, 1) := by decide +kernel
theorem dJ6_bitCount_0f7a4_27 : decode cJ6_bitCount_0f7a4 27 = .ok (.iushr, 1) := by decide +kernel
theorem dJ6_bitCount_0f7a4_28 : decode cJ6_bitCount_0f7a4 28 = .ok (.iadd, 1) := by decide +kernel
theorem dJ6_bitCount_0f7a4_29 : decode cJ6_bitCount_0f7a4 29 = .ok (.ldc_w 267, 3) := by decide +kernel
theorem dJ6_bitCount_0f7a4_32 : decode cJ6_bitCount_0f7a4 32 = .ok (.iand, 1) := by decide +kernel
theorem dJ6_bitCount_0f7a4_33 : decode cJ6_bitCount_0f7a4 33 = .ok (.istore_n 0, 1) := by decide +kernel
theorem dJ6_bitCount_0f7a4_34 : decode cJ6_bitCount_0f7a4 34 = .ok (.iload_n 0, 1) := by decide +kernel
theorem dJ6_bitCount_0f7a4_35 : decode cJ6_bitCount_0f7a4 35 = .ok (.iload_n 0, 1) := by decide +kernel
theorem dJ6_bitCount_0f7a4_36 : decode cJ6_bitCount_0f7a4 36 = .ok (.bipush 8, 2) := by decide +kernel
theorem dJ6_bitCount_0f7a4_38 : decode cJ6_bitCount_0f7a4 38 = .ok (.iushr, 1) := by decide +kernel
theorem dJ6_bitCount_0f7a4_39 : decode cJ6_bitCount_0f7a4 39 = .ok (.iadd, 1) := by decide +kernel
theorem dJ6_bitCount_0f7a4_40 : decode cJ6_bitCount_0f7a4 40 = .ok (.istore_n 0, 1) := by decide +kernel
theorem dJ6_bitCount_0f7a4_41 : decode cJ6_bitCount_0f7a4 41 = .ok (.iload_n 0, 1) := by decide +kernel
theorem dJ6_bitCount_0f7a4_42 : decode cJ6_bitCount_0f7a4 42 = .ok (.iload_n 0, 1) := by decide +kernel
theorem dJ6_bitCount_0f7a4_43 : decode cJ6_bitCount_0f7a4 43 = .ok (.bipush 16, 2) := by decide +kernel
theorem dJ6_bitCount_0f7a4_45 : decode cJ6_bitCount_0f7a4 45 = .ok (.iushr, 1) := by decide +kernel
theorem dJ6_bitCount_0f7a4_46 : decode cJ6_bitCount_0f7a4 46 = .ok (.iadd, 1) := by decide +kernel
theorem dJ6_bitCount_0f7a4_47 : decode cJ6_bitCount_0f7a4 47 = .ok (.istore_n 0, 1) := by decide +kernel
theorem dJ6_bitCount_0f7a4_48 : decode cJ6_bitCount_0f7a4 48 = .ok (.iload_n 0, 1) := by decide +kernel
theorem dJ6_bitCount_0f7a4_49 : decode cJ6_bitCount_0f7a4 49 = .ok (.bipush 63, 2) := by decide +kernel
theorem dJ6_bitCount_0f7a4_51 : decode cJ6_bitCount_0f7a4 51 = .ok (.iand, 1) := by decide +kernel
theorem dJ6_bitCount_0f7a4_52 : decode cJ6_bitCount_0f7a4 52 = .ok (.ireturn, 1) := by decide +kernel
theorem dJ9_max_7cf53_0 : decode cJ9_max_7cf53 0 = .ok (.iload_n 0, 1) := by decide +kernel
theorem dJ9_max_7cf53_1 : decode cJ9_max_7cf53 1 = .ok (.iload_n 1, 1) := by decide +kernel
theorem dJ9_max_7cf53_2 : decode cJ9_max_7cf53 2 = .ok (.if_icmp .lt 7, 3) := by decide +kernel
theorem dJ9_max_7cf53_5 : decode cJ9_max_7cf53 5 = .ok (.iload_n 0, 1) := by decide +kernel
theorem dJ9_max_7cf53_6 : decode cJ9_max_7cf53 6 = .ok (.goto 4, 3) := by decide +kernel
theorem dJ9_max_7cf53_9 : decode cJ9_max_7cf53 9 = .ok (.iload_n 1, 1) := by decide +kernel
theorem dJ9_max_7cf53_10 : decode cJ9_max_7cf53 10 = .ok (.ireturn, 1) := by decide +kernel
theorem dJ0_length_8abf5_0 : decode cJ0_length_8abf5 0 = .ok (.aload_n 0, 1) := by decide +kernel
theorem dJ0_length_8abf5_1 : decode cJ0_length_8abf5 1 = .ok (.getfield 9, 3) := by decide +kernel
theorem dJ0_length_8abf5_4 : decode cJ0_length_8abf5 4 = .ok (.arraylength, 1) := by decide +kernel
theorem dJ0_length_8abf5_5 : decode cJ0_length_8abf5 5 = .ok (.aload_n 0, 1) := by decide +kernel
theorem dJ0_length_8abf5_6 : decode cJ0_length_8abf5 6 = .ok (.invokevirtual 335, 3) := by decide +kernel
theorem dJ0_length_8abf5_9 : decode cJ0_length_8abf5 9 = .ok (.ishr, 1) := by decide +kernel
theorem dJ0_length_8abf5_10 : decode cJ0_length_8abf5 10 = .ok (.ireturn, 1) := by decide +kernel
theorem dJ0_charAt_5068e_0 : decode cJ0_charAt_5068e 0 = .ok (.aload_n 0, 1) := by decide +kernel
theorem dJ0_charAt_5068e_1 : decode cJ0_charAt_5068e 1 = .ok (.invokevirtual 492, 3) := by decide +kernel
theorem dJ0_charAt_5068e_4 : decode cJ0_charAt_5068e 4 = .ok (.ifCond .eq 12, 3) := by decide +kernel
theorem dJ0_charAt_5068e_7 : decode cJ0_charAt_5068e 7 = .ok (.aload_n 0, 1) := by decide +kernel
theorem dJ0_charAt_5068e_8 : decode cJ0_charAt_5068e 8 = .ok (.getfield 9, 3) := by decide +kernel
theorem dJ0_charAt_5068e_11 : decode cJ0_charAt_5068e 11 = .ok (.iload_n 1, 1) := by decide +kernel
theorem dJ0_charAt_5068e_12 : decode cJ0_charAt_5068e 12 = .ok (.invokestatic 495, 3) := by decide +kernel
theorem dJ0_charAt_5068e_15 : decode cJ0_charAt_5068e 15 = .ok (.ireturn, 1) := by decide +kernel
theorem dJ0_charAt_5068e_16 : decode cJ0_charAt_5068e 16 = .ok (.aload_n 0, 1) := by decide +kernel
theorem dJ0_charAt_5068e_17 : decode cJ0_charAt_5068e 17 = .ok (.getfield 9, 3) := by decide +kernel
theorem dJ0_charAt_5068e_20 : decode cJ0_charAt_5068e 20 = .ok (.iload_n 1, 1) := by decide +kernel
theorem dJ0_charAt_5068e_21 : decode cJ0_charAt_5068e 21 = .ok (.invokestatic 498, 3) := by decide +kernel
theorem dJ0_charAt_5068e_24 : decode cJ0_charAt_5068e 24 = .ok (.ireturn, 1) := by decide +kernel
theorem dJ0_coder_7d493_0 : decode cJ0_coder_7d493 0 = .ok (.getstatic 38, 3) := by decide +kernel
theorem dJ0_coder_7d493_3 : decode cJ0_coder_7d493 3 = .ok (.ifCond .eq 10, 3) := by decide +kernel
theorem dJ0_coder_7d493_6 : decode cJ0_coder_7d493 6 = .ok (.aload_n 0, 1) := by decide +kernel
theorem dJ0_coder_7d493_7 : decode cJ0_coder_7d493 7 = .ok (.getfield 15, 3) := by decide +kernel
theorem dJ0_coder_7d493_10 : decode cJ0_coder_7d493 10 = .ok (.goto 4, 3) := by decide +kernel
theorem dJ0_coder_7d493_13 : decode cJ0_coder_7d493 13 = .ok (.iconst 1, 1) := by decide +kernel
theorem dJ0_coder_7d493_14 : decode cJ0_coder_7d493 14 = .ok (.ireturn, 1) := by decide +kernel
theorem dJ0_isLatin1_aae02_0 : decode cJ0_isLatin1_aae02 0 = .ok (.getstatic 38, 3) := by decide +kernel
theorem dJ0_isLatin1_aae02_3 : decode cJ0_isLatin1_aae02 3 = .ok (.ifCond .eq 14, 3) := by decide +kernel
theorem dJ0_isLatin1_aae02_6 : decode cJ0_isLatin1_aae02 6 = .ok (.aload_n 0, 1) := by decide +kernel
theorem dJ0_isLatin1_aae02_7 : decode cJ0_isLatin1_aae02 7 = .ok (.getfield 15, 3) := by decide +kernel
theorem dJ0_isLatin1_aae02_10 : decode cJ0_isLatin1_aae02 10 = .ok (.ifCond .ne 7, 3) := by decide +kernel
theorem dJ0_isLatin1_aae02_13 : decode cJ0_isLatin1_aae02 13 = .ok (.iconst 1, 1) := by decide +kernel
theorem dJ0_isLatin1_aae02_14 : decode cJ0_isLatin1_aae02 14 = .ok (.goto 4, 3) := by decide +kernel
theorem dJ0_isLatin1_aae02_17 : decode cJ0_isLatin1_aae02 17 = .ok (.iconst 0, 1) := by decide +kernel
theorem dJ0_isLatin1_aae02_18 : decode cJ0_isLatin1_aae02 18 = .ok (.ireturn, 1) := by decide +kernel
theorem dJ0_checkIndex_df160_0 : decode cJ0_checkIndex_df160 0 = .ok (.iload_n 0, 1) := by decide +kernel
theorem dJ0_checkIndex_df160_1 : decode cJ0_checkIndex_df160 1 = .ok (.iload_n 1, 1) := by decide +kernel
theorem dJ0_checkIndex_df160_2 : decode cJ0_checkIndex_df160 2 = .ok (.getstatic 1053, 3) := by decide +kernel
theorem dJ0_checkIndex_df160_5 : decode cJ0_checkIndex_df160 5 = .ok (.invokestatic 1059, 3) := by decide +kernel
theorem dJ0_checkIndex_df160_8 : decode cJ0_checkIndex_df160 8 = .ok (.pop, 1) := by decide +kernel
theorem dJ0_checkIndex_df160_9 : decode cJ0_checkIndex_df160 9 = .ok (.return_, 1) := by decide +kernel
theorem dJ1_charAt_3b067_0 : decode cJ1_charAt_3b067 0 = .ok (.iload_n 1, 1) := by decide +kernel
theorem dJ1_charAt_3b067_1 : decode cJ1_charAt_3b067 1 = .ok (.aload_n 0, 1) := by decide +kernel
theorem dJ1_charAt_3b067_2 : decode cJ1_charAt_3b067 2 = .ok (.arraylength, 1) := by decide +kernel
theorem dJ1_charAt_3b067_3 : decode cJ1_charAt_3b067 3 = .ok (.invokestatic 9, 3) := by decide +kernel
theorem dJ1_charAt_3b067_6 : decode cJ1_charAt_3b067 6 = .ok (.aload_n 0, 1) := by decide +kernel
theorem dJ1_charAt_3b067_7 : decode cJ1_charAt_3b067 7 = .ok (.iload_n 1, 1) := by decide +kernel
theorem dJ1_charAt_3b067_8 : decode cJ1_charAt_3b067 8 = .ok (.baload, 1) := by decide +kernel
theorem dJ1_charAt_3b067_9 : decode cJ1_charAt_3b067 9 = .ok (.sipush 255, 3) := by decide +kernel
theorem dJ1_charAt_3b067_12 : decode cJ1_charAt_3b067 12 = .ok (.iand, 1) := by decide +kernel
theorem dJ1_charAt_3b067_13 : decode cJ1_charAt_3b067 13 = .ok (.i2c, 1) := by decide +kernel
theorem dJ1_charAt_3b067_14 : decode cJ1_charAt_3b067 14 = .ok (.ireturn, 1) := by decide +kernel
theorem dJ2_getChar_3b067_0 : decode cJ2_getChar_3b067 0 = .ok (.getstatic 44, 3) := by decide +kernel
theorem dJ2_getChar_3b067_3 : decode cJ2_getChar_3b067 3 = .ok (.ifCond .ne 25, 3) := by decide +kernel
theorem dJ2_getChar_3b067_6 : decode cJ2_getChar_3b067 6 = .ok (.iload_n 1, 1) := by decide +kernel
theorem dJ2_getChar_3b067_7 : decode cJ2_getChar_3b067 7 = .ok (.ifCond .lt 11, 3) := by decide +kernel
theorem dJ2_getChar_3b067_10 : decode cJ2_getChar_3b067 10 = .ok (.iload_n 1, 1) := by decide +kernel
theorem dJ2_getChar_3b067_11 : decode cJ2_getChar_3b067 11 = .ok (.aload_n 0, 1) := by decide +kernel
theorem dJ2_getChar_3b067_12 : decode cJ2_getChar_3b067 12 = .ok (.invokestatic 48, 3) := by decide +kernel
theorem dJ2_getChar_3b067_15 : decode cJ2_getChar_3b067 15 = .ok (.if_icmp .lt 13, 3) := by decide +kernel
theorem dJ2_getChar_3b067_18 : decode cJ2_getChar_3b067 18 = .ok (.new 52, 3) := by decide +kernel
theorem dJ2_getChar_3b067_21 : decode cJ2_getChar_3b067 21 = .ok (.dup, 1) := by decide +kernel
theorem dJ2_getChar_3b067_22 : decode cJ2_getChar_3b067 22 = .ok (.ldc 54, 2) := by decide +kernel
theorem dJ2_getChar_3b067_24 : decode cJ2_getChar_3b067 24 = .ok (.invokespecial 56, 3) := by decide +kernel
theorem dJ2_getChar_3b067_27 : decode cJ2_getChar_3b067 27 = .ok (.athrow, 1) := by decide +kernel
theorem dJ2_getChar_3b067_28 : decode cJ2_getChar_3b067 28 = .ok (.iload_n 1, 1) := by decide +kernel
theorem dJ2_getChar_3b067_29 : decode cJ2_getChar_3b067 29 = .ok (.iconst 1, 1) := by decide +kernel
theorem dJ2_getChar_3b067_30 : decode cJ2_getChar_3b067 30 = .ok (.ishl, 1) := by decide +kernel
theorem dJ2_getChar_3b067_31 : decode cJ2_getChar_3b067 31 = .ok (.istore_n 1, 1) := by decide +kernel
theorem dJ2_getChar_3b067_32 : decode cJ2_getChar_3b067 32 = .ok (.aload_n 0, 1) := by decide +kernel
theorem dJ2_getChar_3b067_33 : decode cJ2_getChar_3b067 33 = .ok (.iload_n 1, 1) := by decide +kernel
theorem dJ2_getChar_3b067_34 : decode cJ2_getChar_3b067 34 = .ok (.iinc 1 1, 3) := by decide +kernel
theorem dJ2_getChar_3b067_37 : decode cJ2_getChar_3b067 37 = .ok (.baload, 1) := by decide +kernel
theorem dJ2_getChar_3b067_38 : decode cJ2_getChar_3b067 38 = .ok (.sipush 255, 3) := by decide +kernel
theorem dJ2_getChar_3b067_41 : decode cJ2_getChar_3b067 41 = .ok (.iand, 1) := by decide +kernel
theorem dJ2_getChar_3b067_42 : decode cJ2_getChar_3b067 42 = .ok (.getstatic 59, 3) := by decide +kernel
theorem dJ2_getChar_3b067_45 : decode cJ2_getChar_3b067 45 = .ok (.ishl, 1) := by decide +kernel
theorem dJ2_getChar_3b067_46 : decode cJ2_getChar_3b067 46 = .ok (.aload_n 0, 1) := by decide +kernel
theorem dJ2_getChar_3b067_47 : decode cJ2_getChar_3b067 47 = .ok (.iload_n 1, 1) := by decide +kernel
theorem dJ2_getChar_3b067_48 : decode cJ2_getChar_3b067 48 = .ok (.baload, 1) := by decide +kernel
theorem dJ2_getChar_3b067_49 : decode cJ2_getChar_3b067 49 = .ok (.sipush 255, 3) := by decide +kernel
theorem dJ2_getChar_3b067_52 : decode cJ2_getChar_3b067 52 = .ok (.iand, 1) := by decide +kernel
theorem dJ2_getChar_3b067_53 : decode cJ2_getChar_3b067 53 = .ok (.getstatic 63, 3) := by decide +kernel
theorem dJ2_getChar_3b067_56 : decode cJ2_getChar_3b067 56 = .ok (.ishl, 1) := by decide +kernel
theorem dJ2_getChar_3b067_57 : decode cJ2_getChar_3b067 57 = .ok (.ior, 1) := by decide +kernel
theorem dJ2_getChar_3b067_58 : decode cJ2_getChar_3b067 58 = .ok (.i2c, 1) := by decide +kernel
theorem dJ2_getChar_3b067_59 : decode cJ2_getChar_3b067 59 = .ok (.ireturn, 1) := by decide +kernel
theorem dJ2_length_9d52b_0 : decode cJ2_length_9d52b 0 = .ok (.aload_n 0, 1) := by decide +kernel
theorem dJ2_length_9d52b_1 : decode cJ2_length_9d52b 1 = .ok (.arraylength, 1) := by decide +kernel
theorem dJ2_length_9d52b_2 : decode cJ2_length_9d52b 2 = .ok (.iconst 1, 1) := by decide +kernel
theorem dJ2_length_9d52b_3 : decode cJ2_length_9d52b 3 = .ok (.ishr, 1) := by decide +kernel
theorem dJ2_length_9d52b_4 : decode cJ2_length_9d52b 4 = .ok (.ireturn, 1) := by decide +kernel
theorem dJ2_charAt_3b067_0 : decode cJ2_charAt_3b067 0 = .ok (.iload_n 1, 1) := by decide +kernel
theorem dJ2_charAt_3b067_1 : decode cJ2_charAt_3b067 1 = .ok (.aload_n 0, 1) := by decide +kernel
theorem dJ2_charAt_3b067_2 : decode cJ2_charAt_3b067 2 = .ok (.invokestatic 67, 3) := by decide +kernel
theorem dJ2_charAt_3b067_5 : decode cJ2_charAt_3b067 5 = .ok (.aload_n 0, 1) := by decide +kernel
theorem dJ2_charAt_3b067_6 : decode cJ2_charAt_3b067 6 = .ok (.iload_n 1, 1) := by decide +kernel
theorem dJ2_charAt_3b067_7 : decode cJ2_charAt_3b067 7 = .ok (.invokestatic 71, 3) := by decide +kernel
theorem dJ2_charAt_3b067_10 : decode cJ2_charAt_3b067 10 = .ok (.ireturn, 1) := by decide +kernel
theorem dJ2_checkIndex_2214a_0 : decode cJ2_checkIndex_2214a 0 = .ok (.iload_n 0, 1) := by decide +kernel
theorem dJ2_checkIndex_2214a_1 : decode cJ2_checkIndex_2214a 1 = .ok (.aload_n 1, 1) := by decide +kernel
theorem dJ2_checkIndex_2214a_2 : decode cJ2_checkIndex_2214a 2 = .ok (.invokestatic 48, 3) := by decide +kernel
theorem dJ2_checkIndex_2214a_5 : decode cJ2_checkIndex_2214a 5 = .ok (.invokestatic 414, 3) := by decide +kernel
theorem dJ2_checkIndex_2214a_8 : decode cJ2_checkIndex_2214a 8 = .ok (.return_, 1) := by decide +kernel
theorem dJ7_fill_53178_0 : decode cJ7_fill_53178 0 = .ok (.iconst 0, 1) := by decide +kernel
theorem dJ7_fill_53178_1 : decode cJ7_fill_53178 1 = .ok (.istore_n 2, 1) := by decide +kernel
theorem dJ7_fill_53178_2 : decode cJ7_fill_53178 2 = .ok (.aload_n 0, 1) := by decide +kernel
theorem dJ7_fill_53178_3 : decode cJ7_fill_53178 3 = .ok (.arraylength, 1) := by decide +kernel
theorem dJ7_fill_53178_4 : decode cJ7_fill_53178 4 = .ok (.istore_n 3, 1) := by decide +kernel
theorem dJ7_fill_53178_5 : decode cJ7_fill_53178 5 = .ok (.iload_n 2, 1) := by decide +kernel
theorem dJ7_fill_53178_6 : decode cJ7_fill_53178 6 = .ok (.iload_n 3, 1) := by decide +kernel
theorem dJ7_fill_53178_7 : decode cJ7_fill_53178 7 = .ok (.if_icmp .ge 13, 3) := by decide +kernel
theorem dJ7_fill_53178_10 : decode cJ7_fill_53178 10 = .ok (.aload_n 0, 1) := by decide +kernel
theorem dJ7_fill_53178_11 : decode cJ7_fill_53178 11 = .ok (.iload_n 2, 1) := by decide +kernel
theorem dJ7_fill_53178_12 : decode cJ7_fill_53178 12 = .ok (.iload_n 1, 1) := by decide +kernel
theorem dJ7_fill_53178_13 : decode cJ7_fill_53178 13 = .ok (.iastore, 1) := by decide +kernel
theorem dJ7_fill_53178_14 : decode cJ7_fill_53178 14 = .ok (.iinc 2 1, 3) := by decide +kernel
theorem dJ7_fill_53178_17 : decode cJ7_fill_53178 17 = .ok (.goto (-12), 3) := by decide +kernel
theorem dJ7_fill_53178_20 : decode cJ7_fill_53178 20 = .ok (.return_, 1) := by decide +kernel
theorem dJ3_checkIndex_8e157_0 : decode cJ3_checkIndex_8e157 0 = .ok (.iload_n 0, 1) := by decide +kernel
theorem dJ3_checkIndex_8e157_1 : decode cJ3_checkIndex_8e157 1 = .ok (.ifCond .lt 8, 3) := by decide +kernel
theorem dJ3_checkIndex_8e157_4 : decode cJ3_checkIndex_8e157 4 = .ok (.iload_n 0, 1) := by decide +kernel
theorem dJ3_checkIndex_8e157_5 : decode cJ3_checkIndex_8e157 5 = .ok (.iload_n 1, 1) := by decide +kernel
theorem dJ3_checkIndex_8e157_6 : decode cJ3_checkIndex_8e157 6 = .ok (.if_icmp .lt 10, 3) := by decide +kernel
theorem dJ3_checkIndex_8e157_9 : decode cJ3_checkIndex_8e157 9 = .ok (.aload_n 2, 1) := by decide +kernel
theorem dJ3_checkIndex_8e157_10 : decode cJ3_checkIndex_8e157 10 = .ok (.iload_n 0, 1) := by decide +kernel
theorem dJ3_checkIndex_8e157_11 : decode cJ3_checkIndex_8e157 11 = .ok (.iload_n 1, 1) := by decide +kernel
theorem dJ3_checkIndex_8e157_12 : decode cJ3_checkIndex_8e157 12 = .ok (.invokestatic 95, 3) := by decide +kernel
theorem dJ3_checkIndex_8e157_15 : decode cJ3_checkIndex_8e157 15 = .ok (.athrow, 1) := by decide +kernel
theorem dJ3_checkIndex_8e157_16 : decode cJ3_checkIndex_8e157 16 = .ok (.iload_n 0, 1) := by decide +kernel
theorem dJ3_checkIndex_8e157_17 : decode cJ3_checkIndex_8e157 17 = .ok (.ireturn, 1) := by decide +kernel
theorem dL_feed_0 : decode cL_feed 0 = .ok (.aload 4, 2) := by decide +kernel
theorem dL_feed_2 : decode cL_feed 2 = .ok (.iconst 0, 1) := by decide +kernel
theorem dL_feed_3 : decode cL_feed 3 = .ok (.aload_n 0, 1) := by decide +kernel
theorem dL_feed_4 : decode cL_feed 4 = .ok (.iload_n 1, 1) := by decide +kernel
theorem dL_feed_5 : decode cL_feed 5 = .ok (.lload_n 2, 1) := by decide +kernel
theorem dL_feed_6 : decode cL_feed 6 = .ok (.invokevirtual 7, 3) := by decide +kernel
theorem dL_feed_9 : decode cL_feed 9 = .ok (.i2l, 1) := by decide +kernel
theorem dL_feed_10 : decode cL_feed 10 = .ok (.lastore, 1) := by decide +kernel
theorem dL_feed_11 : decode cL_feed 11 = .ok (.goto 7, 3) := by decide +kernel
theorem dL_feed_14 : decode cL_feed 14 = .ok (.astore 5, 2) := by decide +kernel
theorem dL_feed_16 : decode cL_feed 16 = .ok (.iconst 1, 1) := by decide +kernel
theorem dL_feed_17 : decode cL_feed 17 = .ok (.ireturn, 1) := by decide +kernel
theorem dL_feed_18 : decode cL_feed 18 = .ok (.iconst 0, 1) := by decide +kernel
theorem dL_feed_19 : decode cL_feed 19 = .ok (.ireturn, 1) := by decide +kernel
theorem dL_fault_0 : decode cL_fault 0 = .ok (.aload_n 2, 1) := by decide +kernel
theorem dL_fault_1 : decode cL_fault 1 = .ok (.iconst 0, 1) := by decide +kernel
theorem dL_fault_2 : decode cL_fault 2 = .ok (.aload_n 0, 1) := by decide +kernel
theorem dL_fault_3 : decode cL_fault 3 = .ok (.iload_n 1, 1) := by decide +kernel
theorem dL_fault_4 : decode cL_fault 4 = .ok (.invokevirtual 15, 3) := by decide +kernel
theorem dL_fault_7 : decode cL_fault 7 = .ok (.i2l, 1) := by decide +kernel
theorem dL_fault_8 : decode cL_fault 8 = .ok (.lastore, 1) := by decide +kernel
theorem dL_fault_9 : decode cL_fault 9 = .ok (.goto 6, 3) := by decide +kernel
theorem dL_fault_12 : decode cL_fault 12 = .ok (.astore_n 3, 1) := by decide +kernel
theorem dL_fault_13 : decode cL_fault 13 = .ok (.iconst 1, 1) := by decide +kernel
theorem dL_fault_14 : decode cL_fault 14 = .ok (.ireturn, 1) := by decide +kernel
theorem dL_fault_15 : decode cL_fault 15 = .ok (.iconst 0, 1) := by decide +kernel
theorem dL_fault_16 : decode cL_fault 16 = .ok (.ireturn, 1) := by decide +kernel
theorem dL_count_0 : decode cL_count 0 = .ok (.aload_n 2, 1) := by decide +kernel
theorem dL_count_1 : decode cL_count 1 = .ok (.iconst 0, 1) := by decide +kernel
theorem dL_count_2 : decode cL_count 2 = .ok (.aload_n 0, 1) := by decide +kernel
theorem dL_count_3 : decode cL_count 3 = .ok (.iload_n 1, 1) := by decide +kernel
theorem dL_count_4 : decode cL_count 4 = .ok (.invokevirtual 21, 3) := by decide +kernel
theorem dL_count_7 : decode cL_count 7 = .ok (.i2l, 1) := by decide +kernel
theorem dL_count_8 : decode cL_count 8 = .ok (.lastore, 1) := by decide +kernel
theorem dL_count_9 : decode cL_count 9 = .ok (.goto 6, 3) := by decide +kernel
theorem dL_count_12 : decode cL_count 12 = .ok (.astore_n 3, 1) := by decide +kernel
theorem dL_count_13 : decode cL_count 13 = .ok (.iconst 1, 1) := by decide +kernel
theorem dL_count_14 : decode cL_count 14 = .ok (.ireturn, 1) := by decide +kernel
theorem dL_count_15 : decode cL_count 15 = .ok (.iconst 0, 1) := by decide +kernel
theorem dL_count_16 : decode cL_count 16 = .ok (.ireturn, 1) := by decide +kernel
theorem dL_begin_0 : decode cL_begin 0 = .ok (.aload_n 2, 1) := by decide +kernel
theorem dL_begin_1 : decode cL_begin 1 = .ok (.iconst 0, 1) := by decide +kernel
theorem dL_begin_2 : decode cL_begin 2 = .ok (.aload_n 0, 1) := by decide +kernel
theorem dL_begin_3 : decode cL_begin 3 = .ok (.iload_n 1, 1) := by decide +kernel
theorem dL_begin_4 : decode cL_begin 4 = .ok (.invokevirtual 24, 3) := by decide +kernel
theorem dL_begin_7 : decode cL_begin 7 = .ok (.i2l, 1) := by decide +kernel
theorem dL_begin_8 : decode cL_begin 8 = .ok (.lastore, 1) := by decide +kernel
theorem dL_begin_9 : decode cL_begin 9 = .ok (.goto 9, 3) := by decide +kernel
theorem dL_begin_12 : decode cL_begin 12 = .ok (.astore_n 3, 1) := by decide +kernel
theorem dL_begin_13 : decode cL_begin 13 = .ok (.iconst 1, 1) := by decide +kernel
theorem dL_begin_14 : decode cL_begin 14 = .ok (.ireturn, 1) := by decide +kernel
theorem dL_begin_15 : decode cL_begin 15 = .ok (.astore_n 3, 1) := by decide +kernel
theorem dL_begin_16 : decode cL_begin 16 = .ok (.iconst 2, 1) := by decide +kernel
theorem dL_begin_17 : decode cL_begin 17 = .ok (.ireturn, 1) := by decide +kernel
theorem dL_begin_18 : decode cL_begin 18 = .ok (.iconst 0, 1) := by decide +kernel
theorem dL_begin_19 : decode cL_begin 19 = .ok (.ireturn, 1) := by decide +kernel
theorem dL_choices_0 : decode cL_choices 0 = .ok (.aload_n 1, 1) := by decide +kernel
theorem dL_choices_1 : decode cL_choices 1 = .ok (.iconst 0, 1) := by decide +kernel
theorem dL_choices_2 : decode cL_choices 2 = .ok (.aload_n 0, 1) := by decide +kernel
theorem dL_choices_3 : decode cL_choices 3 = .ok (.invokevirtual 29, 3) := by decide +kernel
theorem dL_choices_6 : decode cL_choices 6 = .ok (.i2l, 1) := by decide +kernel
theorem dL_choices_7 : decode cL_choices 7 = .ok (.lastore, 1) := by decide +kernel
theorem dL_choices_8 : decode cL_choices 8 = .ok (.goto 6, 3) := by decide +kernel
theorem dL_choices_11 : decode cL_choices 11 = .ok (.astore_n 2, 1) := by decide +kernel
theorem dL_choices_12 : decode cL_choices 12 = .ok (.iconst 1, 1) := by decide +kernel
theorem dL_choices_13 : decode cL_choices 13 = .ok (.ireturn, 1) := by decide +kernel
theorem dL_choices_14 : decode cL_choices 14 = .ok (.iconst 0, 1) := by decide +kernel
theorem dL_choices_15 : decode cL_choices 15 = .ok (.ireturn, 1) := by decide +kernel
theorem dL_choice_0 : decode cL_choice 0 = .ok (.aload_n 3, 1) := by decide +kernel
theorem dL_choice_1 : decode cL_choice 1 = .ok (.iconst 0, 1) := by decide +kernel
theorem dL_choice_2 : decode cL_choice 2 = .ok (.aload_n 0, 1) := by decide +kernel
theorem dL_choice_3 : decode cL_choice 3 = .ok (.iload_n 1, 1) := by decide +kernel
theorem dL_choice_4 : decode cL_choice 4 = .ok (.iload_n 2, 1) := by decide +kernel
theorem dL_choice_5 : decode cL_choice 5 = .ok (.invokevirtual 33, 3) := by decide +kernel
theorem dL_choice_8 : decode cL_choice 8 = .ok (.i2l, 1) := by decide +kernel
theorem dL_choice_9 : decode cL_choice 9 = .ok (.lastore, 1) := by decide +kernel
theorem dL_choice_10 : decode cL_choice 10 = .ok (.goto 11, 3) := by decide +kernel
theorem dL_choice_13 : decode cL_choice 13 = .ok (.astore 4, 2) := by decide +kernel
theorem dL_choice_15 : decode cL_choice 15 = .ok (.iconst 1, 1) := by decide +kernel
theorem dL_choice_16 : decode cL_choice 16 = .ok (.ireturn, 1) := by decide +kernel
theorem dL_choice_17 : decode cL_choice 17 = .ok (.astore 4, 2) := by decide +kernel
theorem dL_choice_19 : decode cL_choice 19 = .ok (.iconst 2, 1) := by decide +kernel
theorem dL_choice_20 : decode cL_choice 20 = .ok (.ireturn, 1) := by decide +kernel
theorem dL_choice_21 : decode cL_choice 21 = .ok (.iconst 0, 1) := by decide +kernel
theorem dL_choice_22 : decode cL_choice 22 = .ok (.ireturn, 1) := by decide +kernel
theorem dL_go_0 : decode cL_go 0 = .ok (.aload_n 2, 1) := by decide +kernel
theorem dL_go_1 : decode cL_go 1 = .ok (.iconst 0, 1) := by decide +kernel
theorem dL_go_2 : decode cL_go 2 = .ok (.aload_n 0, 1) := by decide +kernel
theorem dL_go_3 : decode cL_go 3 = .ok (.iload_n 1, 1) := by decide +kernel
theorem dL_go_4 : decode cL_go 4 = .ok (.invokevirtual 37, 3) := by decide +kernel
theorem dL_go_7 : decode cL_go 7 = .ok (.i2l, 1) := by decide +kernel
theorem dL_go_8 : decode cL_go 8 = .ok (.lastore, 1) := by decide +kernel
theorem dL_go_9 : decode cL_go 9 = .ok (.goto 9, 3) := by decide +kernel
theorem dL_go_12 : decode cL_go 12 = .ok (.astore_n 3, 1) := by decide +kernel
theorem dL_go_13 : decode cL_go 13 = .ok (.iconst 1, 1) := by decide +kernel
theorem dL_go_14 : decode cL_go 14 = .ok (.ireturn, 1) := by decide +kernel
theorem dL_go_15 : decode cL_go 15 = .ok (.astore_n 3, 1) := by decide +kernel
theorem dL_go_16 : decode cL_go 16 = .ok (.iconst 2, 1) := by decide +kernel
theorem dL_go_17 : decode cL_go 17 = .ok (.ireturn, 1) := by decide +kernel
theorem dL_go_18 : decode cL_go 18 = .ok (.iconst 0, 1) := by decide +kernel
theorem dL_go_19 : decode cL_go 19 = .ok (.ireturn, 1) := by decide +kernel
theorem dL_draw_0 : decode cL_draw 0 = .ok (.aload_n 3, 1) := by decide +kernel
theorem dL_draw_1 : decode cL_draw 1 = .ok (.iconst 0, 1) := by decide +kernel
theorem dL_draw_2 : decode cL_draw 2 = .ok (.aload_n 0, 1) := by decide +kernel
theorem dL_draw_3 : decode cL_draw 3 = .ok (.iload_n 1, 1) := by decide +kernel
theorem dL_draw_4 : decode cL_draw 4 = .ok (.iload_n 2, 1) := by decide +kernel
theorem dL_draw_5 : decode cL_draw 5 = .ok (.invokevirtual 40, 3) := by decide +kernel
theorem dL_draw_8 : decode cL_draw 8 = .ok (.i2l, 1) := by decide +kernel
theorem dL_draw_9 : decode cL_draw 9 = .ok (.lastore, 1) := by decide +kernel
theorem dL_draw_10 : decode cL_draw 10 = .ok (.goto 11, 3) := by decide +kernel
theorem dL_draw_13 : decode cL_draw 13 = .ok (.astore 4, 2) := by decide +kernel
theorem dL_draw_15 : decode cL_draw 15 = .ok (.iconst 1, 1) := by decide +kernel
theorem dL_draw_16 : decode cL_draw 16 = .ok (.ireturn, 1) := by decide +kernel
theorem dL_draw_17 : decode cL_draw 17 = .ok (.astore 4, 2) := by decide +kernel
theorem dL_draw_19 : decode cL_draw 19 = .ok (.iconst 2, 1) := by decide +kernel
theorem dL_draw_20 : decode cL_draw 20 = .ok (.ireturn, 1) := by decide +kernel
theorem dL_draw_21 : decode cL_draw 21 = .ok (.iconst 0, 1) := by decide +kernel
theorem dL_draw_22 : decode cL_draw 22 = .ok (.ireturn, 1) := by decide +kernel
theorem dL_again_0 : decode cL_again 0 = .ok (.aload_n 2, 1) := by decide +kernel
theorem dL_again_1 : decode cL_again 1 = .ok (.iconst 0, 1) := by decide +kernel
theorem dL_again_2 : decode cL_again 2 = .ok (.aload_n 0, 1) := by decide +kernel
theorem dL_again_3 : decode cL_again 3 = .ok (.iload_n 1, 1) := by decide +kernel
theorem dL_again_4 : decode cL_again 4 = .ok (.invokevirtual 43, 3) := by decide +kernel
theorem dL_again_7 : decode cL_again 7 = .ok (.i2l, 1) := by decide +kernel
theorem dL_again_8 : decode cL_again 8 = .ok (.lastore, 1) := by decide +kernel
theorem dL_again_9 : decode cL_again 9 = .ok (.goto 9, 3) := by decide +kernel
theorem dL_again_12 : decode cL_again 12 = .ok (.astore_n 3, 1) := by decide +kernel
theorem dL_again_13 : decode cL_again 13 = .ok (.iconst 1, 1) := by decide +kernel
theorem dL_again_14 : decode cL_again 14 = .ok (.ireturn, 1) := by decide +kernel
theorem dL_again_15 : decode cL_again 15 = .ok (.astore_n 3, 1) := by decide +kernel
theorem dL_again_16 : decode cL_again 16 = .ok (.iconst 2, 1) := by decide +kernel
theorem dL_again_17 : decode cL_again 17 = .ok (.ireturn, 1) := by decide +kernel
theorem dL_again_18 : decode cL_again 18 = .ok (.iconst 0, 1) := by decide +kernel
theorem dL_again_19 : decode cL_again 19 = .ok (.ireturn, 1) := by decide +kernel
theorem dL_run_0 : decode cL_run 0 = .ok (.aload_n 2, 1) := by decide +kernel
theorem dL_run_1 : decode cL_run 1 = .ok (.iconst 0, 1) := by decide +kernel
theorem dL_run_2 : decode cL_run 2 = .ok (.aload_n 0, 1) := by decide +kernel
theorem dL_run_3 : decode cL_run 3 = .ok (.iload_n 1, 1) := by decide +kernel
theorem dL_run_4 : decode cL_run 4 = .ok (.invokevirtual 46, 3) := by decide +kernel
theorem dL_run_7 : decode cL_run 7 = .ok (.i2l, 1) := by decide +kernel
theorem dL_run_8 : decode cL_run 8 = .ok (.lastore, 1) := by decide +kernel
theorem dL_run_9 : decode cL_run 9 = .ok (.goto 9, 3) := by decide +kernel
theorem dL_run_12 : decode cL_run 12 = .ok (.astore_n 3, 1) := by decide +kernel
theorem dL_run_13 : decode cL_run 13 = .ok (.iconst 1, 1) := by decide +kernel
theorem dL_run_14 : decode cL_run 14 = .ok (.ireturn, 1) := by decide +kernel
theorem dL_run_15 : decode cL_run 15 = .ok (.astore_n 3, 1) := by decide +kernel
theorem dL_run_16 : decode cL_run 16 = .ok (.iconst 2, 1) := by decide +kernel
theorem dL_run_17 : decode cL_run 17 = .ok (.ireturn, 1) := by decide +kernel
theorem dL_run_18 : decode cL_run 18 = .ok (.iconst 0, 1) := by decide +kernel
theorem dL_run_19 : decode cL_run 19 = .ok (.ireturn, 1) := by decide +kernel
theorem dL_cell_0 : decode cL_cell 0 = .ok (.aload_n 2, 1) := by decide +kernel
theorem dL_cell_1 : decode cL_cell 1 = .ok (.iconst 0, 1) := by decide +kernel
theorem dL_cell_2 : decode cL_cell 2 = .ok (.aload_n 0, 1) := by decide +kernel
theorem dL_cell_3 : decode cL_cell 3 = .ok (.iload_n 1, 1) := by decide +kernel
theorem dL_cell_4 : decode cL_cell 4 = .ok (.invokevirtual 49, 3) := by decide +kernel
theorem dL_cell_7 : decode cL_cell 7 = .ok (.i2l, 1) := by decide +kernel
theorem dL_cell_8 : decode cL_cell 8 = .ok (.lastore, 1) := by decide +kernel
theorem dL_cell_9 : decode cL_cell 9 = .ok (.goto 9, 3) := by decide +kernel
theorem dL_cell_12 : decode cL_cell 12 = .ok (.astore_n 3, 1) := by decide +kernel
theorem dL_cell_13 : decode cL_cell 13 = .ok (.iconst 1, 1) := by decide +kernel
theorem dL_cell_14 : decode cL_cell 14 = .ok (.ireturn, 1) := by decide +kernel
theorem dL_cell_15 : decode cL_cell 15 = .ok (.astore_n 3, 1) := by decide +kernel
theorem dL_cell_16 : decode cL_cell 16 = .ok (.iconst 2, 1) := by decide +kernel
theorem dL_cell_17 : decode cL_cell 17 = .ok (.ireturn, 1) := by decide +kernel
theorem dL_cell_18 : decode cL_cell 18 = .ok (.iconst 0, 1) := by decide +kernel
theorem dL_cell_19 : decode cL_cell 19 = .ok (.ireturn, 1) := by decide +kernel
theorem dL_seen_0 : decode cL_seen 0 = .ok (.aload_n 3, 1) := by decide +kernel
theorem dL_seen_1 : decode cL_seen 1 = .ok (.iconst 0, 1) := by decide +kernel
theorem dL_seen_2 : decode cL_seen 2 = .ok (.aload_n 0, 1) := by decide +kernel
theorem dL_seen_3 : decode cL_seen 3 = .ok (.iload_n 1, 1) := by decide +kernel
theorem dL_seen_4 : decode cL_seen 4 = .ok (.iload_n 2, 1) := by decide +kernel
theorem dL_seen_5 : decode cL_seen 5 = .ok (.invokevirtual 52, 3) := by decide +kernel
theorem dL_seen_8 : decode cL_seen 8 = .ok (.i2l, 1) := by decide +kernel
theorem dL_seen_9 : decode cL_seen 9 = .ok (.lastore, 1) := by decide +kernel
theorem dL_seen_10 : decode cL_seen 10 = .ok (.goto 11, 3) := by decide +kernel
theorem dL_seen_13 : decode cL_seen 13 = .ok (.astore 4, 2) := by decide +kernel
theorem dL_seen_15 : decode cL_seen 15 = .ok (.iconst 1, 1) := by decide +kernel
theorem dL_seen_16 : decode cL_seen 16 = .ok (.ireturn, 1) := by decide +kernel
theorem dL_seen_17 : decode cL_seen 17 = .ok (.astore 4, 2) := by decide +kernel
theorem dL_seen_19 : decode cL_seen 19 = .ok (.iconst 2, 1) := by decide +kernel
theorem dL_seen_20 : decode cL_seen 20 = .ok (.ireturn, 1) := by decide +kernel
theorem dL_seen_21 : decode cL_seen 21 = .ok (.iconst 0, 1) := by decide +kernel
theorem dL_seen_22 : decode cL_seen 22 = .ok (.ireturn, 1) := by decide +kernel
theorem dL_lock_0 : decode cL_lock 0 = .ok (.aload_n 3, 1) := by decide +kernel
theorem dL_lock_1 : decode cL_lock 1 = .ok (.iconst 0, 1) := by decide +kernel
theorem dL_lock_2 : decode cL_lock 2 = .ok (.aload_n 0, 1) := by decide +kernel
theorem dL_lock_3 : decode cL_lock 3 = .ok (.iload_n 1, 1) := by decide +kernel
theorem dL_lock_4 : decode cL_lock 4 = .ok (.iload_n 2, 1) := by decide +kernel
theorem dL_lock_5 : decode cL_lock 5 = .ok (.invokevirtual 55, 3) := by decide +kernel
theorem dL_lock_8 : decode cL_lock 8 = .ok (.i2l, 1) := by decide +kernel
theorem dL_lock_9 : decode cL_lock 9 = .ok (.lastore, 1) := by decide +kernel
theorem dL_lock_10 : decode cL_lock 10 = .ok (.goto 11, 3) := by decide +kernel
theorem dL_lock_13 : decode cL_lock 13 = .ok (.astore 4, 2) := by decide +kernel
theorem dL_lock_15 : decode cL_lock 15 = .ok (.iconst 1, 1) := by decide +kernel
theorem dL_lock_16 : decode cL_lock 16 = .ok (.ireturn, 1) := by decide +kernel
theorem dL_lock_17 : decode cL_lock 17 = .ok (.astore 4, 2) := by decide +kernel
theorem dL_lock_19 : decode cL_lock 19 = .ok (.iconst 2, 1) := by decide +kernel
theorem dL_lock_20 : decode cL_lock 20 = .ok (.ireturn, 1) := by decide +kernel
theorem dL_lock_21 : decode cL_lock 21 = .ok (.iconst 0, 1) := by decide +kernel
theorem dL_lock_22 : decode cL_lock 22 = .ok (.ireturn, 1) := by decide +kernel
theorem dL_thread_0 : decode cL_thread 0 = .ok (.aload_n 3, 1) := by decide +kernel
theorem dL_thread_1 : decode cL_thread 1 = .ok (.iconst 0, 1) := by decide +kernel
theorem dL_thread_2 : decode cL_thread 2 = .ok (.aload_n 0, 1) := by decide +kernel
theorem dL_thread_3 : decode cL_thread 3 = .ok (.iload_n 1, 1) := by decide +kernel
theorem dL_thread_4 : decode cL_thread 4 = .ok (.iload_n 2, 1) := by decide +kernel
theorem dL_thread_5 : decode cL_thread 5 = .ok (.invokevirtual 58, 3) := by decide +kernel
theorem dL_thread_8 : decode cL_thread 8 = .ok (.i2l, 1) := by decide +kernel
theorem dL_thread_9 : decode cL_thread 9 = .ok (.lastore, 1) := by decide +kernel
theorem dL_thread_10 : decode cL_thread 10 = .ok (.goto 11, 3) := by decide +kernel
theorem dL_thread_13 : decode cL_thread 13 = .ok (.astore 4, 2) := by decide +kernel
theorem dL_thread_15 : decode cL_thread 15 = .ok (.iconst 1, 1) := by decide +kernel
theorem dL_thread_16 : decode cL_thread 16 = .ok (.ireturn, 1) := by decide +kernel
theorem dL_thread_17 : decode cL_thread 17 = .ok (.astore 4, 2) := by decide +kernel
theorem dL_thread_19 : decode cL_thread 19 = .ok (.iconst 2, 1) := by decide +kernel
theorem dL_thread_20 : decode cL_thread 20 = .ok (.ireturn, 1) := by decide +kernel
theorem dL_thread_21 : decode cL_thread 21 = .ok (.iconst 0, 1) := by decide +kernel
theorem dL_thread_22 : decode cL_thread 22 = .ok (.ireturn, 1) := by decide +kernel
theorem dL_local_0 : decode cL_local 0 = .ok (.aload_n 3, 1) := by decide +kernel
theorem dL_local_1 : decode cL_local 1 = .ok (.iconst 0, 1) := by decide +kernel
theorem dL_local_2 : decode cL_local 2 = .ok (.aload_n 0, 1) := by decide +kernel
theorem dL_local_3 : decode cL_local 3 = .ok (.iload_n 1, 1) := by decide +kernel
theorem dL_local_4 : decode cL_local 4 = .ok (.iload_n 2, 1) := by decide +kernel
theorem dL_local_5 : decode cL_local 5 = .ok (.invokevirtual 61, 3) := by decide +kernel
theorem dL_local_8 : decode cL_local 8 = .ok (.i2l, 1) := by decide +kernel
theorem dL_local_9 : decode cL_local 9 = .ok (.lastore, 1) := by decide +kernel
theorem dL_local_10 : decode cL_local 10 = .ok (.goto 11, 3) := by decide +kernel
theorem dL_local_13 : decode cL_local 13 = .ok (.astore 4, 2) := by decide +kernel
theorem dL_local_15 : decode cL_local 15 = .ok (.iconst 1, 1) := by decide +kernel
theorem dL_local_16 : decode cL_local 16 = .ok (.ireturn, 1) := by decide +kernel
theorem dL_local_17 : decode cL_local 17 = .ok (.astore 4, 2) := by decide +kernel
theorem dL_local_19 : decode cL_local 19 = .ok (.iconst 2, 1) := by decide +kernel
theorem dL_local_20 : decode cL_local 20 = .ok (.ireturn, 1) := by decide +kernel
theorem dL_local_21 : decode cL_local 21 = .ok (.iconst 0, 1) := by decide +kernel
theorem dL_local_22 : decode cL_local 22 = .ok (.ireturn, 1) := by decide +kernel
theorem dL_act_0 : decode cL_act 0 = .ok (.aload_n 3, 1) := by decide +kernel
theorem dL_act_1 : decode cL_act 1 = .ok (.iconst 0, 1) := by decide +kernel
theorem dL_act_2 : decode cL_act 2 = .ok (.aload_n 0, 1) := by decide +kernel
theorem dL_act_3 : decode cL_act 3 = .ok (.iload_n 1, 1) := by decide +kernel
theorem dL_act_4 : decode cL_act 4 = .ok (.iload_n 2, 1) := by decide +kernel
theorem dL_act_5 : decode cL_act 5 = .ok (.invokevirtual 64, 3) := by decide +kernel
theorem dL_act_8 : decode cL_act 8 = .ok (.i2l, 1) := by decide +kernel
theorem dL_act_9 : decode cL_act 9 = .ok (.lastore, 1) := by decide +kernel
theorem dL_act_10 : decode cL_act 10 = .ok (.goto 11, 3) := by decide +kernel
theorem dL_act_13 : decode cL_act 13 = .ok (.astore 4, 2) := by decide +kernel
theorem dL_act_15 : decode cL_act 15 = .ok (.iconst 1, 1) := by decide +kernel
theorem dL_act_16 : decode cL_act 16 = .ok (.ireturn, 1) := by decide +kernel
theorem dL_act_17 : decode cL_act 17 = .ok (.astore 4, 2) := by decide +kernel
theorem dL_act_19 : decode cL_act 19 = .ok (.iconst 2, 1) := by decide +kernel
theorem dL_act_20 : decode cL_act 20 = .ok (.ireturn, 1) := by decide +kernel
theorem dL_act_21 : decode cL_act 21 = .ok (.iconst 0, 1) := by decide +kernel
theorem dL_act_22 : decode cL_act 22 = .ok (.ireturn, 1) := by decide +kernel
theorem dL_before_0 : decode cL_before 0 = .ok (.aload_n 3, 1) := by decide +kernel
theorem dL_before_1 : decode cL_before 1 = .ok (.iconst 0, 1) := by decide +kernel
theorem dL_before_2 : decode cL_before 2 = .ok (.aload_n 0, 1) := by decide +kernel
theorem dL_before_3 : decode cL_before 3 = .ok (.iload_n 1, 1) := by decide +kernel
theorem dL_before_4 : decode cL_before 4 = .ok (.iload_n 2, 1) := by decide +kernel
theorem dL_before_5 : decode cL_before 5 = .ok (.invokevirtual 67, 3) := by decide +kernel
theorem dL_before_8 : decode cL_before 8 = .ok (.ifCond .eq 7, 3) := by decide +kernel
theorem dL_before_11 : decode cL_before 11 = .ok (.lconst 1, 1) := by decide +kernel
theorem dL_before_12 : decode cL_before 12 = .ok (.goto 4, 3) := by decide +kernel
theorem dL_before_15 : decode cL_before 15 = .ok (.lconst 0, 1) := by decide +kernel
theorem dL_before_16 : decode cL_before 16 = .ok (.lastore, 1) := by decide +kernel
theorem dL_before_17 : decode cL_before 17 = .ok (.goto 11, 3) := by decide +kernel
theorem dL_before_20 : decode cL_before 20 = .ok (.astore 4, 2) := by decide +kernel
theorem dL_before_22 : decode cL_before 22 = .ok (.iconst 1, 1) := by decide +kernel
theorem dL_before_23 : decode cL_before 23 = .ok (.ireturn, 1) := by decide +kernel
theorem dL_before_24 : decode cL_before 24 = .ok (.astore 4, 2) := by decide +kernel
theorem dL_before_26 : decode cL_before 26 = .ok (.iconst 2, 1) := by decide +kernel
theorem dL_before_27 : decode cL_before 27 = .ok (.ireturn, 1) := by decide +kernel
theorem dL_before_28 : decode cL_before 28 = .ok (.iconst 0, 1) := by decide +kernel
theorem dL_before_29 : decode cL_before 29 = .ok (.ireturn, 1) := by decide +kernel
theorem dL_race_0 : decode cL_race 0 = .ok (.aload_n 3, 1) := by decide +kernel
theorem dL_race_1 : decode cL_race 1 = .ok (.iconst 0, 1) := by decide +kernel
theorem dL_race_2 : decode cL_race 2 = .ok (.aload_n 0, 1) := by decide +kernel
theorem dL_race_3 : decode cL_race 3 = .ok (.iload_n 1, 1) := by decide +kernel
theorem dL_race_4 : decode cL_race 4 = .ok (.iload_n 2, 1) := by decide +kernel
theorem dL_race_5 : decode cL_race 5 = .ok (.invokevirtual 71, 3) := by decide +kernel
theorem dL_race_8 : decode cL_race 8 = .ok (.i2l, 1) := by decide +kernel
theorem dL_race_9 : decode cL_race 9 = .ok (.lastore, 1) := by decide +kernel
theorem dL_race_10 : decode cL_race 10 = .ok (.goto 11, 3) := by decide +kernel
theorem dL_race_13 : decode cL_race 13 = .ok (.astore 4, 2) := by decide +kernel
theorem dL_race_15 : decode cL_race 15 = .ok (.iconst 1, 1) := by decide +kernel
theorem dL_race_16 : decode cL_race 16 = .ok (.ireturn, 1) := by decide +kernel
theorem dL_race_17 : decode cL_race 17 = .ok (.astore 4, 2) := by decide +kernel
theorem dL_race_19 : decode cL_race 19 = .ok (.iconst 2, 1) := by decide +kernel
theorem dL_race_20 : decode cL_race 20 = .ok (.ireturn, 1) := by decide +kernel
theorem dL_race_21 : decode cL_race 21 = .ok (.iconst 0, 1) := by decide +kernel
theorem dL_race_22 : decode cL_race 22 = .ok (.ireturn, 1) := by decide +kernel
theorem dL_linear_0 : decode cL_linear 0 = .ok (.aload_n 2, 1) := by decide +kernel
theorem dL_linear_1 : decode cL_linear 1 = .ok (.iconst 0, 1) := by decide +kernel
theorem dL_linear_2 : decode cL_linear 2 = .ok (.aload_n 0, 1) := by decide +kernel
theorem dL_linear_3 : decode cL_linear 3 = .ok (.iload_n 1, 1) := by decide +kernel
theorem dL_linear_4 : decode cL_linear 4 = .ok (.invokevirtual 74, 3) := by decide +kernel
theorem dL_linear_7 : decode cL_linear 7 = .ok (.i2l, 1) := by decide +kernel
theorem dL_linear_8 : decode cL_linear 8 = .ok (.lastore, 1) := by decide +kernel
theorem dL_linear_9 : decode cL_linear 9 = .ok (.goto 9, 3) := by decide +kernel
theorem dL_linear_12 : decode cL_linear 12 = .ok (.astore_n 3, 1) := by decide +kernel
theorem dL_linear_13 : decode cL_linear 13 = .ok (.iconst 1, 1) := by decide +kernel
theorem dL_linear_14 : decode cL_linear 14 = .ok (.ireturn, 1) := by decide +kernel
theorem dL_linear_15 : decode cL_linear 15 = .ok (.astore_n 3, 1) := by decide +kernel
theorem dL_linear_16 : decode cL_linear 16 = .ok (.iconst 2, 1) := by decide +kernel
theorem dL_linear_17 : decode cL_linear 17 = .ok (.ireturn, 1) := by decide +kernel
theorem dL_linear_18 : decode cL_linear 18 = .ok (.iconst 0, 1) := by decide +kernel
theorem dL_linear_19 : decode cL_linear 19 = .ok (.ireturn, 1) := by decide +kernel
theorem dL_attempt_0 : decode cL_attempt 0 = .ok (.aload_n 3, 1) := by decide +kernel
theorem dL_attempt_1 : decode cL_attempt 1 = .ok (.iconst 0, 1) := by decide +kernel
theorem dL_attempt_2 : decode cL_attempt 2 = .ok (.aload_n 0, 1) := by decide +kernel
theorem dL_attempt_3 : decode cL_attempt 3 = .ok (.iload_n 1, 1) := by decide +kernel
theorem dL_attempt_4 : decode cL_attempt 4 = .ok (.iload_n 2, 1) := by decide +kernel
theorem dL_attempt_5 : decode cL_attempt 5 = .ok (.invokevirtual 77, 3) := by decide +kernel
theorem dL_attempt_8 : decode cL_attempt 8 = .ok (.i2l, 1) := by decide +kernel
theorem dL_attempt_9 : decode cL_attempt 9 = .ok (.lastore, 1) := by decide +kernel
theorem dL_attempt_10 : decode cL_attempt 10 = .ok (.goto 11, 3) := by decide +kernel
theorem dL_attempt_13 : decode cL_attempt 13 = .ok (.astore 4, 2) := by decide +kernel
theorem dL_attempt_15 : decode cL_attempt 15 = .ok (.iconst 1, 1) := by decide +kernel
theorem dL_attempt_16 : decode cL_attempt 16 = .ok (.ireturn, 1) := by decide +kernel
theorem dL_attempt_17 : decode cL_attempt 17 = .ok (.astore 4, 2) := by decide +kernel
theorem dL_attempt_19 : decode cL_attempt 19 = .ok (.iconst 2, 1) := by decide +kernel
theorem dL_attempt_20 : decode cL_attempt 20 = .ok (.ireturn, 1) := by decide +kernel
theorem dL_attempt_21 : decode cL_attempt 21 = .ok (.iconst 0, 1) := by decide +kernel
theorem dL_attempt_22 : decode cL_attempt 22 = .ok (.ireturn, 1) := by decide +kernel
theorem dL_tried_0 : decode cL_tried 0 = .ok (.aload_n 3, 1) := by decide +kernel
theorem dL_tried_1 : decode cL_tried 1 = .ok (.iconst 0, 1) := by decide +kernel
theorem dL_tried_2 : decode cL_tried 2 = .ok (.aload_n 0, 1) := by decide +kernel
theorem dL_tried_3 : decode cL_tried 3 = .ok (.iload_n 1, 1) := by decide +kernel
theorem dL_tried_4 : decode cL_tried 4 = .ok (.iload_n 2, 1) := by decide +kernel
theorem dL_tried_5 : decode cL_tried 5 = .ok (.invokevirtual 80, 3) := by decide +kernel
theorem dL_tried_8 : decode cL_tried 8 = .ok (.i2l, 1) := by decide +kernel
theorem dL_tried_9 : decode cL_tried 9 = .ok (.lastore, 1) := by decide +kernel
theorem dL_tried_10 : decode cL_tried 10 = .ok (.goto 11, 3) := by decide +kernel
theorem dL_tried_13 : decode cL_tried 13 = .ok (.astore 4, 2) := by decide +kernel
theorem dL_tried_15 : decode cL_tried 15 = .ok (.iconst 1, 1) := by decide +kernel
theorem dL_tried_16 : decode cL_tried 16 = .ok (.ireturn, 1) := by decide +kernel
theorem dL_tried_17 : decode cL_tried 17 = .ok (.astore 4, 2) := by decide +kernel
theorem dL_tried_19 : decode cL_tried 19 = .ok (.iconst 2, 1) := by decide +kernel
theorem dL_tried_20 : decode cL_tried 20 = .ok (.ireturn, 1) := by decide +kernel
theorem dL_tried_21 : decode cL_tried 21 = .ok (.iconst 0, 1) := by decide +kernel
theorem dL_tried_22 : decode cL_tried 22 = .ok (.ireturn, 1) := by decide +kernel
theorem dL_outcome_0 : decode cL_outcome 0 = .ok (.aload 4, 2) := by decide +kernel
theorem dL_outcome_2 : decode cL_outcome 2 = .ok (.iconst 0, 1) := by decide +kernel
theorem dL_outcome_3 : decode cL_outcome 3 = .ok (.aload_n 0, 1) := by decide +kernel
theorem dL_outcome_4 : decode cL_outcome 4 = .ok (.iload_n 1, 1) := by decide +kernel
theorem dL_outcome_5 : decode cL_outcome 5 = .ok (.iload_n 2, 1) := by decide +kernel
theorem dL_outcome_6 : decode cL_outcome 6 = .ok (.iload_n 3, 1) := by decide +kernel
theorem dL_outcome_7 : decode cL_outcome 7 = .ok (.invokevirtual 83, 3) := by decide +kernel
theorem dL_outcome_10 : decode cL_outcome 10 = .ok (.i2l, 1) := by decide +kernel
theorem dL_outcome_11 : decode cL_outcome 11 = .ok (.lastore, 1) := by decide +kernel
theorem dL_outcome_12 : decode cL_outcome 12 = .ok (.goto 11, 3) := by decide +kernel
theorem dL_outcome_15 : decode cL_outcome 15 = .ok (.astore 5, 2) := by decide +kernel
theorem dL_outcome_17 : decode cL_outcome 17 = .ok (.iconst 1, 1) := by decide +kernel
theorem dL_outcome_18 : decode cL_outcome 18 = .ok (.ireturn, 1) := by decide +kernel
theorem dL_outcome_19 : decode cL_outcome 19 = .ok (.astore 5, 2) := by decide +kernel
theorem dL_outcome_21 : decode cL_outcome 21 = .ok (.iconst 2, 1) := by decide +kernel
theorem dL_outcome_22 : decode cL_outcome 22 = .ok (.ireturn, 1) := by decide +kernel
theorem dL_outcome_23 : decode cL_outcome 23 = .ok (.iconst 0, 1) := by decide +kernel
theorem dL_outcome_24 : decode cL_outcome 24 = .ok (.ireturn, 1) := by decide +kernel
theorem dL_finding_0 : decode cL_finding 0 = .ok (.aload_n 3, 1) := by decide +kernel
theorem dL_finding_1 : decode cL_finding 1 = .ok (.iconst 0, 1) := by decide +kernel
theorem dL_finding_2 : decode cL_finding 2 = .ok (.aload_n 0, 1) := by decide +kernel
theorem dL_finding_3 : decode cL_finding 3 = .ok (.iload_n 1, 1) := by decide +kernel
theorem dL_finding_4 : decode cL_finding 4 = .ok (.iload_n 2, 1) := by decide +kernel
theorem dL_finding_5 : decode cL_finding 5 = .ok (.invokevirtual 87, 3) := by decide +kernel
theorem dL_finding_8 : decode cL_finding 8 = .ok (.i2l, 1) := by decide +kernel
theorem dL_finding_9 : decode cL_finding 9 = .ok (.lastore, 1) := by decide +kernel
theorem dL_finding_10 : decode cL_finding 10 = .ok (.goto 7, 3) := by decide +kernel
theorem dL_finding_13 : decode cL_finding 13 = .ok (.astore 4, 2) := by decide +kernel
theorem dL_finding_15 : decode cL_finding 15 = .ok (.iconst 1, 1) := by decide +kernel
theorem dL_finding_16 : decode cL_finding 16 = .ok (.ireturn, 1) := by decide +kernel
theorem dL_finding_17 : decode cL_finding 17 = .ok (.iconst 0, 1) := by decide +kernel
theorem dL_finding_18 : decode cL_finding 18 = .ok (.ireturn, 1) := by decide +kernel
theorem dL_show_0 : decode cL_show 0 = .ok (.aload_n 3, 1) := by decide +kernel
theorem dL_show_1 : decode cL_show 1 = .ok (.iconst 0, 1) := by decide +kernel
theorem dL_show_2 : decode cL_show 2 = .ok (.aload_n 0, 1) := by decide +kernel
theorem dL_show_3 : decode cL_show 3 = .ok (.iload_n 1, 1) := by decide +kernel
theorem dL_show_4 : decode cL_show 4 = .ok (.iload_n 2, 1) := by decide +kernel
theorem dL_show_5 : decode cL_show 5 = .ok (.invokevirtual 90, 3) := by decide +kernel
theorem dL_show_8 : decode cL_show 8 = .ok (.i2l, 1) := by decide +kernel
theorem dL_show_9 : decode cL_show 9 = .ok (.lastore, 1) := by decide +kernel
theorem dL_show_10 : decode cL_show 10 = .ok (.goto 11, 3) := by decide +kernel
theorem dL_show_13 : decode cL_show 13 = .ok (.astore 4, 2) := by decide +kernel
theorem dL_show_15 : decode cL_show 15 = .ok (.iconst 1, 1) := by decide +kernel
theorem dL_show_16 : decode cL_show 16 = .ok (.ireturn, 1) := by decide +kernel
theorem dL_show_17 : decode cL_show 17 = .ok (.astore 4, 2) := by decide +kernel
theorem dL_show_19 : decode cL_show 19 = .ok (.iconst 2, 1) := by decide +kernel
theorem dL_show_20 : decode cL_show 20 = .ok (.ireturn, 1) := by decide +kernel
theorem dL_show_21 : decode cL_show 21 = .ok (.iconst 0, 1) := by decide +kernel
theorem dL_show_22 : decode cL_show 22 = .ok (.ireturn, 1) := by decide +kernel
theorem dL_common_0 : decode cL_common 0 = .ok (.aload_n 3, 1) := by decide +kernel
theorem dL_common_1 : decode cL_common 1 = .ok (.iconst 0, 1) := by decide +kernel
theorem dL_common_2 : decode cL_common 2 = .ok (.aload_n 0, 1) := by decide +kernel
theorem dL_common_3 : decode cL_common 3 = .ok (.iload_n 1, 1) := by decide +kernel
theorem dL_common_4 : decode cL_common 4 = .ok (.iload_n 2, 1) := by decide +kernel
theorem dL_common_5 : decode cL_common 5 = .ok (.invokevirtual 93, 3) := by decide +kernel
theorem dL_common_8 : decode cL_common 8 = .ok (.i2l, 1) := by decide +kernel
theorem dL_common_9 : decode cL_common 9 = .ok (.lastore, 1) := by decide +kernel
theorem dL_common_10 : decode cL_common 10 = .ok (.goto 11, 3) := by decide +kernel
theorem dL_common_13 : decode cL_common 13 = .ok (.astore 4, 2) := by decide +kernel
theorem dL_common_15 : decode cL_common 15 = .ok (.iconst 1, 1) := by decide +kernel
theorem dL_common_16 : decode cL_common 16 = .ok (.ireturn, 1) := by decide +kernel
theorem dL_common_17 : decode cL_common 17 = .ok (.astore 4, 2) := by decide +kernel
theorem dL_common_19 : decode cL_common 19 = .ok (.iconst 2, 1) := by decide +kernel
theorem dL_common_20 : decode cL_common 20 = .ok (.ireturn, 1) := by decide +kernel
theorem dL_common_21 : decode cL_common 21 = .ok (.iconst 0, 1) := by decide +kernel
theorem dL_common_22 : decode cL_common 22 = .ok (.ireturn, 1) := by decide +kernel
theorem dL_ring_0 : decode cL_ring 0 = .ok (.aload_n 2, 1) := by decide +kernel
theorem dL_ring_1 : decode cL_ring 1 = .ok (.iconst 0, 1) := by decide +kernel
theorem dL_ring_2 : decode cL_ring 2 = .ok (.aload_n 0, 1) := by decide +kernel
theorem dL_ring_3 : decode cL_ring 3 = .ok (.iload_n 1, 1) := by decide +kernel
theorem dL_ring_4 : decode cL_ring 4 = .ok (.invokevirtual 96, 3) := by decide +kernel
theorem dL_ring_7 : decode cL_ring 7 = .ok (.i2l, 1) := by decide +kernel
theorem dL_ring_8 : decode cL_ring 8 = .ok (.lastore, 1) := by decide +kernel
theorem dL_ring_9 : decode cL_ring 9 = .ok (.goto 6, 3) := by decide +kernel
theorem dL_ring_12 : decode cL_ring 12 = .ok (.astore_n 3, 1) := by decide +kernel
theorem dL_ring_13 : decode cL_ring 13 = .ok (.iconst 1, 1) := by decide +kernel
theorem dL_ring_14 : decode cL_ring 14 = .ok (.ireturn, 1) := by decide +kernel
theorem dL_ring_15 : decode cL_ring 15 = .ok (.iconst 0, 1) := by decide +kernel
theorem dL_ring_16 : decode cL_ring 16 = .ok (.ireturn, 1) := by decide +kernel
theorem dL_law_0 : decode cL_law 0 = .ok (.new 8, 3) := by decide +kernel
theorem dL_law_3 : decode cL_law 3 = .ok (.dup, 1) := by decide +kernel
theorem dL_law_4 : decode cL_law 4 = .ok (.invokespecial 99, 3) := by decide +kernel
theorem dL_law_7 : decode cL_law 7 = .ok (.astore_n 1, 1) := by decide +kernel
theorem dL_law_8 : decode cL_law 8 = .ok (.new 100, 3) := by decide +kernel
theorem dL_law_11 : decode cL_law 11 = .ok (.dup, 1) := by decide +kernel
theorem dL_law_12 : decode cL_law 12 = .ok (.invokespecial 102, 3) := by decide +kernel
theorem dL_law_15 : decode cL_law 15 = .ok (.astore_n 2, 1) := by decide +kernel
theorem dL_law_16 : decode cL_law 16 = .ok (.iconst 1, 1) := by decide +kernel
theorem dL_law_17 : decode cL_law 17 = .ok (.newarray .long, 2) := by decide +kernel
theorem dL_law_19 : decode cL_law 19 = .ok (.astore_n 3, 1) := by decide +kernel
theorem dL_law_20 : decode cL_law 20 = .ok (.iconst 0, 1) := by decide +kernel
theorem dL_law_21 : decode cL_law 21 = .ok (.istore 4, 2) := by decide +kernel
theorem dL_law_23 : decode cL_law 23 = .ok (.iload 4, 2) := by decide +kernel
theorem dL_law_25 : decode cL_law 25 = .ok (.aload_n 0, 1) := by decide +kernel
theorem dL_law_26 : decode cL_law 26 = .ok (.arraylength, 1) := by decide +kernel
theorem dL_law_27 : decode cL_law 27 = .ok (.iconst 4, 1) := by decide +kernel
theorem dL_law_28 : decode cL_law 28 = .ok (.isub, 1) := by decide +kernel
theorem dL_law_29 : decode cL_law 29 = .ok (.if_icmp .gt 1871, 3) := by decide +kernel
theorem dL_law_32 : decode cL_law 32 = .ok (.aload_n 0, 1) := by decide +kernel
theorem dL_law_33 : decode cL_law 33 = .ok (.iload 4, 2) := by decide +kernel
theorem dL_law_35 : decode cL_law 35 = .ok (.iaload, 1) := by decide +kernel
theorem dL_law_36 : decode cL_law 36 = .ok (.bipush 31, 2) := by decide +kernel
theorem dL_law_38 : decode cL_law 38 = .ok (.iand, 1) := by decide +kernel
theorem dL_law_39 : decode cL_law 39 = .ok (.tableswitch 1855 0 28 #[129, 229, 242, 255, 311, 367, 423, 467, 535, 591, 659, 715, 771, 827, 895, 963, 1031, 1099, 1167, 1242, 1310, 1366, 1434, 1502, 1582, 1650, 1718, 1786, 1842], 129) := by decide +kernel
theorem dL_law_168 : decode cL_law 168 = .ok (.aload_n 1, 1) := by decide +kernel
theorem dL_law_169 : decode cL_law 169 = .ok (.aload_n 0, 1) := by decide +kernel
theorem dL_law_170 : decode cL_law 170 = .ok (.iload 4, 2) := by decide +kernel
theorem dL_law_172 : decode cL_law 172 = .ok (.iconst 1, 1) := by decide +kernel
theorem dL_law_173 : decode cL_law 173 = .ok (.iadd, 1) := by decide +kernel
theorem dL_law_174 : decode cL_law 174 = .ok (.iaload, 1) := by decide +kernel
theorem dL_law_175 : decode cL_law 175 = .ok (.aload_n 0, 1) := by decide +kernel
theorem dL_law_176 : decode cL_law 176 = .ok (.iload 4, 2) := by decide +kernel
theorem dL_law_178 : decode cL_law 178 = .ok (.iconst 2, 1) := by decide +kernel
theorem dL_law_179 : decode cL_law 179 = .ok (.iadd, 1) := by decide +kernel
theorem dL_law_180 : decode cL_law 180 = .ok (.iaload, 1) := by decide +kernel
theorem dL_law_181 : decode cL_law 181 = .ok (.i2l, 1) := by decide +kernel
theorem dL_law_182 : decode cL_law 182 = .ok (.bipush 32, 2) := by decide +kernel
theorem dL_law_184 : decode cL_law 184 = .ok (.lshl, 1) := by decide +kernel
theorem dL_law_185 : decode cL_law 185 = .ok (.aload_n 0, 1) := by decide +kernel
theorem dL_law_186 : decode cL_law 186 = .ok (.iload 4, 2) := by decide +kernel
theorem dL_law_188 : decode cL_law 188 = .ok (.iconst 3, 1) := by decide +kernel
theorem dL_law_189 : decode cL_law 189 = .ok (.iadd, 1) := by decide +kernel
theorem dL_law_190 : decode cL_law 190 = .ok (.iaload, 1) := by decide +kernel
theorem dL_law_191 : decode cL_law 191 = .ok (.i2l, 1) := by decide +kernel
theorem dL_law_192 : decode cL_law 192 = .ok (.ldc2_w 103, 3) := by decide +kernel
theorem dL_law_195 : decode cL_law 195 = .ok (.land, 1) := by decide +kernel
theorem dL_law_196 : decode cL_law 196 = .ok (.lor, 1) := by decide +kernel
theorem dL_law_197 : decode cL_law 197 = .ok (.aload_n 3, 1) := by decide +kernel
theorem dL_law_198 : decode cL_law 198 = .ok (.invokestatic 105, 3) := by decide +kernel
theorem dL_law_201 : decode cL_law 201 = .ok (.istore 5, 2) := by decide +kernel
theorem dL_law_203 : decode cL_law 203 = .ok (.aload_n 2, 1) := by decide +kernel
theorem dL_law_204 : decode cL_law 204 = .ok (.aload_n 0, 1) := by decide +kernel
theorem dL_law_205 : decode cL_law 205 = .ok (.iload 4, 2) := by decide +kernel
theorem dL_law_207 : decode cL_law 207 = .ok (.iconst 1, 1) := by decide +kernel
theorem dL_law_208 : decode cL_law 208 = .ok (.iadd, 1) := by decide +kernel
theorem dL_law_209 : decode cL_law 209 = .ok (.iaload, 1) := by decide +kernel
theorem dL_law_210 : decode cL_law 210 = .ok (.aload_n 0, 1) := by decide +kernel
theorem dL_law_211 : decode cL_law 211 = .ok (.iload 4, 2) := by decide +kernel
theorem dL_law_213 : decode cL_law 213 = .ok (.iconst 2, 1) := by decide +kernel
theorem dL_law_214 : decode cL_law 214 = .ok (.iadd, 1) := by decide +kernel
theorem dL_law_215 : decode cL_law 215 = .ok (.iaload, 1) := by decide +kernel
theorem dL_law_216 : decode cL_law 216 = .ok (.i2l, 1) := by decide +kernel
theorem dL_law_217 : decode cL_law 217 = .ok (.bipush 32, 2) := by decide +kernel
theorem dL_law_219 : decode cL_law 219 = .ok (.lshl, 1) := by decide +kernel
theorem dL_law_220 : decode cL_law 220 = .ok (.aload_n 0, 1) := by decide +kernel
theorem dL_law_221 : decode cL_law 221 = .ok (.iload 4, 2) := by decide +kernel
theorem dL_law_223 : decode cL_law 223 = .ok (.iconst 3, 1) := by decide +kernel
theorem dL_law_224 : decode cL_law 224 = .ok (.iadd, 1) := by decide +kernel
theorem dL_law_225 : decode cL_law 225 = .ok (.iaload, 1) := by decide +kernel
theorem dL_law_226 : decode cL_law 226 = .ok (.i2l, 1) := by decide +kernel
theorem dL_law_227 : decode cL_law 227 = .ok (.ldc2_w 103, 3) := by decide +kernel
theorem dL_law_230 : decode cL_law 230 = .ok (.land, 1) := by decide +kernel
theorem dL_law_231 : decode cL_law 231 = .ok (.lor, 1) := by decide +kernel
theorem dL_law_232 : decode cL_law 232 = .ok (.invokevirtual 110, 3) := by decide +kernel
theorem dL_law_235 : decode cL_law 235 = .ok (.istore 6, 2) := by decide +kernel
theorem dL_law_237 : decode cL_law 237 = .ok (.aload_n 2, 1) := by decide +kernel
theorem dL_law_238 : decode cL_law 238 = .ok (.invokevirtual 111, 3) := by decide +kernel
theorem dL_law_241 : decode cL_law 241 = .ok (.iload 5, 2) := by decide +kernel
theorem dL_law_243 : decode cL_law 243 = .ok (.if_icmp .eq 5, 3) := by decide +kernel
theorem dL_law_246 : decode cL_law 246 = .ok (.iconst 0, 1) := by decide +kernel
theorem dL_law_247 : decode cL_law 247 = .ok (.ireturn, 1) := by decide +kernel
theorem dL_law_248 : decode cL_law 248 = .ok (.iload 5, 2) := by decide +kernel
theorem dL_law_250 : decode cL_law 250 = .ok (.ifCond .ne 15, 3) := by decide +kernel
theorem dL_law_253 : decode cL_law 253 = .ok (.aload_n 3, 1) := by decide +kernel
theorem dL_law_254 : decode cL_law 254 = .ok (.iconst 0, 1) := by decide +kernel
theorem dL_law_255 : decode cL_law 255 = .ok (.laload, 1) := by decide +kernel
theorem dL_law_256 : decode cL_law 256 = .ok (.iload 6, 2) := by decide +kernel
theorem dL_law_258 : decode cL_law 258 = .ok (.i2l, 1) := by decide +kernel
theorem dL_law_259 : decode cL_law 259 = .ok (.lcmp, 1) := by decide +kernel
theorem dL_law_260 : decode cL_law 260 = .ok (.ifCond .eq 5, 3) := by decide +kernel
theorem dL_law_263 : decode cL_law 263 = .ok (.iconst 0, 1) := by decide +kernel
theorem dL_law_264 : decode cL_law 264 = .ok (.ireturn, 1) := by decide +kernel
theorem dL_law_265 : decode cL_law 265 = .ok (.goto 1629, 3) := by decide +kernel
theorem dL_law_268 : decode cL_law 268 = .ok (.aload_n 1, 1) := by decide +kernel
theorem dL_law_269 : decode cL_law 269 = .ok (.invokevirtual 114, 3) := by decide +kernel
theorem dL_law_272 : decode cL_law 272 = .ok (.aload_n 2, 1) := by decide +kernel
theorem dL_law_273 : decode cL_law 273 = .ok (.invokevirtual 117, 3) := by decide +kernel
theorem dL_law_276 : decode cL_law 276 = .ok (.if_icmp .eq 1618, 3) := by decide +kernel
theorem dL_law_279 : decode cL_law 279 = .ok (.iconst 0, 1) := by decide +kernel
theorem dL_law_280 : decode cL_law 280 = .ok (.ireturn, 1) := by decide +kernel
theorem dL_law_281 : decode cL_law 281 = .ok (.aload_n 1, 1) := by decide +kernel
theorem dL_law_282 : decode cL_law 282 = .ok (.invokevirtual 118, 3) := by decide +kernel
theorem dL_law_285 : decode cL_law 285 = .ok (.aload_n 2, 1) := by decide +kernel
theorem dL_law_286 : decode cL_law 286 = .ok (.invokevirtual 121, 3) := by decide +kernel
theorem dL_law_289 : decode cL_law 289 = .ok (.if_icmp .eq 1605, 3) := by decide +kernel
theorem dL_law_292 : decode cL_law 292 = .ok (.iconst 0, 1) := by decide +kernel
theorem dL_law_293 : decode cL_law 293 = .ok (.ireturn, 1) := by decide +kernel
theorem dL_law_294 : decode cL_law 294 = .ok (.aload_n 1, 1) := by decide +kernel
theorem dL_law_295 : decode cL_law 295 = .ok (.aload_n 0, 1) := by decide +kernel
theorem dL_law_296 : decode cL_law 296 = .ok (.iload 4, 2) := by decide +kernel
theorem dL_law_298 : decode cL_law 298 = .ok (.iconst 1, 1) := by decide +kernel
theorem dL_law_299 : decode cL_law 299 = .ok (.iadd, 1) := by decide +kernel
theorem dL_law_300 : decode cL_law 300 = .ok (.iaload, 1) := by decide +kernel
theorem dL_law_301 : decode cL_law 301 = .ok (.aload_n 3, 1) := by decide +kernel
theorem dL_law_302 : decode cL_law 302 = .ok (.invokestatic 122, 3) := by decide +kernel
theorem dL_law_305 : decode cL_law 305 = .ok (.istore 5, 2) := by decide +kernel
theorem dL_law_307 : decode cL_law 307 = .ok (.aload_n 2, 1) := by decide +kernel
theorem dL_law_308 : decode cL_law 308 = .ok (.aload_n 0, 1) := by decide +kernel
theorem dL_law_309 : decode cL_law 309 = .ok (.iload 4, 2) := by decide +kernel
theorem dL_law_311 : decode cL_law 311 = .ok (.iconst 1, 1) := by decide +kernel
theorem dL_law_312 : decode cL_law 312 = .ok (.iadd, 1) := by decide +kernel
theorem dL_law_313 : decode cL_law 313 = .ok (.iaload, 1) := by decide +kernel
theorem dL_law_314 : decode cL_law 314 = .ok (.invokevirtual 125, 3) := by decide +kernel
theorem dL_law_317 : decode cL_law 317 = .ok (.istore 6, 2) := by decide +kernel
theorem dL_law_319 : decode cL_law 319 = .ok (.aload_n 2, 1) := by decide +kernel
theorem dL_law_320 : decode cL_law 320 = .ok (.invokevirtual 111, 3) := by decide +kernel
theorem dL_law_323 : decode cL_law 323 = .ok (.iload 5, 2) := by decide +kernel
theorem dL_law_325 : decode cL_law 325 = .ok (.if_icmp .eq 5, 3) := by decide +kernel
theorem dL_law_328 : decode cL_law 328 = .ok (.iconst 0, 1) := by decide +kernel
theorem dL_law_329 : decode cL_law 329 = .ok (.ireturn, 1) := by decide +kernel
theorem dL_law_330 : decode cL_law 330 = .ok (.iload 5, 2) := by decide +kernel
theorem dL_law_332 : decode cL_law 332 = .ok (.ifCond .ne 15, 3) := by decide +kernel
theorem dL_law_335 : decode cL_law 335 = .ok (.aload_n 3, 1) := by decide +kernel
theorem dL_law_336 : decode cL_law 336 = .ok (.iconst 0, 1) := by decide +kernel
theorem dL_law_337 : decode cL_law 337 = .ok (.laload, 1) := by decide +kernel
theorem dL_law_338 : decode cL_law 338 = .ok (.iload 6, 2) := by decide +kernel
theorem dL_law_340 : decode cL_law 340 = .ok (.i2l, 1) := by decide +kernel
theorem dL_law_341 : decode cL_law 341 = .ok (.lcmp, 1) := by decide +kernel
theorem dL_law_342 : decode cL_law 342 = .ok (.ifCond .eq 5, 3) := by decide +kernel
theorem dL_law_345 : decode cL_law 345 = .ok (.iconst 0, 1) := by decide +kernel
theorem dL_law_346 : decode cL_law 346 = .ok (.ireturn, 1) := by decide +kernel
theorem dL_law_347 : decode cL_law 347 = .ok (.goto 1547, 3) := by decide +kernel
theorem dL_law_350 : decode cL_law 350 = .ok (.aload_n 1, 1) := by decide +kernel
theorem dL_law_351 : decode cL_law 351 = .ok (.aload_n 0, 1) := by decide +kernel
theorem dL_law_352 : decode cL_law 352 = .ok (.iload 4, 2) := by decide +kernel
theorem dL_law_354 : decode cL_law 354 = .ok (.iconst 1, 1) := by decide +kernel
theorem dL_law_355 : decode cL_law 355 = .ok (.iadd, 1) := by decide +kernel
theorem dL_law_356 : decode cL_law 356 = .ok (.iaload, 1) := by decide +kernel
theorem dL_law_357 : decode cL_law 357 = .ok (.aload_n 3, 1) := by decide +kernel
theorem dL_law_358 : decode cL_law 358 = .ok (.invokestatic 126, 3) := by decide +kernel
theorem dL_law_361 : decode cL_law 361 = .ok (.istore 5, 2) := by decide +kernel
theorem dL_law_363 : decode cL_law 363 = .ok (.aload_n 2, 1) := by decide +kernel
theorem dL_law_364 : decode cL_law 364 = .ok (.aload_n 0, 1) := by decide +kernel
theorem dL_law_365 : decode cL_law 365 = .ok (.iload 4, 2) := by decide +kernel
theorem dL_law_367 : decode cL_law 367 = .ok (.iconst 1, 1) := by decide +kernel
theorem dL_law_368 : decode cL_law 368 = .ok (.iadd, 1) := by decide +kernel
theorem dL_law_369 : decode cL_law 369 = .ok (.iaload, 1) := by decide +kernel
theorem dL_law_370 : decode cL_law 370 = .ok (.invokevirtual 128, 3) := by decide +kernel
theorem dL_law_373 : decode cL_law 373 = .ok (.istore 6, 2) := by decide +kernel
theorem dL_law_375 : decode cL_law 375 = .ok (.aload_n 2, 1) := by decide +kernel
theorem dL_law_376 : decode cL_law 376 = .ok (.invokevirtual 111, 3) := by decide +kernel
theorem dL_law_379 : decode cL_law 379 = .ok (.iload 5, 2) := by decide +kernel
theorem dL_law_381 : decode cL_law 381 = .ok (.if_icmp .eq 5, 3) := by decide +kernel
theorem dL_law_384 : decode cL_law 384 = .ok (.iconst 0, 1) := by decide +kernel
theorem dL_law_385 : decode cL_law 385 = .ok (.ireturn, 1) := by decide +kernel
theorem dL_law_386 : decode cL_law 386 = .ok (.iload 5, 2) := by decide +kernel
theorem dL_law_388 : decode cL_law 388 = .ok (.ifCond .ne 15, 3) := by decide +kernel
theorem dL_law_391 : decode cL_law 391 = .ok (.aload_n 3, 1) := by decide +kernel
theorem dL_law_392 : decode cL_law 392 = .ok (.iconst 0, 1) := by decide +kernel
theorem dL_law_393 : decode cL_law 393 = .ok (.laload, 1) := by decide +kernel
theorem dL_law_394 : decode cL_law 394 = .ok (.iload 6, 2) := by decide +kernel
theorem dL_law_396 : decode cL_law 396 = .ok (.i2l, 1) := by decide +kernel
theorem dL_law_397 : decode cL_law 397 = .ok (.lcmp, 1) := by decide +kernel
theorem dL_law_398 : decode cL_law 398 = .ok (.ifCond .eq 5, 3) := by decide +kernel
theorem dL_law_401 : decode cL_law 401 = .ok (.iconst 0, 1) := by decide +kernel
theorem dL_law_402 : decode cL_law 402 = .ok (.ireturn, 1) := by decide +kernel
theorem dL_law_403 : decode cL_law 403 = .ok (.goto 1491, 3) := by decide +kernel
theorem dL_law_406 : decode cL_law 406 = .ok (.aload_n 1, 1) := by decide +kernel
theorem dL_law_407 : decode cL_law 407 = .ok (.aload_n 0, 1) := by decide +kernel
theorem dL_law_408 : decode cL_law 408 = .ok (.iload 4, 2) := by decide +kernel
theorem dL_law_410 : decode cL_law 410 = .ok (.iconst 1, 1) := by decide +kernel
theorem dL_law_411 : decode cL_law 411 = .ok (.iadd, 1) := by decide +kernel
theorem dL_law_412 : decode cL_law 412 = .ok (.iaload, 1) := by decide +kernel
theorem dL_law_413 : decode cL_law 413 = .ok (.aload_n 3, 1) := by decide +kernel
theorem dL_law_414 : decode cL_law 414 = .ok (.invokestatic 129, 3) := by decide +kernel
theorem dL_law_417 : decode cL_law 417 = .ok (.istore 5, 2) := by decide +kernel
theorem dL_law_419 : decode cL_law 419 = .ok (.aload_n 2, 1) := by decide +kernel
theorem dL_law_420 : decode cL_law 420 = .ok (.aload_n 0, 1) := by decide +kernel
theorem dL_law_421 : decode cL_law 421 = .ok (.iload 4, 2) := by decide +kernel
theorem dL_law_423 : decode cL_law 423 = .ok (.iconst 1, 1) := by decide +kernel
theorem dL_law_424 : decode cL_law 424 = .ok (.iadd, 1) := by decide +kernel
theorem dL_law_425 : decode cL_law 425 = .ok (.iaload, 1) := by decide +kernel
theorem dL_law_426 : decode cL_law 426 = .ok (.invokevirtual 131, 3) := by decide +kernel
theorem dL_law_429 : decode cL_law 429 = .ok (.istore 6, 2) := by decide +kernel
theorem dL_law_431 : decode cL_law 431 = .ok (.aload_n 2, 1) := by decide +kernel
theorem dL_law_432 : decode cL_law 432 = .ok (.invokevirtual 111, 3) := by decide +kernel
theorem dL_law_435 : decode cL_law 435 = .ok (.iload 5, 2) := by decide +kernel
theorem dL_law_437 : decode cL_law 437 = .ok (.if_icmp .eq 5, 3) := by decide +kernel
theorem dL_law_440 : decode cL_law 440 = .ok (.iconst 0, 1) := by decide +kernel
theorem dL_law_441 : decode cL_law 441 = .ok (.ireturn, 1) := by decide +kernel
theorem dL_law_442 : decode cL_law 442 = .ok (.iload 5, 2) := by decide +kernel
theorem dL_law_444 : decode cL_law 444 = .ok (.ifCond .ne 15, 3) := by decide +kernel
theorem dL_law_447 : decode cL_law 447 = .ok (.aload_n 3, 1) := by decide +kernel
theorem dL_law_448 : decode cL_law 448 = .ok (.iconst 0, 1) := by decide +kernel
theorem dL_law_449 : decode cL_law 449 = .ok (.laload, 1) := by decide +kernel
theorem dL_law_450 : decode cL_law 450 = .ok (.iload 6, 2) := by decide +kernel
theorem dL_law_452 : decode cL_law 452 = .ok (.i2l, 1) := by decide +kernel
theorem dL_law_453 : decode cL_law 453 = .ok (.lcmp, 1) := by decide +kernel
theorem dL_law_454 : decode cL_law 454 = .ok (.ifCond .eq 5, 3) := by decide +kernel
theorem dL_law_457 : decode cL_law 457 = .ok (.iconst 0, 1) := by decide +kernel
theorem dL_law_458 : decode cL_law 458 = .ok (.ireturn, 1) := by decide +kernel
theorem dL_law_459 : decode cL_law 459 = .ok (.goto 1435, 3) := by decide +kernel
theorem dL_law_462 : decode cL_law 462 = .ok (.aload_n 1, 1) := by decide +kernel
theorem dL_law_463 : decode cL_law 463 = .ok (.aload_n 3, 1) := by decide +kernel
theorem dL_law_464 : decode cL_law 464 = .ok (.invokestatic 132, 3) := by decide +kernel
theorem dL_law_467 : decode cL_law 467 = .ok (.istore 5, 2) := by decide +kernel
theorem dL_law_469 : decode cL_law 469 = .ok (.aload_n 2, 1) := by decide +kernel
theorem dL_law_470 : decode cL_law 470 = .ok (.invokevirtual 135, 3) := by decide +kernel
theorem dL_law_473 : decode cL_law 473 = .ok (.istore 6, 2) := by decide +kernel
theorem dL_law_475 : decode cL_law 475 = .ok (.aload_n 2, 1) := by decide +kernel
theorem dL_law_476 : decode cL_law 476 = .ok (.invokevirtual 111, 3) := by decide +kernel
theorem dL_law_479 : decode cL_law 479 = .ok (.iload 5, 2) := by decide +kernel
theorem dL_law_481 : decode cL_law 481 = .ok (.if_icmp .eq 5, 3) := by decide +kernel
theorem dL_law_484 : decode cL_law 484 = .ok (.iconst 0, 1) := by decide +kernel
theorem dL_law_485 : decode cL_law 485 = .ok (.ireturn, 1) := by decide +kernel
theorem dL_law_486 : decode cL_law 486 = .ok (.iload 5, 2) := by decide +kernel
theorem dL_law_488 : decode cL_law 488 = .ok (.ifCond .ne 15, 3) := by decide +kernel
theorem dL_law_491 : decode cL_law 491 = .ok (.aload_n 3, 1) := by decide +kernel
theorem dL_law_492 : decode cL_law 492 = .ok (.iconst 0, 1) := by decide +kernel
theorem dL_law_493 : decode cL_law 493 = .ok (.laload, 1) := by decide +kernel
theorem dL_law_494 : decode cL_law 494 = .ok (.iload 6, 2) := by decide +kernel
theorem dL_law_496 : decode cL_law 496 = .ok (.i2l, 1) := by decide +kernel
theorem dL_law_497 : decode cL_law 497 = .ok (.lcmp, 1) := by decide +kernel
theorem dL_law_498 : decode cL_law 498 = .ok (.ifCond .eq 5, 3) := by decide +kernel
theorem dL_law_501 : decode cL_law 501 = .ok (.iconst 0, 1) := by decide +kernel
theorem dL_law_502 : decode cL_law 502 = .ok (.ireturn, 1) := by decide +kernel
theorem dL_law_503 : decode cL_law 503 = .ok (.goto 1391, 3) := by decide +kernel
theorem dL_law_506 : decode cL_law 506 = .ok (.aload_n 1, 1) := by decide +kernel
theorem dL_law_507 : decode cL_law 507 = .ok (.aload_n 0, 1) := by decide +kernel
theorem dL_law_508 : decode cL_law 508 = .ok (.iload 4, 2) := by decide +kernel
theorem dL_law_510 : decode cL_law 510 = .ok (.iconst 1, 1) := by decide +kernel
theorem dL_law_511 : decode cL_law 511 = .ok (.iadd, 1) := by decide +kernel
theorem dL_law_512 : decode cL_law 512 = .ok (.iaload, 1) := by decide +kernel
theorem dL_law_513 : decode cL_law 513 = .ok (.aload_n 0, 1) := by decide +kernel
theorem dL_law_514 : decode cL_law 514 = .ok (.iload 4, 2) := by decide +kernel
theorem dL_law_516 : decode cL_law 516 = .ok (.iconst 2, 1) := by decide +kernel
theorem dL_law_517 : decode cL_law 517 = .ok (.iadd, 1) := by decide +kernel
theorem dL_law_518 : decode cL_law 518 = .ok (.iaload, 1) := by decide +kernel
theorem dL_law_519 : decode cL_law 519 = .ok (.aload_n 3, 1) := by decide +kernel
theorem dL_law_520 : decode cL_law 520 = .ok (.invokestatic 136, 3) := by decide +kernel
theorem dL_law_523 : decode cL_law 523 = .ok (.istore 5, 2) := by decide +kernel
theorem dL_law_525 : decode cL_law 525 = .ok (.aload_n 2, 1) := by decide +kernel
theorem dL_law_526 : decode cL_law 526 = .ok (.aload_n 0, 1) := by decide +kernel
theorem dL_law_527 : decode cL_law 527 = .ok (.iload 4, 2) := by decide +kernel
theorem dL_law_529 : decode cL_law 529 = .ok (.iconst 1, 1) := by decide +kernel
theorem dL_law_530 : decode cL_law 530 = .ok (.iadd, 1) := by decide +kernel
theorem dL_law_531 : decode cL_law 531 = .ok (.iaload, 1) := by decide +kernel
theorem dL_law_532 : decode cL_law 532 = .ok (.aload_n 0, 1) := by decide +kernel
theorem dL_law_533 : decode cL_law 533 = .ok (.iload 4, 2) := by decide +kernel
theorem dL_law_535 : decode cL_law 535 = .ok (.iconst 2, 1) := by decide +kernel
theorem dL_law_536 : decode cL_law 536 = .ok (.iadd, 1) := by decide +kernel
theorem dL_law_537 : decode cL_law 537 = .ok (.iaload, 1) := by decide +kernel
theorem dL_law_538 : decode cL_law 538 = .ok (.invokevirtual 139, 3) := by decide +kernel
theorem dL_law_541 : decode cL_law 541 = .ok (.istore 6, 2) := by decide +kernel
theorem dL_law_543 : decode cL_law 543 = .ok (.aload_n 2, 1) := by decide +kernel
theorem dL_law_544 : decode cL_law 544 = .ok (.invokevirtual 111, 3) := by decide +kernel
theorem dL_law_547 : decode cL_law 547 = .ok (.iload 5, 2) := by decide +kernel
theorem dL_law_549 : decode cL_law 549 = .ok (.if_icmp .eq 5, 3) := by decide +kernel
theorem dL_law_552 : decode cL_law 552 = .ok (.iconst 0, 1) := by decide +kernel
theorem dL_law_553 : decode cL_law 553 = .ok (.ireturn, 1) := by decide +kernel
theorem dL_law_554 : decode cL_law 554 = .ok (.iload 5, 2) := by decide +kernel
theorem dL_law_556 : decode cL_law 556 = .ok (.ifCond .ne 15, 3) := by decide +kernel
theorem dL_law_559 : decode cL_law 559 = .ok (.aload_n 3, 1) := by decide +kernel
theorem dL_law_560 : decode cL_law 560 = .ok (.iconst 0, 1) := by decide +kernel
theorem dL_law_561 : decode cL_law 561 = .ok (.laload, 1) := by decide +kernel
theorem dL_law_562 : decode cL_law 562 = .ok (.iload 6, 2) := by decide +kernel
theorem dL_law_564 : decode cL_law 564 = .ok (.i2l, 1) := by decide +kernel
theorem dL_law_565 : decode cL_law 565 = .ok (.lcmp, 1) := by decide +kernel
theorem dL_law_566 : decode cL_law 566 = .ok (.ifCond .eq 5, 3) := by decide +kernel
theorem dL_law_569 : decode cL_law 569 = .ok (.iconst 0, 1) := by decide +kernel
theorem dL_law_570 : decode cL_law 570 = .ok (.ireturn, 1) := by decide +kernel
theorem dL_law_571 : decode cL_law 571 = .ok (.goto 1323, 3) := by decide +kernel
theorem dL_law_574 : decode cL_law 574 = .ok (.aload_n 1, 1) := by decide +kernel
theorem dL_law_575 : decode cL_law 575 = .ok (.aload_n 0, 1) := by decide +kernel
theorem dL_law_576 : decode cL_law 576 = .ok (.iload 4, 2) := by decide +kernel
theorem dL_law_578 : decode cL_law 578 = .ok (.iconst 1, 1) := by decide +kernel
theorem dL_law_579 : decode cL_law 579 = .ok (.iadd, 1) := by decide +kernel
theorem dL_law_580 : decode cL_law 580 = .ok (.iaload, 1) := by decide +kernel
theorem dL_law_581 : decode cL_law 581 = .ok (.aload_n 3, 1) := by decide +kernel
theorem dL_law_582 : decode cL_law 582 = .ok (.invokestatic 140, 3) := by decide +kernel
theorem dL_law_585 : decode cL_law 585 = .ok (.istore 5, 2) := by decide +kernel
theorem dL_law_587 : decode cL_law 587 = .ok (.aload_n 2, 1) := by decide +kernel
theorem dL_law_588 : decode cL_law 588 = .ok (.aload_n 0, 1) := by decide +kernel
theorem dL_law_589 : decode cL_law 589 = .ok (.iload 4, 2) := by decide +kernel
theorem dL_law_591 : decode cL_law 591 = .ok (.iconst 1, 1) := by decide +kernel
theorem dL_law_592 : decode cL_law 592 = .ok (.iadd, 1) := by decide +kernel
theorem dL_law_593 : decode cL_law 593 = .ok (.iaload, 1) := by decide +kernel
theorem dL_law_594 : decode cL_law 594 = .ok (.invokevirtual 142, 3) := by decide +kernel
theorem dL_law_597 : decode cL_law 597 = .ok (.istore 6, 2) := by decide +kernel
theorem dL_law_599 : decode cL_law 599 = .ok (.aload_n 2, 1) := by decide +kernel
theorem dL_law_600 : decode cL_law 600 = .ok (.invokevirtual 111, 3) := by decide +kernel
theorem dL_law_603 : decode cL_law 603 = .ok (.iload 5, 2) := by decide +kernel
theorem dL_law_605 : decode cL_law 605 = .ok (.if_icmp .eq 5, 3) := by decide +kernel
theorem dL_law_608 : decode cL_law 608 = .ok (.iconst 0, 1) := by decide +kernel
theorem dL_law_609 : decode cL_law 609 = .ok (.ireturn, 1) := by decide +kernel
theorem dL_law_610 : decode cL_law 610 = .ok (.iload 5, 2) := by decide +kernel
theorem dL_law_612 : decode cL_law 612 = .ok (.ifCond .ne 15, 3) := by decide +kernel
theorem dL_law_615 : decode cL_law 615 = .ok (.aload_n 3, 1) := by decide +kernel
theorem dL_law_616 : decode cL_law 616 = .ok (.iconst 0, 1) := by decide +kernel
theorem dL_law_617 : decode cL_law 617 = .ok (.laload, 1) := by decide +kernel
theorem dL_law_618 : decode cL_law 618 = .ok (.iload 6, 2) := by decide +kernel
theorem dL_law_620 : decode cL_law 620 = .ok (.i2l, 1) := by decide +kernel
theorem dL_law_621 : decode cL_law 621 = .ok (.lcmp, 1) := by decide +kernel
theorem dL_law_622 : decode cL_law 622 = .ok (.ifCond .eq 5, 3) := by decide +kernel
theorem dL_law_625 : decode cL_law 625 = .ok (.iconst 0, 1) := by decide +kernel
theorem dL_law_626 : decode cL_law 626 = .ok (.ireturn, 1) := by decide +kernel
theorem dL_law_627 : decode cL_law 627 = .ok (.goto 1267, 3) := by decide +kernel
theorem dL_law_630 : decode cL_law 630 = .ok (.aload_n 1, 1) := by decide +kernel
theorem dL_law_631 : decode cL_law 631 = .ok (.aload_n 0, 1) := by decide +kernel
theorem dL_law_632 : decode cL_law 632 = .ok (.iload 4, 2) := by decide +kernel
theorem dL_law_634 : decode cL_law 634 = .ok (.iconst 1, 1) := by decide +kernel
theorem dL_law_635 : decode cL_law 635 = .ok (.iadd, 1) := by decide +kernel
theorem dL_law_636 : decode cL_law 636 = .ok (.iaload, 1) := by decide +kernel
theorem dL_law_637 : decode cL_law 637 = .ok (.aload_n 0, 1) := by decide +kernel
theorem dL_law_638 : decode cL_law 638 = .ok (.iload 4, 2) := by decide +kernel
theorem dL_law_640 : decode cL_law 640 = .ok (.iconst 2, 1) := by decide +kernel
theorem dL_law_641 : decode cL_law 641 = .ok (.iadd, 1) := by decide +kernel
theorem dL_law_642 : decode cL_law 642 = .ok (.iaload, 1) := by decide +kernel
theorem dL_law_643 : decode cL_law 643 = .ok (.aload_n 3, 1) := by decide +kernel
theorem dL_law_644 : decode cL_law 644 = .ok (.invokestatic 143, 3) := by decide +kernel
theorem dL_law_647 : decode cL_law 647 = .ok (.istore 5, 2) := by decide +kernel
theorem dL_law_649 : decode cL_law 649 = .ok (.aload_n 2, 1) := by decide +kernel
theorem dL_law_650 : decode cL_law 650 = .ok (.aload_n 0, 1) := by decide +kernel
theorem dL_law_651 : decode cL_law 651 = .ok (.iload 4, 2) := by decide +kernel
theorem dL_law_653 : decode cL_law 653 = .ok (.iconst 1, 1) := by decide +kernel
theorem dL_law_654 : decode cL_law 654 = .ok (.iadd, 1) := by decide +kernel
theorem dL_law_655 : decode cL_law 655 = .ok (.iaload, 1) := by decide +kernel
theorem dL_law_656 : decode cL_law 656 = .ok (.aload_n 0, 1) := by decide +kernel
theorem dL_law_657 : decode cL_law 657 = .ok (.iload 4, 2) := by decide +kernel
theorem dL_law_659 : decode cL_law 659 = .ok (.iconst 2, 1) := by decide +kernel
theorem dL_law_660 : decode cL_law 660 = .ok (.iadd, 1) := by decide +kernel
theorem dL_law_661 : decode cL_law 661 = .ok (.iaload, 1) := by decide +kernel
theorem dL_law_662 : decode cL_law 662 = .ok (.invokevirtual 145, 3) := by decide +kernel
theorem dL_law_665 : decode cL_law 665 = .ok (.istore 6, 2) := by decide +kernel
theorem dL_law_667 : decode cL_law 667 = .ok (.aload_n 2, 1) := by decide +kernel
theorem dL_law_668 : decode cL_law 668 = .ok (.invokevirtual 111, 3) := by decide +kernel
theorem dL_law_671 : decode cL_law 671 = .ok (.iload 5, 2) := by decide +kernel
theorem dL_law_673 : decode cL_law 673 = .ok (.if_icmp .eq 5, 3) := by decide +kernel
theorem dL_law_676 : decode cL_law 676 = .ok (.iconst 0, 1) := by decide +kernel
theorem dL_law_677 : decode cL_law 677 = .ok (.ireturn, 1) := by decide +kernel
theorem dL_law_678 : decode cL_law 678 = .ok (.iload 5, 2) := by decide +kernel
theorem dL_law_680 : decode cL_law 680 = .ok (.ifCond .ne 15, 3) := by decide +kernel
theorem dL_law_683 : decode cL_law 683 = .ok (.aload_n 3, 1) := by decide +kernel
theorem dL_law_684 : decode cL_law 684 = .ok (.iconst 0, 1) := by decide +kernel
theorem dL_law_685 : decode cL_law 685 = .ok (.laload, 1) := by decide +kernel
theorem dL_law_686 : decode cL_law 686 = .ok (.iload 6, 2) := by decide +kernel
theorem dL_law_688 : decode cL_law 688 = .ok (.i2l, 1) := by decide +kernel
theorem dL_law_689 : decode cL_law 689 = .ok (.lcmp, 1) := by decide +kernel
theorem dL_law_690 : decode cL_law 690 = .ok (.ifCond .eq 5, 3) := by decide +kernel
theorem dL_law_693 : decode cL_law 693 = .ok (.iconst 0, 1) := by decide +kernel
theorem dL_law_694 : decode cL_law 694 = .ok (.ireturn, 1) := by decide +kernel
theorem dL_law_695 : decode cL_law 695 = .ok (.goto 1199, 3) := by decide +kernel
theorem dL_law_698 : decode cL_law 698 = .ok (.aload_n 1, 1) := by decide +kernel
theorem dL_law_699 : decode cL_law 699 = .ok (.aload_n 0, 1) := by decide +kernel
theorem dL_law_700 : decode cL_law 700 = .ok (.iload 4, 2) := by decide +kernel
theorem dL_law_702 : decode cL_law 702 = .ok (.iconst 1, 1) := by decide +kernel
theorem dL_law_703 : decode cL_law 703 = .ok (.iadd, 1) := by decide +kernel
theorem dL_law_704 : decode cL_law 704 = .ok (.iaload, 1) := by decide +kernel
theorem dL_law_705 : decode cL_law 705 = .ok (.aload_n 3, 1) := by decide +kernel
theorem dL_law_706 : decode cL_law 706 = .ok (.invokestatic 146, 3) := by decide +kernel
theorem dL_law_709 : decode cL_law 709 = .ok (.istore 5, 2) := by decide +kernel
theorem dL_law_711 : decode cL_law 711 = .ok (.aload_n 2, 1) := by decide +kernel
theorem dL_law_712 : decode cL_law 712 = .ok (.aload_n 0, 1) := by decide +kernel
theorem dL_law_713 : decode cL_law 713 = .ok (.iload 4, 2) := by decide +kernel
theorem dL_law_715 : decode cL_law 715 = .ok (.iconst 1, 1) := by decide +kernel
theorem dL_law_716 : decode cL_law 716 = .ok (.iadd, 1) := by decide +kernel
theorem dL_law_717 : decode cL_law 717 = .ok (.iaload, 1) := by decide +kernel
theorem dL_law_718 : decode cL_law 718 = .ok (.invokevirtual 148, 3) := by decide +kernel
theorem dL_law_721 : decode cL_law 721 = .ok (.istore 6, 2) := by decide +kernel
theorem dL_law_723 : decode cL_law 723 = .ok (.aload_n 2, 1) := by decide +kernel
theorem dL_law_724 : decode cL_law 724 = .ok (.invokevirtual 111, 3) := by decide +kernel
theorem dL_law_727 : decode cL_law 727 = .ok (.iload 5, 2) := by decide +kernel
theorem dL_law_729 : decode cL_law 729 = .ok (.if_icmp .eq 5, 3) := by decide +kernel
theorem dL_law_732 : decode cL_law 732 = .ok (.iconst 0, 1) := by decide +kernel
theorem dL_law_733 : decode cL_law 733 = .ok (.ireturn, 1) := by decide +kernel
theorem dL_law_734 : decode cL_law 734 = .ok (.iload 5, 2) := by decide +kernel
theorem dL_law_736 : decode cL_law 736 = .ok (.ifCond .ne 15, 3) := by decide +kernel
theorem dL_law_739 : decode cL_law 739 = .ok (.aload_n 3, 1) := by decide +kernel
theorem dL_law_740 : decode cL_law 740 = .ok (.iconst 0, 1) := by decide +kernel
theorem dL_law_741 : decode cL_law 741 = .ok (.laload, 1) := by decide +kernel
theorem dL_law_742 : decode cL_law 742 = .ok (.iload 6, 2) := by decide +kernel
theorem dL_law_744 : decode cL_law 744 = .ok (.i2l, 1) := by decide +kernel
theorem dL_law_745 : decode cL_law 745 = .ok (.lcmp, 1) := by decide +kernel
theorem dL_law_746 : decode cL_law 746 = .ok (.ifCond .eq 5, 3) := by decide +kernel
theorem dL_law_749 : decode cL_law 749 = .ok (.iconst 0, 1) := by decide +kernel
theorem dL_law_750 : decode cL_law 750 = .ok (.ireturn, 1) := by decide +kernel
theorem dL_law_751 : decode cL_law 751 = .ok (.goto 1143, 3) := by decide +kernel
theorem dL_law_754 : decode cL_law 754 = .ok (.aload_n 1, 1) := by decide +kernel
theorem dL_law_755 : decode cL_law 755 = .ok (.aload_n 0, 1) := by decide +kernel
theorem dL_law_756 : decode cL_law 756 = .ok (.iload 4, 2) := by decide +kernel
theorem dL_law_758 : decode cL_law 758 = .ok (.iconst 1, 1) := by decide +kernel
theorem dL_law_759 : decode cL_law 759 = .ok (.iadd, 1) := by decide +kernel
theorem dL_law_760 : decode cL_law 760 = .ok (.iaload, 1) := by decide +kernel
theorem dL_law_761 : decode cL_law 761 = .ok (.aload_n 3, 1) := by decide +kernel
theorem dL_law_762 : decode cL_law 762 = .ok (.invokestatic 149, 3) := by decide +kernel
theorem dL_law_765 : decode cL_law 765 = .ok (.istore 5, 2) := by decide +kernel
theorem dL_law_767 : decode cL_law 767 = .ok (.aload_n 2, 1) := by decide +kernel
theorem dL_law_768 : decode cL_law 768 = .ok (.aload_n 0, 1) := by decide +kernel
theorem dL_law_769 : decode cL_law 769 = .ok (.iload 4, 2) := by decide +kernel
theorem dL_law_771 : decode cL_law 771 = .ok (.iconst 1, 1) := by decide +kernel
theorem dL_law_772 : decode cL_law 772 = .ok (.iadd, 1) := by decide +kernel
theorem dL_law_773 : decode cL_law 773 = .ok (.iaload, 1) := by decide +kernel
theorem dL_law_774 : decode cL_law 774 = .ok (.invokevirtual 151, 3) := by decide +kernel
theorem dL_law_777 : decode cL_law 777 = .ok (.istore 6, 2) := by decide +kernel
theorem dL_law_779 : decode cL_law 779 = .ok (.aload_n 2, 1) := by decide +kernel
theorem dL_law_780 : decode cL_law 780 = .ok (.invokevirtual 111, 3) := by decide +kernel
theorem dL_law_783 : decode cL_law 783 = .ok (.iload 5, 2) := by decide +kernel
theorem dL_law_785 : decode cL_law 785 = .ok (.if_icmp .eq 5, 3) := by decide +kernel
theorem dL_law_788 : decode cL_law 788 = .ok (.iconst 0, 1) := by decide +kernel
theorem dL_law_789 : decode cL_law 789 = .ok (.ireturn, 1) := by decide +kernel
theorem dL_law_790 : decode cL_law 790 = .ok (.iload 5, 2) := by decide +kernel
theorem dL_law_792 : decode cL_law 792 = .ok (.ifCond .ne 15, 3) := by decide +kernel
theorem dL_law_795 : decode cL_law 795 = .ok (.aload_n 3, 1) := by decide +kernel
theorem dL_law_796 : decode cL_law 796 = .ok (.iconst 0, 1) := by decide +kernel
theorem dL_law_797 : decode cL_law 797 = .ok (.laload, 1) := by decide +kernel
theorem dL_law_798 : decode cL_law 798 = .ok (.iload 6, 2) := by decide +kernel
theorem dL_law_800 : decode cL_law 800 = .ok (.i2l, 1) := by decide +kernel
theorem dL_law_801 : decode cL_law 801 = .ok (.lcmp, 1) := by decide +kernel
theorem dL_law_802 : decode cL_law 802 = .ok (.ifCond .eq 5, 3) := by decide +kernel
theorem dL_law_805 : decode cL_law 805 = .ok (.iconst 0, 1) := by decide +kernel
theorem dL_law_806 : decode cL_law 806 = .ok (.ireturn, 1) := by decide +kernel
theorem dL_law_807 : decode cL_law 807 = .ok (.goto 1087, 3) := by decide +kernel
theorem dL_law_810 : decode cL_law 810 = .ok (.aload_n 1, 1) := by decide +kernel
theorem dL_law_811 : decode cL_law 811 = .ok (.aload_n 0, 1) := by decide +kernel
theorem dL_law_812 : decode cL_law 812 = .ok (.iload 4, 2) := by decide +kernel
theorem dL_law_814 : decode cL_law 814 = .ok (.iconst 1, 1) := by decide +kernel
theorem dL_law_815 : decode cL_law 815 = .ok (.iadd, 1) := by decide +kernel
theorem dL_law_816 : decode cL_law 816 = .ok (.iaload, 1) := by decide +kernel
theorem dL_law_817 : decode cL_law 817 = .ok (.aload_n 3, 1) := by decide +kernel
theorem dL_law_818 : decode cL_law 818 = .ok (.invokestatic 152, 3) := by decide +kernel
theorem dL_law_821 : decode cL_law 821 = .ok (.istore 5, 2) := by decide +kernel
theorem dL_law_823 : decode cL_law 823 = .ok (.aload_n 2, 1) := by decide +kernel
theorem dL_law_824 : decode cL_law 824 = .ok (.aload_n 0, 1) := by decide +kernel
theorem dL_law_825 : decode cL_law 825 = .ok (.iload 4, 2) := by decide +kernel
theorem dL_law_827 : decode cL_law 827 = .ok (.iconst 1, 1) := by decide +kernel
theorem dL_law_828 : decode cL_law 828 = .ok (.iadd, 1) := by decide +kernel
theorem dL_law_829 : decode cL_law 829 = .ok (.iaload, 1) := by decide +kernel
theorem dL_law_830 : decode cL_law 830 = .ok (.invokevirtual 154, 3) := by decide +kernel
theorem dL_law_833 : decode cL_law 833 = .ok (.istore 6, 2) := by decide +kernel
theorem dL_law_835 : decode cL_law 835 = .ok (.aload_n 2, 1) := by decide +kernel
theorem dL_law_836 : decode cL_law 836 = .ok (.invokevirtual 111, 3) := by decide +kernel
theorem dL_law_839 : decode cL_law 839 = .ok (.iload 5, 2) := by decide +kernel
theorem dL_law_841 : decode cL_law 841 = .ok (.if_icmp .eq 5, 3) := by decide +kernel
theorem dL_law_844 : decode cL_law 844 = .ok (.iconst 0, 1) := by decide +kernel
theorem dL_law_845 : decode cL_law 845 = .ok (.ireturn, 1) := by decide +kernel
theorem dL_law_846 : decode cL_law 846 = .ok (.iload 5, 2) := by decide +kernel
theorem dL_law_848 : decode cL_law 848 = .ok (.ifCond .ne 15, 3) := by decide +kernel
theorem dL_law_851 : decode cL_law 851 = .ok (.aload_n 3, 1) := by decide +kernel
theorem dL_law_852 : decode cL_law 852 = .ok (.iconst 0, 1) := by decide +kernel
theorem dL_law_853 : decode cL_law 853 = .ok (.laload, 1) := by decide +kernel
theorem dL_law_854 : decode cL_law 854 = .ok (.iload 6, 2) := by decide +kernel
theorem dL_law_856 : decode cL_law 856 = .ok (.i2l, 1) := by decide +kernel
theorem dL_law_857 : decode cL_law 857 = .ok (.lcmp, 1) := by decide +kernel
theorem dL_law_858 : decode cL_law 858 = .ok (.ifCond .eq 5, 3) := by decide +kernel
theorem dL_law_861 : decode cL_law 861 = .ok (.iconst 0, 1) := by decide +kernel
theorem dL_law_862 : decode cL_law 862 = .ok (.ireturn, 1) := by decide +kernel
theorem dL_law_863 : decode cL_law 863 = .ok (.goto 1031, 3) := by decide +kernel
theorem dL_law_866 : decode cL_law 866 = .ok (.aload_n 1, 1) := by decide +kernel
theorem dL_law_867 : decode cL_law 867 = .ok (.aload_n 0, 1) := by decide +kernel
theorem dL_law_868 : decode cL_law 868 = .ok (.iload 4, 2) := by decide +kernel
theorem dL_law_870 : decode cL_law 870 = .ok (.iconst 1, 1) := by decide +kernel
theorem dL_law_871 : decode cL_law 871 = .ok (.iadd, 1) := by decide +kernel
theorem dL_law_872 : decode cL_law 872 = .ok (.iaload, 1) := by decide +kernel
theorem dL_law_873 : decode cL_law 873 = .ok (.aload_n 0, 1) := by decide +kernel
theorem dL_law_874 : decode cL_law 874 = .ok (.iload 4, 2) := by decide +kernel
theorem dL_law_876 : decode cL_law 876 = .ok (.iconst 2, 1) := by decide +kernel
theorem dL_law_877 : decode cL_law 877 = .ok (.iadd, 1) := by decide +kernel
theorem dL_law_878 : decode cL_law 878 = .ok (.iaload, 1) := by decide +kernel
theorem dL_law_879 : decode cL_law 879 = .ok (.aload_n 3, 1) := by decide +kernel
theorem dL_law_880 : decode cL_law 880 = .ok (.invokestatic 155, 3) := by decide +kernel
theorem dL_law_883 : decode cL_law 883 = .ok (.istore 5, 2) := by decide +kernel
theorem dL_law_885 : decode cL_law 885 = .ok (.aload_n 2, 1) := by decide +kernel
theorem dL_law_886 : decode cL_law 886 = .ok (.aload_n 0, 1) := by decide +kernel
theorem dL_law_887 : decode cL_law 887 = .ok (.iload 4, 2) := by decide +kernel
theorem dL_law_889 : decode cL_law 889 = .ok (.iconst 1, 1) := by decide +kernel
theorem dL_law_890 : decode cL_law 890 = .ok (.iadd, 1) := by decide +kernel
theorem dL_law_891 : decode cL_law 891 = .ok (.iaload, 1) := by decide +kernel
theorem dL_law_892 : decode cL_law 892 = .ok (.aload_n 0, 1) := by decide +kernel
theorem dL_law_893 : decode cL_law 893 = .ok (.iload 4, 2) := by decide +kernel
theorem dL_law_895 : decode cL_law 895 = .ok (.iconst 2, 1) := by decide +kernel
theorem dL_law_896 : decode cL_law 896 = .ok (.iadd, 1) := by decide +kernel
theorem dL_law_897 : decode cL_law 897 = .ok (.iaload, 1) := by decide +kernel
theorem dL_law_898 : decode cL_law 898 = .ok (.invokevirtual 157, 3) := by decide +kernel
theorem dL_law_901 : decode cL_law 901 = .ok (.istore 6, 2) := by decide +kernel
theorem dL_law_903 : decode cL_law 903 = .ok (.aload_n 2, 1) := by decide +kernel
theorem dL_law_904 : decode cL_law 904 = .ok (.invokevirtual 111, 3) := by decide +kernel
theorem dL_law_907 : decode cL_law 907 = .ok (.iload 5, 2) := by decide +kernel
theorem dL_law_909 : decode cL_law 909 = .ok (.if_icmp .eq 5, 3) := by decide +kernel
theorem dL_law_912 : decode cL_law 912 = .ok (.iconst 0, 1) := by decide +kernel
theorem dL_law_913 : decode cL_law 913 = .ok (.ireturn, 1) := by decide +kernel
theorem dL_law_914 : decode cL_law 914 = .ok (.iload 5, 2) := by decide +kernel
theorem dL_law_916 : decode cL_law 916 = .ok (.ifCond .ne 15, 3) := by decide +kernel
theorem dL_law_919 : decode cL_law 919 = .ok (.aload_n 3, 1) := by decide +kernel
theorem dL_law_920 : decode cL_law 920 = .ok (.iconst 0, 1) := by decide +kernel
theorem dL_law_921 : decode cL_law 921 = .ok (.laload, 1) := by decide +kernel
theorem dL_law_922 : decode cL_law 922 = .ok (.iload 6, 2) := by decide +kernel
theorem dL_law_924 : decode cL_law 924 = .ok (.i2l, 1) := by decide +kernel
theorem dL_law_925 : decode cL_law 925 = .ok (.lcmp, 1) := by decide +kernel
theorem dL_law_926 : decode cL_law 926 = .ok (.ifCond .eq 5, 3) := by decide +kernel
theorem dL_law_929 : decode cL_law 929 = .ok (.iconst 0, 1) := by decide +kernel
theorem dL_law_930 : decode cL_law 930 = .ok (.ireturn, 1) := by decide +kernel
theorem dL_law_931 : decode cL_law 931 = .ok (.goto 963, 3) := by decide +kernel
theorem dL_law_934 : decode cL_law 934 = .ok (.aload_n 1, 1) := by decide +kernel
theorem dL_law_935 : decode cL_law 935 = .ok (.aload_n 0, 1) := by decide +kernel
theorem dL_law_936 : decode cL_law 936 = .ok (.iload 4, 2) := by decide +kernel
theorem dL_law_938 : decode cL_law 938 = .ok (.iconst 1, 1) := by decide +kernel
theorem dL_law_939 : decode cL_law 939 = .ok (.iadd, 1) := by decide +kernel
theorem dL_law_940 : decode cL_law 940 = .ok (.iaload, 1) := by decide +kernel
theorem dL_law_941 : decode cL_law 941 = .ok (.aload_n 0, 1) := by decide +kernel
theorem dL_law_942 : decode cL_law 942 = .ok (.iload 4, 2) := by decide +kernel
theorem dL_law_944 : decode cL_law 944 = .ok (.iconst 2, 1) := by decide +kernel
theorem dL_law_945 : decode cL_law 945 = .ok (.iadd, 1) := by decide +kernel
theorem dL_law_946 : decode cL_law 946 = .ok (.iaload, 1) := by decide +kernel
theorem dL_law_947 : decode cL_law 947 = .ok (.aload_n 3, 1) := by decide +kernel
theorem dL_law_948 : decode cL_law 948 = .ok (.invokestatic 158, 3) := by decide +kernel
theorem dL_law_951 : decode cL_law 951 = .ok (.istore 5, 2) := by decide +kernel
theorem dL_law_953 : decode cL_law 953 = .ok (.aload_n 2, 1) := by decide +kernel
theorem dL_law_954 : decode cL_law 954 = .ok (.aload_n 0, 1) := by decide +kernel
theorem dL_law_955 : decode cL_law 955 = .ok (.iload 4, 2) := by decide +kernel
theorem dL_law_957 : decode cL_law 957 = .ok (.iconst 1, 1) := by decide +kernel
theorem dL_law_958 : decode cL_law 958 = .ok (.iadd, 1) := by decide +kernel
theorem dL_law_959 : decode cL_law 959 = .ok (.iaload, 1) := by decide +kernel
theorem dL_law_960 : decode cL_law 960 = .ok (.aload_n 0, 1) := by decide +kernel
theorem dL_law_961 : decode cL_law 961 = .ok (.iload 4, 2) := by decide +kernel
theorem dL_law_963 : decode cL_law 963 = .ok (.iconst 2, 1) := by decide +kernel
theorem dL_law_964 : decode cL_law 964 = .ok (.iadd, 1) := by decide +kernel
theorem dL_law_965 : decode cL_law 965 = .ok (.iaload, 1) := by decide +kernel
theorem dL_law_966 : decode cL_law 966 = .ok (.invokevirtual 160, 3) := by decide +kernel
theorem dL_law_969 : decode cL_law 969 = .ok (.istore 6, 2) := by decide +kernel
theorem dL_law_971 : decode cL_law 971 = .ok (.aload_n 2, 1) := by decide +kernel
theorem dL_law_972 : decode cL_law 972 = .ok (.invokevirtual 111, 3) := by decide +kernel
theorem dL_law_975 : decode cL_law 975 = .ok (.iload 5, 2) := by decide +kernel
theorem dL_law_977 : decode cL_law 977 = .ok (.if_icmp .eq 5, 3) := by decide +kernel
theorem dL_law_980 : decode cL_law 980 = .ok (.iconst 0, 1) := by decide +kernel
theorem dL_law_981 : decode cL_law 981 = .ok (.ireturn, 1) := by decide +kernel
theorem dL_law_982 : decode cL_law 982 = .ok (.iload 5, 2) := by decide +kernel
theorem dL_law_984 : decode cL_law 984 = .ok (.ifCond .ne 15, 3) := by decide +kernel
theorem dL_law_987 : decode cL_law 987 = .ok (.aload_n 3, 1) := by decide +kernel
theorem dL_law_988 : decode cL_law 988 = .ok (.iconst 0, 1) := by decide +kernel
theorem dL_law_989 : decode cL_law 989 = .ok (.laload, 1) := by decide +kernel
theorem dL_law_990 : decode cL_law 990 = .ok (.iload 6, 2) := by decide +kernel
theorem dL_law_992 : decode cL_law 992 = .ok (.i2l, 1) := by decide +kernel
theorem dL_law_993 : decode cL_law 993 = .ok (.lcmp, 1) := by decide +kernel
theorem dL_law_994 : decode cL_law 994 = .ok (.ifCond .eq 5, 3) := by decide +kernel
theorem dL_law_997 : decode cL_law 997 = .ok (.iconst 0, 1) := by decide +kernel
theorem dL_law_998 : decode cL_law 998 = .ok (.ireturn, 1) := by decide +kernel
theorem dL_law_999 : decode cL_law 999 = .ok (.goto 895, 3) := by decide +kernel
theorem dL_law_1002 : decode cL_law 1002 = .ok (.aload_n 1, 1) := by decide +kernel
theorem dL_law_1003 : decode cL_law 1003 = .ok (.aload_n 0, 1) := by decide +kernel
theorem dL_law_1004 : decode cL_law 1004 = .ok (.iload 4, 2) := by decide +kernel
theorem dL_law_1006 : decode cL_law 1006 = .ok (.iconst 1, 1) := by decide +kernel
theorem dL_law_1007 : decode cL_law 1007 = .ok (.iadd, 1) := by decide +kernel
theorem dL_law_1008 : decode cL_law 1008 = .ok (.iaload, 1) := by decide +kernel
theorem dL_law_1009 : decode cL_law 1009 = .ok (.aload_n 0, 1) := by decide +kernel
theorem dL_law_1010 : decode cL_law 1010 = .ok (.iload 4, 2) := by decide +kernel
theorem dL_law_1012 : decode cL_law 1012 = .ok (.iconst 2, 1) := by decide +kernel
theorem dL_law_1013 : decode cL_law 1013 = .ok (.iadd, 1) := by decide +kernel
theorem dL_law_1014 : decode cL_law 1014 = .ok (.iaload, 1) := by decide +kernel
theorem dL_law_1015 : decode cL_law 1015 = .ok (.aload_n 3, 1) := by decide +kernel
theorem dL_law_1016 : decode cL_law 1016 = .ok (.invokestatic 161, 3) := by decide +kernel
theorem dL_law_1019 : decode cL_law 1019 = .ok (.istore 5, 2) := by decide +kernel
theorem dL_law_1021 : decode cL_law 1021 = .ok (.aload_n 2, 1) := by decide +kernel
theorem dL_law_1022 : decode cL_law 1022 = .ok (.aload_n 0, 1) := by decide +kernel
theorem dL_law_1023 : decode cL_law 1023 = .ok (.iload 4, 2) := by decide +kernel
theorem dL_law_1025 : decode cL_law 1025 = .ok (.iconst 1, 1) := by decide +kernel
theorem dL_law_1026 : decode cL_law 1026 = .ok (.iadd, 1) := by decide +kernel
theorem dL_law_1027 : decode cL_law 1027 = .ok (.iaload, 1) := by decide +kernel
theorem dL_law_1028 : decode cL_law 1028 = .ok (.aload_n 0, 1) := by decide +kernel
theorem dL_law_1029 : decode cL_law 1029 = .ok (.iload 4, 2) := by decide +kernel
theorem dL_law_1031 : decode cL_law 1031 = .ok (.iconst 2, 1) := by decide +kernel
theorem dL_law_1032 : decode cL_law 1032 = .ok (.iadd, 1) := by decide +kernel
theorem dL_law_1033 : decode cL_law 1033 = .ok (.iaload, 1) := by decide +kernel
theorem dL_law_1034 : decode cL_law 1034 = .ok (.invokevirtual 163, 3) := by decide +kernel
theorem dL_law_1037 : decode cL_law 1037 = .ok (.istore 6, 2) := by decide +kernel
theorem dL_law_1039 : decode cL_law 1039 = .ok (.aload_n 2, 1) := by decide +kernel
theorem dL_law_1040 : decode cL_law 1040 = .ok (.invokevirtual 111, 3) := by decide +kernel
theorem dL_law_1043 : decode cL_law 1043 = .ok (.iload 5, 2) := by decide +kernel
theorem dL_law_1045 : decode cL_law 1045 = .ok (.if_icmp .eq 5, 3) := by decide +kernel
theorem dL_law_1048 : decode cL_law 1048 = .ok (.iconst 0, 1) := by decide +kernel
theorem dL_law_1049 : decode cL_law 1049 = .ok (.ireturn, 1) := by decide +kernel
theorem dL_law_1050 : decode cL_law 1050 = .ok (.iload 5, 2) := by decide +kernel
theorem dL_law_1052 : decode cL_law 1052 = .ok (.ifCond .ne 15, 3) := by decide +kernel
theorem dL_law_1055 : decode cL_law 1055 = .ok (.aload_n 3, 1) := by decide +kernel
theorem dL_law_1056 : decode cL_law 1056 = .ok (.iconst 0, 1) := by decide +kernel
theorem dL_law_1057 : decode cL_law 1057 = .ok (.laload, 1) := by decide +kernel
theorem dL_law_1058 : decode cL_law 1058 = .ok (.iload 6, 2) := by decide +kernel
theorem dL_law_1060 : decode cL_law 1060 = .ok (.i2l, 1) := by decide +kernel
theorem dL_law_1061 : decode cL_law 1061 = .ok (.lcmp, 1) := by decide +kernel
theorem dL_law_1062 : decode cL_law 1062 = .ok (.ifCond .eq 5, 3) := by decide +kernel
theorem dL_law_1065 : decode cL_law 1065 = .ok (.iconst 0, 1) := by decide +kernel
theorem dL_law_1066 : decode cL_law 1066 = .ok (.ireturn, 1) := by decide +kernel
theorem dL_law_1067 : decode cL_law 1067 = .ok (.goto 827, 3) := by decide +kernel
theorem dL_law_1070 : decode cL_law 1070 = .ok (.aload_n 1, 1) := by decide +kernel
theorem dL_law_1071 : decode cL_law 1071 = .ok (.aload_n 0, 1) := by decide +kernel
theorem dL_law_1072 : decode cL_law 1072 = .ok (.iload 4, 2) := by decide +kernel
theorem dL_law_1074 : decode cL_law 1074 = .ok (.iconst 1, 1) := by decide +kernel
theorem dL_law_1075 : decode cL_law 1075 = .ok (.iadd, 1) := by decide +kernel
theorem dL_law_1076 : decode cL_law 1076 = .ok (.iaload, 1) := by decide +kernel
theorem dL_law_1077 : decode cL_law 1077 = .ok (.aload_n 0, 1) := by decide +kernel
theorem dL_law_1078 : decode cL_law 1078 = .ok (.iload 4, 2) := by decide +kernel
theorem dL_law_1080 : decode cL_law 1080 = .ok (.iconst 2, 1) := by decide +kernel
theorem dL_law_1081 : decode cL_law 1081 = .ok (.iadd, 1) := by decide +kernel
theorem dL_law_1082 : decode cL_law 1082 = .ok (.iaload, 1) := by decide +kernel
theorem dL_law_1083 : decode cL_law 1083 = .ok (.aload_n 3, 1) := by decide +kernel
theorem dL_law_1084 : decode cL_law 1084 = .ok (.invokestatic 164, 3) := by decide +kernel
theorem dL_law_1087 : decode cL_law 1087 = .ok (.istore 5, 2) := by decide +kernel
theorem dL_law_1089 : decode cL_law 1089 = .ok (.aload_n 2, 1) := by decide +kernel
theorem dL_law_1090 : decode cL_law 1090 = .ok (.aload_n 0, 1) := by decide +kernel
theorem dL_law_1091 : decode cL_law 1091 = .ok (.iload 4, 2) := by decide +kernel
theorem dL_law_1093 : decode cL_law 1093 = .ok (.iconst 1, 1) := by decide +kernel
theorem dL_law_1094 : decode cL_law 1094 = .ok (.iadd, 1) := by decide +kernel
theorem dL_law_1095 : decode cL_law 1095 = .ok (.iaload, 1) := by decide +kernel
theorem dL_law_1096 : decode cL_law 1096 = .ok (.aload_n 0, 1) := by decide +kernel
theorem dL_law_1097 : decode cL_law 1097 = .ok (.iload 4, 2) := by decide +kernel
theorem dL_law_1099 : decode cL_law 1099 = .ok (.iconst 2, 1) := by decide +kernel
theorem dL_law_1100 : decode cL_law 1100 = .ok (.iadd, 1) := by decide +kernel
theorem dL_law_1101 : decode cL_law 1101 = .ok (.iaload, 1) := by decide +kernel
theorem dL_law_1102 : decode cL_law 1102 = .ok (.invokevirtual 166, 3) := by decide +kernel
theorem dL_law_1105 : decode cL_law 1105 = .ok (.istore 6, 2) := by decide +kernel
theorem dL_law_1107 : decode cL_law 1107 = .ok (.aload_n 2, 1) := by decide +kernel
theorem dL_law_1108 : decode cL_law 1108 = .ok (.invokevirtual 111, 3) := by decide +kernel
theorem dL_law_1111 : decode cL_law 1111 = .ok (.iload 5, 2) := by decide +kernel
theorem dL_law_1113 : decode cL_law 1113 = .ok (.if_icmp .eq 5, 3) := by decide +kernel
theorem dL_law_1116 : decode cL_law 1116 = .ok (.iconst 0, 1) := by decide +kernel
theorem dL_law_1117 : decode cL_law 1117 = .ok (.ireturn, 1) := by decide +kernel
theorem dL_law_1118 : decode cL_law 1118 = .ok (.iload 5, 2) := by decide +kernel
theorem dL_law_1120 : decode cL_law 1120 = .ok (.ifCond .ne 15, 3) := by decide +kernel
theorem dL_law_1123 : decode cL_law 1123 = .ok (.aload_n 3, 1) := by decide +kernel
theorem dL_law_1124 : decode cL_law 1124 = .ok (.iconst 0, 1) := by decide +kernel
theorem dL_law_1125 : decode cL_law 1125 = .ok (.laload, 1) := by decide +kernel
theorem dL_law_1126 : decode cL_law 1126 = .ok (.iload 6, 2) := by decide +kernel
theorem dL_law_1128 : decode cL_law 1128 = .ok (.i2l, 1) := by decide +kernel
theorem dL_law_1129 : decode cL_law 1129 = .ok (.lcmp, 1) := by decide +kernel
theorem dL_law_1130 : decode cL_law 1130 = .ok (.ifCond .eq 5, 3) := by decide +kernel
theorem dL_law_1133 : decode cL_law 1133 = .ok (.iconst 0, 1) := by decide +kernel
theorem dL_law_1134 : decode cL_law 1134 = .ok (.ireturn, 1) := by decide +kernel
theorem dL_law_1135 : decode cL_law 1135 = .ok (.goto 759, 3) := by decide +kernel
theorem dL_law_1138 : decode cL_law 1138 = .ok (.aload_n 1, 1) := by decide +kernel
theorem dL_law_1139 : decode cL_law 1139 = .ok (.aload_n 0, 1) := by decide +kernel
theorem dL_law_1140 : decode cL_law 1140 = .ok (.iload 4, 2) := by decide +kernel
theorem dL_law_1142 : decode cL_law 1142 = .ok (.iconst 1, 1) := by decide +kernel
theorem dL_law_1143 : decode cL_law 1143 = .ok (.iadd, 1) := by decide +kernel
theorem dL_law_1144 : decode cL_law 1144 = .ok (.iaload, 1) := by decide +kernel
theorem dL_law_1145 : decode cL_law 1145 = .ok (.aload_n 0, 1) := by decide +kernel
theorem dL_law_1146 : decode cL_law 1146 = .ok (.iload 4, 2) := by decide +kernel
theorem dL_law_1148 : decode cL_law 1148 = .ok (.iconst 2, 1) := by decide +kernel
theorem dL_law_1149 : decode cL_law 1149 = .ok (.iadd, 1) := by decide +kernel
theorem dL_law_1150 : decode cL_law 1150 = .ok (.iaload, 1) := by decide +kernel
theorem dL_law_1151 : decode cL_law 1151 = .ok (.aload_n 3, 1) := by decide +kernel
theorem dL_law_1152 : decode cL_law 1152 = .ok (.invokestatic 167, 3) := by decide +kernel
theorem dL_law_1155 : decode cL_law 1155 = .ok (.istore 5, 2) := by decide +kernel
theorem dL_law_1157 : decode cL_law 1157 = .ok (.aload_n 2, 1) := by decide +kernel
theorem dL_law_1158 : decode cL_law 1158 = .ok (.aload_n 0, 1) := by decide +kernel
theorem dL_law_1159 : decode cL_law 1159 = .ok (.iload 4, 2) := by decide +kernel
theorem dL_law_1161 : decode cL_law 1161 = .ok (.iconst 1, 1) := by decide +kernel
theorem dL_law_1162 : decode cL_law 1162 = .ok (.iadd, 1) := by decide +kernel
theorem dL_law_1163 : decode cL_law 1163 = .ok (.iaload, 1) := by decide +kernel
theorem dL_law_1164 : decode cL_law 1164 = .ok (.aload_n 0, 1) := by decide +kernel
theorem dL_law_1165 : decode cL_law 1165 = .ok (.iload 4, 2) := by decide +kernel
theorem dL_law_1167 : decode cL_law 1167 = .ok (.iconst 2, 1) := by decide +kernel
theorem dL_law_1168 : decode cL_law 1168 = .ok (.iadd, 1) := by decide +kernel
theorem dL_law_1169 : decode cL_law 1169 = .ok (.iaload, 1) := by decide +kernel
theorem dL_law_1170 : decode cL_law 1170 = .ok (.invokevirtual 169, 3) := by decide +kernel
theorem dL_law_1173 : decode cL_law 1173 = .ok (.istore 6, 2) := by decide +kernel
theorem dL_law_1175 : decode cL_law 1175 = .ok (.aload_n 2, 1) := by decide +kernel
theorem dL_law_1176 : decode cL_law 1176 = .ok (.invokevirtual 111, 3) := by decide +kernel
theorem dL_law_1179 : decode cL_law 1179 = .ok (.iload 5, 2) := by decide +kernel
theorem dL_law_1181 : decode cL_law 1181 = .ok (.if_icmp .eq 5, 3) := by decide +kernel
theorem dL_law_1184 : decode cL_law 1184 = .ok (.iconst 0, 1) := by decide +kernel
theorem dL_law_1185 : decode cL_law 1185 = .ok (.ireturn, 1) := by decide +kernel
theorem dL_law_1186 : decode cL_law 1186 = .ok (.iload 5, 2) := by decide +kernel
theorem dL_law_1188 : decode cL_law 1188 = .ok (.ifCond .ne 15, 3) := by decide +kernel
theorem dL_law_1191 : decode cL_law 1191 = .ok (.aload_n 3, 1) := by decide +kernel
theorem dL_law_1192 : decode cL_law 1192 = .ok (.iconst 0, 1) := by decide +kernel
theorem dL_law_1193 : decode cL_law 1193 = .ok (.laload, 1) := by decide +kernel
theorem dL_law_1194 : decode cL_law 1194 = .ok (.iload 6, 2) := by decide +kernel
theorem dL_law_1196 : decode cL_law 1196 = .ok (.i2l, 1) := by decide +kernel
theorem dL_law_1197 : decode cL_law 1197 = .ok (.lcmp, 1) := by decide +kernel
theorem dL_law_1198 : decode cL_law 1198 = .ok (.ifCond .eq 5, 3) := by decide +kernel
theorem dL_law_1201 : decode cL_law 1201 = .ok (.iconst 0, 1) := by decide +kernel
theorem dL_law_1202 : decode cL_law 1202 = .ok (.ireturn, 1) := by decide +kernel
theorem dL_law_1203 : decode cL_law 1203 = .ok (.goto 691, 3) := by decide +kernel
theorem dL_law_1206 : decode cL_law 1206 = .ok (.aload_n 1, 1) := by decide +kernel
theorem dL_law_1207 : decode cL_law 1207 = .ok (.aload_n 0, 1) := by decide +kernel
theorem dL_law_1208 : decode cL_law 1208 = .ok (.iload 4, 2) := by decide +kernel
theorem dL_law_1210 : decode cL_law 1210 = .ok (.iconst 1, 1) := by decide +kernel
theorem dL_law_1211 : decode cL_law 1211 = .ok (.iadd, 1) := by decide +kernel
theorem dL_law_1212 : decode cL_law 1212 = .ok (.iaload, 1) := by decide +kernel
theorem dL_law_1213 : decode cL_law 1213 = .ok (.aload_n 0, 1) := by decide +kernel
theorem dL_law_1214 : decode cL_law 1214 = .ok (.iload 4, 2) := by decide +kernel
theorem dL_law_1216 : decode cL_law 1216 = .ok (.iconst 2, 1) := by decide +kernel
theorem dL_law_1217 : decode cL_law 1217 = .ok (.iadd, 1) := by decide +kernel
theorem dL_law_1218 : decode cL_law 1218 = .ok (.iaload, 1) := by decide +kernel
theorem dL_law_1219 : decode cL_law 1219 = .ok (.aload_n 3, 1) := by decide +kernel
theorem dL_law_1220 : decode cL_law 1220 = .ok (.invokestatic 170, 3) := by decide +kernel
theorem dL_law_1223 : decode cL_law 1223 = .ok (.istore 5, 2) := by decide +kernel
theorem dL_law_1225 : decode cL_law 1225 = .ok (.aload_n 2, 1) := by decide +kernel
theorem dL_law_1226 : decode cL_law 1226 = .ok (.aload_n 0, 1) := by decide +kernel
theorem dL_law_1227 : decode cL_law 1227 = .ok (.iload 4, 2) := by decide +kernel
theorem dL_law_1229 : decode cL_law 1229 = .ok (.iconst 1, 1) := by decide +kernel
theorem dL_law_1230 : decode cL_law 1230 = .ok (.iadd, 1) := by decide +kernel
theorem dL_law_1231 : decode cL_law 1231 = .ok (.iaload, 1) := by decide +kernel
theorem dL_law_1232 : decode cL_law 1232 = .ok (.aload_n 0, 1) := by decide +kernel
theorem dL_law_1233 : decode cL_law 1233 = .ok (.iload 4, 2) := by decide +kernel
theorem dL_law_1235 : decode cL_law 1235 = .ok (.iconst 2, 1) := by decide +kernel
theorem dL_law_1236 : decode cL_law 1236 = .ok (.iadd, 1) := by decide +kernel
theorem dL_law_1237 : decode cL_law 1237 = .ok (.iaload, 1) := by decide +kernel
theorem dL_law_1238 : decode cL_law 1238 = .ok (.invokevirtual 172, 3) := by decide +kernel
theorem dL_law_1241 : decode cL_law 1241 = .ok (.istore 6, 2) := by decide +kernel
theorem dL_law_1243 : decode cL_law 1243 = .ok (.aload_n 2, 1) := by decide +kernel
theorem dL_law_1244 : decode cL_law 1244 = .ok (.invokevirtual 111, 3) := by decide +kernel
theorem dL_law_1247 : decode cL_law 1247 = .ok (.iload 5, 2) := by decide +kernel
theorem dL_law_1249 : decode cL_law 1249 = .ok (.if_icmp .eq 5, 3) := by decide +kernel
theorem dL_law_1252 : decode cL_law 1252 = .ok (.iconst 0, 1) := by decide +kernel
theorem dL_law_1253 : decode cL_law 1253 = .ok (.ireturn, 1) := by decide +kernel
theorem dL_law_1254 : decode cL_law 1254 = .ok (.iload 5, 2) := by decide +kernel
theorem dL_law_1256 : decode cL_law 1256 = .ok (.ifCond .ne 22, 3) := by decide +kernel
theorem dL_law_1259 : decode cL_law 1259 = .ok (.aload_n 3, 1) := by decide +kernel
theorem dL_law_1260 : decode cL_law 1260 = .ok (.iconst 0, 1) := by decide +kernel
theorem dL_law_1261 : decode cL_law 1261 = .ok (.laload, 1) := by decide +kernel
theorem dL_law_1262 : decode cL_law 1262 = .ok (.iload 6, 2) := by decide +kernel
theorem dL_law_1264 : decode cL_law 1264 = .ok (.ifCond .eq 7, 3) := by decide +kernel
theorem dL_law_1267 : decode cL_law 1267 = .ok (.lconst 1, 1) := by decide +kernel
theorem dL_law_1268 : decode cL_law 1268 = .ok (.goto 4, 3) := by decide +kernel
theorem dL_law_1271 : decode cL_law 1271 = .ok (.lconst 0, 1) := by decide +kernel
theorem dL_law_1272 : decode cL_law 1272 = .ok (.lcmp, 1) := by decide +kernel
theorem dL_law_1273 : decode cL_law 1273 = .ok (.ifCond .eq 5, 3) := by decide +kernel
theorem dL_law_1276 : decode cL_law 1276 = .ok (.iconst 0, 1) := by decide +kernel
theorem dL_law_1277 : decode cL_law 1277 = .ok (.ireturn, 1) := by decide +kernel
theorem dL_law_1278 : decode cL_law 1278 = .ok (.goto 616, 3) := by decide +kernel
theorem dL_law_1281 : decode cL_law 1281 = .ok (.aload_n 1, 1) := by decide +kernel
theorem dL_law_1282 : decode cL_law 1282 = .ok (.aload_n 0, 1) := by decide +kernel
theorem dL_law_1283 : decode cL_law 1283 = .ok (.iload 4, 2) := by decide +kernel
theorem dL_law_1285 : decode cL_law 1285 = .ok (.iconst 1, 1) := by decide +kernel
theorem dL_law_1286 : decode cL_law 1286 = .ok (.iadd, 1) := by decide +kernel
theorem dL_law_1287 : decode cL_law 1287 = .ok (.iaload, 1) := by decide +kernel
theorem dL_law_1288 : decode cL_law 1288 = .ok (.aload_n 0, 1) := by decide +kernel
theorem dL_law_1289 : decode cL_law 1289 = .ok (.iload 4, 2) := by decide +kernel
theorem dL_law_1291 : decode cL_law 1291 = .ok (.iconst 2, 1) := by decide +kernel
theorem dL_law_1292 : decode cL_law 1292 = .ok (.iadd, 1) := by decide +kernel
theorem dL_law_1293 : decode cL_law 1293 = .ok (.iaload, 1) := by decide +kernel
theorem dL_law_1294 : decode cL_law 1294 = .ok (.aload_n 3, 1) := by decide +kernel
theorem dL_law_1295 : decode cL_law 1295 = .ok (.invokestatic 173, 3) := by decide +kernel
theorem dL_law_1298 : decode cL_law 1298 = .ok (.istore 5, 2) := by decide +kernel
theorem dL_law_1300 : decode cL_law 1300 = .ok (.aload_n 2, 1) := by decide +kernel
theorem dL_law_1301 : decode cL_law 1301 = .ok (.aload_n 0, 1) := by decide +kernel
theorem dL_law_1302 : decode cL_law 1302 = .ok (.iload 4, 2) := by decide +kernel
theorem dL_law_1304 : decode cL_law 1304 = .ok (.iconst 1, 1) := by decide +kernel
theorem dL_law_1305 : decode cL_law 1305 = .ok (.iadd, 1) := by decide +kernel
theorem dL_law_1306 : decode cL_law 1306 = .ok (.iaload, 1) := by decide +kernel
theorem dL_law_1307 : decode cL_law 1307 = .ok (.aload_n 0, 1) := by decide +kernel
theorem dL_law_1308 : decode cL_law 1308 = .ok (.iload 4, 2) := by decide +kernel
theorem dL_law_1310 : decode cL_law 1310 = .ok (.iconst 2, 1) := by decide +kernel
theorem dL_law_1311 : decode cL_law 1311 = .ok (.iadd, 1) := by decide +kernel
theorem dL_law_1312 : decode cL_law 1312 = .ok (.iaload, 1) := by decide +kernel
theorem dL_law_1313 : decode cL_law 1313 = .ok (.invokevirtual 175, 3) := by decide +kernel
theorem dL_law_1316 : decode cL_law 1316 = .ok (.istore 6, 2) := by decide +kernel
theorem dL_law_1318 : decode cL_law 1318 = .ok (.aload_n 2, 1) := by decide +kernel
theorem dL_law_1319 : decode cL_law 1319 = .ok (.invokevirtual 111, 3) := by decide +kernel
theorem dL_law_1322 : decode cL_law 1322 = .ok (.iload 5, 2) := by decide +kernel
theorem dL_law_1324 : decode cL_law 1324 = .ok (.if_icmp .eq 5, 3) := by decide +kernel
theorem dL_law_1327 : decode cL_law 1327 = .ok (.iconst 0, 1) := by decide +kernel
theorem dL_law_1328 : decode cL_law 1328 = .ok (.ireturn, 1) := by decide +kernel
theorem dL_law_1329 : decode cL_law 1329 = .ok (.iload 5, 2) := by decide +kernel
theorem dL_law_1331 : decode cL_law 1331 = .ok (.ifCond .ne 15, 3) := by decide +kernel
theorem dL_law_1334 : decode cL_law 1334 = .ok (.aload_n 3, 1) := by decide +kernel
theorem dL_law_1335 : decode cL_law 1335 = .ok (.iconst 0, 1) := by decide +kernel
theorem dL_law_1336 : decode cL_law 1336 = .ok (.laload, 1) := by decide +kernel
theorem dL_law_1337 : decode cL_law 1337 = .ok (.iload 6, 2) := by decide +kernel
theorem dL_law_1339 : decode cL_law 1339 = .ok (.i2l, 1) := by decide +kernel
theorem dL_law_1340 : decode cL_law 1340 = .ok (.lcmp, 1) := by decide +kernel
theorem dL_law_1341 : decode cL_law 1341 = .ok (.ifCond .eq 5, 3) := by decide +kernel
theorem dL_law_1344 : decode cL_law 1344 = .ok (.iconst 0, 1) := by decide +kernel
theorem dL_law_1345 : decode cL_law 1345 = .ok (.ireturn, 1) := by decide +kernel
theorem dL_law_1346 : decode cL_law 1346 = .ok (.goto 548, 3) := by decide +kernel
theorem dL_law_1349 : decode cL_law 1349 = .ok (.aload_n 1, 1) := by decide +kernel
theorem dL_law_1350 : decode cL_law 1350 = .ok (.aload_n 0, 1) := by decide +kernel
theorem dL_law_1351 : decode cL_law 1351 = .ok (.iload 4, 2) := by decide +kernel
theorem dL_law_1353 : decode cL_law 1353 = .ok (.iconst 1, 1) := by decide +kernel
theorem dL_law_1354 : decode cL_law 1354 = .ok (.iadd, 1) := by decide +kernel
theorem dL_law_1355 : decode cL_law 1355 = .ok (.iaload, 1) := by decide +kernel
theorem dL_law_1356 : decode cL_law 1356 = .ok (.aload_n 3, 1) := by decide +kernel
theorem dL_law_1357 : decode cL_law 1357 = .ok (.invokestatic 176, 3) := by decide +kernel
theorem dL_law_1360 : decode cL_law 1360 = .ok (.istore 5, 2) := by decide +kernel
theorem dL_law_1362 : decode cL_law 1362 = .ok (.aload_n 2, 1) := by decide +kernel
theorem dL_law_1363 : decode cL_law 1363 = .ok (.aload_n 0, 1) := by decide +kernel
theorem dL_law_1364 : decode cL_law 1364 = .ok (.iload 4, 2) := by decide +kernel
theorem dL_law_1366 : decode cL_law 1366 = .ok (.iconst 1, 1) := by decide +kernel
theorem dL_law_1367 : decode cL_law 1367 = .ok (.iadd, 1) := by decide +kernel
theorem dL_law_1368 : decode cL_law 1368 = .ok (.iaload, 1) := by decide +kernel
theorem dL_law_1369 : decode cL_law 1369 = .ok (.invokevirtual 178, 3) := by decide +kernel
theorem dL_law_1372 : decode cL_law 1372 = .ok (.istore 6, 2) := by decide +kernel
theorem dL_law_1374 : decode cL_law 1374 = .ok (.aload_n 2, 1) := by decide +kernel
theorem dL_law_1375 : decode cL_law 1375 = .ok (.invokevirtual 111, 3) := by decide +kernel
theorem dL_law_1378 : decode cL_law 1378 = .ok (.iload 5, 2) := by decide +kernel
theorem dL_law_1380 : decode cL_law 1380 = .ok (.if_icmp .eq 5, 3) := by decide +kernel
theorem dL_law_1383 : decode cL_law 1383 = .ok (.iconst 0, 1) := by decide +kernel
theorem dL_law_1384 : decode cL_law 1384 = .ok (.ireturn, 1) := by decide +kernel
theorem dL_law_1385 : decode cL_law 1385 = .ok (.iload 5, 2) := by decide +kernel
theorem dL_law_1387 : decode cL_law 1387 = .ok (.ifCond .ne 15, 3) := by decide +kernel
theorem dL_law_1390 : decode cL_law 1390 = .ok (.aload_n 3, 1) := by decide +kernel
theorem dL_law_1391 : decode cL_law 1391 = .ok (.iconst 0, 1) := by decide +kernel
theorem dL_law_1392 : decode cL_law 1392 = .ok (.laload, 1) := by decide +kernel
theorem dL_law_1393 : decode cL_law 1393 = .ok (.iload 6, 2) := by decide +kernel
theorem dL_law_1395 : decode cL_law 1395 = .ok (.i2l, 1) := by decide +kernel
theorem dL_law_1396 : decode cL_law 1396 = .ok (.lcmp, 1) := by decide +kernel
theorem dL_law_1397 : decode cL_law 1397 = .ok (.ifCond .eq 5, 3) := by decide +kernel
theorem dL_law_1400 : decode cL_law 1400 = .ok (.iconst 0, 1) := by decide +kernel
theorem dL_law_1401 : decode cL_law 1401 = .ok (.ireturn, 1) := by decide +kernel
theorem dL_law_1402 : decode cL_law 1402 = .ok (.goto 492, 3) := by decide +kernel
theorem dL_law_1405 : decode cL_law 1405 = .ok (.aload_n 1, 1) := by decide +kernel
theorem dL_law_1406 : decode cL_law 1406 = .ok (.aload_n 0, 1) := by decide +kernel
theorem dL_law_1407 : decode cL_law 1407 = .ok (.iload 4, 2) := by decide +kernel
theorem dL_law_1409 : decode cL_law 1409 = .ok (.iconst 1, 1) := by decide +kernel
theorem dL_law_1410 : decode cL_law 1410 = .ok (.iadd, 1) := by decide +kernel
theorem dL_law_1411 : decode cL_law 1411 = .ok (.iaload, 1) := by decide +kernel
theorem dL_law_1412 : decode cL_law 1412 = .ok (.aload_n 0, 1) := by decide +kernel
theorem dL_law_1413 : decode cL_law 1413 = .ok (.iload 4, 2) := by decide +kernel
theorem dL_law_1415 : decode cL_law 1415 = .ok (.iconst 2, 1) := by decide +kernel
theorem dL_law_1416 : decode cL_law 1416 = .ok (.iadd, 1) := by decide +kernel
theorem dL_law_1417 : decode cL_law 1417 = .ok (.iaload, 1) := by decide +kernel
theorem dL_law_1418 : decode cL_law 1418 = .ok (.aload_n 3, 1) := by decide +kernel
theorem dL_law_1419 : decode cL_law 1419 = .ok (.invokestatic 179, 3) := by decide +kernel
theorem dL_law_1422 : decode cL_law 1422 = .ok (.istore 5, 2) := by decide +kernel
theorem dL_law_1424 : decode cL_law 1424 = .ok (.aload_n 2, 1) := by decide +kernel
theorem dL_law_1425 : decode cL_law 1425 = .ok (.aload_n 0, 1) := by decide +kernel
theorem dL_law_1426 : decode cL_law 1426 = .ok (.iload 4, 2) := by decide +kernel
theorem dL_law_1428 : decode cL_law 1428 = .ok (.iconst 1, 1) := by decide +kernel
theorem dL_law_1429 : decode cL_law 1429 = .ok (.iadd, 1) := by decide +kernel
theorem dL_law_1430 : decode cL_law 1430 = .ok (.iaload, 1) := by decide +kernel
theorem dL_law_1431 : decode cL_law 1431 = .ok (.aload_n 0, 1) := by decide +kernel
theorem dL_law_1432 : decode cL_law 1432 = .ok (.iload 4, 2) := by decide +kernel
theorem dL_law_1434 : decode cL_law 1434 = .ok (.iconst 2, 1) := by decide +kernel
theorem dL_law_1435 : decode cL_law 1435 = .ok (.iadd, 1) := by decide +kernel
theorem dL_law_1436 : decode cL_law 1436 = .ok (.iaload, 1) := by decide +kernel
theorem dL_law_1437 : decode cL_law 1437 = .ok (.invokevirtual 181, 3) := by decide +kernel
theorem dL_law_1440 : decode cL_law 1440 = .ok (.istore 6, 2) := by decide +kernel
theorem dL_law_1442 : decode cL_law 1442 = .ok (.aload_n 2, 1) := by decide +kernel
theorem dL_law_1443 : decode cL_law 1443 = .ok (.invokevirtual 111, 3) := by decide +kernel
theorem dL_law_1446 : decode cL_law 1446 = .ok (.iload 5, 2) := by decide +kernel
theorem dL_law_1448 : decode cL_law 1448 = .ok (.if_icmp .eq 5, 3) := by decide +kernel
theorem dL_law_1451 : decode cL_law 1451 = .ok (.iconst 0, 1) := by decide +kernel
theorem dL_law_1452 : decode cL_law 1452 = .ok (.ireturn, 1) := by decide +kernel
theorem dL_law_1453 : decode cL_law 1453 = .ok (.iload 5, 2) := by decide +kernel
theorem dL_law_1455 : decode cL_law 1455 = .ok (.ifCond .ne 15, 3) := by decide +kernel
theorem dL_law_1458 : decode cL_law 1458 = .ok (.aload_n 3, 1) := by decide +kernel
theorem dL_law_1459 : decode cL_law 1459 = .ok (.iconst 0, 1) := by decide +kernel
theorem dL_law_1460 : decode cL_law 1460 = .ok (.laload, 1) := by decide +kernel
theorem dL_law_1461 : decode cL_law 1461 = .ok (.iload 6, 2) := by decide +kernel
theorem dL_law_1463 : decode cL_law 1463 = .ok (.i2l, 1) := by decide +kernel
theorem dL_law_1464 : decode cL_law 1464 = .ok (.lcmp, 1) := by decide +kernel
theorem dL_law_1465 : decode cL_law 1465 = .ok (.ifCond .eq 5, 3) := by decide +kernel
theorem dL_law_1468 : decode cL_law 1468 = .ok (.iconst 0, 1) := by decide +kernel
theorem dL_law_1469 : decode cL_law 1469 = .ok (.ireturn, 1) := by decide +kernel
theorem dL_law_1470 : decode cL_law 1470 = .ok (.goto 424, 3) := by decide +kernel
theorem dL_law_1473 : decode cL_law 1473 = .ok (.aload_n 1, 1) := by decide +kernel
theorem dL_law_1474 : decode cL_law 1474 = .ok (.aload_n 0, 1) := by decide +kernel
theorem dL_law_1475 : decode cL_law 1475 = .ok (.iload 4, 2) := by decide +kernel
theorem dL_law_1477 : decode cL_law 1477 = .ok (.iconst 1, 1) := by decide +kernel
theorem dL_law_1478 : decode cL_law 1478 = .ok (.iadd, 1) := by decide +kernel
theorem dL_law_1479 : decode cL_law 1479 = .ok (.iaload, 1) := by decide +kernel
theorem dL_law_1480 : decode cL_law 1480 = .ok (.aload_n 0, 1) := by decide +kernel
theorem dL_law_1481 : decode cL_law 1481 = .ok (.iload 4, 2) := by decide +kernel
theorem dL_law_1483 : decode cL_law 1483 = .ok (.iconst 2, 1) := by decide +kernel
theorem dL_law_1484 : decode cL_law 1484 = .ok (.iadd, 1) := by decide +kernel
theorem dL_law_1485 : decode cL_law 1485 = .ok (.iaload, 1) := by decide +kernel
theorem dL_law_1486 : decode cL_law 1486 = .ok (.aload_n 3, 1) := by decide +kernel
theorem dL_law_1487 : decode cL_law 1487 = .ok (.invokestatic 182, 3) := by decide +kernel
theorem dL_law_1490 : decode cL_law 1490 = .ok (.istore 5, 2) := by decide +kernel
theorem dL_law_1492 : decode cL_law 1492 = .ok (.aload_n 2, 1) := by decide +kernel
theorem dL_law_1493 : decode cL_law 1493 = .ok (.aload_n 0, 1) := by decide +kernel
theorem dL_law_1494 : decode cL_law 1494 = .ok (.iload 4, 2) := by decide +kernel
theorem dL_law_1496 : decode cL_law 1496 = .ok (.iconst 1, 1) := by decide +kernel
theorem dL_law_1497 : decode cL_law 1497 = .ok (.iadd, 1) := by decide +kernel
theorem dL_law_1498 : decode cL_law 1498 = .ok (.iaload, 1) := by decide +kernel
theorem dL_law_1499 : decode cL_law 1499 = .ok (.aload_n 0, 1) := by decide +kernel
theorem dL_law_1500 : decode cL_law 1500 = .ok (.iload 4, 2) := by decide +kernel
theorem dL_law_1502 : decode cL_law 1502 = .ok (.iconst 2, 1) := by decide +kernel
theorem dL_law_1503 : decode cL_law 1503 = .ok (.iadd, 1) := by decide +kernel
theorem dL_law_1504 : decode cL_law 1504 = .ok (.iaload, 1) := by decide +kernel
theorem dL_law_1505 : decode cL_law 1505 = .ok (.invokevirtual 184, 3) := by decide +kernel
theorem dL_law_1508 : decode cL_law 1508 = .ok (.istore 6, 2) := by decide +kernel
theorem dL_law_1510 : decode cL_law 1510 = .ok (.aload_n 2, 1) := by decide +kernel
theorem dL_law_1511 : decode cL_law 1511 = .ok (.invokevirtual 111, 3) := by decide +kernel
theorem dL_law_1514 : decode cL_law 1514 = .ok (.iload 5, 2) := by decide +kernel
theorem dL_law_1516 : decode cL_law 1516 = .ok (.if_icmp .eq 5, 3) := by decide +kernel
theorem dL_law_1519 : decode cL_law 1519 = .ok (.iconst 0, 1) := by decide +kernel
theorem dL_law_1520 : decode cL_law 1520 = .ok (.ireturn, 1) := by decide +kernel
theorem dL_law_1521 : decode cL_law 1521 = .ok (.iload 5, 2) := by decide +kernel
theorem dL_law_1523 : decode cL_law 1523 = .ok (.ifCond .ne 15, 3) := by decide +kernel
theorem dL_law_1526 : decode cL_law 1526 = .ok (.aload_n 3, 1) := by decide +kernel
theorem dL_law_1527 : decode cL_law 1527 = .ok (.iconst 0, 1) := by decide +kernel
theorem dL_law_1528 : decode cL_law 1528 = .ok (.laload, 1) := by decide +kernel
theorem dL_law_1529 : decode cL_law 1529 = .ok (.iload 6, 2) := by decide +kernel
theorem dL_law_1531 : decode cL_law 1531 = .ok (.i2l, 1) := by decide +kernel
theorem dL_law_1532 : decode cL_law 1532 = .ok (.lcmp, 1) := by decide +kernel
theorem dL_law_1533 : decode cL_law 1533 = .ok (.ifCond .eq 5, 3) := by decide +kernel
theorem dL_law_1536 : decode cL_law 1536 = .ok (.iconst 0, 1) := by decide +kernel
theorem dL_law_1537 : decode cL_law 1537 = .ok (.ireturn, 1) := by decide +kernel
theorem dL_law_1538 : decode cL_law 1538 = .ok (.goto 356, 3) := by decide +kernel
theorem dL_law_1541 : decode cL_law 1541 = .ok (.aload_n 1, 1) := by decide +kernel
theorem dL_law_1542 : decode cL_law 1542 = .ok (.aload_n 0, 1) := by decide +kernel
theorem dL_law_1543 : decode cL_law 1543 = .ok (.iload 4, 2) := by decide +kernel
theorem dL_law_1545 : decode cL_law 1545 = .ok (.iconst 1, 1) := by decide +kernel
theorem dL_law_1546 : decode cL_law 1546 = .ok (.iadd, 1) := by decide +kernel
theorem dL_law_1547 : decode cL_law 1547 = .ok (.iaload, 1) := by decide +kernel
theorem dL_law_1548 : decode cL_law 1548 = .ok (.aload_n 0, 1) := by decide +kernel
theorem dL_law_1549 : decode cL_law 1549 = .ok (.iload 4, 2) := by decide +kernel
theorem dL_law_1551 : decode cL_law 1551 = .ok (.iconst 2, 1) := by decide +kernel
theorem dL_law_1552 : decode cL_law 1552 = .ok (.iadd, 1) := by decide +kernel
theorem dL_law_1553 : decode cL_law 1553 = .ok (.iaload, 1) := by decide +kernel
theorem dL_law_1554 : decode cL_law 1554 = .ok (.aload_n 0, 1) := by decide +kernel
theorem dL_law_1555 : decode cL_law 1555 = .ok (.iload 4, 2) := by decide +kernel
theorem dL_law_1557 : decode cL_law 1557 = .ok (.iconst 3, 1) := by decide +kernel
theorem dL_law_1558 : decode cL_law 1558 = .ok (.iadd, 1) := by decide +kernel
theorem dL_law_1559 : decode cL_law 1559 = .ok (.iaload, 1) := by decide +kernel
theorem dL_law_1560 : decode cL_law 1560 = .ok (.aload_n 3, 1) := by decide +kernel
theorem dL_law_1561 : decode cL_law 1561 = .ok (.invokestatic 185, 3) := by decide +kernel
theorem dL_law_1564 : decode cL_law 1564 = .ok (.istore 5, 2) := by decide +kernel
theorem dL_law_1566 : decode cL_law 1566 = .ok (.aload_n 2, 1) := by decide +kernel
theorem dL_law_1567 : decode cL_law 1567 = .ok (.aload_n 0, 1) := by decide +kernel
theorem dL_law_1568 : decode cL_law 1568 = .ok (.iload 4, 2) := by decide +kernel
theorem dL_law_1570 : decode cL_law 1570 = .ok (.iconst 1, 1) := by decide +kernel
theorem dL_law_1571 : decode cL_law 1571 = .ok (.iadd, 1) := by decide +kernel
theorem dL_law_1572 : decode cL_law 1572 = .ok (.iaload, 1) := by decide +kernel
theorem dL_law_1573 : decode cL_law 1573 = .ok (.aload_n 0, 1) := by decide +kernel
theorem dL_law_1574 : decode cL_law 1574 = .ok (.iload 4, 2) := by decide +kernel
theorem dL_law_1576 : decode cL_law 1576 = .ok (.iconst 2, 1) := by decide +kernel
theorem dL_law_1577 : decode cL_law 1577 = .ok (.iadd, 1) := by decide +kernel
theorem dL_law_1578 : decode cL_law 1578 = .ok (.iaload, 1) := by decide +kernel
theorem dL_law_1579 : decode cL_law 1579 = .ok (.aload_n 0, 1) := by decide +kernel
theorem dL_law_1580 : decode cL_law 1580 = .ok (.iload 4, 2) := by decide +kernel
theorem dL_law_1582 : decode cL_law 1582 = .ok (.iconst 3, 1) := by decide +kernel
theorem dL_law_1583 : decode cL_law 1583 = .ok (.iadd, 1) := by decide +kernel
theorem dL_law_1584 : decode cL_law 1584 = .ok (.iaload, 1) := by decide +kernel
theorem dL_law_1585 : decode cL_law 1585 = .ok (.invokevirtual 188, 3) := by decide +kernel
theorem dL_law_1588 : decode cL_law 1588 = .ok (.istore 6, 2) := by decide +kernel
theorem dL_law_1590 : decode cL_law 1590 = .ok (.aload_n 2, 1) := by decide +kernel
theorem dL_law_1591 : decode cL_law 1591 = .ok (.invokevirtual 111, 3) := by decide +kernel
theorem dL_law_1594 : decode cL_law 1594 = .ok (.iload 5, 2) := by decide +kernel
theorem dL_law_1596 : decode cL_law 1596 = .ok (.if_icmp .eq 5, 3) := by decide +kernel
theorem dL_law_1599 : decode cL_law 1599 = .ok (.iconst 0, 1) := by decide +kernel
theorem dL_law_1600 : decode cL_law 1600 = .ok (.ireturn, 1) := by decide +kernel
theorem dL_law_1601 : decode cL_law 1601 = .ok (.iload 5, 2) := by decide +kernel
theorem dL_law_1603 : decode cL_law 1603 = .ok (.ifCond .ne 15, 3) := by decide +kernel
theorem dL_law_1606 : decode cL_law 1606 = .ok (.aload_n 3, 1) := by decide +kernel
theorem dL_law_1607 : decode cL_law 1607 = .ok (.iconst 0, 1) := by decide +kernel
theorem dL_law_1608 : decode cL_law 1608 = .ok (.laload, 1) := by decide +kernel
theorem dL_law_1609 : decode cL_law 1609 = .ok (.iload 6, 2) := by decide +kernel
theorem dL_law_1611 : decode cL_law 1611 = .ok (.i2l, 1) := by decide +kernel
theorem dL_law_1612 : decode cL_law 1612 = .ok (.lcmp, 1) := by decide +kernel
theorem dL_law_1613 : decode cL_law 1613 = .ok (.ifCond .eq 5, 3) := by decide +kernel
theorem dL_law_1616 : decode cL_law 1616 = .ok (.iconst 0, 1) := by decide +kernel
theorem dL_law_1617 : decode cL_law 1617 = .ok (.ireturn, 1) := by decide +kernel
theorem dL_law_1618 : decode cL_law 1618 = .ok (.goto 276, 3) := by decide +kernel
theorem dL_law_1621 : decode cL_law 1621 = .ok (.aload_n 1, 1) := by decide +kernel
theorem dL_law_1622 : decode cL_law 1622 = .ok (.aload_n 0, 1) := by decide +kernel
theorem dL_law_1623 : decode cL_law 1623 = .ok (.iload 4, 2) := by decide +kernel
theorem dL_law_1625 : decode cL_law 1625 = .ok (.iconst 1, 1) := by decide +kernel
theorem dL_law_1626 : decode cL_law 1626 = .ok (.iadd, 1) := by decide +kernel
theorem dL_law_1627 : decode cL_law 1627 = .ok (.iaload, 1) := by decide +kernel
theorem dL_law_1628 : decode cL_law 1628 = .ok (.aload_n 0, 1) := by decide +kernel
theorem dL_law_1629 : decode cL_law 1629 = .ok (.iload 4, 2) := by decide +kernel
theorem dL_law_1631 : decode cL_law 1631 = .ok (.iconst 2, 1) := by decide +kernel
theorem dL_law_1632 : decode cL_law 1632 = .ok (.iadd, 1) := by decide +kernel
theorem dL_law_1633 : decode cL_law 1633 = .ok (.iaload, 1) := by decide +kernel
theorem dL_law_1634 : decode cL_law 1634 = .ok (.aload_n 3, 1) := by decide +kernel
theorem dL_law_1635 : decode cL_law 1635 = .ok (.invokestatic 189, 3) := by decide +kernel
theorem dL_law_1638 : decode cL_law 1638 = .ok (.istore 5, 2) := by decide +kernel
theorem dL_law_1640 : decode cL_law 1640 = .ok (.aload_n 2, 1) := by decide +kernel
theorem dL_law_1641 : decode cL_law 1641 = .ok (.aload_n 0, 1) := by decide +kernel
theorem dL_law_1642 : decode cL_law 1642 = .ok (.iload 4, 2) := by decide +kernel
theorem dL_law_1644 : decode cL_law 1644 = .ok (.iconst 1, 1) := by decide +kernel
theorem dL_law_1645 : decode cL_law 1645 = .ok (.iadd, 1) := by decide +kernel
theorem dL_law_1646 : decode cL_law 1646 = .ok (.iaload, 1) := by decide +kernel
theorem dL_law_1647 : decode cL_law 1647 = .ok (.aload_n 0, 1) := by decide +kernel
theorem dL_law_1648 : decode cL_law 1648 = .ok (.iload 4, 2) := by decide +kernel
theorem dL_law_1650 : decode cL_law 1650 = .ok (.iconst 2, 1) := by decide +kernel
theorem dL_law_1651 : decode cL_law 1651 = .ok (.iadd, 1) := by decide +kernel
theorem dL_law_1652 : decode cL_law 1652 = .ok (.iaload, 1) := by decide +kernel
theorem dL_law_1653 : decode cL_law 1653 = .ok (.invokevirtual 191, 3) := by decide +kernel
theorem dL_law_1656 : decode cL_law 1656 = .ok (.istore 6, 2) := by decide +kernel
theorem dL_law_1658 : decode cL_law 1658 = .ok (.aload_n 2, 1) := by decide +kernel
theorem dL_law_1659 : decode cL_law 1659 = .ok (.invokevirtual 111, 3) := by decide +kernel
theorem dL_law_1662 : decode cL_law 1662 = .ok (.iload 5, 2) := by decide +kernel
theorem dL_law_1664 : decode cL_law 1664 = .ok (.if_icmp .eq 5, 3) := by decide +kernel
theorem dL_law_1667 : decode cL_law 1667 = .ok (.iconst 0, 1) := by decide +kernel
theorem dL_law_1668 : decode cL_law 1668 = .ok (.ireturn, 1) := by decide +kernel
theorem dL_law_1669 : decode cL_law 1669 = .ok (.iload 5, 2) := by decide +kernel
theorem dL_law_1671 : decode cL_law 1671 = .ok (.ifCond .ne 15, 3) := by decide +kernel
theorem dL_law_1674 : decode cL_law 1674 = .ok (.aload_n 3, 1) := by decide +kernel
theorem dL_law_1675 : decode cL_law 1675 = .ok (.iconst 0, 1) := by decide +kernel
theorem dL_law_1676 : decode cL_law 1676 = .ok (.laload, 1) := by decide +kernel
theorem dL_law_1677 : decode cL_law 1677 = .ok (.iload 6, 2) := by decide +kernel
theorem dL_law_1679 : decode cL_law 1679 = .ok (.i2l, 1) := by decide +kernel
theorem dL_law_1680 : decode cL_law 1680 = .ok (.lcmp, 1) := by decide +kernel
theorem dL_law_1681 : decode cL_law 1681 = .ok (.ifCond .eq 5, 3) := by decide +kernel
theorem dL_law_1684 : decode cL_law 1684 = .ok (.iconst 0, 1) := by decide +kernel
theorem dL_law_1685 : decode cL_law 1685 = .ok (.ireturn, 1) := by decide +kernel
theorem dL_law_1686 : decode cL_law 1686 = .ok (.goto 208, 3) := by decide +kernel
theorem dL_law_1689 : decode cL_law 1689 = .ok (.aload_n 1, 1) := by decide +kernel
theorem dL_law_1690 : decode cL_law 1690 = .ok (.aload_n 0, 1) := by decide +kernel
theorem dL_law_1691 : decode cL_law 1691 = .ok (.iload 4, 2) := by decide +kernel
theorem dL_law_1693 : decode cL_law 1693 = .ok (.iconst 1, 1) := by decide +kernel
theorem dL_law_1694 : decode cL_law 1694 = .ok (.iadd, 1) := by decide +kernel
theorem dL_law_1695 : decode cL_law 1695 = .ok (.iaload, 1) := by decide +kernel
theorem dL_law_1696 : decode cL_law 1696 = .ok (.aload_n 0, 1) := by decide +kernel
theorem dL_law_1697 : decode cL_law 1697 = .ok (.iload 4, 2) := by decide +kernel
theorem dL_law_1699 : decode cL_law 1699 = .ok (.iconst 2, 1) := by decide +kernel
theorem dL_law_1700 : decode cL_law 1700 = .ok (.iadd, 1) := by decide +kernel
theorem dL_law_1701 : decode cL_law 1701 = .ok (.iaload, 1) := by decide +kernel
theorem dL_law_1702 : decode cL_law 1702 = .ok (.aload_n 3, 1) := by decide +kernel
theorem dL_law_1703 : decode cL_law 1703 = .ok (.invokestatic 192, 3) := by decide +kernel
theorem dL_law_1706 : decode cL_law 1706 = .ok (.istore 5, 2) := by decide +kernel
theorem dL_law_1708 : decode cL_law 1708 = .ok (.aload_n 2, 1) := by decide +kernel
theorem dL_law_1709 : decode cL_law 1709 = .ok (.aload_n 0, 1) := by decide +kernel
theorem dL_law_1710 : decode cL_law 1710 = .ok (.iload 4, 2) := by decide +kernel
theorem dL_law_1712 : decode cL_law 1712 = .ok (.iconst 1, 1) := by decide +kernel
theorem dL_law_1713 : decode cL_law 1713 = .ok (.iadd, 1) := by decide +kernel
theorem dL_law_1714 : decode cL_law 1714 = .ok (.iaload, 1) := by decide +kernel
theorem dL_law_1715 : decode cL_law 1715 = .ok (.aload_n 0, 1) := by decide +kernel
theorem dL_law_1716 : decode cL_law 1716 = .ok (.iload 4, 2) := by decide +kernel
theorem dL_law_1718 : decode cL_law 1718 = .ok (.iconst 2, 1) := by decide +kernel
theorem dL_law_1719 : decode cL_law 1719 = .ok (.iadd, 1) := by decide +kernel
theorem dL_law_1720 : decode cL_law 1720 = .ok (.iaload, 1) := by decide +kernel
theorem dL_law_1721 : decode cL_law 1721 = .ok (.invokevirtual 194, 3) := by decide +kernel
theorem dL_law_1724 : decode cL_law 1724 = .ok (.istore 6, 2) := by decide +kernel
theorem dL_law_1726 : decode cL_law 1726 = .ok (.aload_n 2, 1) := by decide +kernel
theorem dL_law_1727 : decode cL_law 1727 = .ok (.invokevirtual 111, 3) := by decide +kernel
theorem dL_law_1730 : decode cL_law 1730 = .ok (.iload 5, 2) := by decide +kernel
theorem dL_law_1732 : decode cL_law 1732 = .ok (.if_icmp .eq 5, 3) := by decide +kernel
theorem dL_law_1735 : decode cL_law 1735 = .ok (.iconst 0, 1) := by decide +kernel
theorem dL_law_1736 : decode cL_law 1736 = .ok (.ireturn, 1) := by decide +kernel
theorem dL_law_1737 : decode cL_law 1737 = .ok (.iload 5, 2) := by decide +kernel
theorem dL_law_1739 : decode cL_law 1739 = .ok (.ifCond .ne 15, 3) := by decide +kernel
theorem dL_law_1742 : decode cL_law 1742 = .ok (.aload_n 3, 1) := by decide +kernel
theorem dL_law_1743 : decode cL_law 1743 = .ok (.iconst 0, 1) := by decide +kernel
theorem dL_law_1744 : decode cL_law 1744 = .ok (.laload, 1) := by decide +kernel
theorem dL_law_1745 : decode cL_law 1745 = .ok (.iload 6, 2) := by decide +kernel
theorem dL_law_1747 : decode cL_law 1747 = .ok (.i2l, 1) := by decide +kernel
theorem dL_law_1748 : decode cL_law 1748 = .ok (.lcmp, 1) := by decide +kernel
theorem dL_law_1749 : decode cL_law 1749 = .ok (.ifCond .eq 5, 3) := by decide +kernel
theorem dL_law_1752 : decode cL_law 1752 = .ok (.iconst 0, 1) := by decide +kernel
theorem dL_law_1753 : decode cL_law 1753 = .ok (.ireturn, 1) := by decide +kernel
theorem dL_law_1754 : decode cL_law 1754 = .ok (.goto 140, 3) := by decide +kernel
theorem dL_law_1757 : decode cL_law 1757 = .ok (.aload_n 1, 1) := by decide +kernel
theorem dL_law_1758 : decode cL_law 1758 = .ok (.aload_n 0, 1) := by decide +kernel
theorem dL_law_1759 : decode cL_law 1759 = .ok (.iload 4, 2) := by decide +kernel
theorem dL_law_1761 : decode cL_law 1761 = .ok (.iconst 1, 1) := by decide +kernel
theorem dL_law_1762 : decode cL_law 1762 = .ok (.iadd, 1) := by decide +kernel
theorem dL_law_1763 : decode cL_law 1763 = .ok (.iaload, 1) := by decide +kernel
theorem dL_law_1764 : decode cL_law 1764 = .ok (.aload_n 0, 1) := by decide +kernel
theorem dL_law_1765 : decode cL_law 1765 = .ok (.iload 4, 2) := by decide +kernel
theorem dL_law_1767 : decode cL_law 1767 = .ok (.iconst 2, 1) := by decide +kernel
theorem dL_law_1768 : decode cL_law 1768 = .ok (.iadd, 1) := by decide +kernel
theorem dL_law_1769 : decode cL_law 1769 = .ok (.iaload, 1) := by decide +kernel
theorem dL_law_1770 : decode cL_law 1770 = .ok (.aload_n 3, 1) := by decide +kernel
theorem dL_law_1771 : decode cL_law 1771 = .ok (.invokestatic 195, 3) := by decide +kernel
theorem dL_law_1774 : decode cL_law 1774 = .ok (.istore 5, 2) := by decide +kernel
theorem dL_law_1776 : decode cL_law 1776 = .ok (.aload_n 2, 1) := by decide +kernel
theorem dL_law_1777 : decode cL_law 1777 = .ok (.aload_n 0, 1) := by decide +kernel
theorem dL_law_1778 : decode cL_law 1778 = .ok (.iload 4, 2) := by decide +kernel
theorem dL_law_1780 : decode cL_law 1780 = .ok (.iconst 1, 1) := by decide +kernel
theorem dL_law_1781 : decode cL_law 1781 = .ok (.iadd, 1) := by decide +kernel
theorem dL_law_1782 : decode cL_law 1782 = .ok (.iaload, 1) := by decide +kernel
theorem dL_law_1783 : decode cL_law 1783 = .ok (.aload_n 0, 1) := by decide +kernel
theorem dL_law_1784 : decode cL_law 1784 = .ok (.iload 4, 2) := by decide +kernel
theorem dL_law_1786 : decode cL_law 1786 = .ok (.iconst 2, 1) := by decide +kernel
theorem dL_law_1787 : decode cL_law 1787 = .ok (.iadd, 1) := by decide +kernel
theorem dL_law_1788 : decode cL_law 1788 = .ok (.iaload, 1) := by decide +kernel
theorem dL_law_1789 : decode cL_law 1789 = .ok (.invokevirtual 197, 3) := by decide +kernel
theorem dL_law_1792 : decode cL_law 1792 = .ok (.istore 6, 2) := by decide +kernel
theorem dL_law_1794 : decode cL_law 1794 = .ok (.aload_n 2, 1) := by decide +kernel
theorem dL_law_1795 : decode cL_law 1795 = .ok (.invokevirtual 111, 3) := by decide +kernel
theorem dL_law_1798 : decode cL_law 1798 = .ok (.iload 5, 2) := by decide +kernel
theorem dL_law_1800 : decode cL_law 1800 = .ok (.if_icmp .eq 5, 3) := by decide +kernel
theorem dL_law_1803 : decode cL_law 1803 = .ok (.iconst 0, 1) := by decide +kernel
theorem dL_law_1804 : decode cL_law 1804 = .ok (.ireturn, 1) := by decide +kernel
theorem dL_law_1805 : decode cL_law 1805 = .ok (.iload 5, 2) := by decide +kernel
theorem dL_law_1807 : decode cL_law 1807 = .ok (.ifCond .ne 15, 3) := by decide +kernel
theorem dL_law_1810 : decode cL_law 1810 = .ok (.aload_n 3, 1) := by decide +kernel
theorem dL_law_1811 : decode cL_law 1811 = .ok (.iconst 0, 1) := by decide +kernel
theorem dL_law_1812 : decode cL_law 1812 = .ok (.laload, 1) := by decide +kernel
theorem dL_law_1813 : decode cL_law 1813 = .ok (.iload 6, 2) := by decide +kernel
theorem dL_law_1815 : decode cL_law 1815 = .ok (.i2l, 1) := by decide +kernel
theorem dL_law_1816 : decode cL_law 1816 = .ok (.lcmp, 1) := by decide +kernel
theorem dL_law_1817 : decode cL_law 1817 = .ok (.ifCond .eq 5, 3) := by decide +kernel
theorem dL_law_1820 : decode cL_law 1820 = .ok (.iconst 0, 1) := by decide +kernel
theorem dL_law_1821 : decode cL_law 1821 = .ok (.ireturn, 1) := by decide +kernel
theorem dL_law_1822 : decode cL_law 1822 = .ok (.goto 72, 3) := by decide +kernel
theorem dL_law_1825 : decode cL_law 1825 = .ok (.aload_n 1, 1) := by decide +kernel
theorem dL_law_1826 : decode cL_law 1826 = .ok (.aload_n 0, 1) := by decide +kernel
theorem dL_law_1827 : decode cL_law 1827 = .ok (.iload 4, 2) := by decide +kernel
theorem dL_law_1829 : decode cL_law 1829 = .ok (.iconst 1, 1) := by decide +kernel
theorem dL_law_1830 : decode cL_law 1830 = .ok (.iadd, 1) := by decide +kernel
theorem dL_law_1831 : decode cL_law 1831 = .ok (.iaload, 1) := by decide +kernel
theorem dL_law_1832 : decode cL_law 1832 = .ok (.aload_n 3, 1) := by decide +kernel
theorem dL_law_1833 : decode cL_law 1833 = .ok (.invokestatic 198, 3) := by decide +kernel
theorem dL_law_1836 : decode cL_law 1836 = .ok (.istore 5, 2) := by decide +kernel
theorem dL_law_1838 : decode cL_law 1838 = .ok (.aload_n 2, 1) := by decide +kernel
theorem dL_law_1839 : decode cL_law 1839 = .ok (.aload_n 0, 1) := by decide +kernel
theorem dL_law_1840 : decode cL_law 1840 = .ok (.iload 4, 2) := by decide +kernel
theorem dL_law_1842 : decode cL_law 1842 = .ok (.iconst 1, 1) := by decide +kernel
theorem dL_law_1843 : decode cL_law 1843 = .ok (.iadd, 1) := by decide +kernel
theorem dL_law_1844 : decode cL_law 1844 = .ok (.iaload, 1) := by decide +kernel
theorem dL_law_1845 : decode cL_law 1845 = .ok (.invokevirtual 200, 3) := by decide +kernel
theorem dL_law_1848 : decode cL_law 1848 = .ok (.istore 6, 2) := by decide +kernel
theorem dL_law_1850 : decode cL_law 1850 = .ok (.aload_n 2, 1) := by decide +kernel
theorem dL_law_1851 : decode cL_law 1851 = .ok (.invokevirtual 111, 3) := by decide +kernel
theorem dL_law_1854 : decode cL_law 1854 = .ok (.iload 5, 2) := by decide +kernel
theorem dL_law_1856 : decode cL_law 1856 = .ok (.if_icmp .eq 5, 3) := by decide +kernel
theorem dL_law_1859 : decode cL_law 1859 = .ok (.iconst 0, 1) := by decide +kernel
theorem dL_law_1860 : decode cL_law 1860 = .ok (.ireturn, 1) := by decide +kernel
theorem dL_law_1861 : decode cL_law 1861 = .ok (.iload 5, 2) := by decide +kernel
theorem dL_law_1863 : decode cL_law 1863 = .ok (.ifCond .ne 15, 3) := by decide +kernel
theorem dL_law_1866 : decode cL_law 1866 = .ok (.aload_n 3, 1) := by decide +kernel
theorem dL_law_1867 : decode cL_law 1867 = .ok (.iconst 0, 1) := by decide +kernel
theorem dL_law_1868 : decode cL_law 1868 = .ok (.laload, 1) := by decide +kernel
theorem dL_law_1869 : decode cL_law 1869 = .ok (.iload 6, 2) := by decide +kernel
theorem dL_law_1871 : decode cL_law 1871 = .ok (.i2l, 1) := by decide +kernel
theorem dL_law_1872 : decode cL_law 1872 = .ok (.lcmp, 1) := by decide +kernel
theorem dL_law_1873 : decode cL_law 1873 = .ok (.ifCond .eq 5, 3) := by decide +kernel
theorem dL_law_1876 : decode cL_law 1876 = .ok (.iconst 0, 1) := by decide +kernel
theorem dL_law_1877 : decode cL_law 1877 = .ok (.ireturn, 1) := by decide +kernel
theorem dL_law_1878 : decode cL_law 1878 = .ok (.goto 16, 3) := by decide +kernel
theorem dL_law_1881 : decode cL_law 1881 = .ok (.aload_n 1, 1) := by decide +kernel
theorem dL_law_1882 : decode cL_law 1882 = .ok (.invokevirtual 201, 3) := by decide +kernel
theorem dL_law_1885 : decode cL_law 1885 = .ok (.aload_n 2, 1) := by decide +kernel
theorem dL_law_1886 : decode cL_law 1886 = .ok (.invokevirtual 204, 3) := by decide +kernel
theorem dL_law_1889 : decode cL_law 1889 = .ok (.if_icmp .eq 5, 3) := by decide +kernel
theorem dL_law_1892 : decode cL_law 1892 = .ok (.iconst 0, 1) := by decide +kernel
theorem dL_law_1893 : decode cL_law 1893 = .ok (.ireturn, 1) := by decide +kernel
theorem dL_law_1894 : decode cL_law 1894 = .ok (.iinc 4 4, 3) := by decide +kernel
theorem dL_law_1897 : decode cL_law 1897 = .ok (.goto (-1874), 3) := by decide +kernel
theorem dL_law_1900 : decode cL_law 1900 = .ok (.iconst 1, 1) := by decide +kernel
theorem dL_law_1901 : decode cL_law 1901 = .ok (.ireturn, 1) := by decide +kernel
