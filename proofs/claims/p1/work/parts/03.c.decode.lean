theorem dX0_init_0 : decode cX0_init 0 = .ok (.aload_n 0, 1) := by decide +kernel
theorem dX0_init_1 : decode cX0_init 1 = .ok (.invokespecial 1, 3) := by decide +kernel
theorem dX0_init_4 : decode cX0_init 4 = .ok (.aload_n 0, 1) := by decide +kernel
theorem dX0_init_5 : decode cX0_init 5 = .ok (.new 7, 3) := by decide +kernel
theorem dX0_init_8 : decode cX0_init 8 = .ok (.dup, 1) := by decide +kernel
theorem dX0_init_9 : decode cX0_init 9 = .ok (.sipush 400, 3) := by decide +kernel
theorem dX0_init_12 : decode cX0_init 12 = .ok (.invokespecial 11, 3) := by decide +kernel
theorem dX0_init_15 : decode cX0_init 15 = .ok (.putfield 14, 3) := by decide +kernel
theorem dX0_init_18 : decode cX0_init 18 = .ok (.aload_n 0, 1) := by decide +kernel
theorem dX0_init_19 : decode cX0_init 19 = .ok (.sipush 800, 3) := by decide +kernel
theorem dX0_init_22 : decode cX0_init 22 = .ok (.newarray .int, 2) := by decide +kernel
theorem dX0_init_24 : decode cX0_init 24 = .ok (.putfield 18, 3) := by decide +kernel
theorem dX0_init_27 : decode cX0_init 27 = .ok (.aload_n 0, 1) := by decide +kernel
theorem dX0_init_28 : decode cX0_init 28 = .ok (.sipush 800, 3) := by decide +kernel
theorem dX0_init_31 : decode cX0_init 31 = .ok (.newarray .int, 2) := by decide +kernel
theorem dX0_init_33 : decode cX0_init 33 = .ok (.putfield 22, 3) := by decide +kernel
theorem dX0_init_36 : decode cX0_init 36 = .ok (.aload_n 0, 1) := by decide +kernel
theorem dX0_init_37 : decode cX0_init 37 = .ok (.bipush 40, 2) := by decide +kernel
theorem dX0_init_39 : decode cX0_init 39 = .ok (.newarray .int, 2) := by decide +kernel
theorem dX0_init_41 : decode cX0_init 41 = .ok (.putfield 25, 3) := by decide +kernel
theorem dX0_init_44 : decode cX0_init 44 = .ok (.aload_n 0, 1) := by decide +kernel
theorem dX0_init_45 : decode cX0_init 45 = .ok (.bipush 24, 2) := by decide +kernel
theorem dX0_init_47 : decode cX0_init 47 = .ok (.newarray .int, 2) := by decide +kernel
theorem dX0_init_49 : decode cX0_init 49 = .ok (.putfield 30, 3) := by decide +kernel
theorem dX0_init_52 : decode cX0_init 52 = .ok (.aload_n 0, 1) := by decide +kernel
theorem dX0_init_53 : decode cX0_init 53 = .ok (.bipush 24, 2) := by decide +kernel
theorem dX0_init_55 : decode cX0_init 55 = .ok (.newarray .boolean, 2) := by decide +kernel
theorem dX0_init_57 : decode cX0_init 57 = .ok (.putfield 33, 3) := by decide +kernel
theorem dX0_init_60 : decode cX0_init 60 = .ok (.aload_n 0, 1) := by decide +kernel
theorem dX0_init_61 : decode cX0_init 61 = .ok (.bipush 6, 2) := by decide +kernel
theorem dX0_init_63 : decode cX0_init 63 = .ok (.newarray .int, 2) := by decide +kernel
theorem dX0_init_65 : decode cX0_init 65 = .ok (.putfield 37, 3) := by decide +kernel
theorem dX0_init_68 : decode cX0_init 68 = .ok (.aload_n 0, 1) := by decide +kernel
theorem dX0_init_69 : decode cX0_init 69 = .ok (.bipush 6, 2) := by decide +kernel
theorem dX0_init_71 : decode cX0_init 71 = .ok (.newarray .boolean, 2) := by decide +kernel
theorem dX0_init_73 : decode cX0_init 73 = .ok (.putfield 40, 3) := by decide +kernel
theorem dX0_init_76 : decode cX0_init 76 = .ok (.aload_n 0, 1) := by decide +kernel
theorem dX0_init_77 : decode cX0_init 77 = .ok (.iconst 4, 1) := by decide +kernel
theorem dX0_init_78 : decode cX0_init 78 = .ok (.newarray .int, 2) := by decide +kernel
theorem dX0_init_80 : decode cX0_init 80 = .ok (.putfield 43, 3) := by decide +kernel
theorem dX0_init_83 : decode cX0_init 83 = .ok (.aload_n 0, 1) := by decide +kernel
theorem dX0_init_84 : decode cX0_init 84 = .ok (.iconst 4, 1) := by decide +kernel
theorem dX0_init_85 : decode cX0_init 85 = .ok (.newarray .int, 2) := by decide +kernel
theorem dX0_init_87 : decode cX0_init 87 = .ok (.putfield 46, 3) := by decide +kernel
theorem dX0_init_90 : decode cX0_init 90 = .ok (.return_, 1) := by decide +kernel
theorem dX0_clear_0 : decode cX0_clear 0 = .ok (.aload_n 0, 1) := by decide +kernel
theorem dX0_clear_1 : decode cX0_clear 1 = .ok (.getfield 14, 3) := by decide +kernel
theorem dX0_clear_4 : decode cX0_clear 4 = .ok (.iconst 0, 1) := by decide +kernel
theorem dX0_clear_5 : decode cX0_clear 5 = .ok (.putfield 49, 3) := by decide +kernel
theorem dX0_clear_8 : decode cX0_clear 8 = .ok (.aload_n 0, 1) := by decide +kernel
theorem dX0_clear_9 : decode cX0_clear 9 = .ok (.iconst 0, 1) := by decide +kernel
theorem dX0_clear_10 : decode cX0_clear 10 = .ok (.putfield 53, 3) := by decide +kernel
theorem dX0_clear_13 : decode cX0_clear 13 = .ok (.aload_n 0, 1) := by decide +kernel
theorem dX0_clear_14 : decode cX0_clear 14 = .ok (.iconst 0, 1) := by decide +kernel
theorem dX0_clear_15 : decode cX0_clear 15 = .ok (.putfield 56, 3) := by decide +kernel
theorem dX0_clear_18 : decode cX0_clear 18 = .ok (.aload_n 0, 1) := by decide +kernel
theorem dX0_clear_19 : decode cX0_clear 19 = .ok (.iconst 0, 1) := by decide +kernel
theorem dX0_clear_20 : decode cX0_clear 20 = .ok (.putfield 59, 3) := by decide +kernel
theorem dX0_clear_23 : decode cX0_clear 23 = .ok (.aload_n 0, 1) := by decide +kernel
theorem dX0_clear_24 : decode cX0_clear 24 = .ok (.iconst 0, 1) := by decide +kernel
theorem dX0_clear_25 : decode cX0_clear 25 = .ok (.putfield 62, 3) := by decide +kernel
theorem dX0_clear_28 : decode cX0_clear 28 = .ok (.aload_n 0, 1) := by decide +kernel
theorem dX0_clear_29 : decode cX0_clear 29 = .ok (.iconst 0, 1) := by decide +kernel
theorem dX0_clear_30 : decode cX0_clear 30 = .ok (.putfield 65, 3) := by decide +kernel
theorem dX0_clear_33 : decode cX0_clear 33 = .ok (.aload_n 0, 1) := by decide +kernel
theorem dX0_clear_34 : decode cX0_clear 34 = .ok (.iconst 0, 1) := by decide +kernel
theorem dX0_clear_35 : decode cX0_clear 35 = .ok (.putfield 68, 3) := by decide +kernel
theorem dX0_clear_38 : decode cX0_clear 38 = .ok (.aload_n 0, 1) := by decide +kernel
theorem dX0_clear_39 : decode cX0_clear 39 = .ok (.iconst 0, 1) := by decide +kernel
theorem dX0_clear_40 : decode cX0_clear 40 = .ok (.putfield 71, 3) := by decide +kernel
theorem dX0_clear_43 : decode cX0_clear 43 = .ok (.return_, 1) := by decide +kernel
theorem dX1_init_0 : decode cX1_init 0 = .ok (.aload_n 0, 1) := by decide +kernel
theorem dX1_init_1 : decode cX1_init 1 = .ok (.invokespecial 1, 3) := by decide +kernel
theorem dX1_init_4 : decode cX1_init 4 = .ok (.return_, 1) := by decide +kernel
theorem dX4_init_0 : decode cX4_init 0 = .ok (.aload_n 0, 1) := by decide +kernel
theorem dX4_init_1 : decode cX4_init 1 = .ok (.invokespecial 5, 3) := by decide +kernel
theorem dX4_init_4 : decode cX4_init 4 = .ok (.aload_n 0, 1) := by decide +kernel
theorem dX4_init_5 : decode cX4_init 5 = .ok (.aload_n 1, 1) := by decide +kernel
theorem dX4_init_6 : decode cX4_init 6 = .ok (.putfield 11, 3) := by decide +kernel
theorem dX4_init_9 : decode cX4_init 9 = .ok (.aload_n 0, 1) := by decide +kernel
theorem dX4_init_10 : decode cX4_init 10 = .ok (.sipush 400, 3) := by decide +kernel
theorem dX4_init_13 : decode cX4_init 13 = .ok (.newarray .int, 2) := by decide +kernel
theorem dX4_init_15 : decode cX4_init 15 = .ok (.putfield 17, 3) := by decide +kernel
theorem dX4_init_18 : decode cX4_init 18 = .ok (.aload_n 0, 1) := by decide +kernel
theorem dX4_init_19 : decode cX4_init 19 = .ok (.sipush 400, 3) := by decide +kernel
theorem dX4_init_22 : decode cX4_init 22 = .ok (.newarray .int, 2) := by decide +kernel
theorem dX4_init_24 : decode cX4_init 24 = .ok (.putfield 21, 3) := by decide +kernel
theorem dX4_init_27 : decode cX4_init 27 = .ok (.aload_n 0, 1) := by decide +kernel
theorem dX4_init_28 : decode cX4_init 28 = .ok (.sipush 400, 3) := by decide +kernel
theorem dX4_init_31 : decode cX4_init 31 = .ok (.newarray .int, 2) := by decide +kernel
theorem dX4_init_33 : decode cX4_init 33 = .ok (.putfield 24, 3) := by decide +kernel
theorem dX4_init_36 : decode cX4_init 36 = .ok (.aload_n 0, 1) := by decide +kernel
theorem dX4_init_37 : decode cX4_init 37 = .ok (.sipush 400, 3) := by decide +kernel
theorem dX4_init_40 : decode cX4_init 40 = .ok (.newarray .int, 2) := by decide +kernel
theorem dX4_init_42 : decode cX4_init 42 = .ok (.putfield 27, 3) := by decide +kernel
theorem dX4_init_45 : decode cX4_init 45 = .ok (.aload_n 0, 1) := by decide +kernel
theorem dX4_init_46 : decode cX4_init 46 = .ok (.sipush 400, 3) := by decide +kernel
theorem dX4_init_49 : decode cX4_init 49 = .ok (.newarray .int, 2) := by decide +kernel
theorem dX4_init_51 : decode cX4_init 51 = .ok (.putfield 30, 3) := by decide +kernel
theorem dX4_init_54 : decode cX4_init 54 = .ok (.aload_n 0, 1) := by decide +kernel
theorem dX4_init_55 : decode cX4_init 55 = .ok (.sipush 400, 3) := by decide +kernel
theorem dX4_init_58 : decode cX4_init 58 = .ok (.newarray .int, 2) := by decide +kernel
theorem dX4_init_60 : decode cX4_init 60 = .ok (.putfield 33, 3) := by decide +kernel
theorem dX4_init_63 : decode cX4_init 63 = .ok (.aload_n 0, 1) := by decide +kernel
theorem dX4_init_64 : decode cX4_init 64 = .ok (.sipush 400, 3) := by decide +kernel
theorem dX4_init_67 : decode cX4_init 67 = .ok (.newarray .boolean, 2) := by decide +kernel
theorem dX4_init_69 : decode cX4_init 69 = .ok (.putfield 36, 3) := by decide +kernel
theorem dX4_init_72 : decode cX4_init 72 = .ok (.aload_n 0, 1) := by decide +kernel
theorem dX4_init_73 : decode cX4_init 73 = .ok (.sipush 400, 3) := by decide +kernel
theorem dX4_init_76 : decode cX4_init 76 = .ok (.newarray .int, 2) := by decide +kernel
theorem dX4_init_78 : decode cX4_init 78 = .ok (.putfield 40, 3) := by decide +kernel
theorem dX4_init_81 : decode cX4_init 81 = .ok (.aload_n 0, 1) := by decide +kernel
theorem dX4_init_82 : decode cX4_init 82 = .ok (.sipush 2400, 3) := by decide +kernel
theorem dX4_init_85 : decode cX4_init 85 = .ok (.newarray .int, 2) := by decide +kernel
theorem dX4_init_87 : decode cX4_init 87 = .ok (.putfield 43, 3) := by decide +kernel
theorem dX4_init_90 : decode cX4_init 90 = .ok (.aload_n 0, 1) := by decide +kernel
theorem dX4_init_91 : decode cX4_init 91 = .ok (.bipush 6, 2) := by decide +kernel
theorem dX4_init_93 : decode cX4_init 93 = .ok (.newarray .int, 2) := by decide +kernel
theorem dX4_init_95 : decode cX4_init 95 = .ok (.putfield 46, 3) := by decide +kernel
theorem dX4_init_98 : decode cX4_init 98 = .ok (.aload_n 0, 1) := by decide +kernel
theorem dX4_init_99 : decode cX4_init 99 = .ok (.bipush 36, 2) := by decide +kernel
theorem dX4_init_101 : decode cX4_init 101 = .ok (.newarray .int, 2) := by decide +kernel
theorem dX4_init_103 : decode cX4_init 103 = .ok (.putfield 49, 3) := by decide +kernel
theorem dX4_init_106 : decode cX4_init 106 = .ok (.aload_n 0, 1) := by decide +kernel
theorem dX4_init_107 : decode cX4_init 107 = .ok (.bipush 36, 2) := by decide +kernel
theorem dX4_init_109 : decode cX4_init 109 = .ok (.newarray .int, 2) := by decide +kernel
theorem dX4_init_111 : decode cX4_init 111 = .ok (.putfield 52, 3) := by decide +kernel
theorem dX4_init_114 : decode cX4_init 114 = .ok (.aload_n 0, 1) := by decide +kernel
theorem dX4_init_115 : decode cX4_init 115 = .ok (.sipush 144, 3) := by decide +kernel
theorem dX4_init_118 : decode cX4_init 118 = .ok (.newarray .int, 2) := by decide +kernel
theorem dX4_init_120 : decode cX4_init 120 = .ok (.putfield 55, 3) := by decide +kernel
theorem dX4_init_123 : decode cX4_init 123 = .ok (.aload_n 0, 1) := by decide +kernel
theorem dX4_init_124 : decode cX4_init 124 = .ok (.bipush 36, 2) := by decide +kernel
theorem dX4_init_126 : decode cX4_init 126 = .ok (.newarray .int, 2) := by decide +kernel
theorem dX4_init_128 : decode cX4_init 128 = .ok (.putfield 58, 3) := by decide +kernel
theorem dX4_init_131 : decode cX4_init 131 = .ok (.return_, 1) := by decide +kernel
theorem dX5_init_0 : decode cX5_init 0 = .ok (.aload_n 0, 1) := by decide +kernel
theorem dX5_init_1 : decode cX5_init 1 = .ok (.invokespecial 5, 3) := by decide +kernel
theorem dX5_init_4 : decode cX5_init 4 = .ok (.aload_n 0, 1) := by decide +kernel
theorem dX5_init_5 : decode cX5_init 5 = .ok (.aload_n 1, 1) := by decide +kernel
theorem dX5_init_6 : decode cX5_init 6 = .ok (.putfield 11, 3) := by decide +kernel
theorem dX5_init_9 : decode cX5_init 9 = .ok (.aload_n 0, 1) := by decide +kernel
theorem dX5_init_10 : decode cX5_init 10 = .ok (.aload_n 1, 1) := by decide +kernel
theorem dX5_init_11 : decode cX5_init 11 = .ok (.getfield 15, 3) := by decide +kernel
theorem dX5_init_14 : decode cX5_init 14 = .ok (.putfield 21, 3) := by decide +kernel
theorem dX5_init_17 : decode cX5_init 17 = .ok (.aload_n 0, 1) := by decide +kernel
theorem dX5_init_18 : decode cX5_init 18 = .ok (.new 22, 3) := by decide +kernel
theorem dX5_init_21 : decode cX5_init 21 = .ok (.dup, 1) := by decide +kernel
theorem dX5_init_22 : decode cX5_init 22 = .ok (.invokespecial 24, 3) := by decide +kernel
theorem dX5_init_25 : decode cX5_init 25 = .ok (.putfield 25, 3) := by decide +kernel
theorem dX5_init_28 : decode cX5_init 28 = .ok (.aload_n 0, 1) := by decide +kernel
theorem dX5_init_29 : decode cX5_init 29 = .ok (.sipush 228, 3) := by decide +kernel
theorem dX5_init_32 : decode cX5_init 32 = .ok (.newarray .int, 2) := by decide +kernel
theorem dX5_init_34 : decode cX5_init 34 = .ok (.putfield 29, 3) := by decide +kernel
theorem dX5_init_37 : decode cX5_init 37 = .ok (.aload_n 0, 1) := by decide +kernel
theorem dX5_init_38 : decode cX5_init 38 = .ok (.bipush 84, 2) := by decide +kernel
theorem dX5_init_40 : decode cX5_init 40 = .ok (.newarray .int, 2) := by decide +kernel
theorem dX5_init_42 : decode cX5_init 42 = .ok (.putfield 33, 3) := by decide +kernel
theorem dX5_init_45 : decode cX5_init 45 = .ok (.aload_n 0, 1) := by decide +kernel
theorem dX5_init_46 : decode cX5_init 46 = .ok (.bipush 84, 2) := by decide +kernel
theorem dX5_init_48 : decode cX5_init 48 = .ok (.newarray .int, 2) := by decide +kernel
theorem dX5_init_50 : decode cX5_init 50 = .ok (.putfield 36, 3) := by decide +kernel
theorem dX5_init_53 : decode cX5_init 53 = .ok (.aload_n 0, 1) := by decide +kernel
theorem dX5_init_54 : decode cX5_init 54 = .ok (.bipush 84, 2) := by decide +kernel
theorem dX5_init_56 : decode cX5_init 56 = .ok (.newarray .int, 2) := by decide +kernel
theorem dX5_init_58 : decode cX5_init 58 = .ok (.putfield 39, 3) := by decide +kernel
theorem dX5_init_61 : decode cX5_init 61 = .ok (.return_, 1) := by decide +kernel
theorem dX6_init_0 : decode cX6_init 0 = .ok (.aload_n 0, 1) := by decide +kernel
theorem dX6_init_1 : decode cX6_init 1 = .ok (.invokespecial 3, 3) := by decide +kernel
theorem dX6_init_4 : decode cX6_init 4 = .ok (.aload_n 0, 1) := by decide +kernel
theorem dX6_init_5 : decode cX6_init 5 = .ok (.aload_n 1, 1) := by decide +kernel
theorem dX6_init_6 : decode cX6_init 6 = .ok (.putfield 9, 3) := by decide +kernel
theorem dX6_init_9 : decode cX6_init 9 = .ok (.aload_n 0, 1) := by decide +kernel
theorem dX6_init_10 : decode cX6_init 10 = .ok (.sipush 702, 3) := by decide +kernel
theorem dX6_init_13 : decode cX6_init 13 = .ok (.newarray .int, 2) := by decide +kernel
theorem dX6_init_15 : decode cX6_init 15 = .ok (.putfield 17, 3) := by decide +kernel
theorem dX6_init_18 : decode cX6_init 18 = .ok (.aload_n 0, 1) := by decide +kernel
theorem dX6_init_19 : decode cX6_init 19 = .ok (.sipush 702, 3) := by decide +kernel
theorem dX6_init_22 : decode cX6_init 22 = .ok (.newarray .int, 2) := by decide +kernel
theorem dX6_init_24 : decode cX6_init 24 = .ok (.putfield 21, 3) := by decide +kernel
theorem dX6_init_27 : decode cX6_init 27 = .ok (.aload_n 0, 1) := by decide +kernel
theorem dX6_init_28 : decode cX6_init 28 = .ok (.bipush 24, 2) := by decide +kernel
theorem dX6_init_30 : decode cX6_init 30 = .ok (.newarray .int, 2) := by decide +kernel
theorem dX6_init_32 : decode cX6_init 32 = .ok (.putfield 24, 3) := by decide +kernel
theorem dX6_init_35 : decode cX6_init 35 = .ok (.aload_n 0, 1) := by decide +kernel
theorem dX6_init_36 : decode cX6_init 36 = .ok (.bipush 24, 2) := by decide +kernel
theorem dX6_init_38 : decode cX6_init 38 = .ok (.newarray .int, 2) := by decide +kernel
theorem dX6_init_40 : decode cX6_init 40 = .ok (.putfield 27, 3) := by decide +kernel
theorem dX6_init_43 : decode cX6_init 43 = .ok (.aload_n 0, 1) := by decide +kernel
theorem dX6_init_44 : decode cX6_init 44 = .ok (.bipush 24, 2) := by decide +kernel
theorem dX6_init_46 : decode cX6_init 46 = .ok (.newarray .int, 2) := by decide +kernel
theorem dX6_init_48 : decode cX6_init 48 = .ok (.putfield 30, 3) := by decide +kernel
theorem dX6_init_51 : decode cX6_init 51 = .ok (.aload_n 0, 1) := by decide +kernel
theorem dX6_init_52 : decode cX6_init 52 = .ok (.bipush 6, 2) := by decide +kernel
theorem dX6_init_54 : decode cX6_init 54 = .ok (.newarray .int, 2) := by decide +kernel
theorem dX6_init_56 : decode cX6_init 56 = .ok (.putfield 33, 3) := by decide +kernel
theorem dX6_init_59 : decode cX6_init 59 = .ok (.aload_n 0, 1) := by decide +kernel
theorem dX6_init_60 : decode cX6_init 60 = .ok (.bipush 6, 2) := by decide +kernel
theorem dX6_init_62 : decode cX6_init 62 = .ok (.newarray .int, 2) := by decide +kernel
theorem dX6_init_64 : decode cX6_init 64 = .ok (.putfield 36, 3) := by decide +kernel
theorem dX6_init_67 : decode cX6_init 67 = .ok (.return_, 1) := by decide +kernel
theorem dX6_clear_0 : decode cX6_clear 0 = .ok (.aload_n 0, 1) := by decide +kernel
theorem dX6_clear_1 : decode cX6_clear 1 = .ok (.iconst 0, 1) := by decide +kernel
theorem dX6_clear_2 : decode cX6_clear 2 = .ok (.putfield 39, 3) := by decide +kernel
theorem dX6_clear_5 : decode cX6_clear 5 = .ok (.aload_n 0, 1) := by decide +kernel
theorem dX6_clear_6 : decode cX6_clear 6 = .ok (.iconst 0, 1) := by decide +kernel
theorem dX6_clear_7 : decode cX6_clear 7 = .ok (.putfield 43, 3) := by decide +kernel
theorem dX6_clear_10 : decode cX6_clear 10 = .ok (.aload_n 0, 1) := by decide +kernel
theorem dX6_clear_11 : decode cX6_clear 11 = .ok (.iconst 0, 1) := by decide +kernel
theorem dX6_clear_12 : decode cX6_clear 12 = .ok (.putfield 46, 3) := by decide +kernel
theorem dX6_clear_15 : decode cX6_clear 15 = .ok (.aload_n 0, 1) := by decide +kernel
theorem dX6_clear_16 : decode cX6_clear 16 = .ok (.getfield 17, 3) := by decide +kernel
theorem dX6_clear_19 : decode cX6_clear 19 = .ok (.iconst 0, 1) := by decide +kernel
theorem dX6_clear_20 : decode cX6_clear 20 = .ok (.invokestatic 49, 3) := by decide +kernel
theorem dX6_clear_23 : decode cX6_clear 23 = .ok (.aload_n 0, 1) := by decide +kernel
theorem dX6_clear_24 : decode cX6_clear 24 = .ok (.getfield 21, 3) := by decide +kernel
theorem dX6_clear_27 : decode cX6_clear 27 = .ok (.iconst (-1), 1) := by decide +kernel
theorem dX6_clear_28 : decode cX6_clear 28 = .ok (.invokestatic 49, 3) := by decide +kernel
theorem dX6_clear_31 : decode cX6_clear 31 = .ok (.return_, 1) := by decide +kernel
theorem dX6_judge_0 : decode cX6_judge 0 = .ok (.iconst 0, 1) := by decide +kernel
theorem dX6_judge_1 : decode cX6_judge 1 = .ok (.istore_n 1, 1) := by decide +kernel
theorem dX6_judge_2 : decode cX6_judge 2 = .ok (.iload_n 1, 1) := by decide +kernel
theorem dX6_judge_3 : decode cX6_judge 3 = .ok (.aload_n 0, 1) := by decide +kernel
theorem dX6_judge_4 : decode cX6_judge 4 = .ok (.getfield 9, 3) := by decide +kernel
theorem dX6_judge_7 : decode cX6_judge 7 = .ok (.getfield 55, 3) := by decide +kernel
theorem dX6_judge_10 : decode cX6_judge 10 = .ok (.if_icmp .ge 39, 3) := by decide +kernel
theorem dX6_judge_13 : decode cX6_judge 13 = .ok (.aload_n 0, 1) := by decide +kernel
theorem dX6_judge_14 : decode cX6_judge 14 = .ok (.getfield 17, 3) := by decide +kernel
theorem dX6_judge_17 : decode cX6_judge 17 = .ok (.iload_n 1, 1) := by decide +kernel
theorem dX6_judge_18 : decode cX6_judge 18 = .ok (.iaload, 1) := by decide +kernel
theorem dX6_judge_19 : decode cX6_judge 19 = .ok (.ifCond .ne 7, 3) := by decide +kernel
theorem dX6_judge_22 : decode cX6_judge 22 = .ok (.iconst 0, 1) := by decide +kernel
theorem dX6_judge_23 : decode cX6_judge 23 = .ok (.goto 8, 3) := by decide +kernel
theorem dX6_judge_26 : decode cX6_judge 26 = .ok (.aload_n 0, 1) := by decide +kernel
theorem dX6_judge_27 : decode cX6_judge 27 = .ok (.iload_n 1, 1) := by decide +kernel
theorem dX6_judge_28 : decode cX6_judge 28 = .ok (.invokevirtual 58, 3) := by decide +kernel
theorem dX6_judge_31 : decode cX6_judge 31 = .ok (.istore_n 2, 1) := by decide +kernel
theorem dX6_judge_32 : decode cX6_judge 32 = .ok (.iload_n 2, 1) := by decide +kernel
theorem dX6_judge_33 : decode cX6_judge 33 = .ok (.ifCond .eq 10, 3) := by decide +kernel
theorem dX6_judge_36 : decode cX6_judge 36 = .ok (.aload_n 0, 1) := by decide +kernel
theorem dX6_judge_37 : decode cX6_judge 37 = .ok (.iload_n 1, 1) := by decide +kernel
theorem dX6_judge_38 : decode cX6_judge 38 = .ok (.putfield 62, 3) := by decide +kernel
theorem dX6_judge_41 : decode cX6_judge 41 = .ok (.iload_n 2, 1) := by decide +kernel
theorem dX6_judge_42 : decode cX6_judge 42 = .ok (.ireturn, 1) := by decide +kernel
theorem dX6_judge_43 : decode cX6_judge 43 = .ok (.iinc 1 1, 3) := by decide +kernel
theorem dX6_judge_46 : decode cX6_judge 46 = .ok (.goto (-44), 3) := by decide +kernel
theorem dX6_judge_49 : decode cX6_judge 49 = .ok (.iconst 0, 1) := by decide +kernel
theorem dX6_judge_50 : decode cX6_judge 50 = .ok (.ireturn, 1) := by decide +kernel
theorem dX7_init_0 : decode cX7_init 0 = .ok (.aload_n 0, 1) := by decide +kernel
theorem dX7_init_1 : decode cX7_init 1 = .ok (.invokespecial 5, 3) := by decide +kernel
theorem dX7_init_4 : decode cX7_init 4 = .ok (.aload_n 0, 1) := by decide +kernel
theorem dX7_init_5 : decode cX7_init 5 = .ok (.aload_n 1, 1) := by decide +kernel
theorem dX7_init_6 : decode cX7_init 6 = .ok (.putfield 11, 3) := by decide +kernel
theorem dX7_init_9 : decode cX7_init 9 = .ok (.aload_n 0, 1) := by decide +kernel
theorem dX7_init_10 : decode cX7_init 10 = .ok (.aload_n 2, 1) := by decide +kernel
theorem dX7_init_11 : decode cX7_init 11 = .ok (.putfield 15, 3) := by decide +kernel
theorem dX7_init_14 : decode cX7_init 14 = .ok (.aload_n 0, 1) := by decide +kernel
theorem dX7_init_15 : decode cX7_init 15 = .ok (.aload_n 3, 1) := by decide +kernel
theorem dX7_init_16 : decode cX7_init 16 = .ok (.putfield 19, 3) := by decide +kernel
theorem dX7_init_19 : decode cX7_init 19 = .ok (.aload_n 0, 1) := by decide +kernel
theorem dX7_init_20 : decode cX7_init 20 = .ok (.aload_n 3, 1) := by decide +kernel
theorem dX7_init_21 : decode cX7_init 21 = .ok (.getfield 23, 3) := by decide +kernel
theorem dX7_init_24 : decode cX7_init 24 = .ok (.putfield 29, 3) := by decide +kernel
theorem dX7_init_27 : decode cX7_init 27 = .ok (.aload_n 0, 1) := by decide +kernel
theorem dX7_init_28 : decode cX7_init 28 = .ok (.bipush 8, 2) := by decide +kernel
theorem dX7_init_30 : decode cX7_init 30 = .ok (.newarray .int, 2) := by decide +kernel
theorem dX7_init_32 : decode cX7_init 32 = .ok (.putfield 30, 3) := by decide +kernel
theorem dX7_init_35 : decode cX7_init 35 = .ok (.aload_n 0, 1) := by decide +kernel
theorem dX7_init_36 : decode cX7_init 36 = .ok (.bipush 20, 2) := by decide +kernel
theorem dX7_init_38 : decode cX7_init 38 = .ok (.newarray .int, 2) := by decide +kernel
theorem dX7_init_40 : decode cX7_init 40 = .ok (.putfield 34, 3) := by decide +kernel
theorem dX7_init_43 : decode cX7_init 43 = .ok (.aload_n 0, 1) := by decide +kernel
theorem dX7_init_44 : decode cX7_init 44 = .ok (.bipush 20, 2) := by decide +kernel
theorem dX7_init_46 : decode cX7_init 46 = .ok (.newarray .int, 2) := by decide +kernel
theorem dX7_init_48 : decode cX7_init 48 = .ok (.putfield 37, 3) := by decide +kernel
theorem dX7_init_51 : decode cX7_init 51 = .ok (.aload_n 0, 1) := by decide +kernel
theorem dX7_init_52 : decode cX7_init 52 = .ok (.bipush 20, 2) := by decide +kernel
theorem dX7_init_54 : decode cX7_init 54 = .ok (.newarray .int, 2) := by decide +kernel
theorem dX7_init_56 : decode cX7_init 56 = .ok (.putfield 40, 3) := by decide +kernel
theorem dX7_init_59 : decode cX7_init 59 = .ok (.aload_n 0, 1) := by decide +kernel
theorem dX7_init_60 : decode cX7_init 60 = .ok (.bipush 20, 2) := by decide +kernel
theorem dX7_init_62 : decode cX7_init 62 = .ok (.newarray .int, 2) := by decide +kernel
theorem dX7_init_64 : decode cX7_init 64 = .ok (.putfield 43, 3) := by decide +kernel
theorem dX7_init_67 : decode cX7_init 67 = .ok (.aload_n 0, 1) := by decide +kernel
theorem dX7_init_68 : decode cX7_init 68 = .ok (.bipush 20, 2) := by decide +kernel
theorem dX7_init_70 : decode cX7_init 70 = .ok (.newarray .int, 2) := by decide +kernel
theorem dX7_init_72 : decode cX7_init 72 = .ok (.putfield 46, 3) := by decide +kernel
theorem dX7_init_75 : decode cX7_init 75 = .ok (.aload_n 0, 1) := by decide +kernel
theorem dX7_init_76 : decode cX7_init 76 = .ok (.bipush 20, 2) := by decide +kernel
theorem dX7_init_78 : decode cX7_init 78 = .ok (.newarray .int, 2) := by decide +kernel
theorem dX7_init_80 : decode cX7_init 80 = .ok (.putfield 49, 3) := by decide +kernel
theorem dX7_init_83 : decode cX7_init 83 = .ok (.return_, 1) := by decide +kernel
theorem dX7_readAll_0 : decode cX7_readAll 0 = .ok (.aload_n 0, 1) := by decide +kernel
theorem dX7_readAll_1 : decode cX7_readAll 1 = .ok (.getfield 15, 3) := by decide +kernel
theorem dX7_readAll_4 : decode cX7_readAll 4 = .ok (.invokevirtual 56, 3) := by decide +kernel
theorem dX7_readAll_7 : decode cX7_readAll 7 = .ok (.aload_n 0, 1) := by decide +kernel
theorem dX7_readAll_8 : decode cX7_readAll 8 = .ok (.getfield 19, 3) := by decide +kernel
theorem dX7_readAll_11 : decode cX7_readAll 11 = .ok (.invokevirtual 61, 3) := by decide +kernel
theorem dX7_readAll_14 : decode cX7_readAll 14 = .ok (.aload_n 0, 1) := by decide +kernel
theorem dX7_readAll_15 : decode cX7_readAll 15 = .ok (.iconst 0, 1) := by decide +kernel
theorem dX7_readAll_16 : decode cX7_readAll 16 = .ok (.putfield 52, 3) := by decide +kernel
theorem dX7_readAll_19 : decode cX7_readAll 19 = .ok (.aload_n 0, 1) := by decide +kernel
theorem dX7_readAll_20 : decode cX7_readAll 20 = .ok (.iconst 0, 1) := by decide +kernel
theorem dX7_readAll_21 : decode cX7_readAll 21 = .ok (.putfield 62, 3) := by decide +kernel
theorem dX7_readAll_24 : decode cX7_readAll 24 = .ok (.aload_n 0, 1) := by decide +kernel
theorem dX7_readAll_25 : decode cX7_readAll 25 = .ok (.iconst 0, 1) := by decide +kernel
theorem dX7_readAll_26 : decode cX7_readAll 26 = .ok (.putfield 65, 3) := by decide +kernel
theorem dX7_readAll_29 : decode cX7_readAll 29 = .ok (.iconst 0, 1) := by decide +kernel
theorem dX7_readAll_30 : decode cX7_readAll 30 = .ok (.istore_n 1, 1) := by decide +kernel
theorem dX7_readAll_31 : decode cX7_readAll 31 = .ok (.iload_n 1, 1) := by decide +kernel
theorem dX7_readAll_32 : decode cX7_readAll 32 = .ok (.sipush 700, 3) := by decide +kernel
theorem dX7_readAll_35 : decode cX7_readAll 35 = .ok (.if_icmp .gt 57, 3) := by decide +kernel
theorem dX7_readAll_38 : decode cX7_readAll 38 = .ok (.aload_n 0, 1) := by decide +kernel
theorem dX7_readAll_39 : decode cX7_readAll 39 = .ok (.getfield 65, 3) := by decide +kernel
theorem dX7_readAll_42 : decode cX7_readAll 42 = .ok (.ifCond .ne 10, 3) := by decide +kernel
theorem dX7_readAll_45 : decode cX7_readAll 45 = .ok (.aload_n 0, 1) := by decide +kernel
theorem dX7_readAll_46 : decode cX7_readAll 46 = .ok (.invokevirtual 71, 3) := by decide +kernel
theorem dX7_readAll_49 : decode cX7_readAll 49 = .ok (.ifCond .eq 43, 3) := by decide +kernel
theorem dX7_readAll_52 : decode cX7_readAll 52 = .ok (.aload_n 0, 1) := by decide +kernel
theorem dX7_readAll_53 : decode cX7_readAll 53 = .ok (.getfield 65, 3) := by decide +kernel
theorem dX7_readAll_56 : decode cX7_readAll 56 = .ok (.ifCond .ne 10, 3) := by decide +kernel
theorem dX7_readAll_59 : decode cX7_readAll 59 = .ok (.aload_n 0, 1) := by decide +kernel
theorem dX7_readAll_60 : decode cX7_readAll 60 = .ok (.invokevirtual 75, 3) := by decide +kernel
theorem dX7_readAll_63 : decode cX7_readAll 63 = .ok (.goto 23, 3) := by decide +kernel
theorem dX7_readAll_66 : decode cX7_readAll 66 = .ok (.aload_n 0, 1) := by decide +kernel
theorem dX7_readAll_67 : decode cX7_readAll 67 = .ok (.invokevirtual 71, 3) := by decide +kernel
theorem dX7_readAll_70 : decode cX7_readAll 70 = .ok (.bipush 24, 2) := by decide +kernel
theorem dX7_readAll_72 : decode cX7_readAll 72 = .ok (.if_icmp .ne 10, 3) := by decide +kernel
theorem dX7_readAll_75 : decode cX7_readAll 75 = .ok (.aload_n 0, 1) := by decide +kernel
theorem dX7_readAll_76 : decode cX7_readAll 76 = .ok (.invokevirtual 78, 3) := by decide +kernel
theorem dX7_readAll_79 : decode cX7_readAll 79 = .ok (.goto 7, 3) := by decide +kernel
theorem dX7_readAll_82 : decode cX7_readAll 82 = .ok (.aload_n 0, 1) := by decide +kernel
theorem dX7_readAll_83 : decode cX7_readAll 83 = .ok (.invokevirtual 81, 3) := by decide +kernel
theorem dX7_readAll_86 : decode cX7_readAll 86 = .ok (.iinc 1 1, 3) := by decide +kernel
theorem dX7_readAll_89 : decode cX7_readAll 89 = .ok (.goto (-58), 3) := by decide +kernel
theorem dX7_readAll_92 : decode cX7_readAll 92 = .ok (.return_, 1) := by decide +kernel
theorem dX7_sort_0 : decode cX7_sort 0 = .ok (.aload_n 0, 1) := by decide +kernel
theorem dX7_sort_1 : decode cX7_sort 1 = .ok (.getfield 11, 3) := by decide +kernel
theorem dX7_sort_4 : decode cX7_sort 4 = .ok (.getfield 100, 3) := by decide +kernel
theorem dX7_sort_7 : decode cX7_sort 7 = .ok (.aload_n 0, 1) := by decide +kernel
theorem dX7_sort_8 : decode cX7_sort 8 = .ok (.getfield 52, 3) := by decide +kernel
theorem dX7_sort_11 : decode cX7_sort 11 = .ok (.iaload, 1) := by decide +kernel
theorem dX7_sort_12 : decode cX7_sort 12 = .ok (.ireturn, 1) := by decide +kernel
theorem dX7_link_0 : decode cX7_link 0 = .ok (.iconst 0, 1) := by decide +kernel
theorem dX7_link_1 : decode cX7_link 1 = .ok (.istore_n 1, 1) := by decide +kernel
theorem dX7_link_2 : decode cX7_link 2 = .ok (.iload_n 1, 1) := by decide +kernel
theorem dX7_link_3 : decode cX7_link 3 = .ok (.aload_n 0, 1) := by decide +kernel
theorem dX7_link_4 : decode cX7_link 4 = .ok (.getfield 29, 3) := by decide +kernel
theorem dX7_link_7 : decode cX7_link 7 = .ok (.getfield 173, 3) := by decide +kernel
theorem dX7_link_10 : decode cX7_link 10 = .ok (.if_icmp .ge 122, 3) := by decide +kernel
theorem dX7_link_13 : decode cX7_link 13 = .ok (.aload_n 0, 1) := by decide +kernel
theorem dX7_link_14 : decode cX7_link 14 = .ok (.getfield 29, 3) := by decide +kernel
theorem dX7_link_17 : decode cX7_link 17 = .ok (.getfield 220, 3) := by decide +kernel
theorem dX7_link_20 : decode cX7_link 20 = .ok (.iload_n 1, 1) := by decide +kernel
theorem dX7_link_21 : decode cX7_link 21 = .ok (.iaload, 1) := by decide +kernel
theorem dX7_link_22 : decode cX7_link 22 = .ok (.istore_n 2, 1) := by decide +kernel
theorem dX7_link_23 : decode cX7_link 23 = .ok (.iload_n 2, 1) := by decide +kernel
theorem dX7_link_24 : decode cX7_link 24 = .ok (.iconst (-1), 1) := by decide +kernel
theorem dX7_link_25 : decode cX7_link 25 = .ok (.if_icmp .eq 101, 3) := by decide +kernel
theorem dX7_link_28 : decode cX7_link 28 = .ok (.aload_n 0, 1) := by decide +kernel
theorem dX7_link_29 : decode cX7_link 29 = .ok (.getfield 29, 3) := by decide +kernel
theorem dX7_link_32 : decode cX7_link 32 = .ok (.getfield 322, 3) := by decide +kernel
theorem dX7_link_35 : decode cX7_link 35 = .ok (.iload_n 1, 1) := by decide +kernel
theorem dX7_link_36 : decode cX7_link 36 = .ok (.iaload, 1) := by decide +kernel
theorem dX7_link_37 : decode cX7_link 37 = .ok (.bipush 10, 2) := by decide +kernel
theorem dX7_link_39 : decode cX7_link 39 = .ok (.if_icmp .gt 87, 3) := by decide +kernel
theorem dX7_link_42 : decode cX7_link 42 = .ok (.aload_n 0, 1) := by decide +kernel
theorem dX7_link_43 : decode cX7_link 43 = .ok (.getfield 15, 3) := by decide +kernel
theorem dX7_link_46 : decode cX7_link 46 = .ok (.getfield 254, 3) := by decide +kernel
theorem dX7_link_49 : decode cX7_link 49 = .ok (.iload_n 2, 1) := by decide +kernel
theorem dX7_link_50 : decode cX7_link 50 = .ok (.iaload, 1) := by decide +kernel
theorem dX7_link_51 : decode cX7_link 51 = .ok (.istore_n 3, 1) := by decide +kernel
theorem dX7_link_52 : decode cX7_link 52 = .ok (.aload_n 0, 1) := by decide +kernel
theorem dX7_link_53 : decode cX7_link 53 = .ok (.getfield 29, 3) := by decide +kernel
theorem dX7_link_56 : decode cX7_link 56 = .ok (.getfield 322, 3) := by decide +kernel
theorem dX7_link_59 : decode cX7_link 59 = .ok (.iload_n 1, 1) := by decide +kernel
theorem dX7_link_60 : decode cX7_link 60 = .ok (.iaload, 1) := by decide +kernel
theorem dX7_link_61 : decode cX7_link 61 = .ok (.iconst 4, 1) := by decide +kernel
theorem dX7_link_62 : decode cX7_link 62 = .ok (.if_icmp .gt 7, 3) := by decide +kernel
theorem dX7_link_65 : decode cX7_link 65 = .ok (.iconst 1, 1) := by decide +kernel
theorem dX7_link_66 : decode cX7_link 66 = .ok (.goto 4, 3) := by decide +kernel
theorem dX7_link_69 : decode cX7_link 69 = .ok (.iconst 0, 1) := by decide +kernel
theorem dX7_link_70 : decode cX7_link 70 = .ok (.istore 4, 2) := by decide +kernel
theorem dX7_link_72 : decode cX7_link 72 = .ok (.aload_n 0, 1) := by decide +kernel
theorem dX7_link_73 : decode cX7_link 73 = .ok (.getfield 29, 3) := by decide +kernel
theorem dX7_link_76 : decode cX7_link 76 = .ok (.getfield 220, 3) := by decide +kernel
theorem dX7_link_79 : decode cX7_link 79 = .ok (.iload_n 1, 1) := by decide +kernel
theorem dX7_link_80 : decode cX7_link 80 = .ok (.iload 4, 2) := by decide +kernel
theorem dX7_link_82 : decode cX7_link 82 = .ok (.ifCond .eq 15, 3) := by decide +kernel
theorem dX7_link_85 : decode cX7_link 85 = .ok (.aload_n 0, 1) := by decide +kernel
theorem dX7_link_86 : decode cX7_link 86 = .ok (.getfield 15, 3) := by decide +kernel
theorem dX7_link_89 : decode cX7_link 89 = .ok (.getfield 325, 3) := by decide +kernel
theorem dX7_link_92 : decode cX7_link 92 = .ok (.iload_n 3, 1) := by decide +kernel
theorem dX7_link_93 : decode cX7_link 93 = .ok (.iaload, 1) := by decide +kernel
theorem dX7_link_94 : decode cX7_link 94 = .ok (.goto 4, 3) := by decide +kernel
theorem dX7_link_97 : decode cX7_link 97 = .ok (.iload_n 3, 1) := by decide +kernel
theorem dX7_link_98 : decode cX7_link 98 = .ok (.iastore, 1) := by decide +kernel
theorem dX7_link_99 : decode cX7_link 99 = .ok (.aload_n 0, 1) := by decide +kernel
theorem dX7_link_100 : decode cX7_link 100 = .ok (.getfield 29, 3) := by decide +kernel
theorem dX7_link_103 : decode cX7_link 103 = .ok (.getfield 328, 3) := by decide +kernel
theorem dX7_link_106 : decode cX7_link 106 = .ok (.iload_n 1, 1) := by decide +kernel
theorem dX7_link_107 : decode cX7_link 107 = .ok (.iload 4, 2) := by decide +kernel
theorem dX7_link_109 : decode cX7_link 109 = .ok (.ifCond .eq 15, 3) := by decide +kernel
theorem dX7_link_112 : decode cX7_link 112 = .ok (.aload_n 0, 1) := by decide +kernel
theorem dX7_link_113 : decode cX7_link 113 = .ok (.getfield 15, 3) := by decide +kernel
theorem dX7_link_116 : decode cX7_link 116 = .ok (.getfield 331, 3) := by decide +kernel
theorem dX7_link_119 : decode cX7_link 119 = .ok (.iload_n 3, 1) := by decide +kernel
theorem dX7_link_120 : decode cX7_link 120 = .ok (.iaload, 1) := by decide +kernel
theorem dX7_link_121 : decode cX7_link 121 = .ok (.goto 4, 3) := by decide +kernel
theorem dX7_link_124 : decode cX7_link 124 = .ok (.iconst 0, 1) := by decide +kernel
theorem dX7_link_125 : decode cX7_link 125 = .ok (.iastore, 1) := by decide +kernel
theorem dX7_link_126 : decode cX7_link 126 = .ok (.iinc 1 1, 3) := by decide +kernel
theorem dX7_link_129 : decode cX7_link 129 = .ok (.goto (-127), 3) := by decide +kernel
theorem dX7_link_132 : decode cX7_link 132 = .ok (.iconst 0, 1) := by decide +kernel
theorem dX7_link_133 : decode cX7_link 133 = .ok (.istore_n 1, 1) := by decide +kernel
theorem dX7_link_134 : decode cX7_link 134 = .ok (.iload_n 1, 1) := by decide +kernel
theorem dX7_link_135 : decode cX7_link 135 = .ok (.aload_n 0, 1) := by decide +kernel
theorem dX7_link_136 : decode cX7_link 136 = .ok (.getfield 19, 3) := by decide +kernel
theorem dX7_link_139 : decode cX7_link 139 = .ok (.getfield 289, 3) := by decide +kernel
theorem dX7_link_142 : decode cX7_link 142 = .ok (.if_icmp .ge 101, 3) := by decide +kernel
theorem dX7_link_145 : decode cX7_link 145 = .ok (.aload_n 0, 1) := by decide +kernel
theorem dX7_link_146 : decode cX7_link 146 = .ok (.getfield 19, 3) := by decide +kernel
theorem dX7_link_149 : decode cX7_link 149 = .ok (.getfield 334, 3) := by decide +kernel
theorem dX7_link_152 : decode cX7_link 152 = .ok (.iload_n 1, 1) := by decide +kernel
theorem dX7_link_153 : decode cX7_link 153 = .ok (.iaload, 1) := by decide +kernel
theorem dX7_link_154 : decode cX7_link 154 = .ok (.istore_n 2, 1) := by decide +kernel
theorem dX7_link_155 : decode cX7_link 155 = .ok (.aload_n 0, 1) := by decide +kernel
theorem dX7_link_156 : decode cX7_link 156 = .ok (.getfield 19, 3) := by decide +kernel
theorem dX7_link_159 : decode cX7_link 159 = .ok (.getfield 337, 3) := by decide +kernel
theorem dX7_link_162 : decode cX7_link 162 = .ok (.iload_n 1, 1) := by decide +kernel
theorem dX7_link_163 : decode cX7_link 163 = .ok (.iaload, 1) := by decide +kernel
theorem dX7_link_164 : decode cX7_link 164 = .ok (.bipush 6, 2) := by decide +kernel
theorem dX7_link_166 : decode cX7_link 166 = .ok (.if_icmp .ne 71, 3) := by decide +kernel
theorem dX7_link_169 : decode cX7_link 169 = .ok (.aload_n 0, 1) := by decide +kernel
theorem dX7_link_170 : decode cX7_link 170 = .ok (.getfield 15, 3) := by decide +kernel
theorem dX7_link_173 : decode cX7_link 173 = .ok (.getfield 109, 3) := by decide +kernel
theorem dX7_link_176 : decode cX7_link 176 = .ok (.iload_n 2, 1) := by decide +kernel
theorem dX7_link_177 : decode cX7_link 177 = .ok (.iaload, 1) := by decide +kernel
theorem dX7_link_178 : decode cX7_link 178 = .ok (.bipush 7, 2) := by decide +kernel
theorem dX7_link_180 : decode cX7_link 180 = .ok (.if_icmp .ne 17, 3) := by decide +kernel
theorem dX7_link_183 : decode cX7_link 183 = .ok (.aload_n 0, 1) := by decide +kernel
theorem dX7_link_184 : decode cX7_link 184 = .ok (.getfield 11, 3) := by decide +kernel
theorem dX7_link_187 : decode cX7_link 187 = .ok (.getfield 147, 3) := by decide +kernel
theorem dX7_link_190 : decode cX7_link 190 = .ok (.iload_n 2, 1) := by decide +kernel
theorem dX7_link_191 : decode cX7_link 191 = .ok (.iconst 2, 1) := by decide +kernel
theorem dX7_link_192 : decode cX7_link 192 = .ok (.iadd, 1) := by decide +kernel
theorem dX7_link_193 : decode cX7_link 193 = .ok (.iaload, 1) := by decide +kernel
theorem dX7_link_194 : decode cX7_link 194 = .ok (.goto 4, 3) := by decide +kernel
theorem dX7_link_197 : decode cX7_link 197 = .ok (.iconst 0, 1) := by decide +kernel
theorem dX7_link_198 : decode cX7_link 198 = .ok (.istore_n 3, 1) := by decide +kernel
theorem dX7_link_199 : decode cX7_link 199 = .ok (.aload_n 0, 1) := by decide +kernel
theorem dX7_link_200 : decode cX7_link 200 = .ok (.getfield 19, 3) := by decide +kernel
theorem dX7_link_203 : decode cX7_link 203 = .ok (.getfield 337, 3) := by decide +kernel
theorem dX7_link_206 : decode cX7_link 206 = .ok (.iload_n 1, 1) := by decide +kernel
theorem dX7_link_207 : decode cX7_link 207 = .ok (.iconst 2, 1) := by decide +kernel
theorem dX7_link_208 : decode cX7_link 208 = .ok (.iastore, 1) := by decide +kernel
theorem dX7_link_209 : decode cX7_link 209 = .ok (.aload_n 0, 1) := by decide +kernel
theorem dX7_link_210 : decode cX7_link 210 = .ok (.getfield 19, 3) := by decide +kernel
theorem dX7_link_213 : decode cX7_link 213 = .ok (.getfield 334, 3) := by decide +kernel
theorem dX7_link_216 : decode cX7_link 216 = .ok (.iload_n 1, 1) := by decide +kernel
theorem dX7_link_217 : decode cX7_link 217 = .ok (.aload_n 0, 1) := by decide +kernel
theorem dX7_link_218 : decode cX7_link 218 = .ok (.getfield 15, 3) := by decide +kernel
theorem dX7_link_221 : decode cX7_link 221 = .ok (.getfield 325, 3) := by decide +kernel
theorem dX7_link_224 : decode cX7_link 224 = .ok (.aload_n 0, 1) := by decide +kernel
theorem dX7_link_225 : decode cX7_link 225 = .ok (.getfield 15, 3) := by decide +kernel
theorem dX7_link_228 : decode cX7_link 228 = .ok (.getfield 254, 3) := by decide +kernel
theorem dX7_link_231 : decode cX7_link 231 = .ok (.iload_n 2, 1) := by decide +kernel
theorem dX7_link_232 : decode cX7_link 232 = .ok (.iaload, 1) := by decide +kernel
theorem dX7_link_233 : decode cX7_link 233 = .ok (.iaload, 1) := by decide +kernel
theorem dX7_link_234 : decode cX7_link 234 = .ok (.iload_n 3, 1) := by decide +kernel
theorem dX7_link_235 : decode cX7_link 235 = .ok (.iadd, 1) := by decide +kernel
theorem dX7_link_236 : decode cX7_link 236 = .ok (.iastore, 1) := by decide +kernel
theorem dX7_link_237 : decode cX7_link 237 = .ok (.iinc 1 1, 3) := by decide +kernel
theorem dX7_link_240 : decode cX7_link 240 = .ok (.goto (-106), 3) := by decide +kernel
theorem dX7_link_243 : decode cX7_link 243 = .ok (.return_, 1) := by decide +kernel
theorem dX8_init_0 : decode cX8_init 0 = .ok (.aload_n 0, 1) := by decide +kernel
theorem dX8_init_1 : decode cX8_init 1 = .ok (.invokespecial 3, 3) := by decide +kernel
theorem dX8_init_4 : decode cX8_init 4 = .ok (.aload_n 0, 1) := by decide +kernel
theorem dX8_init_5 : decode cX8_init 5 = .ok (.iload_n 1, 1) := by decide +kernel
theorem dX8_init_6 : decode cX8_init 6 = .ok (.newarray .int, 2) := by decide +kernel
theorem dX8_init_8 : decode cX8_init 8 = .ok (.putfield 9, 3) := by decide +kernel
theorem dX8_init_11 : decode cX8_init 11 = .ok (.aload_n 0, 1) := by decide +kernel
theorem dX8_init_12 : decode cX8_init 12 = .ok (.iload_n 1, 1) := by decide +kernel
theorem dX8_init_13 : decode cX8_init 13 = .ok (.newarray .int, 2) := by decide +kernel
theorem dX8_init_15 : decode cX8_init 15 = .ok (.putfield 15, 3) := by decide +kernel
theorem dX8_init_18 : decode cX8_init 18 = .ok (.aload_n 0, 1) := by decide +kernel
theorem dX8_init_19 : decode cX8_init 19 = .ok (.iload_n 1, 1) := by decide +kernel
theorem dX8_init_20 : decode cX8_init 20 = .ok (.newarray .int, 2) := by decide +kernel
theorem dX8_init_22 : decode cX8_init 22 = .ok (.putfield 18, 3) := by decide +kernel
theorem dX8_init_25 : decode cX8_init 25 = .ok (.aload_n 0, 1) := by decide +kernel
theorem dX8_init_26 : decode cX8_init 26 = .ok (.iload_n 1, 1) := by decide +kernel
theorem dX8_init_27 : decode cX8_init 27 = .ok (.newarray .int, 2) := by decide +kernel
theorem dX8_init_29 : decode cX8_init 29 = .ok (.putfield 21, 3) := by decide +kernel
theorem dX8_init_32 : decode cX8_init 32 = .ok (.aload_n 0, 1) := by decide +kernel
theorem dX8_init_33 : decode cX8_init 33 = .ok (.iload_n 1, 1) := by decide +kernel
theorem dX8_init_34 : decode cX8_init 34 = .ok (.newarray .int, 2) := by decide +kernel
theorem dX8_init_36 : decode cX8_init 36 = .ok (.putfield 24, 3) := by decide +kernel
theorem dX8_init_39 : decode cX8_init 39 = .ok (.aload_n 0, 1) := by decide +kernel
theorem dX8_init_40 : decode cX8_init 40 = .ok (.iload_n 1, 1) := by decide +kernel
theorem dX8_init_41 : decode cX8_init 41 = .ok (.newarray .int, 2) := by decide +kernel
theorem dX8_init_43 : decode cX8_init 43 = .ok (.putfield 27, 3) := by decide +kernel
theorem dX8_init_46 : decode cX8_init 46 = .ok (.aload_n 0, 1) := by decide +kernel
theorem dX8_init_47 : decode cX8_init 47 = .ok (.iload_n 1, 1) := by decide +kernel
theorem dX8_init_48 : decode cX8_init 48 = .ok (.newarray .int, 2) := by decide +kernel
theorem dX8_init_50 : decode cX8_init 50 = .ok (.putfield 30, 3) := by decide +kernel
theorem dX8_init_53 : decode cX8_init 53 = .ok (.aload_n 0, 1) := by decide +kernel
theorem dX8_init_54 : decode cX8_init 54 = .ok (.iload_n 1, 1) := by decide +kernel
theorem dX8_init_55 : decode cX8_init 55 = .ok (.newarray .int, 2) := by decide +kernel
theorem dX8_init_57 : decode cX8_init 57 = .ok (.putfield 33, 3) := by decide +kernel
theorem dX8_init_60 : decode cX8_init 60 = .ok (.aload_n 0, 1) := by decide +kernel
theorem dX8_init_61 : decode cX8_init 61 = .ok (.iload_n 1, 1) := by decide +kernel
theorem dX8_init_62 : decode cX8_init 62 = .ok (.newarray .int, 2) := by decide +kernel
theorem dX8_init_64 : decode cX8_init 64 = .ok (.putfield 36, 3) := by decide +kernel
theorem dX8_init_67 : decode cX8_init 67 = .ok (.return_, 1) := by decide +kernel
theorem dX9_init_0 : decode cX9_init 0 = .ok (.aload_n 0, 1) := by decide +kernel
theorem dX9_init_1 : decode cX9_init 1 = .ok (.invokespecial 3, 3) := by decide +kernel
theorem dX9_init_4 : decode cX9_init 4 = .ok (.aload_n 0, 1) := by decide +kernel
theorem dX9_init_5 : decode cX9_init 5 = .ok (.sipush 3000, 3) := by decide +kernel
theorem dX9_init_8 : decode cX9_init 8 = .ok (.newarray .byte, 2) := by decide +kernel
theorem dX9_init_10 : decode cX9_init 10 = .ok (.putfield 9, 3) := by decide +kernel
theorem dX9_init_13 : decode cX9_init 13 = .ok (.aload_n 0, 1) := by decide +kernel
theorem dX9_init_14 : decode cX9_init 14 = .ok (.sipush 702, 3) := by decide +kernel
theorem dX9_init_17 : decode cX9_init 17 = .ok (.newarray .int, 2) := by decide +kernel
theorem dX9_init_19 : decode cX9_init 19 = .ok (.putfield 15, 3) := by decide +kernel
theorem dX9_init_22 : decode cX9_init 22 = .ok (.aload_n 0, 1) := by decide +kernel
theorem dX9_init_23 : decode cX9_init 23 = .ok (.sipush 702, 3) := by decide +kernel
theorem dX9_init_26 : decode cX9_init 26 = .ok (.newarray .int, 2) := by decide +kernel
theorem dX9_init_28 : decode cX9_init 28 = .ok (.putfield 19, 3) := by decide +kernel
theorem dX9_init_31 : decode cX9_init 31 = .ok (.aload_n 0, 1) := by decide +kernel
theorem dX9_init_32 : decode cX9_init 32 = .ok (.sipush 702, 3) := by decide +kernel
theorem dX9_init_35 : decode cX9_init 35 = .ok (.newarray .int, 2) := by decide +kernel
theorem dX9_init_37 : decode cX9_init 37 = .ok (.putfield 22, 3) := by decide +kernel
theorem dX9_init_40 : decode cX9_init 40 = .ok (.aload_n 0, 1) := by decide +kernel
theorem dX9_init_41 : decode cX9_init 41 = .ok (.sipush 702, 3) := by decide +kernel
theorem dX9_init_44 : decode cX9_init 44 = .ok (.newarray .int, 2) := by decide +kernel
theorem dX9_init_46 : decode cX9_init 46 = .ok (.putfield 25, 3) := by decide +kernel
theorem dX9_init_49 : decode cX9_init 49 = .ok (.aload_n 0, 1) := by decide +kernel
theorem dX9_init_50 : decode cX9_init 50 = .ok (.sipush 702, 3) := by decide +kernel
theorem dX9_init_53 : decode cX9_init 53 = .ok (.newarray .int, 2) := by decide +kernel
theorem dX9_init_55 : decode cX9_init 55 = .ok (.putfield 28, 3) := by decide +kernel
theorem dX9_init_58 : decode cX9_init 58 = .ok (.return_, 1) := by decide +kernel
theorem dX9_addByte_0 : decode cX9_addByte 0 = .ok (.aload_n 0, 1) := by decide +kernel
theorem dX9_addByte_1 : decode cX9_addByte 1 = .ok (.getfield 31, 3) := by decide +kernel
theorem dX9_addByte_4 : decode cX9_addByte 4 = .ok (.sipush 3000, 3) := by decide +kernel
theorem dX9_addByte_7 : decode cX9_addByte 7 = .ok (.if_icmp .ge 24, 3) := by decide +kernel
theorem dX9_addByte_10 : decode cX9_addByte 10 = .ok (.aload_n 0, 1) := by decide +kernel
theorem dX9_addByte_11 : decode cX9_addByte 11 = .ok (.getfield 9, 3) := by decide +kernel
theorem dX9_addByte_14 : decode cX9_addByte 14 = .ok (.aload_n 0, 1) := by decide +kernel
theorem dX9_addByte_15 : decode cX9_addByte 15 = .ok (.getfield 31, 3) := by decide +kernel
theorem dX9_addByte_18 : decode cX9_addByte 18 = .ok (.iload_n 1, 1) := by decide +kernel
theorem dX9_addByte_19 : decode cX9_addByte 19 = .ok (.i2b, 1) := by decide +kernel
theorem dX9_addByte_20 : decode cX9_addByte 20 = .ok (.bastore, 1) := by decide +kernel
theorem dX9_addByte_21 : decode cX9_addByte 21 = .ok (.aload_n 0, 1) := by decide +kernel
theorem dX9_addByte_22 : decode cX9_addByte 22 = .ok (.dup, 1) := by decide +kernel
theorem dX9_addByte_23 : decode cX9_addByte 23 = .ok (.getfield 31, 3) := by decide +kernel
theorem dX9_addByte_26 : decode cX9_addByte 26 = .ok (.iconst 1, 1) := by decide +kernel
theorem dX9_addByte_27 : decode cX9_addByte 27 = .ok (.iadd, 1) := by decide +kernel
theorem dX9_addByte_28 : decode cX9_addByte 28 = .ok (.putfield 31, 3) := by decide +kernel
theorem dX9_addByte_31 : decode cX9_addByte 31 = .ok (.return_, 1) := by decide +kernel
theorem dX9_cut_0 : decode cX9_cut 0 = .ok (.aload_n 0, 1) := by decide +kernel
theorem dX9_cut_1 : decode cX9_cut 1 = .ok (.iconst 0, 1) := by decide +kernel
theorem dX9_cut_2 : decode cX9_cut 2 = .ok (.putfield 35, 3) := by decide +kernel
theorem dX9_cut_5 : decode cX9_cut 5 = .ok (.aload_n 0, 1) := by decide +kernel
theorem dX9_cut_6 : decode cX9_cut 6 = .ok (.iconst 1, 1) := by decide +kernel
theorem dX9_cut_7 : decode cX9_cut 7 = .ok (.putfield 38, 3) := by decide +kernel
theorem dX9_cut_10 : decode cX9_cut 10 = .ok (.aload_n 0, 1) := by decide +kernel
theorem dX9_cut_11 : decode cX9_cut 11 = .ok (.iconst 0, 1) := by decide +kernel
theorem dX9_cut_12 : decode cX9_cut 12 = .ok (.putfield 41, 3) := by decide +kernel
theorem dX9_cut_15 : decode cX9_cut 15 = .ok (.iconst 1, 1) := by decide +kernel
theorem dX9_cut_16 : decode cX9_cut 16 = .ok (.istore_n 1, 1) := by decide +kernel
theorem dX9_cut_17 : decode cX9_cut 17 = .ok (.iconst 0, 1) := by decide +kernel
theorem dX9_cut_18 : decode cX9_cut 18 = .ok (.istore_n 2, 1) := by decide +kernel
theorem dX9_cut_19 : decode cX9_cut 19 = .ok (.iload_n 2, 1) := by decide +kernel
theorem dX9_cut_20 : decode cX9_cut 20 = .ok (.sipush 700, 3) := by decide +kernel
theorem dX9_cut_23 : decode cX9_cut 23 = .ok (.if_icmp .gt 99, 3) := by decide +kernel
theorem dX9_cut_26 : decode cX9_cut 26 = .ok (.iload_n 1, 1) := by decide +kernel
theorem dX9_cut_27 : decode cX9_cut 27 = .ok (.ifCond .eq 95, 3) := by decide +kernel
theorem dX9_cut_30 : decode cX9_cut 30 = .ok (.aload_n 0, 1) := by decide +kernel
theorem dX9_cut_31 : decode cX9_cut 31 = .ok (.invokevirtual 44, 3) := by decide +kernel
theorem dX9_cut_34 : decode cX9_cut 34 = .ok (.aload_n 0, 1) := by decide +kernel
theorem dX9_cut_35 : decode cX9_cut 35 = .ok (.getfield 35, 3) := by decide +kernel
theorem dX9_cut_38 : decode cX9_cut 38 = .ok (.aload_n 0, 1) := by decide +kernel
theorem dX9_cut_39 : decode cX9_cut 39 = .ok (.getfield 31, 3) := by decide +kernel
theorem dX9_cut_42 : decode cX9_cut 42 = .ok (.if_icmp .lt 6, 3) := by decide +kernel
theorem dX9_cut_45 : decode cX9_cut 45 = .ok (.goto 77, 3) := by decide +kernel
theorem dX9_cut_48 : decode cX9_cut 48 = .ok (.aload_n 0, 1) := by decide +kernel
theorem dX9_cut_49 : decode cX9_cut 49 = .ok (.getfield 19, 3) := by decide +kernel
theorem dX9_cut_52 : decode cX9_cut 52 = .ok (.aload_n 0, 1) := by decide +kernel
theorem dX9_cut_53 : decode cX9_cut 53 = .ok (.getfield 41, 3) := by decide +kernel
theorem dX9_cut_56 : decode cX9_cut 56 = .ok (.aload_n 0, 1) := by decide +kernel
theorem dX9_cut_57 : decode cX9_cut 57 = .ok (.getfield 35, 3) := by decide +kernel
theorem dX9_cut_60 : decode cX9_cut 60 = .ok (.iastore, 1) := by decide +kernel
theorem dX9_cut_61 : decode cX9_cut 61 = .ok (.aload_n 0, 1) := by decide +kernel
theorem dX9_cut_62 : decode cX9_cut 62 = .ok (.getfield 22, 3) := by decide +kernel
theorem dX9_cut_65 : decode cX9_cut 65 = .ok (.aload_n 0, 1) := by decide +kernel
theorem dX9_cut_66 : decode cX9_cut 66 = .ok (.getfield 41, 3) := by decide +kernel
theorem dX9_cut_69 : decode cX9_cut 69 = .ok (.aload_n 0, 1) := by decide +kernel
theorem dX9_cut_70 : decode cX9_cut 70 = .ok (.getfield 38, 3) := by decide +kernel
theorem dX9_cut_73 : decode cX9_cut 73 = .ok (.iastore, 1) := by decide +kernel
theorem dX9_cut_74 : decode cX9_cut 74 = .ok (.aload_n 0, 1) := by decide +kernel
theorem dX9_cut_75 : decode cX9_cut 75 = .ok (.getfield 15, 3) := by decide +kernel
theorem dX9_cut_78 : decode cX9_cut 78 = .ok (.aload_n 0, 1) := by decide +kernel
theorem dX9_cut_79 : decode cX9_cut 79 = .ok (.getfield 41, 3) := by decide +kernel
theorem dX9_cut_82 : decode cX9_cut 82 = .ok (.aload_n 0, 1) := by decide +kernel
theorem dX9_cut_83 : decode cX9_cut 83 = .ok (.invokevirtual 47, 3) := by decide +kernel
theorem dX9_cut_86 : decode cX9_cut 86 = .ok (.iastore, 1) := by decide +kernel
theorem dX9_cut_87 : decode cX9_cut 87 = .ok (.aload_n 0, 1) := by decide +kernel
theorem dX9_cut_88 : decode cX9_cut 88 = .ok (.getfield 15, 3) := by decide +kernel
theorem dX9_cut_91 : decode cX9_cut 91 = .ok (.aload_n 0, 1) := by decide +kernel
theorem dX9_cut_92 : decode cX9_cut 92 = .ok (.getfield 41, 3) := by decide +kernel
theorem dX9_cut_95 : decode cX9_cut 95 = .ok (.iaload, 1) := by decide +kernel
theorem dX9_cut_96 : decode cX9_cut 96 = .ok (.iconst 1, 1) := by decide +kernel
theorem dX9_cut_97 : decode cX9_cut 97 = .ok (.if_icmp .eq 7, 3) := by decide +kernel
theorem dX9_cut_100 : decode cX9_cut 100 = .ok (.iconst 1, 1) := by decide +kernel
theorem dX9_cut_101 : decode cX9_cut 101 = .ok (.goto 4, 3) := by decide +kernel
theorem dX9_cut_104 : decode cX9_cut 104 = .ok (.iconst 0, 1) := by decide +kernel
theorem dX9_cut_105 : decode cX9_cut 105 = .ok (.istore_n 1, 1) := by decide +kernel
theorem dX9_cut_106 : decode cX9_cut 106 = .ok (.aload_n 0, 1) := by decide +kernel
theorem dX9_cut_107 : decode cX9_cut 107 = .ok (.dup, 1) := by decide +kernel
theorem dX9_cut_108 : decode cX9_cut 108 = .ok (.getfield 41, 3) := by decide +kernel
theorem dX9_cut_111 : decode cX9_cut 111 = .ok (.iconst 1, 1) := by decide +kernel
theorem dX9_cut_112 : decode cX9_cut 112 = .ok (.iadd, 1) := by decide +kernel
theorem dX9_cut_113 : decode cX9_cut 113 = .ok (.putfield 41, 3) := by decide +kernel
theorem dX9_cut_116 : decode cX9_cut 116 = .ok (.iinc 2 1, 3) := by decide +kernel
theorem dX9_cut_119 : decode cX9_cut 119 = .ok (.goto (-100), 3) := by decide +kernel
theorem dX9_cut_122 : decode cX9_cut 122 = .ok (.aload_n 0, 1) := by decide +kernel
theorem dX9_cut_123 : decode cX9_cut 123 = .ok (.getfield 15, 3) := by decide +kernel
theorem dX9_cut_126 : decode cX9_cut 126 = .ok (.aload_n 0, 1) := by decide +kernel
theorem dX9_cut_127 : decode cX9_cut 127 = .ok (.getfield 41, 3) := by decide +kernel
theorem dX9_cut_130 : decode cX9_cut 130 = .ok (.iconst 0, 1) := by decide +kernel
theorem dX9_cut_131 : decode cX9_cut 131 = .ok (.iastore, 1) := by decide +kernel
theorem dX9_cut_132 : decode cX9_cut 132 = .ok (.aload_n 0, 1) := by decide +kernel
theorem dX9_cut_133 : decode cX9_cut 133 = .ok (.getfield 19, 3) := by decide +kernel
theorem dX9_cut_136 : decode cX9_cut 136 = .ok (.aload_n 0, 1) := by decide +kernel
theorem dX9_cut_137 : decode cX9_cut 137 = .ok (.getfield 41, 3) := by decide +kernel
theorem dX9_cut_140 : decode cX9_cut 140 = .ok (.aload_n 0, 1) := by decide +kernel
theorem dX9_cut_141 : decode cX9_cut 141 = .ok (.getfield 31, 3) := by decide +kernel
theorem dX9_cut_144 : decode cX9_cut 144 = .ok (.iastore, 1) := by decide +kernel
theorem dX9_cut_145 : decode cX9_cut 145 = .ok (.aload_n 0, 1) := by decide +kernel
theorem dX9_cut_146 : decode cX9_cut 146 = .ok (.getfield 22, 3) := by decide +kernel
theorem dX9_cut_149 : decode cX9_cut 149 = .ok (.aload_n 0, 1) := by decide +kernel
theorem dX9_cut_150 : decode cX9_cut 150 = .ok (.getfield 41, 3) := by decide +kernel
theorem dX9_cut_153 : decode cX9_cut 153 = .ok (.aload_n 0, 1) := by decide +kernel
theorem dX9_cut_154 : decode cX9_cut 154 = .ok (.getfield 38, 3) := by decide +kernel
theorem dX9_cut_157 : decode cX9_cut 157 = .ok (.iastore, 1) := by decide +kernel
theorem dX9_cut_158 : decode cX9_cut 158 = .ok (.return_, 1) := by decide +kernel
theorem dX9_skipBlanks_0 : decode cX9_skipBlanks 0 = .ok (.iconst 0, 1) := by decide +kernel
theorem dX9_skipBlanks_1 : decode cX9_skipBlanks 1 = .ok (.istore_n 1, 1) := by decide +kernel
theorem dX9_skipBlanks_2 : decode cX9_skipBlanks 2 = .ok (.aload_n 0, 1) := by decide +kernel
theorem dX9_skipBlanks_3 : decode cX9_skipBlanks 3 = .ok (.getfield 35, 3) := by decide +kernel
theorem dX9_skipBlanks_6 : decode cX9_skipBlanks 6 = .ok (.aload_n 0, 1) := by decide +kernel
theorem dX9_skipBlanks_7 : decode cX9_skipBlanks 7 = .ok (.getfield 31, 3) := by decide +kernel
theorem dX9_skipBlanks_10 : decode cX9_skipBlanks 10 = .ok (.if_icmp .ge 95, 3) := by decide +kernel
theorem dX9_skipBlanks_13 : decode cX9_skipBlanks 13 = .ok (.aload_n 0, 1) := by decide +kernel
theorem dX9_skipBlanks_14 : decode cX9_skipBlanks 14 = .ok (.aload_n 0, 1) := by decide +kernel
theorem dX9_skipBlanks_15 : decode cX9_skipBlanks 15 = .ok (.getfield 35, 3) := by decide +kernel
theorem dX9_skipBlanks_18 : decode cX9_skipBlanks 18 = .ok (.invokevirtual 51, 3) := by decide +kernel
theorem dX9_skipBlanks_21 : decode cX9_skipBlanks 21 = .ok (.istore_n 2, 1) := by decide +kernel
theorem dX9_skipBlanks_22 : decode cX9_skipBlanks 22 = .ok (.iload_n 2, 1) := by decide +kernel
theorem dX9_skipBlanks_23 : decode cX9_skipBlanks 23 = .ok (.bipush 10, 2) := by decide +kernel
theorem dX9_skipBlanks_25 : decode cX9_skipBlanks 25 = .ok (.if_icmp .ne 18, 3) := by decide +kernel
theorem dX9_skipBlanks_28 : decode cX9_skipBlanks 28 = .ok (.aload_n 0, 1) := by decide +kernel
theorem dX9_skipBlanks_29 : decode cX9_skipBlanks 29 = .ok (.dup, 1) := by decide +kernel
theorem dX9_skipBlanks_30 : decode cX9_skipBlanks 30 = .ok (.getfield 38, 3) := by decide +kernel
theorem dX9_skipBlanks_33 : decode cX9_skipBlanks 33 = .ok (.iconst 1, 1) := by decide +kernel
theorem dX9_skipBlanks_34 : decode cX9_skipBlanks 34 = .ok (.iadd, 1) := by decide +kernel
theorem dX9_skipBlanks_35 : decode cX9_skipBlanks 35 = .ok (.putfield 38, 3) := by decide +kernel
theorem dX9_skipBlanks_38 : decode cX9_skipBlanks 38 = .ok (.iconst 0, 1) := by decide +kernel
theorem dX9_skipBlanks_39 : decode cX9_skipBlanks 39 = .ok (.istore_n 1, 1) := by decide +kernel
theorem dX9_skipBlanks_40 : decode cX9_skipBlanks 40 = .ok (.goto 52, 3) := by decide +kernel
theorem dX9_skipBlanks_43 : decode cX9_skipBlanks 43 = .ok (.iload_n 2, 1) := by decide +kernel
theorem dX9_skipBlanks_44 : decode cX9_skipBlanks 44 = .ok (.bipush 47, 2) := by decide +kernel
theorem dX9_skipBlanks_46 : decode cX9_skipBlanks 46 = .ok (.if_icmp .ne 23, 3) := by decide +kernel
theorem dX9_skipBlanks_49 : decode cX9_skipBlanks 49 = .ok (.aload_n 0, 1) := by decide +kernel
theorem dX9_skipBlanks_50 : decode cX9_skipBlanks 50 = .ok (.aload_n 0, 1) := by decide +kernel
theorem dX9_skipBlanks_51 : decode cX9_skipBlanks 51 = .ok (.getfield 35, 3) := by decide +kernel
theorem dX9_skipBlanks_54 : decode cX9_skipBlanks 54 = .ok (.iconst 1, 1) := by decide +kernel
theorem dX9_skipBlanks_55 : decode cX9_skipBlanks 55 = .ok (.iadd, 1) := by decide +kernel
theorem dX9_skipBlanks_56 : decode cX9_skipBlanks 56 = .ok (.invokevirtual 51, 3) := by decide +kernel
theorem dX9_skipBlanks_59 : decode cX9_skipBlanks 59 = .ok (.bipush 47, 2) := by decide +kernel
theorem dX9_skipBlanks_61 : decode cX9_skipBlanks 61 = .ok (.if_icmp .ne 8, 3) := by decide +kernel
theorem dX9_skipBlanks_64 : decode cX9_skipBlanks 64 = .ok (.iconst 1, 1) := by decide +kernel
theorem dX9_skipBlanks_65 : decode cX9_skipBlanks 65 = .ok (.istore_n 1, 1) := by decide +kernel
theorem dX9_skipBlanks_66 : decode cX9_skipBlanks 66 = .ok (.goto 26, 3) := by decide +kernel
theorem dX9_skipBlanks_69 : decode cX9_skipBlanks 69 = .ok (.iload_n 1, 1) := by decide +kernel
theorem dX9_skipBlanks_70 : decode cX9_skipBlanks 70 = .ok (.ifCond .ne 22, 3) := by decide +kernel
theorem dX9_skipBlanks_73 : decode cX9_skipBlanks 73 = .ok (.iload_n 2, 1) := by decide +kernel
theorem dX9_skipBlanks_74 : decode cX9_skipBlanks 74 = .ok (.bipush 32, 2) := by decide +kernel
theorem dX9_skipBlanks_76 : decode cX9_skipBlanks 76 = .ok (.if_icmp .eq 16, 3) := by decide +kernel
theorem dX9_skipBlanks_79 : decode cX9_skipBlanks 79 = .ok (.iload_n 2, 1) := by decide +kernel
theorem dX9_skipBlanks_80 : decode cX9_skipBlanks 80 = .ok (.bipush 9, 2) := by decide +kernel
theorem dX9_skipBlanks_82 : decode cX9_skipBlanks 82 = .ok (.if_icmp .eq 10, 3) := by decide +kernel
theorem dX9_skipBlanks_85 : decode cX9_skipBlanks 85 = .ok (.iload_n 2, 1) := by decide +kernel
theorem dX9_skipBlanks_86 : decode cX9_skipBlanks 86 = .ok (.bipush 13, 2) := by decide +kernel
theorem dX9_skipBlanks_88 : decode cX9_skipBlanks 88 = .ok (.if_icmp .eq 4, 3) := by decide +kernel
theorem dX9_skipBlanks_91 : decode cX9_skipBlanks 91 = .ok (.return_, 1) := by decide +kernel
theorem dX9_skipBlanks_92 : decode cX9_skipBlanks 92 = .ok (.aload_n 0, 1) := by decide +kernel
theorem dX9_skipBlanks_93 : decode cX9_skipBlanks 93 = .ok (.dup, 1) := by decide +kernel
theorem dX9_skipBlanks_94 : decode cX9_skipBlanks 94 = .ok (.getfield 35, 3) := by decide +kernel
theorem dX9_skipBlanks_97 : decode cX9_skipBlanks 97 = .ok (.iconst 1, 1) := by decide +kernel
theorem dX9_skipBlanks_98 : decode cX9_skipBlanks 98 = .ok (.iadd, 1) := by decide +kernel
theorem dX9_skipBlanks_99 : decode cX9_skipBlanks 99 = .ok (.putfield 35, 3) := by decide +kernel
theorem dX9_skipBlanks_102 : decode cX9_skipBlanks 102 = .ok (.goto (-100), 3) := by decide +kernel
theorem dX9_skipBlanks_105 : decode cX9_skipBlanks 105 = .ok (.return_, 1) := by decide +kernel
theorem dX11_init_0 : decode cX11_init 0 = .ok (.aload_n 0, 1) := by decide +kernel
theorem dX11_init_1 : decode cX11_init 1 = .ok (.invokespecial 1, 3) := by decide +kernel
theorem dX11_init_4 : decode cX11_init 4 = .ok (.aload_n 0, 1) := by decide +kernel
theorem dX11_init_5 : decode cX11_init 5 = .ok (.new 7, 3) := by decide +kernel
theorem dX11_init_8 : decode cX11_init 8 = .ok (.dup, 1) := by decide +kernel
theorem dX11_init_9 : decode cX11_init 9 = .ok (.invokespecial 9, 3) := by decide +kernel
theorem dX11_init_12 : decode cX11_init 12 = .ok (.putfield 10, 3) := by decide +kernel
theorem dX11_init_15 : decode cX11_init 15 = .ok (.aload_n 0, 1) := by decide +kernel
theorem dX11_init_16 : decode cX11_init 16 = .ok (.new 16, 3) := by decide +kernel
theorem dX11_init_19 : decode cX11_init 19 = .ok (.dup, 1) := by decide +kernel
theorem dX11_init_20 : decode cX11_init 20 = .ok (.aload_n 0, 1) := by decide +kernel
theorem dX11_init_21 : decode cX11_init 21 = .ok (.getfield 10, 3) := by decide +kernel
theorem dX11_init_24 : decode cX11_init 24 = .ok (.invokespecial 18, 3) := by decide +kernel
theorem dX11_init_27 : decode cX11_init 27 = .ok (.putfield 21, 3) := by decide +kernel
theorem dX11_init_30 : decode cX11_init 30 = .ok (.aload_n 0, 1) := by decide +kernel
theorem dX11_init_31 : decode cX11_init 31 = .ok (.new 25, 3) := by decide +kernel
theorem dX11_init_34 : decode cX11_init 34 = .ok (.dup, 1) := by decide +kernel
theorem dX11_init_35 : decode cX11_init 35 = .ok (.invokespecial 27, 3) := by decide +kernel
theorem dX11_init_38 : decode cX11_init 38 = .ok (.putfield 28, 3) := by decide +kernel
theorem dX11_init_41 : decode cX11_init 41 = .ok (.aload_n 0, 1) := by decide +kernel
theorem dX11_init_42 : decode cX11_init 42 = .ok (.new 32, 3) := by decide +kernel
theorem dX11_init_45 : decode cX11_init 45 = .ok (.dup, 1) := by decide +kernel
theorem dX11_init_46 : decode cX11_init 46 = .ok (.aload_n 0, 1) := by decide +kernel
theorem dX11_init_47 : decode cX11_init 47 = .ok (.getfield 10, 3) := by decide +kernel
theorem dX11_init_50 : decode cX11_init 50 = .ok (.aload_n 0, 1) := by decide +kernel
theorem dX11_init_51 : decode cX11_init 51 = .ok (.getfield 21, 3) := by decide +kernel
theorem dX11_init_54 : decode cX11_init 54 = .ok (.aload_n 0, 1) := by decide +kernel
theorem dX11_init_55 : decode cX11_init 55 = .ok (.getfield 28, 3) := by decide +kernel
theorem dX11_init_58 : decode cX11_init 58 = .ok (.invokespecial 34, 3) := by decide +kernel
theorem dX11_init_61 : decode cX11_init 61 = .ok (.putfield 37, 3) := by decide +kernel
theorem dX11_init_64 : decode cX11_init 64 = .ok (.aload_n 0, 1) := by decide +kernel
theorem dX11_init_65 : decode cX11_init 65 = .ok (.new 41, 3) := by decide +kernel
theorem dX11_init_68 : decode cX11_init 68 = .ok (.dup, 1) := by decide +kernel
theorem dX11_init_69 : decode cX11_init 69 = .ok (.aload_n 0, 1) := by decide +kernel
theorem dX11_init_70 : decode cX11_init 70 = .ok (.getfield 28, 3) := by decide +kernel
theorem dX11_init_73 : decode cX11_init 73 = .ok (.invokespecial 43, 3) := by decide +kernel
theorem dX11_init_76 : decode cX11_init 76 = .ok (.putfield 46, 3) := by decide +kernel
theorem dX11_init_79 : decode cX11_init 79 = .ok (.aload_n 0, 1) := by decide +kernel
theorem dX11_init_80 : decode cX11_init 80 = .ok (.new 50, 3) := by decide +kernel
theorem dX11_init_83 : decode cX11_init 83 = .ok (.dup, 1) := by decide +kernel
theorem dX11_init_84 : decode cX11_init 84 = .ok (.aload_n 0, 1) := by decide +kernel
theorem dX11_init_85 : decode cX11_init 85 = .ok (.getfield 28, 3) := by decide +kernel
theorem dX11_init_88 : decode cX11_init 88 = .ok (.invokespecial 52, 3) := by decide +kernel
theorem dX11_init_91 : decode cX11_init 91 = .ok (.putfield 53, 3) := by decide +kernel
theorem dX11_init_94 : decode cX11_init 94 = .ok (.aload_n 0, 1) := by decide +kernel
theorem dX11_init_95 : decode cX11_init 95 = .ok (.iconst 2, 1) := by decide +kernel
theorem dX11_init_96 : decode cX11_init 96 = .ok (.anewarray 57, 3) := by decide +kernel
theorem dX11_init_99 : decode cX11_init 99 = .ok (.putfield 59, 3) := by decide +kernel
theorem dX11_init_102 : decode cX11_init 102 = .ok (.aload_n 0, 1) := by decide +kernel
theorem dX11_init_103 : decode cX11_init 103 = .ok (.iconst (-1), 1) := by decide +kernel
theorem dX11_init_104 : decode cX11_init 104 = .ok (.putfield 63, 3) := by decide +kernel
theorem dX11_init_107 : decode cX11_init 107 = .ok (.aload_n 0, 1) := by decide +kernel
theorem dX11_init_108 : decode cX11_init 108 = .ok (.iconst (-1), 1) := by decide +kernel
theorem dX11_init_109 : decode cX11_init 109 = .ok (.putfield 67, 3) := by decide +kernel
theorem dX11_init_112 : decode cX11_init 112 = .ok (.return_, 1) := by decide +kernel
theorem dX11_feed_0 : decode cX11_feed 0 = .ok (.iload_n 1, 1) := by decide +kernel
theorem dX11_feed_1 : decode cX11_feed 1 = .ok (.iconst 1, 1) := by decide +kernel
theorem dX11_feed_2 : decode cX11_feed 2 = .ok (.if_icmp .lt 9, 3) := by decide +kernel
theorem dX11_feed_5 : decode cX11_feed 5 = .ok (.iload_n 1, 1) := by decide +kernel
theorem dX11_feed_6 : decode cX11_feed 6 = .ok (.bipush 8, 2) := by decide +kernel
theorem dX11_feed_8 : decode cX11_feed 8 = .ok (.if_icmp .le 13, 3) := by decide +kernel
theorem dX11_feed_11 : decode cX11_feed 11 = .ok (.new 70, 3) := by decide +kernel
theorem dX11_feed_14 : decode cX11_feed 14 = .ok (.dup, 1) := by decide +kernel
theorem dX11_feed_15 : decode cX11_feed 15 = .ok (.ldc 72, 2) := by decide +kernel
theorem dX11_feed_17 : decode cX11_feed 17 = .ok (.invokespecial 74, 3) := by decide +kernel
theorem dX11_feed_20 : decode cX11_feed 20 = .ok (.athrow, 1) := by decide +kernel
theorem dX11_feed_21 : decode cX11_feed 21 = .ok (.aload_n 0, 1) := by decide +kernel
theorem dX11_feed_22 : decode cX11_feed 22 = .ok (.getfield 10, 3) := by decide +kernel
theorem dX11_feed_25 : decode cX11_feed 25 = .ok (.getfield 77, 3) := by decide +kernel
theorem dX11_feed_28 : decode cX11_feed 28 = .ok (.iload_n 1, 1) := by decide +kernel
theorem dX11_feed_29 : decode cX11_feed 29 = .ok (.iadd, 1) := by decide +kernel
theorem dX11_feed_30 : decode cX11_feed 30 = .ok (.sipush 3000, 3) := by decide +kernel
theorem dX11_feed_33 : decode cX11_feed 33 = .ok (.if_icmp .le 13, 3) := by decide +kernel
theorem dX11_feed_36 : decode cX11_feed 36 = .ok (.new 70, 3) := by decide +kernel
theorem dX11_feed_39 : decode cX11_feed 39 = .ok (.dup, 1) := by decide +kernel
theorem dX11_feed_40 : decode cX11_feed 40 = .ok (.ldc 80, 2) := by decide +kernel
theorem dX11_feed_42 : decode cX11_feed 42 = .ok (.invokespecial 74, 3) := by decide +kernel
theorem dX11_feed_45 : decode cX11_feed 45 = .ok (.athrow, 1) := by decide +kernel
theorem dX11_feed_46 : decode cX11_feed 46 = .ok (.iconst 0, 1) := by decide +kernel
theorem dX11_feed_47 : decode cX11_feed 47 = .ok (.istore 4, 2) := by decide +kernel
theorem dX11_feed_49 : decode cX11_feed 49 = .ok (.iload 4, 2) := by decide +kernel
theorem dX11_feed_51 : decode cX11_feed 51 = .ok (.iload_n 1, 1) := by decide +kernel
theorem dX11_feed_52 : decode cX11_feed 52 = .ok (.if_icmp .ge 24, 3) := by decide +kernel
theorem dX11_feed_55 : decode cX11_feed 55 = .ok (.aload_n 0, 1) := by decide +kernel
theorem dX11_feed_56 : decode cX11_feed 56 = .ok (.getfield 10, 3) := by decide +kernel
theorem dX11_feed_59 : decode cX11_feed 59 = .ok (.lload_n 2, 1) := by decide +kernel
theorem dX11_feed_60 : decode cX11_feed 60 = .ok (.bipush 8, 2) := by decide +kernel
theorem dX11_feed_62 : decode cX11_feed 62 = .ok (.iload 4, 2) := by decide +kernel
theorem dX11_feed_64 : decode cX11_feed 64 = .ok (.imul, 1) := by decide +kernel
theorem dX11_feed_65 : decode cX11_feed 65 = .ok (.lushr, 1) := by decide +kernel
theorem dX11_feed_66 : decode cX11_feed 66 = .ok (.l2i, 1) := by decide +kernel
theorem dX11_feed_67 : decode cX11_feed 67 = .ok (.invokevirtual 82, 3) := by decide +kernel
theorem dX11_feed_70 : decode cX11_feed 70 = .ok (.iinc 4 1, 3) := by decide +kernel
theorem dX11_feed_73 : decode cX11_feed 73 = .ok (.goto (-24), 3) := by decide +kernel
theorem dX11_feed_76 : decode cX11_feed 76 = .ok (.aload_n 0, 1) := by decide +kernel
theorem dX11_feed_77 : decode cX11_feed 77 = .ok (.invokevirtual 86, 3) := by decide +kernel
theorem dX11_feed_80 : decode cX11_feed 80 = .ok (.aload_n 0, 1) := by decide +kernel
theorem dX11_feed_81 : decode cX11_feed 81 = .ok (.getfield 10, 3) := by decide +kernel
theorem dX11_feed_84 : decode cX11_feed 84 = .ok (.getfield 77, 3) := by decide +kernel
theorem dX11_feed_87 : decode cX11_feed 87 = .ok (.ireturn, 1) := by decide +kernel
theorem dX11_wipe_0 : decode cX11_wipe 0 = .ok (.aload_n 0, 1) := by decide +kernel
theorem dX11_wipe_1 : decode cX11_wipe 1 = .ok (.getfield 10, 3) := by decide +kernel
theorem dX11_wipe_4 : decode cX11_wipe 4 = .ok (.getfield 77, 3) := by decide +kernel
theorem dX11_wipe_7 : decode cX11_wipe 7 = .ok (.istore_n 1, 1) := by decide +kernel
theorem dX11_wipe_8 : decode cX11_wipe 8 = .ok (.aload_n 0, 1) := by decide +kernel
theorem dX11_wipe_9 : decode cX11_wipe 9 = .ok (.getfield 10, 3) := by decide +kernel
theorem dX11_wipe_12 : decode cX11_wipe 12 = .ok (.iconst 0, 1) := by decide +kernel
theorem dX11_wipe_13 : decode cX11_wipe 13 = .ok (.putfield 77, 3) := by decide +kernel
theorem dX11_wipe_16 : decode cX11_wipe 16 = .ok (.aload_n 0, 1) := by decide +kernel
theorem dX11_wipe_17 : decode cX11_wipe 17 = .ok (.invokevirtual 86, 3) := by decide +kernel
theorem dX11_wipe_20 : decode cX11_wipe 20 = .ok (.iload_n 1, 1) := by decide +kernel
theorem dX11_wipe_21 : decode cX11_wipe 21 = .ok (.ireturn, 1) := by decide +kernel
theorem dX11_compile_0 : decode cX11_compile 0 = .ok (.aload_n 0, 1) := by decide +kernel
theorem dX11_compile_1 : decode cX11_compile 1 = .ok (.invokevirtual 86, 3) := by decide +kernel
theorem dX11_compile_4 : decode cX11_compile 4 = .ok (.aload_n 0, 1) := by decide +kernel
theorem dX11_compile_5 : decode cX11_compile 5 = .ok (.getfield 10, 3) := by decide +kernel
theorem dX11_compile_8 : decode cX11_compile 8 = .ok (.invokevirtual 89, 3) := by decide +kernel
theorem dX11_compile_11 : decode cX11_compile 11 = .ok (.iconst 0, 1) := by decide +kernel
theorem dX11_compile_12 : decode cX11_compile 12 = .ok (.istore_n 1, 1) := by decide +kernel
theorem dX11_compile_13 : decode cX11_compile 13 = .ok (.iconst (-1), 1) := by decide +kernel
theorem dX11_compile_14 : decode cX11_compile 14 = .ok (.istore_n 2, 1) := by decide +kernel
theorem dX11_compile_15 : decode cX11_compile 15 = .ok (.aload_n 0, 1) := by decide +kernel
theorem dX11_compile_16 : decode cX11_compile 16 = .ok (.getfield 37, 3) := by decide +kernel
theorem dX11_compile_19 : decode cX11_compile 19 = .ok (.invokevirtual 92, 3) := by decide +kernel
theorem dX11_compile_22 : decode cX11_compile 22 = .ok (.aload_n 0, 1) := by decide +kernel
theorem dX11_compile_23 : decode cX11_compile 23 = .ok (.getfield 21, 3) := by decide +kernel
theorem dX11_compile_26 : decode cX11_compile 26 = .ok (.invokevirtual 95, 3) := by decide +kernel
theorem dX11_compile_29 : decode cX11_compile 29 = .ok (.istore_n 1, 1) := by decide +kernel
theorem dX11_compile_30 : decode cX11_compile 30 = .ok (.aload_n 0, 1) := by decide +kernel
theorem dX11_compile_31 : decode cX11_compile 31 = .ok (.getfield 21, 3) := by decide +kernel
theorem dX11_compile_34 : decode cX11_compile 34 = .ok (.getfield 99, 3) := by decide +kernel
theorem dX11_compile_37 : decode cX11_compile 37 = .ok (.istore_n 2, 1) := by decide +kernel
theorem dX11_compile_38 : decode cX11_compile 38 = .ok (.goto 20, 3) := by decide +kernel
theorem dX11_compile_41 : decode cX11_compile 41 = .ok (.astore_n 3, 1) := by decide +kernel
theorem dX11_compile_42 : decode cX11_compile 42 = .ok (.aload_n 0, 1) := by decide +kernel
theorem dX11_compile_43 : decode cX11_compile 43 = .ok (.getfield 37, 3) := by decide +kernel
theorem dX11_compile_46 : decode cX11_compile 46 = .ok (.getfield 104, 3) := by decide +kernel
theorem dX11_compile_49 : decode cX11_compile 49 = .ok (.istore_n 1, 1) := by decide +kernel
theorem dX11_compile_50 : decode cX11_compile 50 = .ok (.aload_n 0, 1) := by decide +kernel
theorem dX11_compile_51 : decode cX11_compile 51 = .ok (.getfield 37, 3) := by decide +kernel
theorem dX11_compile_54 : decode cX11_compile 54 = .ok (.invokevirtual 107, 3) := by decide +kernel
theorem dX11_compile_57 : decode cX11_compile 57 = .ok (.istore_n 2, 1) := by decide +kernel
theorem dX11_compile_58 : decode cX11_compile 58 = .ok (.aload_n 0, 1) := by decide +kernel
theorem dX11_compile_59 : decode cX11_compile 59 = .ok (.iload_n 1, 1) := by decide +kernel
theorem dX11_compile_60 : decode cX11_compile 60 = .ok (.ifCond .ne 7, 3) := by decide +kernel
theorem dX11_compile_63 : decode cX11_compile 63 = .ok (.iconst 1, 1) := by decide +kernel
theorem dX11_compile_64 : decode cX11_compile 64 = .ok (.goto 4, 3) := by decide +kernel
theorem dX11_compile_67 : decode cX11_compile 67 = .ok (.iconst 0, 1) := by decide +kernel
theorem dX11_compile_68 : decode cX11_compile 68 = .ok (.putfield 110, 3) := by decide +kernel
theorem dX11_compile_71 : decode cX11_compile 71 = .ok (.aload_n 0, 1) := by decide +kernel
theorem dX11_compile_72 : decode cX11_compile 72 = .ok (.aload_n 0, 1) := by decide +kernel
theorem dX11_compile_73 : decode cX11_compile 73 = .ok (.getfield 110, 3) := by decide +kernel
theorem dX11_compile_76 : decode cX11_compile 76 = .ok (.ifCond .eq 7, 3) := by decide +kernel
theorem dX11_compile_79 : decode cX11_compile 79 = .ok (.iconst (-1), 1) := by decide +kernel
theorem dX11_compile_80 : decode cX11_compile 80 = .ok (.goto 12, 3) := by decide +kernel
theorem dX11_compile_83 : decode cX11_compile 83 = .ok (.aload_n 0, 1) := by decide +kernel
theorem dX11_compile_84 : decode cX11_compile 84 = .ok (.getfield 10, 3) := by decide +kernel
theorem dX11_compile_87 : decode cX11_compile 87 = .ok (.getfield 114, 3) := by decide +kernel
theorem dX11_compile_90 : decode cX11_compile 90 = .ok (.iload_n 2, 1) := by decide +kernel
theorem dX11_compile_91 : decode cX11_compile 91 = .ok (.iaload, 1) := by decide +kernel
theorem dX11_compile_92 : decode cX11_compile 92 = .ok (.putfield 63, 3) := by decide +kernel
theorem dX11_compile_95 : decode cX11_compile 95 = .ok (.aload_n 0, 1) := by decide +kernel
theorem dX11_compile_96 : decode cX11_compile 96 = .ok (.aload_n 0, 1) := by decide +kernel
theorem dX11_compile_97 : decode cX11_compile 97 = .ok (.getfield 110, 3) := by decide +kernel
theorem dX11_compile_100 : decode cX11_compile 100 = .ok (.ifCond .eq 7, 3) := by decide +kernel
theorem dX11_compile_103 : decode cX11_compile 103 = .ok (.iconst (-1), 1) := by decide +kernel
theorem dX11_compile_104 : decode cX11_compile 104 = .ok (.goto 12, 3) := by decide +kernel
theorem dX11_compile_107 : decode cX11_compile 107 = .ok (.aload_n 0, 1) := by decide +kernel
theorem dX11_compile_108 : decode cX11_compile 108 = .ok (.getfield 10, 3) := by decide +kernel
theorem dX11_compile_111 : decode cX11_compile 111 = .ok (.getfield 118, 3) := by decide +kernel
theorem dX11_compile_114 : decode cX11_compile 114 = .ok (.iload_n 2, 1) := by decide +kernel
theorem dX11_compile_115 : decode cX11_compile 115 = .ok (.iaload, 1) := by decide +kernel
theorem dX11_compile_116 : decode cX11_compile 116 = .ok (.putfield 67, 3) := by decide +kernel
theorem dX11_compile_119 : decode cX11_compile 119 = .ok (.aload_n 0, 1) := by decide +kernel
theorem dX11_compile_120 : decode cX11_compile 120 = .ok (.getfield 110, 3) := by decide +kernel
theorem dX11_compile_123 : decode cX11_compile 123 = .ok (.ifCond .ne 6, 3) := by decide +kernel
theorem dX11_compile_126 : decode cX11_compile 126 = .ok (.iload_n 1, 1) := by decide +kernel
theorem dX11_compile_127 : decode cX11_compile 127 = .ok (.ineg, 1) := by decide +kernel
theorem dX11_compile_128 : decode cX11_compile 128 = .ok (.ireturn, 1) := by decide +kernel
theorem dX11_compile_129 : decode cX11_compile 129 = .ok (.aload_n 0, 1) := by decide +kernel
theorem dX11_compile_130 : decode cX11_compile 130 = .ok (.getfield 37, 3) := by decide +kernel
theorem dX11_compile_133 : decode cX11_compile 133 = .ok (.invokevirtual 121, 3) := by decide +kernel
theorem dX11_compile_136 : decode cX11_compile 136 = .ok (.aload_n 0, 1) := by decide +kernel
theorem dX11_compile_137 : decode cX11_compile 137 = .ok (.getfield 28, 3) := by decide +kernel
theorem dX11_compile_140 : decode cX11_compile 140 = .ok (.getfield 124, 3) := by decide +kernel
theorem dX11_compile_143 : decode cX11_compile 143 = .ok (.ireturn, 1) := by decide +kernel
theorem dX11_fault_0 : decode cX11_fault 0 = .ok (.iload_n 1, 1) := by decide +kernel
theorem dX11_fault_1 : decode cX11_fault 1 = .ok (.ifCond .eq 18, 3) := by decide +kernel
theorem dX11_fault_4 : decode cX11_fault 4 = .ok (.iload_n 1, 1) := by decide +kernel
theorem dX11_fault_5 : decode cX11_fault 5 = .ok (.iconst 1, 1) := by decide +kernel
theorem dX11_fault_6 : decode cX11_fault 6 = .ok (.if_icmp .eq 13, 3) := by decide +kernel
theorem dX11_fault_9 : decode cX11_fault 9 = .ok (.new 127, 3) := by decide +kernel
theorem dX11_fault_12 : decode cX11_fault 12 = .ok (.dup, 1) := by decide +kernel
theorem dX11_fault_13 : decode cX11_fault 13 = .ok (.ldc 129, 2) := by decide +kernel
theorem dX11_fault_15 : decode cX11_fault 15 = .ok (.invokespecial 131, 3) := by decide +kernel
theorem dX11_fault_18 : decode cX11_fault 18 = .ok (.athrow, 1) := by decide +kernel
theorem dX11_fault_19 : decode cX11_fault 19 = .ok (.iload_n 1, 1) := by decide +kernel
theorem dX11_fault_20 : decode cX11_fault 20 = .ok (.ifCond .ne 10, 3) := by decide +kernel
theorem dX11_fault_23 : decode cX11_fault 23 = .ok (.aload_n 0, 1) := by decide +kernel
theorem dX11_fault_24 : decode cX11_fault 24 = .ok (.getfield 63, 3) := by decide +kernel
theorem dX11_fault_27 : decode cX11_fault 27 = .ok (.goto 7, 3) := by decide +kernel
theorem dX11_fault_30 : decode cX11_fault 30 = .ok (.aload_n 0, 1) := by decide +kernel
theorem dX11_fault_31 : decode cX11_fault 31 = .ok (.getfield 67, 3) := by decide +kernel
theorem dX11_fault_34 : decode cX11_fault 34 = .ok (.ireturn, 1) := by decide +kernel
theorem dX11_count_0 : decode cX11_count 0 = .ok (.iload_n 1, 1) := by decide +kernel
theorem dX11_count_1 : decode cX11_count 1 = .ok (.iconst 5, 1) := by decide +kernel
theorem dX11_count_2 : decode cX11_count 2 = .ok (.invokestatic 132, 3) := by decide +kernel
theorem dX11_count_5 : decode cX11_count 5 = .ok (.aload_n 0, 1) := by decide +kernel
theorem dX11_count_6 : decode cX11_count 6 = .ok (.getfield 110, 3) := by decide +kernel
theorem dX11_count_9 : decode cX11_count 9 = .ok (.ifCond .ne 5, 3) := by decide +kernel
theorem dX11_count_12 : decode cX11_count 12 = .ok (.iconst 0, 1) := by decide +kernel
theorem dX11_count_13 : decode cX11_count 13 = .ok (.ireturn, 1) := by decide +kernel
theorem dX11_count_14 : decode cX11_count 14 = .ok (.iload_n 1, 1) := by decide +kernel
theorem dX11_count_15 : decode cX11_count 15 = .ok (.tableswitch 61 0 3 #[29, 37, 45, 53], 29) := by decide +kernel
theorem dX11_count_44 : decode cX11_count 44 = .ok (.aload_n 0, 1) := by decide +kernel
theorem dX11_count_45 : decode cX11_count 45 = .ok (.getfield 28, 3) := by decide +kernel
theorem dX11_count_48 : decode cX11_count 48 = .ok (.getfield 136, 3) := by decide +kernel
theorem dX11_count_51 : decode cX11_count 51 = .ok (.ireturn, 1) := by decide +kernel
theorem dX11_count_52 : decode cX11_count 52 = .ok (.aload_n 0, 1) := by decide +kernel
theorem dX11_count_53 : decode cX11_count 53 = .ok (.getfield 28, 3) := by decide +kernel
theorem dX11_count_56 : decode cX11_count 56 = .ok (.getfield 139, 3) := by decide +kernel
theorem dX11_count_59 : decode cX11_count 59 = .ok (.ireturn, 1) := by decide +kernel
theorem dX11_count_60 : decode cX11_count 60 = .ok (.aload_n 0, 1) := by decide +kernel
theorem dX11_count_61 : decode cX11_count 61 = .ok (.getfield 28, 3) := by decide +kernel
theorem dX11_count_64 : decode cX11_count 64 = .ok (.getfield 124, 3) := by decide +kernel
theorem dX11_count_67 : decode cX11_count 67 = .ok (.ireturn, 1) := by decide +kernel
theorem dX11_count_68 : decode cX11_count 68 = .ok (.aload_n 0, 1) := by decide +kernel
theorem dX11_count_69 : decode cX11_count 69 = .ok (.getfield 28, 3) := by decide +kernel
theorem dX11_count_72 : decode cX11_count 72 = .ok (.getfield 142, 3) := by decide +kernel
theorem dX11_count_75 : decode cX11_count 75 = .ok (.ireturn, 1) := by decide +kernel
theorem dX11_count_76 : decode cX11_count 76 = .ok (.aload_n 0, 1) := by decide +kernel
theorem dX11_count_77 : decode cX11_count 77 = .ok (.getfield 28, 3) := by decide +kernel
theorem dX11_count_80 : decode cX11_count 80 = .ok (.getfield 145, 3) := by decide +kernel
theorem dX11_count_83 : decode cX11_count 83 = .ok (.ireturn, 1) := by decide +kernel
theorem dX11_begin_0 : decode cX11_begin 0 = .ok (.aload_n 0, 1) := by decide +kernel
theorem dX11_begin_1 : decode cX11_begin 1 = .ok (.invokevirtual 148, 3) := by decide +kernel
theorem dX11_begin_4 : decode cX11_begin 4 = .ok (.iload_n 1, 1) := by decide +kernel
theorem dX11_begin_5 : decode cX11_begin 5 = .ok (.invokestatic 151, 3) := by decide +kernel
theorem dX11_begin_8 : decode cX11_begin 8 = .ok (.aload_n 0, 1) := by decide +kernel
theorem dX11_begin_9 : decode cX11_begin 9 = .ok (.iload_n 1, 1) := by decide +kernel
theorem dX11_begin_10 : decode cX11_begin 10 = .ok (.invokevirtual 154, 3) := by decide +kernel
theorem dX11_begin_13 : decode cX11_begin 13 = .ok (.aload_n 0, 1) := by decide +kernel
theorem dX11_begin_14 : decode cX11_begin 14 = .ok (.getfield 46, 3) := by decide +kernel
theorem dX11_begin_17 : decode cX11_begin 17 = .ok (.getfield 157, 3) := by decide +kernel
theorem dX11_begin_20 : decode cX11_begin 20 = .ok (.ireturn, 1) := by decide +kernel
theorem dX11_choices_0 : decode cX11_choices 0 = .ok (.aload_n 0, 1) := by decide +kernel
theorem dX11_choices_1 : decode cX11_choices 1 = .ok (.invokevirtual 160, 3) := by decide +kernel
theorem dX11_choices_4 : decode cX11_choices 4 = .ok (.aload_n 0, 1) := by decide +kernel
theorem dX11_choices_5 : decode cX11_choices 5 = .ok (.getfield 46, 3) := by decide +kernel
theorem dX11_choices_8 : decode cX11_choices 8 = .ok (.getfield 157, 3) := by decide +kernel
theorem dX11_choices_11 : decode cX11_choices 11 = .ok (.ireturn, 1) := by decide +kernel
theorem dX11_choice_0 : decode cX11_choice 0 = .ok (.aload_n 0, 1) := by decide +kernel
theorem dX11_choice_1 : decode cX11_choice 1 = .ok (.invokevirtual 160, 3) := by decide +kernel
theorem dX11_choice_4 : decode cX11_choice 4 = .ok (.iload_n 1, 1) := by decide +kernel
theorem dX11_choice_5 : decode cX11_choice 5 = .ok (.aload_n 0, 1) := by decide +kernel
theorem dX11_choice_6 : decode cX11_choice 6 = .ok (.getfield 46, 3) := by decide +kernel
theorem dX11_choice_9 : decode cX11_choice 9 = .ok (.getfield 157, 3) := by decide +kernel
theorem dX11_choice_12 : decode cX11_choice 12 = .ok (.invokestatic 163, 3) := by decide +kernel
theorem dX11_choice_15 : decode cX11_choice 15 = .ok (.iload_n 2, 1) := by decide +kernel
theorem dX11_choice_16 : decode cX11_choice 16 = .ok (.iconst 5, 1) := by decide +kernel
theorem dX11_choice_17 : decode cX11_choice 17 = .ok (.invokestatic 132, 3) := by decide +kernel
theorem dX11_choice_20 : decode cX11_choice 20 = .ok (.aload_n 0, 1) := by decide +kernel
theorem dX11_choice_21 : decode cX11_choice 21 = .ok (.getfield 46, 3) := by decide +kernel
theorem dX11_choice_24 : decode cX11_choice 24 = .ok (.getfield 166, 3) := by decide +kernel
theorem dX11_choice_27 : decode cX11_choice 27 = .ok (.iload_n 1, 1) := by decide +kernel
theorem dX11_choice_28 : decode cX11_choice 28 = .ok (.iaload, 1) := by decide +kernel
theorem dX11_choice_29 : decode cX11_choice 29 = .ok (.istore_n 3, 1) := by decide +kernel
theorem dX11_choice_30 : decode cX11_choice 30 = .ok (.aload_n 0, 1) := by decide +kernel
theorem dX11_choice_31 : decode cX11_choice 31 = .ok (.getfield 46, 3) := by decide +kernel
theorem dX11_choice_34 : decode cX11_choice 34 = .ok (.getfield 169, 3) := by decide +kernel
theorem dX11_choice_37 : decode cX11_choice 37 = .ok (.iload_n 1, 1) := by decide +kernel
theorem dX11_choice_38 : decode cX11_choice 38 = .ok (.iaload, 1) := by decide +kernel
theorem dX11_choice_39 : decode cX11_choice 39 = .ok (.istore 4, 2) := by decide +kernel
theorem dX11_choice_41 : decode cX11_choice 41 = .ok (.iload_n 2, 1) := by decide +kernel
theorem dX11_choice_42 : decode cX11_choice 42 = .ok (.tableswitch 91 0 3 #[30, 32, 44, 63], 30) := by decide +kernel
theorem dX11_choice_72 : decode cX11_choice 72 = .ok (.iload_n 3, 1) := by decide +kernel
theorem dX11_choice_73 : decode cX11_choice 73 = .ok (.ireturn, 1) := by decide +kernel
theorem dX11_choice_74 : decode cX11_choice 74 = .ok (.iload 4, 2) := by decide +kernel
theorem dX11_choice_76 : decode cX11_choice 76 = .ok (.iconst (-1), 1) := by decide +kernel
theorem dX11_choice_77 : decode cX11_choice 77 = .ok (.if_icmp .ne 7, 3) := by decide +kernel
theorem dX11_choice_80 : decode cX11_choice 80 = .ok (.iconst 0, 1) := by decide +kernel
theorem dX11_choice_81 : decode cX11_choice 81 = .ok (.goto 4, 3) := by decide +kernel
theorem dX11_choice_84 : decode cX11_choice 84 = .ok (.iconst 1, 1) := by decide +kernel
theorem dX11_choice_85 : decode cX11_choice 85 = .ok (.ireturn, 1) := by decide +kernel
theorem dX11_choice_86 : decode cX11_choice 86 = .ok (.iload 4, 2) := by decide +kernel
theorem dX11_choice_88 : decode cX11_choice 88 = .ok (.iconst (-1), 1) := by decide +kernel
theorem dX11_choice_89 : decode cX11_choice 89 = .ok (.if_icmp .ne 14, 3) := by decide +kernel
theorem dX11_choice_92 : decode cX11_choice 92 = .ok (.aload_n 0, 1) := by decide +kernel
theorem dX11_choice_93 : decode cX11_choice 93 = .ok (.getfield 46, 3) := by decide +kernel
theorem dX11_choice_96 : decode cX11_choice 96 = .ok (.iload_n 3, 1) := by decide +kernel
theorem dX11_choice_97 : decode cX11_choice 97 = .ok (.invokevirtual 172, 3) := by decide +kernel
theorem dX11_choice_100 : decode cX11_choice 100 = .ok (.goto 4, 3) := by decide +kernel
theorem dX11_choice_103 : decode cX11_choice 103 = .ok (.iconst 1, 1) := by decide +kernel
theorem dX11_choice_104 : decode cX11_choice 104 = .ok (.ireturn, 1) := by decide +kernel
theorem dX11_choice_105 : decode cX11_choice 105 = .ok (.iload 4, 2) := by decide +kernel
theorem dX11_choice_107 : decode cX11_choice 107 = .ok (.iconst (-1), 1) := by decide +kernel
theorem dX11_choice_108 : decode cX11_choice 108 = .ok (.if_icmp .ne 14, 3) := by decide +kernel
theorem dX11_choice_111 : decode cX11_choice 111 = .ok (.aload_n 0, 1) := by decide +kernel
theorem dX11_choice_112 : decode cX11_choice 112 = .ok (.getfield 46, 3) := by decide +kernel
theorem dX11_choice_115 : decode cX11_choice 115 = .ok (.iload_n 3, 1) := by decide +kernel
theorem dX11_choice_116 : decode cX11_choice 116 = .ok (.invokevirtual 176, 3) := by decide +kernel
theorem dX11_choice_119 : decode cX11_choice 119 = .ok (.goto 13, 3) := by decide +kernel
theorem dX11_choice_122 : decode cX11_choice 122 = .ok (.aload_n 0, 1) := by decide +kernel
theorem dX11_choice_123 : decode cX11_choice 123 = .ok (.getfield 46, 3) := by decide +kernel
theorem dX11_choice_126 : decode cX11_choice 126 = .ok (.iload_n 3, 1) := by decide +kernel
theorem dX11_choice_127 : decode cX11_choice 127 = .ok (.iload 4, 2) := by decide +kernel
theorem dX11_choice_129 : decode cX11_choice 129 = .ok (.invokevirtual 179, 3) := by decide +kernel
theorem dX11_choice_132 : decode cX11_choice 132 = .ok (.ireturn, 1) := by decide +kernel
theorem dX11_choice_133 : decode cX11_choice 133 = .ok (.aload_n 0, 1) := by decide +kernel
theorem dX11_choice_134 : decode cX11_choice 134 = .ok (.getfield 46, 3) := by decide +kernel
theorem dX11_choice_137 : decode cX11_choice 137 = .ok (.getfield 183, 3) := by decide +kernel
theorem dX11_choice_140 : decode cX11_choice 140 = .ok (.iload_n 1, 1) := by decide +kernel
theorem dX11_choice_141 : decode cX11_choice 141 = .ok (.iaload, 1) := by decide +kernel
theorem dX11_choice_142 : decode cX11_choice 142 = .ok (.ireturn, 1) := by decide +kernel
theorem dX11_go_0 : decode cX11_go 0 = .ok (.aload_n 0, 1) := by decide +kernel
theorem dX11_go_1 : decode cX11_go 1 = .ok (.invokevirtual 160, 3) := by decide +kernel
theorem dX11_go_4 : decode cX11_go 4 = .ok (.aload_n 0, 1) := by decide +kernel
theorem dX11_go_5 : decode cX11_go 5 = .ok (.getfield 53, 3) := by decide +kernel
theorem dX11_go_8 : decode cX11_go 8 = .ok (.getfield 186, 3) := by decide +kernel
theorem dX11_go_11 : decode cX11_go 11 = .ok (.sipush 400, 3) := by decide +kernel
theorem dX11_go_14 : decode cX11_go 14 = .ok (.if_icmp .lt 13, 3) := by decide +kernel
theorem dX11_go_17 : decode cX11_go 17 = .ok (.new 102, 3) := by decide +kernel
theorem dX11_go_20 : decode cX11_go 20 = .ok (.dup, 1) := by decide +kernel
theorem dX11_go_21 : decode cX11_go 21 = .ok (.ldc 189, 2) := by decide +kernel
theorem dX11_go_23 : decode cX11_go 23 = .ok (.invokespecial 191, 3) := by decide +kernel
theorem dX11_go_26 : decode cX11_go 26 = .ok (.athrow, 1) := by decide +kernel
theorem dX11_go_27 : decode cX11_go 27 = .ok (.iload_n 1, 1) := by decide +kernel
theorem dX11_go_28 : decode cX11_go 28 = .ok (.aload_n 0, 1) := by decide +kernel
theorem dX11_go_29 : decode cX11_go 29 = .ok (.getfield 46, 3) := by decide +kernel
theorem dX11_go_32 : decode cX11_go 32 = .ok (.getfield 157, 3) := by decide +kernel
theorem dX11_go_35 : decode cX11_go 35 = .ok (.invokestatic 163, 3) := by decide +kernel
theorem dX11_go_38 : decode cX11_go 38 = .ok (.aload_n 0, 1) := by decide +kernel
theorem dX11_go_39 : decode cX11_go 39 = .ok (.iload_n 1, 1) := by decide +kernel
theorem dX11_go_40 : decode cX11_go 40 = .ok (.invokevirtual 192, 3) := by decide +kernel
theorem dX11_go_43 : decode cX11_go 43 = .ok (.aload_n 0, 1) := by decide +kernel
theorem dX11_go_44 : decode cX11_go 44 = .ok (.getfield 46, 3) := by decide +kernel
theorem dX11_go_47 : decode cX11_go 47 = .ok (.getfield 157, 3) := by decide +kernel
theorem dX11_go_50 : decode cX11_go 50 = .ok (.ireturn, 1) := by decide +kernel
theorem dX11_draw_0 : decode cX11_draw 0 = .ok (.aload_n 0, 1) := by decide +kernel
theorem dX11_draw_1 : decode cX11_draw 1 = .ok (.invokevirtual 160, 3) := by decide +kernel
theorem dX11_draw_4 : decode cX11_draw 4 = .ok (.iload_n 2, 1) := by decide +kernel
theorem dX11_draw_5 : decode cX11_draw 5 = .ok (.ifCond .lt 10, 3) := by decide +kernel
theorem dX11_draw_8 : decode cX11_draw 8 = .ok (.iload_n 2, 1) := by decide +kernel
theorem dX11_draw_9 : decode cX11_draw 9 = .ok (.sipush 400, 3) := by decide +kernel
theorem dX11_draw_12 : decode cX11_draw 12 = .ok (.if_icmp .le 13, 3) := by decide +kernel
theorem dX11_draw_15 : decode cX11_draw 15 = .ok (.new 70, 3) := by decide +kernel
theorem dX11_draw_18 : decode cX11_draw 18 = .ok (.dup, 1) := by decide +kernel
theorem dX11_draw_19 : decode cX11_draw 19 = .ok (.ldc 195, 2) := by decide +kernel
theorem dX11_draw_21 : decode cX11_draw 21 = .ok (.invokespecial 74, 3) := by decide +kernel
theorem dX11_draw_24 : decode cX11_draw 24 = .ok (.athrow, 1) := by decide +kernel
theorem dX11_draw_25 : decode cX11_draw 25 = .ok (.iload_n 1, 1) := by decide +kernel
theorem dX11_draw_26 : decode cX11_draw 26 = .ok (.istore_n 3, 1) := by decide +kernel
theorem dX11_draw_27 : decode cX11_draw 27 = .ok (.iconst 0, 1) := by decide +kernel
theorem dX11_draw_28 : decode cX11_draw 28 = .ok (.istore 4, 2) := by decide +kernel
theorem dX11_draw_30 : decode cX11_draw 30 = .ok (.iconst 0, 1) := by decide +kernel
theorem dX11_draw_31 : decode cX11_draw 31 = .ok (.istore 5, 2) := by decide +kernel
theorem dX11_draw_33 : decode cX11_draw 33 = .ok (.iload 5, 2) := by decide +kernel
theorem dX11_draw_35 : decode cX11_draw 35 = .ok (.iload_n 2, 1) := by decide +kernel
theorem dX11_draw_36 : decode cX11_draw 36 = .ok (.if_icmp .ge 64, 3) := by decide +kernel
theorem dX11_draw_39 : decode cX11_draw 39 = .ok (.aload_n 0, 1) := by decide +kernel
theorem dX11_draw_40 : decode cX11_draw 40 = .ok (.getfield 46, 3) := by decide +kernel
theorem dX11_draw_43 : decode cX11_draw 43 = .ok (.getfield 157, 3) := by decide +kernel
theorem dX11_draw_46 : decode cX11_draw 46 = .ok (.ifCond .le 54, 3) := by decide +kernel
theorem dX11_draw_49 : decode cX11_draw 49 = .ok (.aload_n 0, 1) := by decide +kernel
theorem dX11_draw_50 : decode cX11_draw 50 = .ok (.getfield 53, 3) := by decide +kernel
theorem dX11_draw_53 : decode cX11_draw 53 = .ok (.getfield 186, 3) := by decide +kernel
theorem dX11_draw_56 : decode cX11_draw 56 = .ok (.sipush 400, 3) := by decide +kernel
theorem dX11_draw_59 : decode cX11_draw 59 = .ok (.if_icmp .ge 41, 3) := by decide +kernel
theorem dX11_draw_62 : decode cX11_draw 62 = .ok (.iload_n 3, 1) := by decide +kernel
theorem dX11_draw_63 : decode cX11_draw 63 = .ok (.ldc 197, 2) := by decide +kernel
theorem dX11_draw_65 : decode cX11_draw 65 = .ok (.imul, 1) := by decide +kernel
theorem dX11_draw_66 : decode cX11_draw 66 = .ok (.sipush 12345, 3) := by decide +kernel
theorem dX11_draw_69 : decode cX11_draw 69 = .ok (.iadd, 1) := by decide +kernel
theorem dX11_draw_70 : decode cX11_draw 70 = .ok (.istore_n 3, 1) := by decide +kernel
theorem dX11_draw_71 : decode cX11_draw 71 = .ok (.aload_n 0, 1) := by decide +kernel
theorem dX11_draw_72 : decode cX11_draw 72 = .ok (.iload_n 3, 1) := by decide +kernel
theorem dX11_draw_73 : decode cX11_draw 73 = .ok (.bipush 16, 2) := by decide +kernel
theorem dX11_draw_75 : decode cX11_draw 75 = .ok (.iushr, 1) := by decide +kernel
theorem dX11_draw_76 : decode cX11_draw 76 = .ok (.sipush 32767, 3) := by decide +kernel
theorem dX11_draw_79 : decode cX11_draw 79 = .ok (.iand, 1) := by decide +kernel
theorem dX11_draw_80 : decode cX11_draw 80 = .ok (.aload_n 0, 1) := by decide +kernel
theorem dX11_draw_81 : decode cX11_draw 81 = .ok (.getfield 46, 3) := by decide +kernel
theorem dX11_draw_84 : decode cX11_draw 84 = .ok (.getfield 157, 3) := by decide +kernel
theorem dX11_draw_87 : decode cX11_draw 87 = .ok (.irem, 1) := by decide +kernel
theorem dX11_draw_88 : decode cX11_draw 88 = .ok (.invokevirtual 192, 3) := by decide +kernel
theorem dX11_draw_91 : decode cX11_draw 91 = .ok (.iinc 4 1, 3) := by decide +kernel
theorem dX11_draw_94 : decode cX11_draw 94 = .ok (.iinc 5 1, 3) := by decide +kernel
theorem dX11_draw_97 : decode cX11_draw 97 = .ok (.goto (-64), 3) := by decide +kernel
theorem dX11_draw_100 : decode cX11_draw 100 = .ok (.iload 4, 2) := by decide +kernel
theorem dX11_draw_102 : decode cX11_draw 102 = .ok (.ireturn, 1) := by decide +kernel
theorem dX11_again_0 : decode cX11_again 0 = .ok (.aload_n 0, 1) := by decide +kernel
theorem dX11_again_1 : decode cX11_again 1 = .ok (.invokevirtual 160, 3) := by decide +kernel
theorem dX11_again_4 : decode cX11_again 4 = .ok (.iload_n 1, 1) := by decide +kernel
theorem dX11_again_5 : decode cX11_again 5 = .ok (.ifCond .lt 14, 3) := by decide +kernel
theorem dX11_again_8 : decode cX11_again 8 = .ok (.iload_n 1, 1) := by decide +kernel
theorem dX11_again_9 : decode cX11_again 9 = .ok (.aload_n 0, 1) := by decide +kernel
theorem dX11_again_10 : decode cX11_again 10 = .ok (.getfield 53, 3) := by decide +kernel
theorem dX11_again_13 : decode cX11_again 13 = .ok (.getfield 186, 3) := by decide +kernel
theorem dX11_again_16 : decode cX11_again 16 = .ok (.if_icmp .le 13, 3) := by decide +kernel
theorem dX11_again_19 : decode cX11_again 19 = .ok (.new 70, 3) := by decide +kernel
theorem dX11_again_22 : decode cX11_again 22 = .ok (.dup, 1) := by decide +kernel
theorem dX11_again_23 : decode cX11_again 23 = .ok (.ldc 198, 2) := by decide +kernel
theorem dX11_again_25 : decode cX11_again 25 = .ok (.invokespecial 74, 3) := by decide +kernel
theorem dX11_again_28 : decode cX11_again 28 = .ok (.athrow, 1) := by decide +kernel
theorem dX11_again_29 : decode cX11_again 29 = .ok (.aload_n 0, 1) := by decide +kernel
theorem dX11_again_30 : decode cX11_again 30 = .ok (.aload_n 0, 1) := by decide +kernel
theorem dX11_again_31 : decode cX11_again 31 = .ok (.getfield 46, 3) := by decide +kernel
theorem dX11_again_34 : decode cX11_again 34 = .ok (.getfield 200, 3) := by decide +kernel
theorem dX11_again_37 : decode cX11_again 37 = .ok (.invokevirtual 154, 3) := by decide +kernel
theorem dX11_again_40 : decode cX11_again 40 = .ok (.iconst 0, 1) := by decide +kernel
theorem dX11_again_41 : decode cX11_again 41 = .ok (.istore_n 2, 1) := by decide +kernel
theorem dX11_again_42 : decode cX11_again 42 = .ok (.iload_n 2, 1) := by decide +kernel
theorem dX11_again_43 : decode cX11_again 43 = .ok (.iload_n 1, 1) := by decide +kernel
theorem dX11_again_44 : decode cX11_again 44 = .ok (.if_icmp .ge 22, 3) := by decide +kernel
theorem dX11_again_47 : decode cX11_again 47 = .ok (.aload_n 0, 1) := by decide +kernel
theorem dX11_again_48 : decode cX11_again 48 = .ok (.aload_n 0, 1) := by decide +kernel
theorem dX11_again_49 : decode cX11_again 49 = .ok (.getfield 53, 3) := by decide +kernel
theorem dX11_again_52 : decode cX11_again 52 = .ok (.getfield 203, 3) := by decide +kernel
theorem dX11_again_55 : decode cX11_again 55 = .ok (.iload_n 2, 1) := by decide +kernel
theorem dX11_again_56 : decode cX11_again 56 = .ok (.iaload, 1) := by decide +kernel
theorem dX11_again_57 : decode cX11_again 57 = .ok (.invokevirtual 192, 3) := by decide +kernel
theorem dX11_again_60 : decode cX11_again 60 = .ok (.iinc 2 1, 3) := by decide +kernel
theorem dX11_again_63 : decode cX11_again 63 = .ok (.goto (-21), 3) := by decide +kernel
theorem dX11_again_66 : decode cX11_again 66 = .ok (.aload_n 0, 1) := by decide +kernel
theorem dX11_again_67 : decode cX11_again 67 = .ok (.getfield 46, 3) := by decide +kernel
theorem dX11_again_70 : decode cX11_again 70 = .ok (.getfield 157, 3) := by decide +kernel
theorem dX11_again_73 : decode cX11_again 73 = .ok (.ireturn, 1) := by decide +kernel
theorem dX11_run_0 : decode cX11_run 0 = .ok (.aload_n 0, 1) := by decide +kernel
theorem dX11_run_1 : decode cX11_run 1 = .ok (.invokevirtual 160, 3) := by decide +kernel
theorem dX11_run_4 : decode cX11_run 4 = .ok (.iload_n 1, 1) := by decide +kernel
theorem dX11_run_5 : decode cX11_run 5 = .ok (.bipush 8, 2) := by decide +kernel
theorem dX11_run_7 : decode cX11_run 7 = .ok (.invokestatic 132, 3) := by decide +kernel
theorem dX11_run_10 : decode cX11_run 10 = .ok (.iload_n 1, 1) := by decide +kernel
theorem dX11_run_11 : decode cX11_run 11 = .ok (.tableswitch 113 0 6 #[41, 49, 57, 65, 81, 97, 105], 41) := by decide +kernel
theorem dX11_run_52 : decode cX11_run 52 = .ok (.aload_n 0, 1) := by decide +kernel
theorem dX11_run_53 : decode cX11_run 53 = .ok (.getfield 46, 3) := by decide +kernel
theorem dX11_run_56 : decode cX11_run 56 = .ok (.getfield 200, 3) := by decide +kernel
theorem dX11_run_59 : decode cX11_run 59 = .ok (.ireturn, 1) := by decide +kernel
theorem dX11_run_60 : decode cX11_run 60 = .ok (.aload_n 0, 1) := by decide +kernel
theorem dX11_run_61 : decode cX11_run 61 = .ok (.getfield 53, 3) := by decide +kernel
theorem dX11_run_64 : decode cX11_run 64 = .ok (.getfield 186, 3) := by decide +kernel
theorem dX11_run_67 : decode cX11_run 67 = .ok (.ireturn, 1) := by decide +kernel
theorem dX11_run_68 : decode cX11_run 68 = .ok (.aload_n 0, 1) := by decide +kernel
theorem dX11_run_69 : decode cX11_run 69 = .ok (.getfield 53, 3) := by decide +kernel
theorem dX11_run_72 : decode cX11_run 72 = .ok (.getfield 206, 3) := by decide +kernel
theorem dX11_run_75 : decode cX11_run 75 = .ok (.ireturn, 1) := by decide +kernel
theorem dX11_run_76 : decode cX11_run 76 = .ok (.aload_n 0, 1) := by decide +kernel
theorem dX11_run_77 : decode cX11_run 77 = .ok (.getfield 46, 3) := by decide +kernel
theorem dX11_run_80 : decode cX11_run 80 = .ok (.getfield 157, 3) := by decide +kernel
theorem dX11_run_83 : decode cX11_run 83 = .ok (.ifCond .ne 7, 3) := by decide +kernel
theorem dX11_run_86 : decode cX11_run 86 = .ok (.iconst 1, 1) := by decide +kernel
theorem dX11_run_87 : decode cX11_run 87 = .ok (.goto 4, 3) := by decide +kernel
theorem dX11_run_90 : decode cX11_run 90 = .ok (.iconst 0, 1) := by decide +kernel
theorem dX11_run_91 : decode cX11_run 91 = .ok (.ireturn, 1) := by decide +kernel
theorem dX11_run_92 : decode cX11_run 92 = .ok (.aload_n 0, 1) := by decide +kernel
theorem dX11_run_93 : decode cX11_run 93 = .ok (.getfield 46, 3) := by decide +kernel
theorem dX11_run_96 : decode cX11_run 96 = .ok (.invokevirtual 209, 3) := by decide +kernel
theorem dX11_run_99 : decode cX11_run 99 = .ok (.ifCond .eq 7, 3) := by decide +kernel
theorem dX11_run_102 : decode cX11_run 102 = .ok (.iconst 1, 1) := by decide +kernel
theorem dX11_run_103 : decode cX11_run 103 = .ok (.goto 4, 3) := by decide +kernel
theorem dX11_run_106 : decode cX11_run 106 = .ok (.iconst 0, 1) := by decide +kernel
theorem dX11_run_107 : decode cX11_run 107 = .ok (.ireturn, 1) := by decide +kernel
theorem dX11_run_108 : decode cX11_run 108 = .ok (.aload_n 0, 1) := by decide +kernel
theorem dX11_run_109 : decode cX11_run 109 = .ok (.getfield 53, 3) := by decide +kernel
theorem dX11_run_112 : decode cX11_run 112 = .ok (.invokevirtual 213, 3) := by decide +kernel
theorem dX11_run_115 : decode cX11_run 115 = .ok (.ireturn, 1) := by decide +kernel
theorem dX11_run_116 : decode cX11_run 116 = .ok (.aload_n 0, 1) := by decide +kernel
theorem dX11_run_117 : decode cX11_run 117 = .ok (.getfield 53, 3) := by decide +kernel
theorem dX11_run_120 : decode cX11_run 120 = .ok (.getfield 216, 3) := by decide +kernel
theorem dX11_run_123 : decode cX11_run 123 = .ok (.ireturn, 1) := by decide +kernel
theorem dX11_run_124 : decode cX11_run 124 = .ok (.aload_n 0, 1) := by decide +kernel
theorem dX11_run_125 : decode cX11_run 125 = .ok (.getfield 46, 3) := by decide +kernel
theorem dX11_run_128 : decode cX11_run 128 = .ok (.invokevirtual 219, 3) := by decide +kernel
theorem dX11_run_131 : decode cX11_run 131 = .ok (.ireturn, 1) := by decide +kernel
theorem dX11_cell_0 : decode cX11_cell 0 = .ok (.aload_n 0, 1) := by decide +kernel
theorem dX11_cell_1 : decode cX11_cell 1 = .ok (.invokevirtual 160, 3) := by decide +kernel
theorem dX11_cell_4 : decode cX11_cell 4 = .ok (.iload_n 1, 1) := by decide +kernel
theorem dX11_cell_5 : decode cX11_cell 5 = .ok (.aload_n 0, 1) := by decide +kernel
theorem dX11_cell_6 : decode cX11_cell 6 = .ok (.getfield 28, 3) := by decide +kernel
theorem dX11_cell_9 : decode cX11_cell 9 = .ok (.getfield 136, 3) := by decide +kernel
theorem dX11_cell_12 : decode cX11_cell 12 = .ok (.invokestatic 163, 3) := by decide +kernel
theorem dX11_cell_15 : decode cX11_cell 15 = .ok (.aload_n 0, 1) := by decide +kernel
theorem dX11_cell_16 : decode cX11_cell 16 = .ok (.getfield 46, 3) := by decide +kernel
theorem dX11_cell_19 : decode cX11_cell 19 = .ok (.getfield 222, 3) := by decide +kernel
theorem dX11_cell_22 : decode cX11_cell 22 = .ok (.iload_n 1, 1) := by decide +kernel
theorem dX11_cell_23 : decode cX11_cell 23 = .ok (.iaload, 1) := by decide +kernel
theorem dX11_cell_24 : decode cX11_cell 24 = .ok (.ireturn, 1) := by decide +kernel
theorem dX11_seen_0 : decode cX11_seen 0 = .ok (.aload_n 0, 1) := by decide +kernel
theorem dX11_seen_1 : decode cX11_seen 1 = .ok (.invokevirtual 160, 3) := by decide +kernel
theorem dX11_seen_4 : decode cX11_seen 4 = .ok (.iload_n 1, 1) := by decide +kernel
theorem dX11_seen_5 : decode cX11_seen 5 = .ok (.aload_n 0, 1) := by decide +kernel
theorem dX11_seen_6 : decode cX11_seen 6 = .ok (.getfield 28, 3) := by decide +kernel
theorem dX11_seen_9 : decode cX11_seen 9 = .ok (.getfield 124, 3) := by decide +kernel
theorem dX11_seen_12 : decode cX11_seen 12 = .ok (.invokestatic 163, 3) := by decide +kernel
theorem dX11_seen_15 : decode cX11_seen 15 = .ok (.iload_n 2, 1) := by decide +kernel
theorem dX11_seen_16 : decode cX11_seen 16 = .ok (.aload_n 0, 1) := by decide +kernel
theorem dX11_seen_17 : decode cX11_seen 17 = .ok (.getfield 28, 3) := by decide +kernel
theorem dX11_seen_20 : decode cX11_seen 20 = .ok (.getfield 136, 3) := by decide +kernel
theorem dX11_seen_23 : decode cX11_seen 23 = .ok (.invokestatic 163, 3) := by decide +kernel
theorem dX11_seen_26 : decode cX11_seen 26 = .ok (.aload_n 0, 1) := by decide +kernel
theorem dX11_seen_27 : decode cX11_seen 27 = .ok (.getfield 46, 3) := by decide +kernel
theorem dX11_seen_30 : decode cX11_seen 30 = .ok (.iload_n 1, 1) := by decide +kernel
theorem dX11_seen_31 : decode cX11_seen 31 = .ok (.iload_n 2, 1) := by decide +kernel
theorem dX11_seen_32 : decode cX11_seen 32 = .ok (.invokevirtual 225, 3) := by decide +kernel
theorem dX11_seen_35 : decode cX11_seen 35 = .ok (.ireturn, 1) := by decide +kernel
theorem dX11_lock_0 : decode cX11_lock 0 = .ok (.aload_n 0, 1) := by decide +kernel
theorem dX11_lock_1 : decode cX11_lock 1 = .ok (.invokevirtual 160, 3) := by decide +kernel
theorem dX11_lock_4 : decode cX11_lock 4 = .ok (.iload_n 1, 1) := by decide +kernel
theorem dX11_lock_5 : decode cX11_lock 5 = .ok (.aload_n 0, 1) := by decide +kernel
theorem dX11_lock_6 : decode cX11_lock 6 = .ok (.getfield 28, 3) := by decide +kernel
theorem dX11_lock_9 : decode cX11_lock 9 = .ok (.getfield 139, 3) := by decide +kernel
theorem dX11_lock_12 : decode cX11_lock 12 = .ok (.invokestatic 163, 3) := by decide +kernel
theorem dX11_lock_15 : decode cX11_lock 15 = .ok (.iload_n 2, 1) := by decide +kernel
theorem dX11_lock_16 : decode cX11_lock 16 = .ok (.iconst 3, 1) := by decide +kernel
theorem dX11_lock_17 : decode cX11_lock 17 = .ok (.invokestatic 132, 3) := by decide +kernel
theorem dX11_lock_20 : decode cX11_lock 20 = .ok (.iload_n 2, 1) := by decide +kernel
theorem dX11_lock_21 : decode cX11_lock 21 = .ok (.lookupswitch 45 #[(0, 27), (1, 36)], 27) := by decide +kernel
theorem dX11_lock_48 : decode cX11_lock 48 = .ok (.aload_n 0, 1) := by decide +kernel
theorem dX11_lock_49 : decode cX11_lock 49 = .ok (.getfield 46, 3) := by decide +kernel
theorem dX11_lock_52 : decode cX11_lock 52 = .ok (.iload_n 1, 1) := by decide +kernel
theorem dX11_lock_53 : decode cX11_lock 53 = .ok (.invokevirtual 228, 3) := by decide +kernel
theorem dX11_lock_56 : decode cX11_lock 56 = .ok (.ireturn, 1) := by decide +kernel
theorem dX11_lock_57 : decode cX11_lock 57 = .ok (.aload_n 0, 1) := by decide +kernel
theorem dX11_lock_58 : decode cX11_lock 58 = .ok (.getfield 46, 3) := by decide +kernel
theorem dX11_lock_61 : decode cX11_lock 61 = .ok (.iload_n 1, 1) := by decide +kernel
theorem dX11_lock_62 : decode cX11_lock 62 = .ok (.invokevirtual 231, 3) := by decide +kernel
theorem dX11_lock_65 : decode cX11_lock 65 = .ok (.ireturn, 1) := by decide +kernel
theorem dX11_lock_66 : decode cX11_lock 66 = .ok (.aload_n 0, 1) := by decide +kernel
theorem dX11_lock_67 : decode cX11_lock 67 = .ok (.getfield 46, 3) := by decide +kernel
theorem dX11_lock_70 : decode cX11_lock 70 = .ok (.iload_n 1, 1) := by decide +kernel
theorem dX11_lock_71 : decode cX11_lock 71 = .ok (.invokevirtual 234, 3) := by decide +kernel
theorem dX11_lock_74 : decode cX11_lock 74 = .ok (.invokestatic 237, 3) := by decide +kernel
theorem dX11_lock_77 : decode cX11_lock 77 = .ok (.ireturn, 1) := by decide +kernel
theorem dX11_thread_0 : decode cX11_thread 0 = .ok (.aload_n 0, 1) := by decide +kernel
theorem dX11_thread_1 : decode cX11_thread 1 = .ok (.invokevirtual 160, 3) := by decide +kernel
theorem dX11_thread_4 : decode cX11_thread 4 = .ok (.iload_n 1, 1) := by decide +kernel
theorem dX11_thread_5 : decode cX11_thread 5 = .ok (.aload_n 0, 1) := by decide +kernel
theorem dX11_thread_6 : decode cX11_thread 6 = .ok (.getfield 28, 3) := by decide +kernel
theorem dX11_thread_9 : decode cX11_thread 9 = .ok (.getfield 124, 3) := by decide +kernel
theorem dX11_thread_12 : decode cX11_thread 12 = .ok (.invokestatic 163, 3) := by decide +kernel
theorem dX11_thread_15 : decode cX11_thread 15 = .ok (.iload_n 2, 1) := by decide +kernel
theorem dX11_thread_16 : decode cX11_thread 16 = .ok (.iconst 5, 1) := by decide +kernel
theorem dX11_thread_17 : decode cX11_thread 17 = .ok (.invokestatic 132, 3) := by decide +kernel
theorem dX11_thread_20 : decode cX11_thread 20 = .ok (.iload_n 2, 1) := by decide +kernel
theorem dX11_thread_21 : decode cX11_thread 21 = .ok (.tableswitch 71 0 3 #[31, 41, 51, 62], 31) := by decide +kernel
theorem dX11_thread_52 : decode cX11_thread 52 = .ok (.aload_n 0, 1) := by decide +kernel
theorem dX11_thread_53 : decode cX11_thread 53 = .ok (.getfield 46, 3) := by decide +kernel
theorem dX11_thread_56 : decode cX11_thread 56 = .ok (.iload_n 1, 1) := by decide +kernel
theorem dX11_thread_57 : decode cX11_thread 57 = .ok (.iconst 0, 1) := by decide +kernel
theorem dX11_thread_58 : decode cX11_thread 58 = .ok (.invokevirtual 242, 3) := by decide +kernel
theorem dX11_thread_61 : decode cX11_thread 61 = .ok (.ireturn, 1) := by decide +kernel
theorem dX11_thread_62 : decode cX11_thread 62 = .ok (.aload_n 0, 1) := by decide +kernel
theorem dX11_thread_63 : decode cX11_thread 63 = .ok (.getfield 46, 3) := by decide +kernel
theorem dX11_thread_66 : decode cX11_thread 66 = .ok (.iload_n 1, 1) := by decide +kernel
theorem dX11_thread_67 : decode cX11_thread 67 = .ok (.iconst 1, 1) := by decide +kernel
theorem dX11_thread_68 : decode cX11_thread 68 = .ok (.invokevirtual 242, 3) := by decide +kernel
theorem dX11_thread_71 : decode cX11_thread 71 = .ok (.ireturn, 1) := by decide +kernel
theorem dX11_thread_72 : decode cX11_thread 72 = .ok (.aload_n 0, 1) := by decide +kernel
theorem dX11_thread_73 : decode cX11_thread 73 = .ok (.getfield 46, 3) := by decide +kernel
theorem dX11_thread_76 : decode cX11_thread 76 = .ok (.iload_n 1, 1) := by decide +kernel
theorem dX11_thread_77 : decode cX11_thread 77 = .ok (.bipush 7, 2) := by decide +kernel
theorem dX11_thread_79 : decode cX11_thread 79 = .ok (.invokevirtual 242, 3) := by decide +kernel
theorem dX11_thread_82 : decode cX11_thread 82 = .ok (.ireturn, 1) := by decide +kernel
theorem dX11_thread_83 : decode cX11_thread 83 = .ok (.aload_n 0, 1) := by decide +kernel
theorem dX11_thread_84 : decode cX11_thread 84 = .ok (.getfield 46, 3) := by decide +kernel
theorem dX11_thread_87 : decode cX11_thread 87 = .ok (.iload_n 1, 1) := by decide +kernel
theorem dX11_thread_88 : decode cX11_thread 88 = .ok (.invokevirtual 245, 3) := by decide +kernel
theorem dX11_thread_91 : decode cX11_thread 91 = .ok (.ireturn, 1) := by decide +kernel
theorem dX11_thread_92 : decode cX11_thread 92 = .ok (.aload_n 0, 1) := by decide +kernel
theorem dX11_thread_93 : decode cX11_thread 93 = .ok (.getfield 46, 3) := by decide +kernel
theorem dX11_thread_96 : decode cX11_thread 96 = .ok (.iload_n 1, 1) := by decide +kernel
theorem dX11_thread_97 : decode cX11_thread 97 = .ok (.invokevirtual 248, 3) := by decide +kernel
theorem dX11_thread_100 : decode cX11_thread 100 = .ok (.ireturn, 1) := by decide +kernel
theorem dX11_local_0 : decode cX11_local 0 = .ok (.aload_n 0, 1) := by decide +kernel
theorem dX11_local_1 : decode cX11_local 1 = .ok (.invokevirtual 160, 3) := by decide +kernel
theorem dX11_local_4 : decode cX11_local 4 = .ok (.iload_n 1, 1) := by decide +kernel
theorem dX11_local_5 : decode cX11_local 5 = .ok (.aload_n 0, 1) := by decide +kernel
theorem dX11_local_6 : decode cX11_local 6 = .ok (.getfield 28, 3) := by decide +kernel
theorem dX11_local_9 : decode cX11_local 9 = .ok (.getfield 124, 3) := by decide +kernel
theorem dX11_local_12 : decode cX11_local 12 = .ok (.invokestatic 163, 3) := by decide +kernel
theorem dX11_local_15 : decode cX11_local 15 = .ok (.iload_n 2, 1) := by decide +kernel
theorem dX11_local_16 : decode cX11_local 16 = .ok (.aload_n 0, 1) := by decide +kernel
theorem dX11_local_17 : decode cX11_local 17 = .ok (.getfield 46, 3) := by decide +kernel
theorem dX11_local_20 : decode cX11_local 20 = .ok (.iload_n 1, 1) := by decide +kernel
theorem dX11_local_21 : decode cX11_local 21 = .ok (.invokevirtual 245, 3) := by decide +kernel
theorem dX11_local_24 : decode cX11_local 24 = .ok (.invokestatic 163, 3) := by decide +kernel
theorem dX11_local_27 : decode cX11_local 27 = .ok (.aload_n 0, 1) := by decide +kernel
theorem dX11_local_28 : decode cX11_local 28 = .ok (.getfield 46, 3) := by decide +kernel
theorem dX11_local_31 : decode cX11_local 31 = .ok (.iload_n 1, 1) := by decide +kernel
theorem dX11_local_32 : decode cX11_local 32 = .ok (.bipush 8, 2) := by decide +kernel
theorem dX11_local_34 : decode cX11_local 34 = .ok (.iload_n 2, 1) := by decide +kernel
theorem dX11_local_35 : decode cX11_local 35 = .ok (.iadd, 1) := by decide +kernel
theorem dX11_local_36 : decode cX11_local 36 = .ok (.invokevirtual 242, 3) := by decide +kernel
theorem dX11_local_39 : decode cX11_local 39 = .ok (.ireturn, 1) := by decide +kernel
theorem dX11_act_0 : decode cX11_act 0 = .ok (.aload_n 0, 1) := by decide +kernel
theorem dX11_act_1 : decode cX11_act 1 = .ok (.invokevirtual 160, 3) := by decide +kernel
theorem dX11_act_4 : decode cX11_act 4 = .ok (.iload_n 1, 1) := by decide +kernel
theorem dX11_act_5 : decode cX11_act 5 = .ok (.aload_n 0, 1) := by decide +kernel
theorem dX11_act_6 : decode cX11_act 6 = .ok (.getfield 53, 3) := by decide +kernel
theorem dX11_act_9 : decode cX11_act 9 = .ok (.getfield 206, 3) := by decide +kernel
theorem dX11_act_12 : decode cX11_act 12 = .ok (.invokestatic 163, 3) := by decide +kernel
theorem dX11_act_15 : decode cX11_act 15 = .ok (.iload_n 2, 1) := by decide +kernel
theorem dX11_act_16 : decode cX11_act 16 = .ok (.iconst 5, 1) := by decide +kernel
theorem dX11_act_17 : decode cX11_act 17 = .ok (.invokestatic 132, 3) := by decide +kernel
theorem dX11_act_20 : decode cX11_act 20 = .ok (.iload_n 2, 1) := by decide +kernel
theorem dX11_act_21 : decode cX11_act 21 = .ok (.tableswitch 71 0 3 #[31, 41, 51, 61], 31) := by decide +kernel
theorem dX11_act_52 : decode cX11_act 52 = .ok (.aload_n 0, 1) := by decide +kernel
theorem dX11_act_53 : decode cX11_act 53 = .ok (.getfield 53, 3) := by decide +kernel
theorem dX11_act_56 : decode cX11_act 56 = .ok (.getfield 251, 3) := by decide +kernel
theorem dX11_act_59 : decode cX11_act 59 = .ok (.iload_n 1, 1) := by decide +kernel
theorem dX11_act_60 : decode cX11_act 60 = .ok (.iaload, 1) := by decide +kernel
theorem dX11_act_61 : decode cX11_act 61 = .ok (.ireturn, 1) := by decide +kernel
theorem dX11_act_62 : decode cX11_act 62 = .ok (.aload_n 0, 1) := by decide +kernel
theorem dX11_act_63 : decode cX11_act 63 = .ok (.getfield 53, 3) := by decide +kernel
theorem dX11_act_66 : decode cX11_act 66 = .ok (.getfield 254, 3) := by decide +kernel
theorem dX11_act_69 : decode cX11_act 69 = .ok (.iload_n 1, 1) := by decide +kernel
theorem dX11_act_70 : decode cX11_act 70 = .ok (.iaload, 1) := by decide +kernel
theorem dX11_act_71 : decode cX11_act 71 = .ok (.ireturn, 1) := by decide +kernel
theorem dX11_act_72 : decode cX11_act 72 = .ok (.aload_n 0, 1) := by decide +kernel
theorem dX11_act_73 : decode cX11_act 73 = .ok (.getfield 53, 3) := by decide +kernel
theorem dX11_act_76 : decode cX11_act 76 = .ok (.getfield 257, 3) := by decide +kernel
theorem dX11_act_79 : decode cX11_act 79 = .ok (.iload_n 1, 1) := by decide +kernel
theorem dX11_act_80 : decode cX11_act 80 = .ok (.iaload, 1) := by decide +kernel
theorem dX11_act_81 : decode cX11_act 81 = .ok (.ireturn, 1) := by decide +kernel
theorem dX11_act_82 : decode cX11_act 82 = .ok (.aload_n 0, 1) := by decide +kernel
theorem dX11_act_83 : decode cX11_act 83 = .ok (.getfield 53, 3) := by decide +kernel
theorem dX11_act_86 : decode cX11_act 86 = .ok (.getfield 260, 3) := by decide +kernel
theorem dX11_act_89 : decode cX11_act 89 = .ok (.iload_n 1, 1) := by decide +kernel
theorem dX11_act_90 : decode cX11_act 90 = .ok (.iaload, 1) := by decide +kernel
theorem dX11_act_91 : decode cX11_act 91 = .ok (.ireturn, 1) := by decide +kernel
theorem dX11_act_92 : decode cX11_act 92 = .ok (.aload_n 0, 1) := by decide +kernel
theorem dX11_act_93 : decode cX11_act 93 = .ok (.getfield 53, 3) := by decide +kernel
theorem dX11_act_96 : decode cX11_act 96 = .ok (.getfield 263, 3) := by decide +kernel
theorem dX11_act_99 : decode cX11_act 99 = .ok (.iload_n 1, 1) := by decide +kernel
theorem dX11_act_100 : decode cX11_act 100 = .ok (.iaload, 1) := by decide +kernel
theorem dX11_act_101 : decode cX11_act 101 = .ok (.ireturn, 1) := by decide +kernel
theorem dX11_before_0 : decode cX11_before 0 = .ok (.aload_n 0, 1) := by decide +kernel
theorem dX11_before_1 : decode cX11_before 1 = .ok (.invokevirtual 160, 3) := by decide +kernel
theorem dX11_before_4 : decode cX11_before 4 = .ok (.iload_n 1, 1) := by decide +kernel
theorem dX11_before_5 : decode cX11_before 5 = .ok (.aload_n 0, 1) := by decide +kernel
theorem dX11_before_6 : decode cX11_before 6 = .ok (.getfield 53, 3) := by decide +kernel
theorem dX11_before_9 : decode cX11_before 9 = .ok (.getfield 206, 3) := by decide +kernel
theorem dX11_before_12 : decode cX11_before 12 = .ok (.invokestatic 163, 3) := by decide +kernel
theorem dX11_before_15 : decode cX11_before 15 = .ok (.iload_n 2, 1) := by decide +kernel
theorem dX11_before_16 : decode cX11_before 16 = .ok (.aload_n 0, 1) := by decide +kernel
theorem dX11_before_17 : decode cX11_before 17 = .ok (.getfield 53, 3) := by decide +kernel
theorem dX11_before_20 : decode cX11_before 20 = .ok (.getfield 206, 3) := by decide +kernel
theorem dX11_before_23 : decode cX11_before 23 = .ok (.invokestatic 163, 3) := by decide +kernel
theorem dX11_before_26 : decode cX11_before 26 = .ok (.aload_n 0, 1) := by decide +kernel
theorem dX11_before_27 : decode cX11_before 27 = .ok (.getfield 53, 3) := by decide +kernel
theorem dX11_before_30 : decode cX11_before 30 = .ok (.iload_n 1, 1) := by decide +kernel
theorem dX11_before_31 : decode cX11_before 31 = .ok (.iload_n 2, 1) := by decide +kernel
theorem dX11_before_32 : decode cX11_before 32 = .ok (.invokevirtual 266, 3) := by decide +kernel
theorem dX11_before_35 : decode cX11_before 35 = .ok (.ireturn, 1) := by decide +kernel
theorem dX11_race_0 : decode cX11_race 0 = .ok (.aload_n 0, 1) := by decide +kernel
theorem dX11_race_1 : decode cX11_race 1 = .ok (.invokevirtual 160, 3) := by decide +kernel
theorem dX11_race_4 : decode cX11_race 4 = .ok (.iload_n 1, 1) := by decide +kernel
theorem dX11_race_5 : decode cX11_race 5 = .ok (.aload_n 0, 1) := by decide +kernel
theorem dX11_race_6 : decode cX11_race 6 = .ok (.getfield 53, 3) := by decide +kernel
theorem dX11_race_9 : decode cX11_race 9 = .ok (.invokevirtual 213, 3) := by decide +kernel
theorem dX11_race_12 : decode cX11_race 12 = .ok (.invokestatic 163, 3) := by decide +kernel
theorem dX11_race_15 : decode cX11_race 15 = .ok (.iload_n 2, 1) := by decide +kernel
theorem dX11_race_16 : decode cX11_race 16 = .ok (.iconst 2, 1) := by decide +kernel
theorem dX11_race_17 : decode cX11_race 17 = .ok (.invokestatic 132, 3) := by decide +kernel
theorem dX11_race_20 : decode cX11_race 20 = .ok (.aload_n 0, 1) := by decide +kernel
theorem dX11_race_21 : decode cX11_race 21 = .ok (.getfield 53, 3) := by decide +kernel
theorem dX11_race_24 : decode cX11_race 24 = .ok (.iload_n 1, 1) := by decide +kernel
theorem dX11_race_25 : decode cX11_race 25 = .ok (.invokevirtual 270, 3) := by decide +kernel
theorem dX11_race_28 : decode cX11_race 28 = .ok (.istore_n 3, 1) := by decide +kernel
theorem dX11_race_29 : decode cX11_race 29 = .ok (.iload_n 2, 1) := by decide +kernel
theorem dX11_race_30 : decode cX11_race 30 = .ok (.iconst 1, 1) := by decide +kernel
theorem dX11_race_31 : decode cX11_race 31 = .ok (.if_icmp .ne 7, 3) := by decide +kernel
theorem dX11_race_34 : decode cX11_race 34 = .ok (.iload_n 3, 1) := by decide +kernel
theorem dX11_race_35 : decode cX11_race 35 = .ok (.goto 12, 3) := by decide +kernel
theorem dX11_race_38 : decode cX11_race 38 = .ok (.aload_n 0, 1) := by decide +kernel
theorem dX11_race_39 : decode cX11_race 39 = .ok (.getfield 53, 3) := by decide +kernel
theorem dX11_race_42 : decode cX11_race 42 = .ok (.iload_n 1, 1) := by decide +kernel
theorem dX11_race_43 : decode cX11_race 43 = .ok (.iload_n 3, 1) := by decide +kernel
theorem dX11_race_44 : decode cX11_race 44 = .ok (.invokevirtual 273, 3) := by decide +kernel
theorem dX11_race_47 : decode cX11_race 47 = .ok (.ireturn, 1) := by decide +kernel
theorem dX11_linear_0 : decode cX11_linear 0 = .ok (.aload_n 0, 1) := by decide +kernel
theorem dX11_linear_1 : decode cX11_linear 1 = .ok (.invokevirtual 160, 3) := by decide +kernel
theorem dX11_linear_4 : decode cX11_linear 4 = .ok (.iload_n 1, 1) := by decide +kernel
theorem dX11_linear_5 : decode cX11_linear 5 = .ok (.ifCond .lt 8, 3) := by decide +kernel
theorem dX11_linear_8 : decode cX11_linear 8 = .ok (.iload_n 1, 1) := by decide +kernel
theorem dX11_linear_9 : decode cX11_linear 9 = .ok (.iconst 3, 1) := by decide +kernel
theorem dX11_linear_10 : decode cX11_linear 10 = .ok (.if_icmp .le 14, 3) := by decide +kernel
theorem dX11_linear_13 : decode cX11_linear 13 = .ok (.new 70, 3) := by decide +kernel
theorem dX11_linear_16 : decode cX11_linear 16 = .ok (.dup, 1) := by decide +kernel
theorem dX11_linear_17 : decode cX11_linear 17 = .ok (.ldc_w 276, 3) := by decide +kernel
theorem dX11_linear_20 : decode cX11_linear 20 = .ok (.invokespecial 74, 3) := by decide +kernel
theorem dX11_linear_23 : decode cX11_linear 23 = .ok (.athrow, 1) := by decide +kernel
theorem dX11_linear_24 : decode cX11_linear 24 = .ok (.aload_n 0, 1) := by decide +kernel
theorem dX11_linear_25 : decode cX11_linear 25 = .ok (.getfield 53, 3) := by decide +kernel
theorem dX11_linear_28 : decode cX11_linear 28 = .ok (.getfield 216, 3) := by decide +kernel
theorem dX11_linear_31 : decode cX11_linear 31 = .ok (.bipush 12, 2) := by decide +kernel
theorem dX11_linear_33 : decode cX11_linear 33 = .ok (.if_icmp .le 5, 3) := by decide +kernel
theorem dX11_linear_36 : decode cX11_linear 36 = .ok (.iconst (-1), 1) := by decide +kernel
theorem dX11_linear_37 : decode cX11_linear 37 = .ok (.ireturn, 1) := by decide +kernel
theorem dX11_linear_38 : decode cX11_linear 38 = .ok (.aload_n 0, 1) := by decide +kernel
theorem dX11_linear_39 : decode cX11_linear 39 = .ok (.getfield 280, 3) := by decide +kernel
theorem dX11_linear_42 : decode cX11_linear 42 = .ok (.ifnonnull 14, 3) := by decide +kernel
theorem dX11_linear_45 : decode cX11_linear 45 = .ok (.aload_n 0, 1) := by decide +kernel
theorem dX11_linear_46 : decode cX11_linear 46 = .ok (.new 278, 3) := by decide +kernel
theorem dX11_linear_49 : decode cX11_linear 49 = .ok (.dup, 1) := by decide +kernel
theorem dX11_linear_50 : decode cX11_linear 50 = .ok (.invokespecial 284, 3) := by decide +kernel
theorem dX11_linear_53 : decode cX11_linear 53 = .ok (.putfield 280, 3) := by decide +kernel
theorem dX11_linear_56 : decode cX11_linear 56 = .ok (.aload_n 0, 1) := by decide +kernel
theorem dX11_linear_57 : decode cX11_linear 57 = .ok (.getfield 280, 3) := by decide +kernel
theorem dX11_linear_60 : decode cX11_linear 60 = .ok (.aload_n 0, 1) := by decide +kernel
theorem dX11_linear_61 : decode cX11_linear 61 = .ok (.getfield 53, 3) := by decide +kernel
theorem dX11_linear_64 : decode cX11_linear 64 = .ok (.invokevirtual 285, 3) := by decide +kernel
theorem dX11_linear_67 : decode cX11_linear 67 = .ok (.aload_n 0, 1) := by decide +kernel
theorem dX11_linear_68 : decode cX11_linear 68 = .ok (.getfield 280, 3) := by decide +kernel
theorem dX11_linear_71 : decode cX11_linear 71 = .ok (.iload_n 1, 1) := by decide +kernel
theorem dX11_linear_72 : decode cX11_linear 72 = .ok (.invokevirtual 289, 3) := by decide +kernel
theorem dX11_linear_75 : decode cX11_linear 75 = .ok (.istore_n 2, 1) := by decide +kernel
theorem dX11_linear_76 : decode cX11_linear 76 = .ok (.iload_n 2, 1) := by decide +kernel
theorem dX11_linear_77 : decode cX11_linear 77 = .ok (.iconst (-1), 1) := by decide +kernel
theorem dX11_linear_78 : decode cX11_linear 78 = .ok (.if_icmp .ne 7, 3) := by decide +kernel
theorem dX11_linear_81 : decode cX11_linear 81 = .ok (.iconst 1, 1) := by decide +kernel
theorem dX11_linear_82 : decode cX11_linear 82 = .ok (.goto 7, 3) := by decide +kernel
theorem dX11_linear_85 : decode cX11_linear 85 = .ok (.bipush (-2), 2) := by decide +kernel
theorem dX11_linear_87 : decode cX11_linear 87 = .ok (.iload_n 2, 1) := by decide +kernel
theorem dX11_linear_88 : decode cX11_linear 88 = .ok (.isub, 1) := by decide +kernel
theorem dX11_linear_89 : decode cX11_linear 89 = .ok (.ireturn, 1) := by decide +kernel
theorem dX11_attempt_0 : decode cX11_attempt 0 = .ok (.aload_n 0, 1) := by decide +kernel
theorem dX11_attempt_1 : decode cX11_attempt 1 = .ok (.invokevirtual 148, 3) := by decide +kernel
theorem dX11_attempt_4 : decode cX11_attempt 4 = .ok (.iload_n 1, 1) := by decide +kernel
theorem dX11_attempt_5 : decode cX11_attempt 5 = .ok (.invokestatic 151, 3) := by decide +kernel
theorem dX11_attempt_8 : decode cX11_attempt 8 = .ok (.iload_n 2, 1) := by decide +kernel
theorem dX11_attempt_9 : decode cX11_attempt 9 = .ok (.iconst 1, 1) := by decide +kernel
theorem dX11_attempt_10 : decode cX11_attempt 10 = .ok (.if_icmp .lt 10, 3) := by decide +kernel
theorem dX11_attempt_13 : decode cX11_attempt 13 = .ok (.iload_n 2, 1) := by decide +kernel
theorem dX11_attempt_14 : decode cX11_attempt 14 = .ok (.sipush 3000, 3) := by decide +kernel
theorem dX11_attempt_17 : decode cX11_attempt 17 = .ok (.if_icmp .le 14, 3) := by decide +kernel
theorem dX11_attempt_20 : decode cX11_attempt 20 = .ok (.new 70, 3) := by decide +kernel
theorem dX11_attempt_23 : decode cX11_attempt 23 = .ok (.dup, 1) := by decide +kernel
theorem dX11_attempt_24 : decode cX11_attempt 24 = .ok (.ldc_w 292, 3) := by decide +kernel
theorem dX11_attempt_27 : decode cX11_attempt 27 = .ok (.invokespecial 74, 3) := by decide +kernel
theorem dX11_attempt_30 : decode cX11_attempt 30 = .ok (.athrow, 1) := by decide +kernel
theorem dX11_attempt_31 : decode cX11_attempt 31 = .ok (.aload_n 0, 1) := by decide +kernel
theorem dX11_attempt_32 : decode cX11_attempt 32 = .ok (.getfield 294, 3) := by decide +kernel
theorem dX11_attempt_35 : decode cX11_attempt 35 = .ok (.ifnonnull 18, 3) := by decide +kernel
theorem dX11_attempt_38 : decode cX11_attempt 38 = .ok (.aload_n 0, 1) := by decide +kernel
theorem dX11_attempt_39 : decode cX11_attempt 39 = .ok (.new 298, 3) := by decide +kernel
theorem dX11_attempt_42 : decode cX11_attempt 42 = .ok (.dup, 1) := by decide +kernel
theorem dX11_attempt_43 : decode cX11_attempt 43 = .ok (.aload_n 0, 1) := by decide +kernel
theorem dX11_attempt_44 : decode cX11_attempt 44 = .ok (.getfield 28, 3) := by decide +kernel
theorem dX11_attempt_47 : decode cX11_attempt 47 = .ok (.invokespecial 300, 3) := by decide +kernel
theorem dX11_attempt_50 : decode cX11_attempt 50 = .ok (.putfield 294, 3) := by decide +kernel
theorem dX11_attempt_53 : decode cX11_attempt 53 = .ok (.aload_n 0, 1) := by decide +kernel
theorem dX11_attempt_54 : decode cX11_attempt 54 = .ok (.getfield 59, 3) := by decide +kernel
theorem dX11_attempt_57 : decode cX11_attempt 57 = .ok (.iload_n 1, 1) := by decide +kernel
theorem dX11_attempt_58 : decode cX11_attempt 58 = .ok (.aaload, 1) := by decide +kernel
theorem dX11_attempt_59 : decode cX11_attempt 59 = .ok (.ifnonnull 16, 3) := by decide +kernel
theorem dX11_attempt_62 : decode cX11_attempt 62 = .ok (.aload_n 0, 1) := by decide +kernel
theorem dX11_attempt_63 : decode cX11_attempt 63 = .ok (.getfield 59, 3) := by decide +kernel
theorem dX11_attempt_66 : decode cX11_attempt 66 = .ok (.iload_n 1, 1) := by decide +kernel
theorem dX11_attempt_67 : decode cX11_attempt 67 = .ok (.new 57, 3) := by decide +kernel
theorem dX11_attempt_70 : decode cX11_attempt 70 = .ok (.dup, 1) := by decide +kernel
theorem dX11_attempt_71 : decode cX11_attempt 71 = .ok (.invokespecial 301, 3) := by decide +kernel
theorem dX11_attempt_74 : decode cX11_attempt 74 = .ok (.aastore, 1) := by decide +kernel
theorem dX11_attempt_75 : decode cX11_attempt 75 = .ok (.aload_n 0, 1) := by decide +kernel
theorem dX11_attempt_76 : decode cX11_attempt 76 = .ok (.getfield 294, 3) := by decide +kernel
theorem dX11_attempt_79 : decode cX11_attempt 79 = .ok (.iload_n 1, 1) := by decide +kernel
theorem dX11_attempt_80 : decode cX11_attempt 80 = .ok (.iload_n 2, 1) := by decide +kernel
theorem dX11_attempt_81 : decode cX11_attempt 81 = .ok (.aload_n 0, 1) := by decide +kernel
theorem dX11_attempt_82 : decode cX11_attempt 82 = .ok (.getfield 59, 3) := by decide +kernel
theorem dX11_attempt_85 : decode cX11_attempt 85 = .ok (.iload_n 1, 1) := by decide +kernel
theorem dX11_attempt_86 : decode cX11_attempt 86 = .ok (.aaload, 1) := by decide +kernel
theorem dX11_attempt_87 : decode cX11_attempt 87 = .ok (.invokevirtual 302, 3) := by decide +kernel
theorem dX11_attempt_90 : decode cX11_attempt 90 = .ok (.aload_n 0, 1) := by decide +kernel
theorem dX11_attempt_91 : decode cX11_attempt 91 = .ok (.getfield 59, 3) := by decide +kernel
theorem dX11_attempt_94 : decode cX11_attempt 94 = .ok (.iload_n 1, 1) := by decide +kernel
theorem dX11_attempt_95 : decode cX11_attempt 95 = .ok (.aaload, 1) := by decide +kernel
theorem dX11_attempt_96 : decode cX11_attempt 96 = .ok (.getfield 306, 3) := by decide +kernel
theorem dX11_attempt_99 : decode cX11_attempt 99 = .ok (.ireturn, 1) := by decide +kernel
theorem dX11_tried_0 : decode cX11_tried 0 = .ok (.iload_n 1, 1) := by decide +kernel
theorem dX11_tried_1 : decode cX11_tried 1 = .ok (.invokestatic 151, 3) := by decide +kernel
theorem dX11_tried_4 : decode cX11_tried 4 = .ok (.iload_n 2, 1) := by decide +kernel
theorem dX11_tried_5 : decode cX11_tried 5 = .ok (.bipush 6, 2) := by decide +kernel
theorem dX11_tried_7 : decode cX11_tried 7 = .ok (.invokestatic 132, 3) := by decide +kernel
theorem dX11_tried_10 : decode cX11_tried 10 = .ok (.aload_n 0, 1) := by decide +kernel
theorem dX11_tried_11 : decode cX11_tried 11 = .ok (.iload_n 1, 1) := by decide +kernel
theorem dX11_tried_12 : decode cX11_tried 12 = .ok (.invokevirtual 309, 3) := by decide +kernel
theorem dX11_tried_15 : decode cX11_tried 15 = .ok (.ifCond .ne 5, 3) := by decide +kernel
theorem dX11_tried_18 : decode cX11_tried 18 = .ok (.iconst 0, 1) := by decide +kernel
theorem dX11_tried_19 : decode cX11_tried 19 = .ok (.ireturn, 1) := by decide +kernel
theorem dX11_tried_20 : decode cX11_tried 20 = .ok (.aload_n 0, 1) := by decide +kernel
theorem dX11_tried_21 : decode cX11_tried 21 = .ok (.getfield 59, 3) := by decide +kernel
theorem dX11_tried_24 : decode cX11_tried 24 = .ok (.iload_n 1, 1) := by decide +kernel
theorem dX11_tried_25 : decode cX11_tried 25 = .ok (.aaload, 1) := by decide +kernel
theorem dX11_tried_26 : decode cX11_tried 26 = .ok (.astore_n 3, 1) := by decide +kernel
theorem dX11_tried_27 : decode cX11_tried 27 = .ok (.iload_n 2, 1) := by decide +kernel
theorem dX11_tried_28 : decode cX11_tried 28 = .ok (.tableswitch 69 0 4 #[36, 41, 54, 59, 64], 36) := by decide +kernel
theorem dX11_tried_64 : decode cX11_tried 64 = .ok (.aload_n 3, 1) := by decide +kernel
theorem dX11_tried_65 : decode cX11_tried 65 = .ok (.getfield 306, 3) := by decide +kernel
theorem dX11_tried_68 : decode cX11_tried 68 = .ok (.ireturn, 1) := by decide +kernel
theorem dX11_tried_69 : decode cX11_tried 69 = .ok (.aload_n 3, 1) := by decide +kernel
theorem dX11_tried_70 : decode cX11_tried 70 = .ok (.getfield 313, 3) := by decide +kernel
theorem dX11_tried_73 : decode cX11_tried 73 = .ok (.ifCond .eq 7, 3) := by decide +kernel
theorem dX11_tried_76 : decode cX11_tried 76 = .ok (.iconst 1, 1) := by decide +kernel
theorem dX11_tried_77 : decode cX11_tried 77 = .ok (.goto 4, 3) := by decide +kernel
theorem dX11_tried_80 : decode cX11_tried 80 = .ok (.iconst 0, 1) := by decide +kernel
theorem dX11_tried_81 : decode cX11_tried 81 = .ok (.ireturn, 1) := by decide +kernel
theorem dX11_tried_82 : decode cX11_tried 82 = .ok (.aload_n 3, 1) := by decide +kernel
theorem dX11_tried_83 : decode cX11_tried 83 = .ok (.getfield 316, 3) := by decide +kernel
theorem dX11_tried_86 : decode cX11_tried 86 = .ok (.ireturn, 1) := by decide +kernel
theorem dX11_tried_87 : decode cX11_tried 87 = .ok (.aload_n 3, 1) := by decide +kernel
theorem dX11_tried_88 : decode cX11_tried 88 = .ok (.getfield 319, 3) := by decide +kernel
theorem dX11_tried_91 : decode cX11_tried 91 = .ok (.ireturn, 1) := by decide +kernel
theorem dX11_tried_92 : decode cX11_tried 92 = .ok (.aload_n 3, 1) := by decide +kernel
theorem dX11_tried_93 : decode cX11_tried 93 = .ok (.getfield 322, 3) := by decide +kernel
theorem dX11_tried_96 : decode cX11_tried 96 = .ok (.ireturn, 1) := by decide +kernel
theorem dX11_tried_97 : decode cX11_tried 97 = .ok (.aload_n 3, 1) := by decide +kernel
theorem dX11_tried_98 : decode cX11_tried 98 = .ok (.getfield 325, 3) := by decide +kernel
theorem dX11_tried_101 : decode cX11_tried 101 = .ok (.ireturn, 1) := by decide +kernel
theorem dX11_outcome_0 : decode cX11_outcome 0 = .ok (.iload_n 1, 1) := by decide +kernel
theorem dX11_outcome_1 : decode cX11_outcome 1 = .ok (.invokestatic 151, 3) := by decide +kernel
theorem dX11_outcome_4 : decode cX11_outcome 4 = .ok (.iload_n 2, 1) := by decide +kernel
theorem dX11_outcome_5 : decode cX11_outcome 5 = .ok (.aload_n 0, 1) := by decide +kernel
theorem dX11_outcome_6 : decode cX11_outcome 6 = .ok (.iload_n 1, 1) := by decide +kernel
theorem dX11_outcome_7 : decode cX11_outcome 7 = .ok (.invokevirtual 309, 3) := by decide +kernel
theorem dX11_outcome_10 : decode cX11_outcome 10 = .ok (.ifCond .eq 15, 3) := by decide +kernel
theorem dX11_outcome_13 : decode cX11_outcome 13 = .ok (.aload_n 0, 1) := by decide +kernel
theorem dX11_outcome_14 : decode cX11_outcome 14 = .ok (.getfield 59, 3) := by decide +kernel
theorem dX11_outcome_17 : decode cX11_outcome 17 = .ok (.iload_n 1, 1) := by decide +kernel
theorem dX11_outcome_18 : decode cX11_outcome 18 = .ok (.aaload, 1) := by decide +kernel
theorem dX11_outcome_19 : decode cX11_outcome 19 = .ok (.getfield 319, 3) := by decide +kernel
theorem dX11_outcome_22 : decode cX11_outcome 22 = .ok (.goto 4, 3) := by decide +kernel
theorem dX11_outcome_25 : decode cX11_outcome 25 = .ok (.iconst 0, 1) := by decide +kernel
theorem dX11_outcome_26 : decode cX11_outcome 26 = .ok (.invokestatic 163, 3) := by decide +kernel
theorem dX11_outcome_29 : decode cX11_outcome 29 = .ok (.iload_n 3, 1) := by decide +kernel
theorem dX11_outcome_30 : decode cX11_outcome 30 = .ok (.aload_n 0, 1) := by decide +kernel
theorem dX11_outcome_31 : decode cX11_outcome 31 = .ok (.getfield 28, 3) := by decide +kernel
theorem dX11_outcome_34 : decode cX11_outcome 34 = .ok (.getfield 136, 3) := by decide +kernel
theorem dX11_outcome_37 : decode cX11_outcome 37 = .ok (.invokestatic 163, 3) := by decide +kernel
theorem dX11_outcome_40 : decode cX11_outcome 40 = .ok (.aload_n 0, 1) := by decide +kernel
theorem dX11_outcome_41 : decode cX11_outcome 41 = .ok (.getfield 59, 3) := by decide +kernel
theorem dX11_outcome_44 : decode cX11_outcome 44 = .ok (.iload_n 1, 1) := by decide +kernel
theorem dX11_outcome_45 : decode cX11_outcome 45 = .ok (.aaload, 1) := by decide +kernel
theorem dX11_outcome_46 : decode cX11_outcome 46 = .ok (.iload_n 2, 1) := by decide +kernel
theorem dX11_outcome_47 : decode cX11_outcome 47 = .ok (.iload_n 3, 1) := by decide +kernel
theorem dX11_outcome_48 : decode cX11_outcome 48 = .ok (.invokevirtual 328, 3) := by decide +kernel
theorem dX11_outcome_51 : decode cX11_outcome 51 = .ok (.ireturn, 1) := by decide +kernel
theorem dX11_finding_0 : decode cX11_finding 0 = .ok (.iload_n 1, 1) := by decide +kernel
theorem dX11_finding_1 : decode cX11_finding 1 = .ok (.invokestatic 151, 3) := by decide +kernel
theorem dX11_finding_4 : decode cX11_finding 4 = .ok (.iload_n 2, 1) := by decide +kernel
theorem dX11_finding_5 : decode cX11_finding 5 = .ok (.invokestatic 331, 3) := by decide +kernel
theorem dX11_finding_8 : decode cX11_finding 8 = .ok (.aload_n 0, 1) := by decide +kernel
theorem dX11_finding_9 : decode cX11_finding 9 = .ok (.iload_n 1, 1) := by decide +kernel
theorem dX11_finding_10 : decode cX11_finding 10 = .ok (.iload_n 2, 1) := by decide +kernel
theorem dX11_finding_11 : decode cX11_finding 11 = .ok (.invokevirtual 334, 3) := by decide +kernel
theorem dX11_finding_14 : decode cX11_finding 14 = .ok (.istore_n 3, 1) := by decide +kernel
theorem dX11_finding_15 : decode cX11_finding 15 = .ok (.iload_n 3, 1) := by decide +kernel
theorem dX11_finding_16 : decode cX11_finding 16 = .ok (.iconst (-1), 1) := by decide +kernel
theorem dX11_finding_17 : decode cX11_finding 17 = .ok (.if_icmp .ne 7, 3) := by decide +kernel
theorem dX11_finding_20 : decode cX11_finding 20 = .ok (.iconst (-1), 1) := by decide +kernel
theorem dX11_finding_21 : decode cX11_finding 21 = .ok (.goto 14, 3) := by decide +kernel
theorem dX11_finding_24 : decode cX11_finding 24 = .ok (.aload_n 0, 1) := by decide +kernel
theorem dX11_finding_25 : decode cX11_finding 25 = .ok (.getfield 59, 3) := by decide +kernel
theorem dX11_finding_28 : decode cX11_finding 28 = .ok (.iload_n 1, 1) := by decide +kernel
theorem dX11_finding_29 : decode cX11_finding 29 = .ok (.aaload, 1) := by decide +kernel
theorem dX11_finding_30 : decode cX11_finding 30 = .ok (.getfield 337, 3) := by decide +kernel
theorem dX11_finding_33 : decode cX11_finding 33 = .ok (.iload_n 3, 1) := by decide +kernel
theorem dX11_finding_34 : decode cX11_finding 34 = .ok (.iaload, 1) := by decide +kernel
theorem dX11_finding_35 : decode cX11_finding 35 = .ok (.ireturn, 1) := by decide +kernel
theorem dX11_show_0 : decode cX11_show 0 = .ok (.iload_n 1, 1) := by decide +kernel
theorem dX11_show_1 : decode cX11_show 1 = .ok (.invokestatic 151, 3) := by decide +kernel
theorem dX11_show_4 : decode cX11_show 4 = .ok (.iload_n 2, 1) := by decide +kernel
theorem dX11_show_5 : decode cX11_show 5 = .ok (.invokestatic 331, 3) := by decide +kernel
theorem dX11_show_8 : decode cX11_show 8 = .ok (.aload_n 0, 1) := by decide +kernel
theorem dX11_show_9 : decode cX11_show 9 = .ok (.iload_n 1, 1) := by decide +kernel
theorem dX11_show_10 : decode cX11_show 10 = .ok (.iload_n 2, 1) := by decide +kernel
theorem dX11_show_11 : decode cX11_show 11 = .ok (.invokevirtual 334, 3) := by decide +kernel
theorem dX11_show_14 : decode cX11_show 14 = .ok (.istore_n 3, 1) := by decide +kernel
theorem dX11_show_15 : decode cX11_show 15 = .ok (.iload_n 3, 1) := by decide +kernel
theorem dX11_show_16 : decode cX11_show 16 = .ok (.iconst (-1), 1) := by decide +kernel
theorem dX11_show_17 : decode cX11_show 17 = .ok (.if_icmp .ne 14, 3) := by decide +kernel
theorem dX11_show_20 : decode cX11_show 20 = .ok (.new 102, 3) := by decide +kernel
theorem dX11_show_23 : decode cX11_show 23 = .ok (.dup, 1) := by decide +kernel
theorem dX11_show_24 : decode cX11_show 24 = .ok (.ldc_w 340, 3) := by decide +kernel
theorem dX11_show_27 : decode cX11_show 27 = .ok (.invokespecial 191, 3) := by decide +kernel
theorem dX11_show_30 : decode cX11_show 30 = .ok (.athrow, 1) := by decide +kernel
theorem dX11_show_31 : decode cX11_show 31 = .ok (.aload_n 0, 1) := by decide +kernel
theorem dX11_show_32 : decode cX11_show 32 = .ok (.getfield 59, 3) := by decide +kernel
theorem dX11_show_35 : decode cX11_show 35 = .ok (.iload_n 1, 1) := by decide +kernel
theorem dX11_show_36 : decode cX11_show 36 = .ok (.aaload, 1) := by decide +kernel
theorem dX11_show_37 : decode cX11_show 37 = .ok (.getfield 337, 3) := by decide +kernel
theorem dX11_show_40 : decode cX11_show 40 = .ok (.iload_n 3, 1) := by decide +kernel
theorem dX11_show_41 : decode cX11_show 41 = .ok (.iaload, 1) := by decide +kernel
theorem dX11_show_42 : decode cX11_show 42 = .ok (.istore 4, 2) := by decide +kernel
theorem dX11_show_44 : decode cX11_show 44 = .ok (.iload 4, 2) := by decide +kernel
theorem dX11_show_46 : decode cX11_show 46 = .ok (.sipush 400, 3) := by decide +kernel
theorem dX11_show_49 : decode cX11_show 49 = .ok (.if_icmp .le 14, 3) := by decide +kernel
theorem dX11_show_52 : decode cX11_show 52 = .ok (.new 102, 3) := by decide +kernel
theorem dX11_show_55 : decode cX11_show 55 = .ok (.dup, 1) := by decide +kernel
theorem dX11_show_56 : decode cX11_show 56 = .ok (.ldc_w 342, 3) := by decide +kernel
theorem dX11_show_59 : decode cX11_show 59 = .ok (.invokespecial 191, 3) := by decide +kernel
theorem dX11_show_62 : decode cX11_show 62 = .ok (.athrow, 1) := by decide +kernel
theorem dX11_show_63 : decode cX11_show 63 = .ok (.aload_n 0, 1) := by decide +kernel
theorem dX11_show_64 : decode cX11_show 64 = .ok (.getfield 59, 3) := by decide +kernel
theorem dX11_show_67 : decode cX11_show 67 = .ok (.iload_n 1, 1) := by decide +kernel
theorem dX11_show_68 : decode cX11_show 68 = .ok (.aaload, 1) := by decide +kernel
theorem dX11_show_69 : decode cX11_show 69 = .ok (.iload_n 3, 1) := by decide +kernel
theorem dX11_show_70 : decode cX11_show 70 = .ok (.aload_n 0, 1) := by decide +kernel
theorem dX11_show_71 : decode cX11_show 71 = .ok (.getfield 53, 3) := by decide +kernel
theorem dX11_show_74 : decode cX11_show 74 = .ok (.getfield 203, 3) := by decide +kernel
theorem dX11_show_77 : decode cX11_show 77 = .ok (.invokevirtual 344, 3) := by decide +kernel
theorem dX11_show_80 : decode cX11_show 80 = .ok (.aload_n 0, 1) := by decide +kernel
theorem dX11_show_81 : decode cX11_show 81 = .ok (.iload_n 1, 1) := by decide +kernel
theorem dX11_show_82 : decode cX11_show 82 = .ok (.invokevirtual 154, 3) := by decide +kernel
theorem dX11_show_85 : decode cX11_show 85 = .ok (.iconst 0, 1) := by decide +kernel
theorem dX11_show_86 : decode cX11_show 86 = .ok (.istore 5, 2) := by decide +kernel
theorem dX11_show_88 : decode cX11_show 88 = .ok (.iload 5, 2) := by decide +kernel
theorem dX11_show_90 : decode cX11_show 90 = .ok (.iload 4, 2) := by decide +kernel
theorem dX11_show_92 : decode cX11_show 92 = .ok (.if_icmp .ge 23, 3) := by decide +kernel
theorem dX11_show_95 : decode cX11_show 95 = .ok (.aload_n 0, 1) := by decide +kernel
theorem dX11_show_96 : decode cX11_show 96 = .ok (.aload_n 0, 1) := by decide +kernel
theorem dX11_show_97 : decode cX11_show 97 = .ok (.getfield 53, 3) := by decide +kernel
theorem dX11_show_100 : decode cX11_show 100 = .ok (.getfield 203, 3) := by decide +kernel
theorem dX11_show_103 : decode cX11_show 103 = .ok (.iload 5, 2) := by decide +kernel
theorem dX11_show_105 : decode cX11_show 105 = .ok (.iaload, 1) := by decide +kernel
theorem dX11_show_106 : decode cX11_show 106 = .ok (.invokevirtual 192, 3) := by decide +kernel
theorem dX11_show_109 : decode cX11_show 109 = .ok (.iinc 5 1, 3) := by decide +kernel
theorem dX11_show_112 : decode cX11_show 112 = .ok (.goto (-24), 3) := by decide +kernel
theorem dX11_show_115 : decode cX11_show 115 = .ok (.iload 4, 2) := by decide +kernel
theorem dX11_show_117 : decode cX11_show 117 = .ok (.ireturn, 1) := by decide +kernel
theorem dX11_common_0 : decode cX11_common 0 = .ok (.iload_n 1, 1) := by decide +kernel
theorem dX11_common_1 : decode cX11_common 1 = .ok (.invokestatic 151, 3) := by decide +kernel
theorem dX11_common_4 : decode cX11_common 4 = .ok (.iload_n 2, 1) := by decide +kernel
theorem dX11_common_5 : decode cX11_common 5 = .ok (.aload_n 0, 1) := by decide +kernel
theorem dX11_common_6 : decode cX11_common 6 = .ok (.getfield 110, 3) := by decide +kernel
theorem dX11_common_9 : decode cX11_common 9 = .ok (.ifCond .eq 13, 3) := by decide +kernel
theorem dX11_common_12 : decode cX11_common 12 = .ok (.aload_n 0, 1) := by decide +kernel
theorem dX11_common_13 : decode cX11_common 13 = .ok (.getfield 28, 3) := by decide +kernel
theorem dX11_common_16 : decode cX11_common 16 = .ok (.getfield 136, 3) := by decide +kernel
theorem dX11_common_19 : decode cX11_common 19 = .ok (.goto 4, 3) := by decide +kernel
theorem dX11_common_22 : decode cX11_common 22 = .ok (.iconst 0, 1) := by decide +kernel
theorem dX11_common_23 : decode cX11_common 23 = .ok (.invokestatic 163, 3) := by decide +kernel
theorem dX11_common_26 : decode cX11_common 26 = .ok (.aload_n 0, 1) := by decide +kernel
theorem dX11_common_27 : decode cX11_common 27 = .ok (.iload_n 1, 1) := by decide +kernel
theorem dX11_common_28 : decode cX11_common 28 = .ok (.invokevirtual 309, 3) := by decide +kernel
theorem dX11_common_31 : decode cX11_common 31 = .ok (.ifCond .eq 17, 3) := by decide +kernel
theorem dX11_common_34 : decode cX11_common 34 = .ok (.aload_n 0, 1) := by decide +kernel
theorem dX11_common_35 : decode cX11_common 35 = .ok (.getfield 59, 3) := by decide +kernel
theorem dX11_common_38 : decode cX11_common 38 = .ok (.iload_n 1, 1) := by decide +kernel
theorem dX11_common_39 : decode cX11_common 39 = .ok (.aaload, 1) := by decide +kernel
theorem dX11_common_40 : decode cX11_common 40 = .ok (.getfield 348, 3) := by decide +kernel
theorem dX11_common_43 : decode cX11_common 43 = .ok (.iload_n 2, 1) := by decide +kernel
theorem dX11_common_44 : decode cX11_common 44 = .ok (.iaload, 1) := by decide +kernel
theorem dX11_common_45 : decode cX11_common 45 = .ok (.goto 14, 3) := by decide +kernel
theorem dX11_common_48 : decode cX11_common 48 = .ok (.iconst 1, 1) := by decide +kernel
theorem dX11_common_49 : decode cX11_common 49 = .ok (.aload_n 0, 1) := by decide +kernel
theorem dX11_common_50 : decode cX11_common 50 = .ok (.getfield 28, 3) := by decide +kernel
theorem dX11_common_53 : decode cX11_common 53 = .ok (.getfield 139, 3) := by decide +kernel
theorem dX11_common_56 : decode cX11_common 56 = .ok (.ishl, 1) := by decide +kernel
theorem dX11_common_57 : decode cX11_common 57 = .ok (.iconst 1, 1) := by decide +kernel
theorem dX11_common_58 : decode cX11_common 58 = .ok (.isub, 1) := by decide +kernel
theorem dX11_common_59 : decode cX11_common 59 = .ok (.ireturn, 1) := by decide +kernel
theorem dX11_ring_0 : decode cX11_ring 0 = .ok (.iload_n 1, 1) := by decide +kernel
theorem dX11_ring_1 : decode cX11_ring 1 = .ok (.invokestatic 151, 3) := by decide +kernel
theorem dX11_ring_4 : decode cX11_ring 4 = .ok (.aload_n 0, 1) := by decide +kernel
theorem dX11_ring_5 : decode cX11_ring 5 = .ok (.iload_n 1, 1) := by decide +kernel
theorem dX11_ring_6 : decode cX11_ring 6 = .ok (.invokevirtual 309, 3) := by decide +kernel
theorem dX11_ring_9 : decode cX11_ring 9 = .ok (.ifCond .eq 15, 3) := by decide +kernel
theorem dX11_ring_12 : decode cX11_ring 12 = .ok (.aload_n 0, 1) := by decide +kernel
theorem dX11_ring_13 : decode cX11_ring 13 = .ok (.getfield 59, 3) := by decide +kernel
theorem dX11_ring_16 : decode cX11_ring 16 = .ok (.iload_n 1, 1) := by decide +kernel
theorem dX11_ring_17 : decode cX11_ring 17 = .ok (.aaload, 1) := by decide +kernel
theorem dX11_ring_18 : decode cX11_ring 18 = .ok (.invokevirtual 351, 3) := by decide +kernel
theorem dX11_ring_21 : decode cX11_ring 21 = .ok (.goto 4, 3) := by decide +kernel
theorem dX11_ring_24 : decode cX11_ring 24 = .ok (.iconst 0, 1) := by decide +kernel
theorem dX11_ring_25 : decode cX11_ring 25 = .ok (.ireturn, 1) := by decide +kernel
theorem dX11_alike_0 : decode cX11_alike 0 = .ok (.aload_n 0, 1) := by decide +kernel
theorem dX11_alike_1 : decode cX11_alike 1 = .ok (.iconst 0, 1) := by decide +kernel
theorem dX11_alike_2 : decode cX11_alike 2 = .ok (.invokevirtual 309, 3) := by decide +kernel
theorem dX11_alike_5 : decode cX11_alike 5 = .ok (.ifCond .eq 35, 3) := by decide +kernel
theorem dX11_alike_8 : decode cX11_alike 8 = .ok (.aload_n 0, 1) := by decide +kernel
theorem dX11_alike_9 : decode cX11_alike 9 = .ok (.iconst 1, 1) := by decide +kernel
theorem dX11_alike_10 : decode cX11_alike 10 = .ok (.invokevirtual 309, 3) := by decide +kernel
theorem dX11_alike_13 : decode cX11_alike 13 = .ok (.ifCond .eq 27, 3) := by decide +kernel
theorem dX11_alike_16 : decode cX11_alike 16 = .ok (.aload_n 0, 1) := by decide +kernel
theorem dX11_alike_17 : decode cX11_alike 17 = .ok (.getfield 59, 3) := by decide +kernel
theorem dX11_alike_20 : decode cX11_alike 20 = .ok (.iconst 0, 1) := by decide +kernel
theorem dX11_alike_21 : decode cX11_alike 21 = .ok (.aaload, 1) := by decide +kernel
theorem dX11_alike_22 : decode cX11_alike 22 = .ok (.getfield 313, 3) := by decide +kernel
theorem dX11_alike_25 : decode cX11_alike 25 = .ok (.ifCond .ne 15, 3) := by decide +kernel
theorem dX11_alike_28 : decode cX11_alike 28 = .ok (.aload_n 0, 1) := by decide +kernel
theorem dX11_alike_29 : decode cX11_alike 29 = .ok (.getfield 59, 3) := by decide +kernel
theorem dX11_alike_32 : decode cX11_alike 32 = .ok (.iconst 1, 1) := by decide +kernel
theorem dX11_alike_33 : decode cX11_alike 33 = .ok (.aaload, 1) := by decide +kernel
theorem dX11_alike_34 : decode cX11_alike 34 = .ok (.getfield 313, 3) := by decide +kernel
theorem dX11_alike_37 : decode cX11_alike 37 = .ok (.ifCond .eq 5, 3) := by decide +kernel
theorem dX11_alike_40 : decode cX11_alike 40 = .ok (.iconst (-1), 1) := by decide +kernel
theorem dX11_alike_41 : decode cX11_alike 41 = .ok (.ireturn, 1) := by decide +kernel
theorem dX11_alike_42 : decode cX11_alike 42 = .ok (.aload_n 0, 1) := by decide +kernel
theorem dX11_alike_43 : decode cX11_alike 43 = .ok (.getfield 59, 3) := by decide +kernel
theorem dX11_alike_46 : decode cX11_alike 46 = .ok (.iconst 0, 1) := by decide +kernel
theorem dX11_alike_47 : decode cX11_alike 47 = .ok (.aaload, 1) := by decide +kernel
theorem dX11_alike_48 : decode cX11_alike 48 = .ok (.aload_n 0, 1) := by decide +kernel
theorem dX11_alike_49 : decode cX11_alike 49 = .ok (.getfield 59, 3) := by decide +kernel
theorem dX11_alike_52 : decode cX11_alike 52 = .ok (.iconst 1, 1) := by decide +kernel
theorem dX11_alike_53 : decode cX11_alike 53 = .ok (.aaload, 1) := by decide +kernel
theorem dX11_alike_54 : decode cX11_alike 54 = .ok (.aload_n 0, 1) := by decide +kernel
theorem dX11_alike_55 : decode cX11_alike 55 = .ok (.getfield 28, 3) := by decide +kernel
theorem dX11_alike_58 : decode cX11_alike 58 = .ok (.getfield 136, 3) := by decide +kernel
theorem dX11_alike_61 : decode cX11_alike 61 = .ok (.invokevirtual 354, 3) := by decide +kernel
theorem dX11_alike_64 : decode cX11_alike 64 = .ok (.ifCond .eq 7, 3) := by decide +kernel
theorem dX11_alike_67 : decode cX11_alike 67 = .ok (.iconst 1, 1) := by decide +kernel
theorem dX11_alike_68 : decode cX11_alike 68 = .ok (.goto 4, 3) := by decide +kernel
theorem dX11_alike_71 : decode cX11_alike 71 = .ok (.iconst 0, 1) := by decide +kernel
theorem dX11_alike_72 : decode cX11_alike 72 = .ok (.ireturn, 1) := by decide +kernel
theorem dX11_forgetAll_0 : decode cX11_forgetAll 0 = .ok (.aload_n 0, 1) := by decide +kernel
theorem dX11_forgetAll_1 : decode cX11_forgetAll 1 = .ok (.iconst 0, 1) := by decide +kernel
theorem dX11_forgetAll_2 : decode cX11_forgetAll 2 = .ok (.putfield 110, 3) := by decide +kernel
theorem dX11_forgetAll_5 : decode cX11_forgetAll 5 = .ok (.aload_n 0, 1) := by decide +kernel
theorem dX11_forgetAll_6 : decode cX11_forgetAll 6 = .ok (.iconst 0, 1) := by decide +kernel
theorem dX11_forgetAll_7 : decode cX11_forgetAll 7 = .ok (.putfield 358, 3) := by decide +kernel
theorem dX11_forgetAll_10 : decode cX11_forgetAll 10 = .ok (.iconst 0, 1) := by decide +kernel
theorem dX11_forgetAll_11 : decode cX11_forgetAll 11 = .ok (.istore_n 1, 1) := by decide +kernel
theorem dX11_forgetAll_12 : decode cX11_forgetAll 12 = .ok (.iload_n 1, 1) := by decide +kernel
theorem dX11_forgetAll_13 : decode cX11_forgetAll 13 = .ok (.iconst 2, 1) := by decide +kernel
theorem dX11_forgetAll_14 : decode cX11_forgetAll 14 = .ok (.if_icmp .ge 28, 3) := by decide +kernel
theorem dX11_forgetAll_17 : decode cX11_forgetAll 17 = .ok (.aload_n 0, 1) := by decide +kernel
theorem dX11_forgetAll_18 : decode cX11_forgetAll 18 = .ok (.getfield 59, 3) := by decide +kernel
theorem dX11_forgetAll_21 : decode cX11_forgetAll 21 = .ok (.iload_n 1, 1) := by decide +kernel
theorem dX11_forgetAll_22 : decode cX11_forgetAll 22 = .ok (.aaload, 1) := by decide +kernel
theorem dX11_forgetAll_23 : decode cX11_forgetAll 23 = .ok (.ifnull 13, 3) := by decide +kernel
theorem dX11_forgetAll_26 : decode cX11_forgetAll 26 = .ok (.aload_n 0, 1) := by decide +kernel
theorem dX11_forgetAll_27 : decode cX11_forgetAll 27 = .ok (.getfield 59, 3) := by decide +kernel
theorem dX11_forgetAll_30 : decode cX11_forgetAll 30 = .ok (.iload_n 1, 1) := by decide +kernel
theorem dX11_forgetAll_31 : decode cX11_forgetAll 31 = .ok (.aaload, 1) := by decide +kernel
theorem dX11_forgetAll_32 : decode cX11_forgetAll 32 = .ok (.iconst 0, 1) := by decide +kernel
theorem dX11_forgetAll_33 : decode cX11_forgetAll 33 = .ok (.putfield 306, 3) := by decide +kernel
theorem dX11_forgetAll_36 : decode cX11_forgetAll 36 = .ok (.iinc 1 1, 3) := by decide +kernel
theorem dX11_forgetAll_39 : decode cX11_forgetAll 39 = .ok (.goto (-27), 3) := by decide +kernel
theorem dX11_forgetAll_42 : decode cX11_forgetAll 42 = .ok (.return_, 1) := by decide +kernel
theorem dX11_wasTried_0 : decode cX11_wasTried 0 = .ok (.aload_n 0, 1) := by decide +kernel
theorem dX11_wasTried_1 : decode cX11_wasTried 1 = .ok (.getfield 59, 3) := by decide +kernel
theorem dX11_wasTried_4 : decode cX11_wasTried 4 = .ok (.iload_n 1, 1) := by decide +kernel
theorem dX11_wasTried_5 : decode cX11_wasTried 5 = .ok (.aaload, 1) := by decide +kernel
theorem dX11_wasTried_6 : decode cX11_wasTried 6 = .ok (.ifnull 19, 3) := by decide +kernel
theorem dX11_wasTried_9 : decode cX11_wasTried 9 = .ok (.aload_n 0, 1) := by decide +kernel
theorem dX11_wasTried_10 : decode cX11_wasTried 10 = .ok (.getfield 59, 3) := by decide +kernel
theorem dX11_wasTried_13 : decode cX11_wasTried 13 = .ok (.iload_n 1, 1) := by decide +kernel
theorem dX11_wasTried_14 : decode cX11_wasTried 14 = .ok (.aaload, 1) := by decide +kernel
theorem dX11_wasTried_15 : decode cX11_wasTried 15 = .ok (.getfield 306, 3) := by decide +kernel
theorem dX11_wasTried_18 : decode cX11_wasTried 18 = .ok (.ifCond .le 7, 3) := by decide +kernel
theorem dX11_wasTried_21 : decode cX11_wasTried 21 = .ok (.iconst 1, 1) := by decide +kernel
theorem dX11_wasTried_22 : decode cX11_wasTried 22 = .ok (.goto 4, 3) := by decide +kernel
theorem dX11_wasTried_25 : decode cX11_wasTried 25 = .ok (.iconst 0, 1) := by decide +kernel
theorem dX11_wasTried_26 : decode cX11_wasTried 26 = .ok (.ireturn, 1) := by decide +kernel
theorem dX11_firstState_0 : decode cX11_firstState 0 = .ok (.aload_n 0, 1) := by decide +kernel
theorem dX11_firstState_1 : decode cX11_firstState 1 = .ok (.iload_n 1, 1) := by decide +kernel
theorem dX11_firstState_2 : decode cX11_firstState 2 = .ok (.invokevirtual 309, 3) := by decide +kernel
theorem dX11_firstState_5 : decode cX11_firstState 5 = .ok (.ifCond .eq 17, 3) := by decide +kernel
theorem dX11_firstState_8 : decode cX11_firstState 8 = .ok (.aload_n 0, 1) := by decide +kernel
theorem dX11_firstState_9 : decode cX11_firstState 9 = .ok (.getfield 59, 3) := by decide +kernel
theorem dX11_firstState_12 : decode cX11_firstState 12 = .ok (.iload_n 1, 1) := by decide +kernel
theorem dX11_firstState_13 : decode cX11_firstState 13 = .ok (.aaload, 1) := by decide +kernel
theorem dX11_firstState_14 : decode cX11_firstState 14 = .ok (.getfield 381, 3) := by decide +kernel
theorem dX11_firstState_17 : decode cX11_firstState 17 = .ok (.iload_n 2, 1) := by decide +kernel
theorem dX11_firstState_18 : decode cX11_firstState 18 = .ok (.iaload, 1) := by decide +kernel
theorem dX11_firstState_19 : decode cX11_firstState 19 = .ok (.goto 4, 3) := by decide +kernel
theorem dX11_firstState_22 : decode cX11_firstState 22 = .ok (.iconst (-1), 1) := by decide +kernel
theorem dX11_firstState_23 : decode cX11_firstState 23 = .ok (.ireturn, 1) := by decide +kernel
theorem dX11_needCompiled_0 : decode cX11_needCompiled 0 = .ok (.aload_n 0, 1) := by decide +kernel
theorem dX11_needCompiled_1 : decode cX11_needCompiled 1 = .ok (.getfield 110, 3) := by decide +kernel
theorem dX11_needCompiled_4 : decode cX11_needCompiled 4 = .ok (.ifCond .ne 14, 3) := by decide +kernel
theorem dX11_needCompiled_7 : decode cX11_needCompiled 7 = .ok (.new 102, 3) := by decide +kernel
theorem dX11_needCompiled_10 : decode cX11_needCompiled 10 = .ok (.dup, 1) := by decide +kernel
theorem dX11_needCompiled_11 : decode cX11_needCompiled 11 = .ok (.ldc_w 384, 3) := by decide +kernel
theorem dX11_needCompiled_14 : decode cX11_needCompiled 14 = .ok (.invokespecial 191, 3) := by decide +kernel
theorem dX11_needCompiled_17 : decode cX11_needCompiled 17 = .ok (.athrow, 1) := by decide +kernel
theorem dX11_needCompiled_18 : decode cX11_needCompiled 18 = .ok (.return_, 1) := by decide +kernel
theorem dX11_needRun_0 : decode cX11_needRun 0 = .ok (.aload_n 0, 1) := by decide +kernel
theorem dX11_needRun_1 : decode cX11_needRun 1 = .ok (.getfield 358, 3) := by decide +kernel
theorem dX11_needRun_4 : decode cX11_needRun 4 = .ok (.ifCond .ne 14, 3) := by decide +kernel
theorem dX11_needRun_7 : decode cX11_needRun 7 = .ok (.new 102, 3) := by decide +kernel
theorem dX11_needRun_10 : decode cX11_needRun 10 = .ok (.dup, 1) := by decide +kernel
theorem dX11_needRun_11 : decode cX11_needRun 11 = .ok (.ldc_w 386, 3) := by decide +kernel
theorem dX11_needRun_14 : decode cX11_needRun 14 = .ok (.invokespecial 191, 3) := by decide +kernel
theorem dX11_needRun_17 : decode cX11_needRun 17 = .ok (.athrow, 1) := by decide +kernel
theorem dX11_needRun_18 : decode cX11_needRun 18 = .ok (.return_, 1) := by decide +kernel
theorem dX11_needWay_0 : decode cX11_needWay 0 = .ok (.iload_n 0, 1) := by decide +kernel
theorem dX11_needWay_1 : decode cX11_needWay 1 = .ok (.ifCond .lt 8, 3) := by decide +kernel
theorem dX11_needWay_4 : decode cX11_needWay 4 = .ok (.iload_n 0, 1) := by decide +kernel
theorem dX11_needWay_5 : decode cX11_needWay 5 = .ok (.iconst 2, 1) := by decide +kernel
theorem dX11_needWay_6 : decode cX11_needWay 6 = .ok (.if_icmp .lt 14, 3) := by decide +kernel
theorem dX11_needWay_9 : decode cX11_needWay 9 = .ok (.new 70, 3) := by decide +kernel
theorem dX11_needWay_12 : decode cX11_needWay 12 = .ok (.dup, 1) := by decide +kernel
theorem dX11_needWay_13 : decode cX11_needWay 13 = .ok (.ldc_w 388, 3) := by decide +kernel
theorem dX11_needWay_16 : decode cX11_needWay 16 = .ok (.invokespecial 74, 3) := by decide +kernel
theorem dX11_needWay_19 : decode cX11_needWay 19 = .ok (.athrow, 1) := by decide +kernel
theorem dX11_needWay_20 : decode cX11_needWay 20 = .ok (.return_, 1) := by decide +kernel
theorem dX11_needFinding_0 : decode cX11_needFinding 0 = .ok (.iload_n 0, 1) := by decide +kernel
theorem dX11_needFinding_1 : decode cX11_needFinding 1 = .ok (.ifCond .lt 9, 3) := by decide +kernel
theorem dX11_needFinding_4 : decode cX11_needFinding 4 = .ok (.iload_n 0, 1) := by decide +kernel
theorem dX11_needFinding_5 : decode cX11_needFinding 5 = .ok (.bipush 11, 2) := by decide +kernel
theorem dX11_needFinding_7 : decode cX11_needFinding 7 = .ok (.if_icmp .lt 14, 3) := by decide +kernel
theorem dX11_needFinding_10 : decode cX11_needFinding 10 = .ok (.new 70, 3) := by decide +kernel
theorem dX11_needFinding_13 : decode cX11_needFinding 13 = .ok (.dup, 1) := by decide +kernel
theorem dX11_needFinding_14 : decode cX11_needFinding 14 = .ok (.ldc_w 340, 3) := by decide +kernel
theorem dX11_needFinding_17 : decode cX11_needFinding 17 = .ok (.invokespecial 74, 3) := by decide +kernel
theorem dX11_needFinding_20 : decode cX11_needFinding 20 = .ok (.athrow, 1) := by decide +kernel
theorem dX11_needFinding_21 : decode cX11_needFinding 21 = .ok (.return_, 1) := by decide +kernel
theorem dX11_needIndex_0 : decode cX11_needIndex 0 = .ok (.iload_n 0, 1) := by decide +kernel
theorem dX11_needIndex_1 : decode cX11_needIndex 1 = .ok (.ifCond .lt 8, 3) := by decide +kernel
theorem dX11_needIndex_4 : decode cX11_needIndex 4 = .ok (.iload_n 0, 1) := by decide +kernel
theorem dX11_needIndex_5 : decode cX11_needIndex 5 = .ok (.iload_n 1, 1) := by decide +kernel
theorem dX11_needIndex_6 : decode cX11_needIndex 6 = .ok (.if_icmp .lt 14, 3) := by decide +kernel
theorem dX11_needIndex_9 : decode cX11_needIndex 9 = .ok (.new 127, 3) := by decide +kernel
theorem dX11_needIndex_12 : decode cX11_needIndex 12 = .ok (.dup, 1) := by decide +kernel
theorem dX11_needIndex_13 : decode cX11_needIndex 13 = .ok (.ldc_w 390, 3) := by decide +kernel
theorem dX11_needIndex_16 : decode cX11_needIndex 16 = .ok (.invokespecial 131, 3) := by decide +kernel
theorem dX11_needIndex_19 : decode cX11_needIndex 19 = .ok (.athrow, 1) := by decide +kernel
theorem dX11_needIndex_20 : decode cX11_needIndex 20 = .ok (.return_, 1) := by decide +kernel
theorem dX11_needWhat_0 : decode cX11_needWhat 0 = .ok (.iload_n 0, 1) := by decide +kernel
theorem dX11_needWhat_1 : decode cX11_needWhat 1 = .ok (.ifCond .lt 8, 3) := by decide +kernel
theorem dX11_needWhat_4 : decode cX11_needWhat 4 = .ok (.iload_n 0, 1) := by decide +kernel
theorem dX11_needWhat_5 : decode cX11_needWhat 5 = .ok (.iload_n 1, 1) := by decide +kernel
theorem dX11_needWhat_6 : decode cX11_needWhat 6 = .ok (.if_icmp .lt 13, 3) := by decide +kernel
theorem dX11_needWhat_9 : decode cX11_needWhat 9 = .ok (.new 127, 3) := by decide +kernel
theorem dX11_needWhat_12 : decode cX11_needWhat 12 = .ok (.dup, 1) := by decide +kernel
theorem dX11_needWhat_13 : decode cX11_needWhat 13 = .ok (.ldc 129, 2) := by decide +kernel
theorem dX11_needWhat_15 : decode cX11_needWhat 15 = .ok (.invokespecial 131, 3) := by decide +kernel
theorem dX11_needWhat_18 : decode cX11_needWhat 18 = .ok (.athrow, 1) := by decide +kernel
theorem dX11_needWhat_19 : decode cX11_needWhat 19 = .ok (.return_, 1) := by decide +kernel
theorem dJ7_fill_53178_0 : decode cJ7_fill_53178 0 = .ok (.iconst 0, 1) := by decide +kernel
theorem dJ7_fill_53178_1 : decode cJ7_fill_53178 1 = .ok (.istore_n 2, 1) := by decide +kernel
theorem dJ7_fill_53178_2 : decode cJ7_fill_53178 2 = .ok (.aload_n 0, 1) := by decide +kernel
theorem dJ7_fill_53178_3 : decode cJ7_fill_53178 3 = .ok (.arraylength, 1) := by decide +kernel
theorem dJ7_fill_53178_4 : decode cJ7_fill_53178 4 = .ok (.istore_n 3, 1) := by decide +kernel
theorem dJ7_fill_53178_5 : decode cJ7_fill_53178 5 = .ok (.iload_n 2, 1) := by decide +kernel
theorem dJ7_fill_53178_6 : decode cJ7_fill_53178 6 = .ok (.iload_n 3, 1) := by decide +kernel
theorem dJ7_fill_53178_7 : decode cJ7_fill_53178 7 = .ok (.if_icmp .ge 13, 3) := by decide +kernel
theorem dJ7_fill_53178_10 : decode cJ7_fill_53178 10 = .ok (.aload_n 0, 1) := by decide +kernel
theorem dJ7_fill_53178_11 : decode cJ7_fill_53178 11 = .ok (.iload_n 2, 1) := by decide +kernel
theorem dJ7_fill_53178_12 : decode cJ7_fill_53178 12 = .ok (.iload_n 1, 1) := by decide +kernel
theorem dJ7_fill_53178_13 : decode cJ7_fill_53178 13 = .ok (.iastore, 1) := by decide +kernel
theorem dJ7_fill_53178_14 : decode cJ7_fill_53178 14 = .ok (.iinc 2 1, 3) := by decide +kernel
theorem dJ7_fill_53178_17 : decode cJ7_fill_53178 17 = .ok (.goto (-12), 3) := by decide +kernel
theorem dJ7_fill_53178_20 : decode cJ7_fill_53178 20 = .ok (.return_, 1) := by decide +kernel
theorem dL_feed_0 : decode cL_feed 0 = .ok (.aload 4, 2) := by decide +kernel
theorem dL_feed_2 : decode cL_feed 2 = .ok (.iconst 0, 1) := by decide +kernel
theorem dL_feed_3 : decode cL_feed 3 = .ok (.aload_n 0, 1) := by decide +kernel
theorem dL_feed_4 : decode cL_feed 4 = .ok (.iload_n 1, 1) := by decide +kernel
theorem dL_feed_5 : decode cL_feed 5 = .ok (.lload_n 2, 1) := by decide +kernel
theorem dL_feed_6 : decode cL_feed 6 = .ok (.invokevirtual 7, 3) := by decide +kernel
theorem dL_feed_9 : decode cL_feed 9 = .ok (.i2l, 1) := by decide +kernel
theorem dL_feed_10 : decode cL_feed 10 = .ok (.lastore, 1) := by decide +kernel
theorem dL_feed_11 : decode cL_feed 11 = .ok (.goto 7, 3) := by decide +kernel
theorem dL_feed_14 : decode cL_feed 14 = .ok (.astore 5, 2) := by decide +kernel
theorem dL_feed_16 : decode cL_feed 16 = .ok (.iconst 1, 1) := by decide +kernel
theorem dL_feed_17 : decode cL_feed 17 = .ok (.ireturn, 1) := by decide +kernel
theorem dL_feed_18 : decode cL_feed 18 = .ok (.iconst 0, 1) := by decide +kernel
theorem dL_feed_19 : decode cL_feed 19 = .ok (.ireturn, 1) := by decide +kernel
theorem dL_fault_0 : decode cL_fault 0 = .ok (.aload_n 2, 1) := by decide +kernel
theorem dL_fault_1 : decode cL_fault 1 = .ok (.iconst 0, 1) := by decide +kernel
theorem dL_fault_2 : decode cL_fault 2 = .ok (.aload_n 0, 1) := by decide +kernel
theorem dL_fault_3 : decode cL_fault 3 = .ok (.iload_n 1, 1) := by decide +kernel
theorem dL_fault_4 : decode cL_fault 4 = .ok (.invokevirtual 15, 3) := by decide +kernel
theorem dL_fault_7 : decode cL_fault 7 = .ok (.i2l, 1) := by decide +kernel
theorem dL_fault_8 : decode cL_fault 8 = .ok (.lastore, 1) := by decide +kernel
theorem dL_fault_9 : decode cL_fault 9 = .ok (.goto 6, 3) := by decide +kernel
theorem dL_fault_12 : decode cL_fault 12 = .ok (.astore_n 3, 1) := by decide +kernel
theorem dL_fault_13 : decode cL_fault 13 = .ok (.iconst 1, 1) := by decide +kernel
theorem dL_fault_14 : decode cL_fault 14 = .ok (.ireturn, 1) := by decide +kernel
theorem dL_fault_15 : decode cL_fault 15 = .ok (.iconst 0, 1) := by decide +kernel
theorem dL_fault_16 : decode cL_fault 16 = .ok (.ireturn, 1) := by decide +kernel
theorem dL_count_0 : decode cL_count 0 = .ok (.aload_n 2, 1) := by decide +kernel
theorem dL_count_1 : decode cL_count 1 = .ok (.iconst 0, 1) := by decide +kernel
theorem dL_count_2 : decode cL_count 2 = .ok (.aload_n 0, 1) := by decide +kernel
theorem dL_count_3 : decode cL_count 3 = .ok (.iload_n 1, 1) := by decide +kernel
theorem dL_count_4 : decode cL_count 4 = .ok (.invokevirtual 21, 3) := by decide +kernel
theorem dL_count_7 : decode cL_count 7 = .ok (.i2l, 1) := by decide +kernel
theorem dL_count_8 : decode cL_count 8 = .ok (.lastore, 1) := by decide +kernel
theorem dL_count_9 : decode cL_count 9 = .ok (.goto 6, 3) := by decide +kernel
theorem dL_count_12 : decode cL_count 12 = .ok (.astore_n 3, 1) := by decide +kernel
theorem dL_count_13 : decode cL_count 13 = .ok (.iconst 1, 1) := by decide +kernel
theorem dL_count_14 : decode cL_count 14 = .ok (.ireturn, 1) := by decide +kernel
theorem dL_count_15 : decode cL_count 15 = .ok (.iconst 0, 1) := by decide +kernel
theorem dL_count_16 : decode cL_count 16 = .ok (.ireturn, 1) := by decide +kernel
theorem dL_begin_0 : decode cL_begin 0 = .ok (.aload_n 2, 1) := by decide +kernel
theorem dL_begin_1 : decode cL_begin 1 = .ok (.iconst 0, 1) := by decide +kernel
theorem dL_begin_2 : decode cL_begin 2 = .ok (.aload_n 0, 1) := by decide +kernel
theorem dL_begin_3 : decode cL_begin 3 = .ok (.iload_n 1, 1) := by decide +kernel
theorem dL_begin_4 : decode cL_begin 4 = .ok (.invokevirtual 24, 3) := by decide +kernel
theorem dL_begin_7 : decode cL_begin 7 = .ok (.i2l, 1) := by decide +kernel
theorem dL_begin_8 : decode cL_begin 8 = .ok (.lastore, 1) := by decide +kernel
theorem dL_begin_9 : decode cL_begin 9 = .ok (.goto 9, 3) := by decide +kernel
theorem dL_begin_12 : decode cL_begin 12 = .ok (.astore_n 3, 1) := by decide +kernel
theorem dL_begin_13 : decode cL_begin 13 = .ok (.iconst 1, 1) := by decide +kernel
theorem dL_begin_14 : decode cL_begin 14 = .ok (.ireturn, 1) := by decide +kernel
theorem dL_begin_15 : decode cL_begin 15 = .ok (.astore_n 3, 1) := by decide +kernel
theorem dL_begin_16 : decode cL_begin 16 = .ok (.iconst 2, 1) := by decide +kernel
theorem dL_begin_17 : decode cL_begin 17 = .ok (.ireturn, 1) := by decide +kernel
theorem dL_begin_18 : decode cL_begin 18 = .ok (.iconst 0, 1) := by decide +kernel
theorem dL_begin_19 : decode cL_begin 19 = .ok (.ireturn, 1) := by decide +kernel
theorem dL_choices_0 : decode cL_choices 0 = .ok (.aload_n 1, 1) := by decide +kernel
theorem dL_choices_1 : decode cL_choices 1 = .ok (.iconst 0, 1) := by decide +kernel
theorem dL_choices_2 : decode cL_choices 2 = .ok (.aload_n 0, 1) := by decide +kernel
theorem dL_choices_3 : decode cL_choices 3 = .ok (.invokevirtual 29, 3) := by decide +kernel
theorem dL_choices_6 : decode cL_choices 6 = .ok (.i2l, 1) := by decide +kernel
theorem dL_choices_7 : decode cL_choices 7 = .ok (.lastore, 1) := by decide +kernel
theorem dL_choices_8 : decode cL_choices 8 = .ok (.goto 6, 3) := by decide +kernel
theorem dL_choices_11 : decode cL_choices 11 = .ok (.astore_n 2, 1) := by decide +kernel
theorem dL_choices_12 : decode cL_choices 12 = .ok (.iconst 1, 1) := by decide +kernel
theorem dL_choices_13 : decode cL_choices 13 = .ok (.ireturn, 1) := by decide +kernel
theorem dL_choices_14 : decode cL_choices 14 = .ok (.iconst 0, 1) := by decide +kernel
theorem dL_choices_15 : decode cL_choices 15 = .ok (.ireturn, 1) := by decide +kernel
theorem dL_choice_0 : decode cL_choice 0 = .ok (.aload_n 3, 1) := by decide +kernel
theorem dL_choice_1 : decode cL_choice 1 = .ok (.iconst 0, 1) := by decide +kernel
theorem dL_choice_2 : decode cL_choice 2 = .ok (.aload_n 0, 1) := by decide +kernel
theorem dL_choice_3 : decode cL_choice 3 = .ok (.iload_n 1, 1) := by decide +kernel
theorem dL_choice_4 : decode cL_choice 4 = .ok (.iload_n 2, 1) := by decide +kernel
theorem dL_choice_5 : decode cL_choice 5 = .ok (.invokevirtual 33, 3) := by decide +kernel
theorem dL_choice_8 : decode cL_choice 8 = .ok (.i2l, 1) := by decide +kernel
theorem dL_choice_9 : decode cL_choice 9 = .ok (.lastore, 1) := by decide +kernel
theorem dL_choice_10 : decode cL_choice 10 = .ok (.goto 11, 3) := by decide +kernel
theorem dL_choice_13 : decode cL_choice 13 = .ok (.astore 4, 2) := by decide +kernel
theorem dL_choice_15 : decode cL_choice 15 = .ok (.iconst 1, 1) := by decide +kernel
theorem dL_choice_16 : decode cL_choice 16 = .ok (.ireturn, 1) := by decide +kernel
theorem dL_choice_17 : decode cL_choice 17 = .ok (.astore 4, 2) := by decide +kernel
theorem dL_choice_19 : decode cL_choice 19 = .ok (.iconst 2, 1) := by decide +kernel
theorem dL_choice_20 : decode cL_choice 20 = .ok (.ireturn, 1) := by decide +kernel
theorem dL_choice_21 : decode cL_choice 21 = .ok (.iconst 0, 1) := by decide +kernel
theorem dL_choice_22 : decode cL_choice 22 = .ok (.ireturn, 1) := by decide +kernel
theorem dL_go_0 : decode cL_go 0 = .ok (.aload_n 2, 1) := by decide +kernel
theorem dL_go_1 : decode cL_go 1 = .ok (.iconst 0, 1) := by decide +kernel
theorem dL_go_2 : decode cL_go 2 = .ok (.aload_n 0, 1) := by decide +kernel
theorem dL_go_3 : decode cL_go 3 = .ok (.iload_n 1, 1) := by decide +kernel
theorem dL_go_4 : decode cL_go 4 = .ok (.invokevirtual 37, 3) := by decide +kernel
theorem dL_go_7 : decode cL_go 7 = .ok (.i2l, 1) := by decide +kernel
theorem dL_go_8 : decode cL_go 8 = .ok (.lastore, 1) := by decide +kernel
theorem dL_go_9 : decode cL_go 9 = .ok (.goto 9, 3) := by decide +kernel
theorem dL_go_12 : decode cL_go 12 = .ok (.astore_n 3, 1) := by decide +kernel
theorem dL_go_13 : decode cL_go 13 = .ok (.iconst 1, 1) := by decide +kernel
theorem dL_go_14 : decode cL_go 14 = .ok (.ireturn, 1) := by decide +kernel
theorem dL_go_15 : decode cL_go 15 = .ok (.astore_n 3, 1) := by decide +kernel
theorem dL_go_16 : decode cL_go 16 = .ok (.iconst 2, 1) := by decide +kernel
theorem dL_go_17 : decode cL_go 17 = .ok (.ireturn, 1) := by decide +kernel
theorem dL_go_18 : decode cL_go 18 = .ok (.iconst 0, 1) := by decide +kernel
theorem dL_go_19 : decode cL_go 19 = .ok (.ireturn, 1) := by decide +kernel
theorem dL_draw_0 : decode cL_draw 0 = .ok (.aload_n 3, 1) := by decide +kernel
theorem dL_draw_1 : decode cL_draw 1 = .ok (.iconst 0, 1) := by decide +kernel
theorem dL_draw_2 : decode cL_draw 2 = .ok (.aload_n 0, 1) := by decide +kernel
theorem dL_draw_3 : decode cL_draw 3 = .ok (.iload_n 1, 1) := by decide +kernel
theorem dL_draw_4 : decode cL_draw 4 = .ok (.iload_n 2, 1) := by decide +kernel
theorem dL_draw_5 : decode cL_draw 5 = .ok (.invokevirtual 40, 3) := by decide +kernel
theorem dL_draw_8 : decode cL_draw 8 = .ok (.i2l, 1) := by decide +kernel
theorem dL_draw_9 : decode cL_draw 9 = .ok (.lastore, 1) := by decide +kernel
theorem dL_draw_10 : decode cL_draw 10 = .ok (.goto 11, 3) := by decide +kernel
theorem dL_draw_13 : decode cL_draw 13 = .ok (.astore 4, 2) := by decide +kernel
theorem dL_draw_15 : decode cL_draw 15 = .ok (.iconst 1, 1) := by decide +kernel
theorem dL_draw_16 : decode cL_draw 16 = .ok (.ireturn, 1) := by decide +kernel
theorem dL_draw_17 : decode cL_draw 17 = .ok (.astore 4, 2) := by decide +kernel
theorem dL_draw_19 : decode cL_draw 19 = .ok (.iconst 2, 1) := by decide +kernel
theorem dL_draw_20 : decode cL_draw 20 = .ok (.ireturn, 1) := by decide +kernel
theorem dL_draw_21 : decode cL_draw 21 = .ok (.iconst 0, 1) := by decide +kernel
theorem dL_draw_22 : decode cL_draw 22 = .ok (.ireturn, 1) := by decide +kernel
theorem dL_again_0 : decode cL_again 0 = .ok (.aload_n 2, 1) := by decide +kernel
theorem dL_again_1 : decode cL_again 1 = .ok (.iconst 0, 1) := by decide +kernel
theorem dL_again_2 : decode cL_again 2 = .ok (.aload_n 0, 1) := by decide +kernel
theorem dL_again_3 : decode cL_again 3 = .ok (.iload_n 1, 1) := by decide +kernel
theorem dL_again_4 : decode cL_again 4 = .ok (.invokevirtual 43, 3) := by decide +kernel
theorem dL_again_7 : decode cL_again 7 = .ok (.i2l, 1) := by decide +kernel
theorem dL_again_8 : decode cL_again 8 = .ok (.lastore, 1) := by decide +kernel
theorem dL_again_9 : decode cL_again 9 = .ok (.goto 9, 3) := by decide +kernel
theorem dL_again_12 : decode cL_again 12 = .ok (.astore_n 3, 1) := by decide +kernel
theorem dL_again_13 : decode cL_again 13 = .ok (.iconst 1, 1) := by decide +kernel
theorem dL_again_14 : decode cL_again 14 = .ok (.ireturn, 1) := by decide +kernel
theorem dL_again_15 : decode cL_again 15 = .ok (.astore_n 3, 1) := by decide +kernel
theorem dL_again_16 : decode cL_again 16 = .ok (.iconst 2, 1) := by decide +kernel
theorem dL_again_17 : decode cL_again 17 = .ok (.ireturn, 1) := by decide +kernel
theorem dL_again_18 : decode cL_again 18 = .ok (.iconst 0, 1) := by decide +kernel
theorem dL_again_19 : decode cL_again 19 = .ok (.ireturn, 1) := by decide +kernel
theorem dL_run_0 : decode cL_run 0 = .ok (.aload_n 2, 1) := by decide +kernel
theorem dL_run_1 : decode cL_run 1 = .ok (.iconst 0, 1) := by decide +kernel
theorem dL_run_2 : decode cL_run 2 = .ok (.aload_n 0, 1) := by decide +kernel
theorem dL_run_3 : decode cL_run 3 = .ok (.iload_n 1, 1) := by decide +kernel
theorem dL_run_4 : decode cL_run 4 = .ok (.invokevirtual 46, 3) := by decide +kernel
theorem dL_run_7 : decode cL_run 7 = .ok (.i2l, 1) := by decide +kernel
theorem dL_run_8 : decode cL_run 8 = .ok (.lastore, 1) := by decide +kernel
theorem dL_run_9 : decode cL_run 9 = .ok (.goto 9, 3) := by decide +kernel
theorem dL_run_12 : decode cL_run 12 = .ok (.astore_n 3, 1) := by decide +kernel
theorem dL_run_13 : decode cL_run 13 = .ok (.iconst 1, 1) := by decide +kernel
theorem dL_run_14 : decode cL_run 14 = .ok (.ireturn, 1) := by decide +kernel
theorem dL_run_15 : decode cL_run 15 = .ok (.astore_n 3, 1) := by decide +kernel
theorem dL_run_16 : decode cL_run 16 = .ok (.iconst 2, 1) := by decide +kernel
theorem dL_run_17 : decode cL_run 17 = .ok (.ireturn, 1) := by decide +kernel
theorem dL_run_18 : decode cL_run 18 = .ok (.iconst 0, 1) := by decide +kernel
theorem dL_run_19 : decode cL_run 19 = .ok (.ireturn, 1) := by decide +kernel
theorem dL_cell_0 : decode cL_cell 0 = .ok (.aload_n 2, 1) := by decide +kernel
theorem dL_cell_1 : decode cL_cell 1 = .ok (.iconst 0, 1) := by decide +kernel
theorem dL_cell_2 : decode cL_cell 2 = .ok (.aload_n 0, 1) := by decide +kernel
theorem dL_cell_3 : decode cL_cell 3 = .ok (.iload_n 1, 1) := by decide +kernel
theorem dL_cell_4 : decode cL_cell 4 = .ok (.invokevirtual 49, 3) := by decide +kernel
theorem dL_cell_7 : decode cL_cell 7 = .ok (.i2l, 1) := by decide +kernel
theorem dL_cell_8 : decode cL_cell 8 = .ok (.lastore, 1) := by decide +kernel
theorem dL_cell_9 : decode cL_cell 9 = .ok (.goto 9, 3) := by decide +kernel
theorem dL_cell_12 : decode cL_cell 12 = .ok (.astore_n 3, 1) := by decide +kernel
theorem dL_cell_13 : decode cL_cell 13 = .ok (.iconst 1, 1) := by decide +kernel
theorem dL_cell_14 : decode cL_cell 14 = .ok (.ireturn, 1) := by decide +kernel
theorem dL_cell_15 : decode cL_cell 15 = .ok (.astore_n 3, 1) := by decide +kernel
theorem dL_cell_16 : decode cL_cell 16 = .ok (.iconst 2, 1) := by decide +kernel
theorem dL_cell_17 : decode cL_cell 17 = .ok (.ireturn, 1) := by decide +kernel
theorem dL_cell_18 : decode cL_cell 18 = .ok (.iconst 0, 1) := by decide +kernel
theorem dL_cell_19 : decode cL_cell 19 = .ok (.ireturn, 1) := by decide +kernel
theorem dL_seen_0 : decode cL_seen 0 = .ok (.aload_n 3, 1) := by decide +kernel
theorem dL_seen_1 : decode cL_seen 1 = .ok (.iconst 0, 1) := by decide +kernel
theorem dL_seen_2 : decode cL_seen 2 = .ok (.aload_n 0, 1) := by decide +kernel
theorem dL_seen_3 : decode cL_seen 3 = .ok (.iload_n 1, 1) := by decide +kernel
theorem dL_seen_4 : decode cL_seen 4 = .ok (.iload_n 2, 1) := by decide +kernel
theorem dL_seen_5 : decode cL_seen 5 = .ok (.invokevirtual 52, 3) := by decide +kernel
theorem dL_seen_8 : decode cL_seen 8 = .ok (.i2l, 1) := by decide +kernel
theorem dL_seen_9 : decode cL_seen 9 = .ok (.lastore, 1) := by decide +kernel
theorem dL_seen_10 : decode cL_seen 10 = .ok (.goto 11, 3) := by decide +kernel
theorem dL_seen_13 : decode cL_seen 13 = .ok (.astore 4, 2) := by decide +kernel
theorem dL_seen_15 : decode cL_seen 15 = .ok (.iconst 1, 1) := by decide +kernel
theorem dL_seen_16 : decode cL_seen 16 = .ok (.ireturn, 1) := by decide +kernel
theorem dL_seen_17 : decode cL_seen 17 = .ok (.astore 4, 2) := by decide +kernel
theorem dL_seen_19 : decode cL_seen 19 = .ok (.iconst 2, 1) := by decide +kernel
theorem dL_seen_20 : decode cL_seen 20 = .ok (.ireturn, 1) := by decide +kernel
theorem dL_seen_21 : decode cL_seen 21 = .ok (.iconst 0, 1) := by decide +kernel
theorem dL_seen_22 : decode cL_seen 22 = .ok (.ireturn, 1) := by decide +kernel
theorem dL_lock_0 : decode cL_lock 0 = .ok (.aload_n 3, 1) := by decide +kernel
theorem dL_lock_1 : decode cL_lock 1 = .ok (.iconst 0, 1) := by decide +kernel
theorem dL_lock_2 : decode cL_lock 2 = .ok (.aload_n 0, 1) := by decide +kernel
theorem dL_lock_3 : decode cL_lock 3 = .ok (.iload_n 1, 1) := by decide +kernel
theorem dL_lock_4 : decode cL_lock 4 = .ok (.iload_n 2, 1) := by decide +kernel
theorem dL_lock_5 : decode cL_lock 5 = .ok (.invokevirtual 55, 3) := by decide +kernel
theorem dL_lock_8 : decode cL_lock 8 = .ok (.i2l, 1) := by decide +kernel
theorem dL_lock_9 : decode cL_lock 9 = .ok (.lastore, 1) := by decide +kernel
theorem dL_lock_10 : decode cL_lock 10 = .ok (.goto 11, 3) := by decide +kernel
theorem dL_lock_13 : decode cL_lock 13 = .ok (.astore 4, 2) := by decide +kernel
theorem dL_lock_15 : decode cL_lock 15 = .ok (.iconst 1, 1) := by decide +kernel
theorem dL_lock_16 : decode cL_lock 16 = .ok (.ireturn, 1) := by decide +kernel
theorem dL_lock_17 : decode cL_lock 17 = .ok (.astore 4, 2) := by decide +kernel
theorem dL_lock_19 : decode cL_lock 19 = .ok (.iconst 2, 1) := by decide +kernel
theorem dL_lock_20 : decode cL_lock 20 = .ok (.ireturn, 1) := by decide +kernel
theorem dL_lock_21 : decode cL_lock 21 = .ok (.iconst 0, 1) := by decide +kernel
theorem dL_lock_22 : decode cL_lock 22 = .ok (.ireturn, 1) := by decide +kernel
theorem dL_thread_0 : decode cL_thread 0 = .ok (.aload_n 3, 1) := by decide +kernel
theorem dL_thread_1 : decode cL_thread 1 = .ok (.iconst 0, 1) := by decide +kernel
theorem dL_thread_2 : decode cL_thread 2 = .ok (.aload_n 0, 1) := by decide +kernel
theorem dL_thread_3 : decode cL_thread 3 = .ok (.iload_n 1, 1) := by decide +kernel
theorem dL_thread_4 : decode cL_thread 4 = .ok (.iload_n 2, 1) := by decide +kernel
theorem dL_thread_5 : decode cL_thread 5 = .ok (.invokevirtual 58, 3) := by decide +kernel
theorem dL_thread_8 : decode cL_thread 8 = .ok (.i2l, 1) := by decide +kernel
theorem dL_thread_9 : decode cL_thread 9 = .ok (.lastore, 1) := by decide +kernel
theorem dL_thread_10 : decode cL_thread 10 = .ok (.goto 11, 3) := by decide +kernel
theorem dL_thread_13 : decode cL_thread 13 = .ok (.astore 4, 2) := by decide +kernel
theorem dL_thread_15 : decode cL_thread 15 = .ok (.iconst 1, 1) := by decide +kernel
theorem dL_thread_16 : decode cL_thread 16 = .ok (.ireturn, 1) := by decide +kernel
theorem dL_thread_17 : decode cL_thread 17 = .ok (.astore 4, 2) := by decide +kernel
theorem dL_thread_19 : decode cL_thread 19 = .ok (.iconst 2, 1) := by decide +kernel
theorem dL_thread_20 : decode cL_thread 20 = .ok (.ireturn, 1) := by decide +kernel
theorem dL_thread_21 : decode cL_thread 21 = .ok (.iconst 0, 1) := by decide +kernel
theorem dL_thread_22 : decode cL_thread 22 = .ok (.ireturn, 1) := by decide +kernel
theorem dL_local_0 : decode cL_local 0 = .ok (.aload_n 3, 1) := by decide +kernel
theorem dL_local_1 : decode cL_local 1 = .ok (.iconst 0, 1) := by decide +kernel
theorem dL_local_2 : decode cL_local 2 = .ok (.aload_n 0, 1) := by decide +kernel
theorem dL_local_3 : decode cL_local 3 = .ok (.iload_n 1, 1) := by decide +kernel
theorem dL_local_4 : decode cL_local 4 = .ok (.iload_n 2, 1) := by decide +kernel
theorem dL_local_5 : decode cL_local 5 = .ok (.invokevirtual 61, 3) := by decide +kernel
theorem dL_local_8 : decode cL_local 8 = .ok (.i2l, 1) := by decide +kernel
theorem dL_local_9 : decode cL_local 9 = .ok (.lastore, 1) := by decide +kernel
theorem dL_local_10 : decode cL_local 10 = .ok (.goto 11, 3) := by decide +kernel
theorem dL_local_13 : decode cL_local 13 = .ok (.astore 4, 2) := by decide +kernel
theorem dL_local_15 : decode cL_local 15 = .ok (.iconst 1, 1) := by decide +kernel
theorem dL_local_16 : decode cL_local 16 = .ok (.ireturn, 1) := by decide +kernel
theorem dL_local_17 : decode cL_local 17 = .ok (.astore 4, 2) := by decide +kernel
theorem dL_local_19 : decode cL_local 19 = .ok (.iconst 2, 1) := by decide +kernel
theorem dL_local_20 : decode cL_local 20 = .ok (.ireturn, 1) := by decide +kernel
theorem dL_local_21 : decode cL_local 21 = .ok (.iconst 0, 1) := by decide +kernel
theorem dL_local_22 : decode cL_local 22 = .ok (.ireturn, 1) := by decide +kernel
theorem dL_act_0 : decode cL_act 0 = .ok (.aload_n 3, 1) := by decide +kernel
theorem dL_act_1 : decode cL_act 1 = .ok (.iconst 0, 1) := by decide +kernel
theorem dL_act_2 : decode cL_act 2 = .ok (.aload_n 0, 1) := by decide +kernel
theorem dL_act_3 : decode cL_act 3 = .ok (.iload_n 1, 1) := by decide +kernel
theorem dL_act_4 : decode cL_act 4 = .ok (.iload_n 2, 1) := by decide +kernel
theorem dL_act_5 : decode cL_act 5 = .ok (.invokevirtual 64, 3) := by decide +kernel
theorem dL_act_8 : decode cL_act 8 = .ok (.i2l, 1) := by decide +kernel
theorem dL_act_9 : decode cL_act 9 = .ok (.lastore, 1) := by decide +kernel
theorem dL_act_10 : decode cL_act 10 = .ok (.goto 11, 3) := by decide +kernel
theorem dL_act_13 : decode cL_act 13 = .ok (.astore 4, 2) := by decide +kernel
theorem dL_act_15 : decode cL_act 15 = .ok (.iconst 1, 1) := by decide +kernel
theorem dL_act_16 : decode cL_act 16 = .ok (.ireturn, 1) := by decide +kernel
theorem dL_act_17 : decode cL_act 17 = .ok (.astore 4, 2) := by decide +kernel
theorem dL_act_19 : decode cL_act 19 = .ok (.iconst 2, 1) := by decide +kernel
theorem dL_act_20 : decode cL_act 20 = .ok (.ireturn, 1) := by decide +kernel
theorem dL_act_21 : decode cL_act 21 = .ok (.iconst 0, 1) := by decide +kernel
theorem dL_act_22 : decode cL_act 22 = .ok (.ireturn, 1) := by decide +kernel
theorem dL_before_0 : decode cL_before 0 = .ok (.aload_n 3, 1) := by decide +kernel
theorem dL_before_1 : decode cL_before 1 = .ok (.iconst 0, 1) := by decide +kernel
theorem dL_before_2 : decode cL_before 2 = .ok (.aload_n 0, 1) := by decide +kernel
theorem dL_before_3 : decode cL_before 3 = .ok (.iload_n 1, 1) := by decide +kernel
theorem dL_before_4 : decode cL_before 4 = .ok (.iload_n 2, 1) := by decide +kernel
theorem dL_before_5 : decode cL_before 5 = .ok (.invokevirtual 67, 3) := by decide +kernel
theorem dL_before_8 : decode cL_before 8 = .ok (.ifCond .eq 7, 3) := by decide +kernel
theorem dL_before_11 : decode cL_before 11 = .ok (.lconst 1, 1) := by decide +kernel
theorem dL_before_12 : decode cL_before 12 = .ok (.goto 4, 3) := by decide +kernel
theorem dL_before_15 : decode cL_before 15 = .ok (.lconst 0, 1) := by decide +kernel
theorem dL_before_16 : decode cL_before 16 = .ok (.lastore, 1) := by decide +kernel
theorem dL_before_17 : decode cL_before 17 = .ok (.goto 11, 3) := by decide +kernel
theorem dL_before_20 : decode cL_before 20 = .ok (.astore 4, 2) := by decide +kernel
theorem dL_before_22 : decode cL_before 22 = .ok (.iconst 1, 1) := by decide +kernel
theorem dL_before_23 : decode cL_before 23 = .ok (.ireturn, 1) := by decide +kernel
theorem dL_before_24 : decode cL_before 24 = .ok (.astore 4, 2) := by decide +kernel
theorem dL_before_26 : decode cL_before 26 = .ok (.iconst 2, 1) := by decide +kernel
theorem dL_before_27 : decode cL_before 27 = .ok (.ireturn, 1) := by decide +kernel
theorem dL_before_28 : decode cL_before 28 = .ok (.iconst 0, 1) := by decide +kernel
theorem dL_before_29 : decode cL_before 29 = .ok (.ireturn, 1) := by decide +kernel
theorem dL_race_0 : decode cL_race 0 = .ok (.aload_n 3, 1) := by decide +kernel
theorem dL_race_1 : decode cL_race 1 = .ok (.iconst 0, 1) := by decide +kernel
theorem dL_race_2 : decode cL_race 2 = .ok (.aload_n 0, 1) := by decide +kernel
theorem dL_race_3 : decode cL_race 3 = .ok (.iload_n 1, 1) := by decide +kernel
theorem dL_race_4 : decode cL_race 4 = .ok (.iload_n 2, 1) := by decide +kernel
theorem dL_race_5 : decode cL_race 5 = .ok (.invokevirtual 71, 3) := by decide +kernel
theorem dL_race_8 : decode cL_race 8 = .ok (.i2l, 1) := by decide +kernel
theorem dL_race_9 : decode cL_race 9 = .ok (.lastore, 1) := by decide +kernel
theorem dL_race_10 : decode cL_race 10 = .ok (.goto 11, 3) := by decide +kernel
theorem dL_race_13 : decode cL_race 13 = .ok (.astore 4, 2) := by decide +kernel
theorem dL_race_15 : decode cL_race 15 = .ok (.iconst 1, 1) := by decide +kernel
theorem dL_race_16 : decode cL_race 16 = .ok (.ireturn, 1) := by decide +kernel
theorem dL_race_17 : decode cL_race 17 = .ok (.astore 4, 2) := by decide +kernel
theorem dL_race_19 : decode cL_race 19 = .ok (.iconst 2, 1) := by decide +kernel
theorem dL_race_20 : decode cL_race 20 = .ok (.ireturn, 1) := by decide +kernel
theorem dL_race_21 : decode cL_race 21 = .ok (.iconst 0, 1) := by decide +kernel
theorem dL_race_22 : decode cL_race 22 = .ok (.ireturn, 1) := by decide +kernel
theorem dL_linear_0 : decode cL_linear 0 = .ok (.aload_n 2, 1) := by decide +kernel
theorem dL_linear_1 : decode cL_linear 1 = .ok (.iconst 0, 1) := by decide +kernel
theorem dL_linear_2 : decode cL_linear 2 = .ok (.aload_n 0, 1) := by decide +kernel
theorem dL_linear_3 : decode cL_linear 3 = .ok (.iload_n 1, 1) := by decide +kernel
theorem dL_linear_4 : decode cL_linear 4 = .ok (.invokevirtual 74, 3) := by decide +kernel
theorem dL_linear_7 : decode cL_linear 7 = .ok (.i2l, 1) := by decide +kernel
theorem dL_linear_8 : decode cL_linear 8 = .ok (.lastore, 1) := by decide +kernel
theorem dL_linear_9 : decode cL_linear 9 = .ok (.goto 9, 3) := by decide +kernel
theorem dL_linear_12 : decode cL_linear 12 = .ok (.astore_n 3, 1) := by decide +kernel
theorem dL_linear_13 : decode cL_linear 13 = .ok (.iconst 1, 1) := by decide +kernel
theorem dL_linear_14 : decode cL_linear 14 = .ok (.ireturn, 1) := by decide +kernel
theorem dL_linear_15 : decode cL_linear 15 = .ok (.astore_n 3, 1) := by decide +kernel
theorem dL_linear_16 : decode cL_linear 16 = .ok (.iconst 2, 1) := by decide +kernel
theorem dL_linear_17 : decode cL_linear 17 = .ok (.ireturn, 1) := by decide +kernel
theorem dL_linear_18 : decode cL_linear 18 = .ok (.iconst 0, 1) := by decide +kernel
theorem dL_linear_19 : decode cL_linear 19 = .ok (.ireturn, 1) := by decide +kernel
theorem dL_attempt_0 : decode cL_attempt 0 = .ok (.aload_n 3, 1) := by decide +kernel
theorem dL_attempt_1 : decode cL_attempt 1 = .ok (.iconst 0, 1) := by decide +kernel
theorem dL_attempt_2 : decode cL_attempt 2 = .ok (.aload_n 0, 1) := by decide +kernel
theorem dL_attempt_3 : decode cL_attempt 3 = .ok (.iload_n 1, 1) := by decide +kernel
theorem dL_attempt_4 : decode cL_attempt 4 = .ok (.iload_n 2, 1) := by decide +kernel
theorem dL_attempt_5 : decode cL_attempt 5 = .ok (.invokevirtual 77, 3) := by decide +kernel
theorem dL_attempt_8 : decode cL_attempt 8 = .ok (.i2l, 1) := by decide +kernel
theorem dL_attempt_9 : decode cL_attempt 9 = .ok (.lastore, 1) := by decide +kernel
theorem dL_attempt_10 : decode cL_attempt 10 = .ok (.goto 11, 3) := by decide +kernel
theorem dL_attempt_13 : decode cL_attempt 13 = .ok (.astore 4, 2) := by decide +kernel
theorem dL_attempt_15 : decode cL_attempt 15 = .ok (.iconst 1, 1) := by decide +kernel
theorem dL_attempt_16 : decode cL_attempt 16 = .ok (.ireturn, 1) := by decide +kernel
theorem dL_attempt_17 : decode cL_attempt 17 = .ok (.astore 4, 2) := by decide +kernel
theorem dL_attempt_19 : decode cL_attempt 19 = .ok (.iconst 2, 1) := by decide +kernel
theorem dL_attempt_20 : decode cL_attempt 20 = .ok (.ireturn, 1) := by decide +kernel
theorem dL_attempt_21 : decode cL_attempt 21 = .ok (.iconst 0, 1) := by decide +kernel
theorem dL_attempt_22 : decode cL_attempt 22 = .ok (.ireturn, 1) := by decide +kernel
theorem dL_tried_0 : decode cL_tried 0 = .ok (.aload_n 3, 1) := by decide +kernel
theorem dL_tried_1 : decode cL_tried 1 = .ok (.iconst 0, 1) := by decide +kernel
theorem dL_tried_2 : decode cL_tried 2 = .ok (.aload_n 0, 1) := by decide +kernel
theorem dL_tried_3 : decode cL_tried 3 = .ok (.iload_n 1, 1) := by decide +kernel
theorem dL_tried_4 : decode cL_tried 4 = .ok (.iload_n 2, 1) := by decide +kernel
theorem dL_tried_5 : decode cL_tried 5 = .ok (.invokevirtual 80, 3) := by decide +kernel
theorem dL_tried_8 : decode cL_tried 8 = .ok (.i2l, 1) := by decide +kernel
theorem dL_tried_9 : decode cL_tried 9 = .ok (.lastore, 1) := by decide +kernel
theorem dL_tried_10 : decode cL_tried 10 = .ok (.goto 11, 3) := by decide +kernel
theorem dL_tried_13 : decode cL_tried 13 = .ok (.astore 4, 2) := by decide +kernel
theorem dL_tried_15 : decode cL_tried 15 = .ok (.iconst 1, 1) := by decide +kernel
theorem dL_tried_16 : decode cL_tried 16 = .ok (.ireturn, 1) := by decide +kernel
theorem dL_tried_17 : decode cL_tried 17 = .ok (.astore 4, 2) := by decide +kernel
theorem dL_tried_19 : decode cL_tried 19 = .ok (.iconst 2, 1) := by decide +kernel
theorem dL_tried_20 : decode cL_tried 20 = .ok (.ireturn, 1) := by decide +kernel
theorem dL_tried_21 : decode cL_tried 21 = .ok (.iconst 0, 1) := by decide +kernel
theorem dL_tried_22 : decode cL_tried 22 = .ok (.ireturn, 1) := by decide +kernel
theorem dL_outcome_0 : decode cL_outcome 0 = .ok (.aload 4, 2) := by decide +kernel
theorem dL_outcome_2 : decode cL_outcome 2 = .ok (.iconst 0, 1) := by decide +kernel
theorem dL_outcome_3 : decode cL_outcome 3 = .ok (.aload_n 0, 1) := by decide +kernel
theorem dL_outcome_4 : decode cL_outcome 4 = .ok (.iload_n 1, 1) := by decide +kernel
theorem dL_outcome_5 : decode cL_outcome 5 = .ok (.iload_n 2, 1) := by decide +kernel
theorem dL_outcome_6 : decode cL_outcome 6 = .ok (.iload_n 3, 1) := by decide +kernel
theorem dL_outcome_7 : decode cL_outcome 7 = .ok (.invokevirtual 83, 3) := by decide +kernel
theorem dL_outcome_10 : decode cL_outcome 10 = .ok (.i2l, 1) := by decide +kernel
theorem dL_outcome_11 : decode cL_outcome 11 = .ok (.lastore, 1) := by decide +kernel
theorem dL_outcome_12 : decode cL_outcome 12 = .ok (.goto 11, 3) := by decide +kernel
theorem dL_outcome_15 : decode cL_outcome 15 = .ok (.astore 5, 2) := by decide +kernel
theorem dL_outcome_17 : decode cL_outcome 17 = .ok (.iconst 1, 1) := by decide +kernel
theorem dL_outcome_18 : decode cL_outcome 18 = .ok (.ireturn, 1) := by decide +kernel
theorem dL_outcome_19 : decode cL_outcome 19 = .ok (.astore 5, 2) := by decide +kernel
theorem dL_outcome_21 : decode cL_outcome 21 = .ok (.iconst 2, 1) := by decide +kernel
theorem dL_outcome_22 : decode cL_outcome 22 = .ok (.ireturn, 1) := by decide +kernel
theorem dL_outcome_23 : decode cL_outcome 23 = .ok (.iconst 0, 1) := by decide +kernel
theorem dL_outcome_24 : decode cL_outcome 24 = .ok (.ireturn, 1) := by decide +kernel
theorem dL_finding_0 : decode cL_finding 0 = .ok (.aload_n 3, 1) := by decide +kernel
theorem dL_finding_1 : decode cL_finding 1 = .ok (.iconst 0, 1) := by decide +kernel
theorem dL_finding_2 : decode cL_finding 2 = .ok (.aload_n 0, 1) := by decide +kernel
theorem dL_finding_3 : decode cL_finding 3 = .ok (.iload_n 1, 1) := by decide +kernel
theorem dL_finding_4 : decode cL_finding 4 = .ok (.iload_n 2, 1) := by decide +kernel
theorem dL_finding_5 : decode cL_finding 5 = .ok (.invokevirtual 87, 3) := by decide +kernel
theorem dL_finding_8 : decode cL_finding 8 = .ok (.i2l, 1) := by decide +kernel
theorem dL_finding_9 : decode cL_finding 9 = .ok (.lastore, 1) := by decide +kernel
theorem dL_finding_10 : decode cL_finding 10 = .ok (.goto 7, 3) := by decide +kernel
theorem dL_finding_13 : decode cL_finding 13 = .ok (.astore 4, 2) := by decide +kernel
theorem dL_finding_15 : decode cL_finding 15 = .ok (.iconst 1, 1) := by decide +kernel
theorem dL_finding_16 : decode cL_finding 16 = .ok (.ireturn, 1) := by decide +kernel
theorem dL_finding_17 : decode cL_finding 17 = .ok (.iconst 0, 1) := by decide +kernel
theorem dL_finding_18 : decode cL_finding 18 = .ok (.ireturn, 1) := by decide +kernel
theorem dL_show_0 : decode cL_show 0 = .ok (.aload_n 3, 1) := by decide +kernel
theorem dL_show_1 : decode cL_show 1 = .ok (.iconst 0, 1) := by decide +kernel
theorem dL_show_2 : decode cL_show 2 = .ok (.aload_n 0, 1) := by decide +kernel
theorem dL_show_3 : decode cL_show 3 = .ok (.iload_n 1, 1) := by decide +kernel
theorem dL_show_4 : decode cL_show 4 = .ok (.iload_n 2, 1) := by decide +kernel
theorem dL_show_5 : decode cL_show 5 = .ok (.invokevirtual 90, 3) := by decide +kernel
theorem dL_show_8 : decode cL_show 8 = .ok (.i2l, 1) := by decide +kernel
theorem dL_show_9 : decode cL_show 9 = .ok (.lastore, 1) := by decide +kernel
theorem dL_show_10 : decode cL_show 10 = .ok (.goto 11, 3) := by decide +kernel
theorem dL_show_13 : decode cL_show 13 = .ok (.astore 4, 2) := by decide +kernel
theorem dL_show_15 : decode cL_show 15 = .ok (.iconst 1, 1) := by decide +kernel
theorem dL_show_16 : decode cL_show 16 = .ok (.ireturn, 1) := by decide +kernel
theorem dL_show_17 : decode cL_show 17 = .ok (.astore 4, 2) := by decide +kernel
theorem dL_show_19 : decode cL_show 19 = .ok (.iconst 2, 1) := by decide +kernel
theorem dL_show_20 : decode cL_show 20 = .ok (.ireturn, 1) := by decide +kernel
theorem dL_show_21 : decode cL_show 21 = .ok (.iconst 0, 1) := by decide +kernel
theorem dL_show_22 : decode cL_show 22 = .ok (.ireturn, 1) := by decide +kernel
theorem dL_common_0 : decode cL_common 0 = .ok (.aload_n 3, 1) := by decide +kernel
theorem dL_common_1 : decode cL_common 1 = .ok (.iconst 0, 1) := by decide +kernel
theorem dL_common_2 : decode cL_common 2 = .ok (.aload_n 0, 1) := by decide +kernel
theorem dL_common_3 : decode cL_common 3 = .ok (.iload_n 1, 1) := by decide +kernel
theorem dL_common_4 : decode cL_common 4 = .ok (.iload_n 2, 1) := by decide +kernel
theorem dL_common_5 : decode cL_common 5 = .ok (.invokevirtual 93, 3) := by decide +kernel
theorem dL_common_8 : decode cL_common 8 = .ok (.i2l, 1) := by decide +kernel
theorem dL_common_9 : decode cL_common 9 = .ok (.lastore, 1) := by decide +kernel
theorem dL_common_10 : decode cL_common 10 = .ok (.goto 11, 3) := by decide +kernel
theorem dL_common_13 : decode cL_common 13 = .ok (.astore 4, 2) := by decide +kernel
theorem dL_common_15 : decode cL_common 15 = .ok (.iconst 1, 1) := by decide +kernel
theorem dL_common_16 : decode cL_common 16 = .ok (.ireturn, 1) := by decide +kernel
theorem dL_common_17 : decode cL_common 17 = .ok (.astore 4, 2) := by decide +kernel
theorem dL_common_19 : decode cL_common 19 = .ok (.iconst 2, 1) := by decide +kernel
theorem dL_common_20 : decode cL_common 20 = .ok (.ireturn, 1) := by decide +kernel
theorem dL_common_21 : decode cL_common 21 = .ok (.iconst 0, 1) := by decide +kernel
theorem dL_common_22 : decode cL_common 22 = .ok (.ireturn, 1) := by decide +kernel
theorem dL_ring_0 : decode cL_ring 0 = .ok (.aload_n 2, 1) := by decide +kernel
theorem dL_ring_1 : decode cL_ring 1 = .ok (.iconst 0, 1) := by decide +kernel
theorem dL_ring_2 : decode cL_ring 2 = .ok (.aload_n 0, 1) := by decide +kernel
theorem dL_ring_3 : decode cL_ring 3 = .ok (.iload_n 1, 1) := by decide +kernel
theorem dL_ring_4 : decode cL_ring 4 = .ok (.invokevirtual 96, 3) := by decide +kernel
theorem dL_ring_7 : decode cL_ring 7 = .ok (.i2l, 1) := by decide +kernel
theorem dL_ring_8 : decode cL_ring 8 = .ok (.lastore, 1) := by decide +kernel
theorem dL_ring_9 : decode cL_ring 9 = .ok (.goto 6, 3) := by decide +kernel
theorem dL_ring_12 : decode cL_ring 12 = .ok (.astore_n 3, 1) := by decide +kernel
theorem dL_ring_13 : decode cL_ring 13 = .ok (.iconst 1, 1) := by decide +kernel
theorem dL_ring_14 : decode cL_ring 14 = .ok (.ireturn, 1) := by decide +kernel
theorem dL_ring_15 : decode cL_ring 15 = .ok (.iconst 0, 1) := by decide +kernel
theorem dL_ring_16 : decode cL_ring 16 = .ok (.ireturn, 1) := by decide +kernel
