theorem dX0_init_0 : decode cX0_init 0 = .ok (.aload_n 0, 1) := by decide +kernel
theorem dX0_init_1 : decode cX0_init 1 = .ok (.invokespecial 3, 3) := by decide +kernel
theorem dX0_init_4 : decode cX0_init 4 = .ok (.aload_n 0, 1) := by decide +kernel
theorem dX0_init_5 : decode cX0_init 5 = .ok (.new 9, 3) := by decide +kernel
theorem dX0_init_8 : decode cX0_init 8 = .ok (.dup, 1) := by decide +kernel
theorem dX0_init_9 : decode cX0_init 9 = .ok (.bipush 16, 2) := by decide +kernel
theorem dX0_init_11 : decode cX0_init 11 = .ok (.invokespecial 11, 3) := by decide +kernel
theorem dX0_init_14 : decode cX0_init 14 = .ok (.putfield 14, 3) := by decide +kernel
theorem dX0_init_17 : decode cX0_init 17 = .ok (.aload_n 0, 1) := by decide +kernel
theorem dX0_init_18 : decode cX0_init 18 = .ok (.new 9, 3) := by decide +kernel
theorem dX0_init_21 : decode cX0_init 21 = .ok (.dup, 1) := by decide +kernel
theorem dX0_init_22 : decode cX0_init 22 = .ok (.bipush 8, 2) := by decide +kernel
theorem dX0_init_24 : decode cX0_init 24 = .ok (.invokespecial 11, 3) := by decide +kernel
theorem dX0_init_27 : decode cX0_init 27 = .ok (.putfield 20, 3) := by decide +kernel
theorem dX0_init_30 : decode cX0_init 30 = .ok (.aload_n 0, 1) := by decide +kernel
theorem dX0_init_31 : decode cX0_init 31 = .ok (.new 9, 3) := by decide +kernel
theorem dX0_init_34 : decode cX0_init 34 = .ok (.dup, 1) := by decide +kernel
theorem dX0_init_35 : decode cX0_init 35 = .ok (.bipush 8, 2) := by decide +kernel
theorem dX0_init_37 : decode cX0_init 37 = .ok (.invokespecial 11, 3) := by decide +kernel
theorem dX0_init_40 : decode cX0_init 40 = .ok (.putfield 23, 3) := by decide +kernel
theorem dX0_init_43 : decode cX0_init 43 = .ok (.aload_n 0, 1) := by decide +kernel
theorem dX0_init_44 : decode cX0_init 44 = .ok (.new 9, 3) := by decide +kernel
theorem dX0_init_47 : decode cX0_init 47 = .ok (.dup, 1) := by decide +kernel
theorem dX0_init_48 : decode cX0_init 48 = .ok (.bipush 8, 2) := by decide +kernel
theorem dX0_init_50 : decode cX0_init 50 = .ok (.invokespecial 11, 3) := by decide +kernel
theorem dX0_init_53 : decode cX0_init 53 = .ok (.putfield 26, 3) := by decide +kernel
theorem dX0_init_56 : decode cX0_init 56 = .ok (.aload_n 0, 1) := by decide +kernel
theorem dX0_init_57 : decode cX0_init 57 = .ok (.new 9, 3) := by decide +kernel
theorem dX0_init_60 : decode cX0_init 60 = .ok (.dup, 1) := by decide +kernel
theorem dX0_init_61 : decode cX0_init 61 = .ok (.bipush 8, 2) := by decide +kernel
theorem dX0_init_63 : decode cX0_init 63 = .ok (.invokespecial 11, 3) := by decide +kernel
theorem dX0_init_66 : decode cX0_init 66 = .ok (.putfield 29, 3) := by decide +kernel
theorem dX0_init_69 : decode cX0_init 69 = .ok (.aload_n 0, 1) := by decide +kernel
theorem dX0_init_70 : decode cX0_init 70 = .ok (.new 9, 3) := by decide +kernel
theorem dX0_init_73 : decode cX0_init 73 = .ok (.dup, 1) := by decide +kernel
theorem dX0_init_74 : decode cX0_init 74 = .ok (.bipush 8, 2) := by decide +kernel
theorem dX0_init_76 : decode cX0_init 76 = .ok (.invokespecial 11, 3) := by decide +kernel
theorem dX0_init_79 : decode cX0_init 79 = .ok (.putfield 32, 3) := by decide +kernel
theorem dX0_init_82 : decode cX0_init 82 = .ok (.aload_n 0, 1) := by decide +kernel
theorem dX0_init_83 : decode cX0_init 83 = .ok (.new 9, 3) := by decide +kernel
theorem dX0_init_86 : decode cX0_init 86 = .ok (.dup, 1) := by decide +kernel
theorem dX0_init_87 : decode cX0_init 87 = .ok (.bipush 8, 2) := by decide +kernel
theorem dX0_init_89 : decode cX0_init 89 = .ok (.invokespecial 11, 3) := by decide +kernel
theorem dX0_init_92 : decode cX0_init 92 = .ok (.putfield 35, 3) := by decide +kernel
theorem dX0_init_95 : decode cX0_init 95 = .ok (.aload_n 0, 1) := by decide +kernel
theorem dX0_init_96 : decode cX0_init 96 = .ok (.new 9, 3) := by decide +kernel
theorem dX0_init_99 : decode cX0_init 99 = .ok (.dup, 1) := by decide +kernel
theorem dX0_init_100 : decode cX0_init 100 = .ok (.bipush 32, 2) := by decide +kernel
theorem dX0_init_102 : decode cX0_init 102 = .ok (.invokespecial 11, 3) := by decide +kernel
theorem dX0_init_105 : decode cX0_init 105 = .ok (.putfield 38, 3) := by decide +kernel
theorem dX0_init_108 : decode cX0_init 108 = .ok (.aload_n 0, 1) := by decide +kernel
theorem dX0_init_109 : decode cX0_init 109 = .ok (.new 9, 3) := by decide +kernel
theorem dX0_init_112 : decode cX0_init 112 = .ok (.dup, 1) := by decide +kernel
theorem dX0_init_113 : decode cX0_init 113 = .ok (.bipush 32, 2) := by decide +kernel
theorem dX0_init_115 : decode cX0_init 115 = .ok (.invokespecial 11, 3) := by decide +kernel
theorem dX0_init_118 : decode cX0_init 118 = .ok (.putfield 41, 3) := by decide +kernel
theorem dX0_init_121 : decode cX0_init 121 = .ok (.aload_n 0, 1) := by decide +kernel
theorem dX0_init_122 : decode cX0_init 122 = .ok (.new 9, 3) := by decide +kernel
theorem dX0_init_125 : decode cX0_init 125 = .ok (.dup, 1) := by decide +kernel
theorem dX0_init_126 : decode cX0_init 126 = .ok (.bipush 6, 2) := by decide +kernel
theorem dX0_init_128 : decode cX0_init 128 = .ok (.invokespecial 11, 3) := by decide +kernel
theorem dX0_init_131 : decode cX0_init 131 = .ok (.putfield 44, 3) := by decide +kernel
theorem dX0_init_134 : decode cX0_init 134 = .ok (.aload_n 0, 1) := by decide +kernel
theorem dX0_init_135 : decode cX0_init 135 = .ok (.new 9, 3) := by decide +kernel
theorem dX0_init_138 : decode cX0_init 138 = .ok (.dup, 1) := by decide +kernel
theorem dX0_init_139 : decode cX0_init 139 = .ok (.iconst 3, 1) := by decide +kernel
theorem dX0_init_140 : decode cX0_init 140 = .ok (.invokespecial 11, 3) := by decide +kernel
theorem dX0_init_143 : decode cX0_init 143 = .ok (.putfield 47, 3) := by decide +kernel
theorem dX0_init_146 : decode cX0_init 146 = .ok (.aload_n 0, 1) := by decide +kernel
theorem dX0_init_147 : decode cX0_init 147 = .ok (.new 9, 3) := by decide +kernel
theorem dX0_init_150 : decode cX0_init 150 = .ok (.dup, 1) := by decide +kernel
theorem dX0_init_151 : decode cX0_init 151 = .ok (.bipush 9, 2) := by decide +kernel
theorem dX0_init_153 : decode cX0_init 153 = .ok (.invokespecial 11, 3) := by decide +kernel
theorem dX0_init_156 : decode cX0_init 156 = .ok (.putfield 50, 3) := by decide +kernel
theorem dX0_init_159 : decode cX0_init 159 = .ok (.return_, 1) := by decide +kernel
theorem dX0_clear_0 : decode cX0_clear 0 = .ok (.aload_n 0, 1) := by decide +kernel
theorem dX0_clear_1 : decode cX0_clear 1 = .ok (.iconst 0, 1) := by decide +kernel
theorem dX0_clear_2 : decode cX0_clear 2 = .ok (.putfield 53, 3) := by decide +kernel
theorem dX0_clear_5 : decode cX0_clear 5 = .ok (.aload_n 0, 1) := by decide +kernel
theorem dX0_clear_6 : decode cX0_clear 6 = .ok (.getfield 32, 3) := by decide +kernel
theorem dX0_clear_9 : decode cX0_clear 9 = .ok (.iconst 0, 1) := by decide +kernel
theorem dX0_clear_10 : decode cX0_clear 10 = .ok (.invokevirtual 57, 3) := by decide +kernel
theorem dX0_clear_13 : decode cX0_clear 13 = .ok (.aload_n 0, 1) := by decide +kernel
theorem dX0_clear_14 : decode cX0_clear 14 = .ok (.getfield 35, 3) := by decide +kernel
theorem dX0_clear_17 : decode cX0_clear 17 = .ok (.iconst 0, 1) := by decide +kernel
theorem dX0_clear_18 : decode cX0_clear 18 = .ok (.invokevirtual 57, 3) := by decide +kernel
theorem dX0_clear_21 : decode cX0_clear 21 = .ok (.aload_n 0, 1) := by decide +kernel
theorem dX0_clear_22 : decode cX0_clear 22 = .ok (.getfield 38, 3) := by decide +kernel
theorem dX0_clear_25 : decode cX0_clear 25 = .ok (.iconst 0, 1) := by decide +kernel
theorem dX0_clear_26 : decode cX0_clear 26 = .ok (.invokevirtual 57, 3) := by decide +kernel
theorem dX0_clear_29 : decode cX0_clear 29 = .ok (.aload_n 0, 1) := by decide +kernel
theorem dX0_clear_30 : decode cX0_clear 30 = .ok (.getfield 41, 3) := by decide +kernel
theorem dX0_clear_33 : decode cX0_clear 33 = .ok (.iconst 0, 1) := by decide +kernel
theorem dX0_clear_34 : decode cX0_clear 34 = .ok (.invokevirtual 57, 3) := by decide +kernel
theorem dX0_clear_37 : decode cX0_clear 37 = .ok (.aload_n 0, 1) := by decide +kernel
theorem dX0_clear_38 : decode cX0_clear 38 = .ok (.getfield 44, 3) := by decide +kernel
theorem dX0_clear_41 : decode cX0_clear 41 = .ok (.iconst 0, 1) := by decide +kernel
theorem dX0_clear_42 : decode cX0_clear 42 = .ok (.invokevirtual 57, 3) := by decide +kernel
theorem dX0_clear_45 : decode cX0_clear 45 = .ok (.aload_n 0, 1) := by decide +kernel
theorem dX0_clear_46 : decode cX0_clear 46 = .ok (.getfield 47, 3) := by decide +kernel
theorem dX0_clear_49 : decode cX0_clear 49 = .ok (.iconst 0, 1) := by decide +kernel
theorem dX0_clear_50 : decode cX0_clear 50 = .ok (.invokevirtual 57, 3) := by decide +kernel
theorem dX0_clear_53 : decode cX0_clear 53 = .ok (.iconst 0, 1) := by decide +kernel
theorem dX0_clear_54 : decode cX0_clear 54 = .ok (.istore_n 1, 1) := by decide +kernel
theorem dX0_clear_55 : decode cX0_clear 55 = .ok (.iload_n 1, 1) := by decide +kernel
theorem dX0_clear_56 : decode cX0_clear 56 = .ok (.iconst 3, 1) := by decide +kernel
theorem dX0_clear_57 : decode cX0_clear 57 = .ok (.if_icmp .ge 17, 3) := by decide +kernel
theorem dX0_clear_60 : decode cX0_clear 60 = .ok (.aload_n 0, 1) := by decide +kernel
theorem dX0_clear_61 : decode cX0_clear 61 = .ok (.iload_n 1, 1) := by decide +kernel
theorem dX0_clear_62 : decode cX0_clear 62 = .ok (.iconst 4, 1) := by decide +kernel
theorem dX0_clear_63 : decode cX0_clear 63 = .ok (.iconst 3, 1) := by decide +kernel
theorem dX0_clear_64 : decode cX0_clear 64 = .ok (.iconst 3, 1) := by decide +kernel
theorem dX0_clear_65 : decode cX0_clear 65 = .ok (.invokevirtual 60, 3) := by decide +kernel
theorem dX0_clear_68 : decode cX0_clear 68 = .ok (.iinc 1 1, 3) := by decide +kernel
theorem dX0_clear_71 : decode cX0_clear 71 = .ok (.goto (-16), 3) := by decide +kernel
theorem dX0_clear_74 : decode cX0_clear 74 = .ok (.aload_n 0, 1) := by decide +kernel
theorem dX0_clear_75 : decode cX0_clear 75 = .ok (.iconst 0, 1) := by decide +kernel
theorem dX0_clear_76 : decode cX0_clear 76 = .ok (.putfield 64, 3) := by decide +kernel
theorem dX0_clear_79 : decode cX0_clear 79 = .ok (.aload_n 0, 1) := by decide +kernel
theorem dX0_clear_80 : decode cX0_clear 80 = .ok (.iconst 1, 1) := by decide +kernel
theorem dX0_clear_81 : decode cX0_clear 81 = .ok (.putfield 67, 3) := by decide +kernel
theorem dX0_clear_84 : decode cX0_clear 84 = .ok (.aload_n 0, 1) := by decide +kernel
theorem dX0_clear_85 : decode cX0_clear 85 = .ok (.bipush 10, 2) := by decide +kernel
theorem dX0_clear_87 : decode cX0_clear 87 = .ok (.putfield 70, 3) := by decide +kernel
theorem dX0_clear_90 : decode cX0_clear 90 = .ok (.aload_n 0, 1) := by decide +kernel
theorem dX0_clear_91 : decode cX0_clear 91 = .ok (.bipush 10, 2) := by decide +kernel
theorem dX0_clear_93 : decode cX0_clear 93 = .ok (.putfield 73, 3) := by decide +kernel
theorem dX0_clear_96 : decode cX0_clear 96 = .ok (.aload_n 0, 1) := by decide +kernel
theorem dX0_clear_97 : decode cX0_clear 97 = .ok (.bipush 50, 2) := by decide +kernel
theorem dX0_clear_99 : decode cX0_clear 99 = .ok (.putfield 76, 3) := by decide +kernel
theorem dX0_clear_102 : decode cX0_clear 102 = .ok (.aload_n 0, 1) := by decide +kernel
theorem dX0_clear_103 : decode cX0_clear 103 = .ok (.iconst 3, 1) := by decide +kernel
theorem dX0_clear_104 : decode cX0_clear 104 = .ok (.putfield 79, 3) := by decide +kernel
theorem dX0_clear_107 : decode cX0_clear 107 = .ok (.aload_n 0, 1) := by decide +kernel
theorem dX0_clear_108 : decode cX0_clear 108 = .ok (.bipush 100, 2) := by decide +kernel
theorem dX0_clear_110 : decode cX0_clear 110 = .ok (.putfield 82, 3) := by decide +kernel
theorem dX0_clear_113 : decode cX0_clear 113 = .ok (.return_, 1) := by decide +kernel
theorem dX0_makeBare_0 : decode cX0_makeBare 0 = .ok (.aload_n 0, 1) := by decide +kernel
theorem dX0_makeBare_1 : decode cX0_makeBare 1 = .ok (.invokevirtual 85, 3) := by decide +kernel
theorem dX0_makeBare_4 : decode cX0_makeBare 4 = .ok (.aload_n 0, 1) := by decide +kernel
theorem dX0_makeBare_5 : decode cX0_makeBare 5 = .ok (.iconst 0, 1) := by decide +kernel
theorem dX0_makeBare_6 : decode cX0_makeBare 6 = .ok (.iconst 0, 1) := by decide +kernel
theorem dX0_makeBare_7 : decode cX0_makeBare 7 = .ok (.iconst 0, 1) := by decide +kernel
theorem dX0_makeBare_8 : decode cX0_makeBare 8 = .ok (.sipush 999, 3) := by decide +kernel
theorem dX0_makeBare_11 : decode cX0_makeBare 11 = .ok (.iconst 0, 1) := by decide +kernel
theorem dX0_makeBare_12 : decode cX0_makeBare 12 = .ok (.bipush 8, 2) := by decide +kernel
theorem dX0_makeBare_14 : decode cX0_makeBare 14 = .ok (.invokevirtual 88, 3) := by decide +kernel
theorem dX0_makeBare_17 : decode cX0_makeBare 17 = .ok (.pop, 1) := by decide +kernel
theorem dX0_makeBare_18 : decode cX0_makeBare 18 = .ok (.aload_n 0, 1) := by decide +kernel
theorem dX0_makeBare_19 : decode cX0_makeBare 19 = .ok (.invokevirtual 92, 3) := by decide +kernel
theorem dX0_makeBare_22 : decode cX0_makeBare 22 = .ok (.return_, 1) := by decide +kernel
theorem dX0_take_0 : decode cX0_take 0 = .ok (.iload_n 1, 1) := by decide +kernel
theorem dX0_take_1 : decode cX0_take 1 = .ok (.tableswitch 177 0 4 #[35, 70, 90, 177, 125], 35) := by decide +kernel
theorem dX0_take_36 : decode cX0_take 36 = .ok (.aload_n 0, 1) := by decide +kernel
theorem dX0_take_37 : decode cX0_take 37 = .ok (.aload_n 2, 1) := by decide +kernel
theorem dX0_take_38 : decode cX0_take 38 = .ok (.iconst 0, 1) := by decide +kernel
theorem dX0_take_39 : decode cX0_take 39 = .ok (.invokevirtual 95, 3) := by decide +kernel
theorem dX0_take_42 : decode cX0_take 42 = .ok (.aload_n 2, 1) := by decide +kernel
theorem dX0_take_43 : decode cX0_take 43 = .ok (.iconst 1, 1) := by decide +kernel
theorem dX0_take_44 : decode cX0_take 44 = .ok (.invokevirtual 95, 3) := by decide +kernel
theorem dX0_take_47 : decode cX0_take 47 = .ok (.aload_n 2, 1) := by decide +kernel
theorem dX0_take_48 : decode cX0_take 48 = .ok (.iconst 2, 1) := by decide +kernel
theorem dX0_take_49 : decode cX0_take 49 = .ok (.invokevirtual 95, 3) := by decide +kernel
theorem dX0_take_52 : decode cX0_take 52 = .ok (.aload_n 2, 1) := by decide +kernel
theorem dX0_take_53 : decode cX0_take 53 = .ok (.iconst 3, 1) := by decide +kernel
theorem dX0_take_54 : decode cX0_take 54 = .ok (.invokevirtual 95, 3) := by decide +kernel
theorem dX0_take_57 : decode cX0_take 57 = .ok (.aload_n 2, 1) := by decide +kernel
theorem dX0_take_58 : decode cX0_take 58 = .ok (.iconst 4, 1) := by decide +kernel
theorem dX0_take_59 : decode cX0_take 59 = .ok (.invokevirtual 95, 3) := by decide +kernel
theorem dX0_take_62 : decode cX0_take 62 = .ok (.aload_n 2, 1) := by decide +kernel
theorem dX0_take_63 : decode cX0_take 63 = .ok (.iconst 5, 1) := by decide +kernel
theorem dX0_take_64 : decode cX0_take 64 = .ok (.invokevirtual 95, 3) := by decide +kernel
theorem dX0_take_67 : decode cX0_take 67 = .ok (.invokevirtual 88, 3) := by decide +kernel
theorem dX0_take_70 : decode cX0_take 70 = .ok (.ireturn, 1) := by decide +kernel
theorem dX0_take_71 : decode cX0_take 71 = .ok (.aload_n 0, 1) := by decide +kernel
theorem dX0_take_72 : decode cX0_take 72 = .ok (.aload_n 2, 1) := by decide +kernel
theorem dX0_take_73 : decode cX0_take 73 = .ok (.iconst 0, 1) := by decide +kernel
theorem dX0_take_74 : decode cX0_take 74 = .ok (.invokevirtual 95, 3) := by decide +kernel
theorem dX0_take_77 : decode cX0_take 77 = .ok (.aload_n 2, 1) := by decide +kernel
theorem dX0_take_78 : decode cX0_take 78 = .ok (.iconst 1, 1) := by decide +kernel
theorem dX0_take_79 : decode cX0_take 79 = .ok (.invokevirtual 95, 3) := by decide +kernel
theorem dX0_take_82 : decode cX0_take 82 = .ok (.aload_n 2, 1) := by decide +kernel
theorem dX0_take_83 : decode cX0_take 83 = .ok (.iconst 2, 1) := by decide +kernel
theorem dX0_take_84 : decode cX0_take 84 = .ok (.invokevirtual 95, 3) := by decide +kernel
theorem dX0_take_87 : decode cX0_take 87 = .ok (.invokevirtual 99, 3) := by decide +kernel
theorem dX0_take_90 : decode cX0_take 90 = .ok (.ireturn, 1) := by decide +kernel
theorem dX0_take_91 : decode cX0_take 91 = .ok (.aload_n 0, 1) := by decide +kernel
theorem dX0_take_92 : decode cX0_take 92 = .ok (.getfield 32, 3) := by decide +kernel
theorem dX0_take_95 : decode cX0_take 95 = .ok (.aload_n 2, 1) := by decide +kernel
theorem dX0_take_96 : decode cX0_take 96 = .ok (.iconst 0, 1) := by decide +kernel
theorem dX0_take_97 : decode cX0_take 97 = .ok (.invokevirtual 95, 3) := by decide +kernel
theorem dX0_take_100 : decode cX0_take 100 = .ok (.aload_n 2, 1) := by decide +kernel
theorem dX0_take_101 : decode cX0_take 101 = .ok (.iconst 1, 1) := by decide +kernel
theorem dX0_take_102 : decode cX0_take 102 = .ok (.invokevirtual 95, 3) := by decide +kernel
theorem dX0_take_105 : decode cX0_take 105 = .ok (.invokevirtual 103, 3) := by decide +kernel
theorem dX0_take_108 : decode cX0_take 108 = .ok (.aload_n 2, 1) := by decide +kernel
theorem dX0_take_109 : decode cX0_take 109 = .ok (.iconst 0, 1) := by decide +kernel
theorem dX0_take_110 : decode cX0_take 110 = .ok (.invokevirtual 95, 3) := by decide +kernel
theorem dX0_take_113 : decode cX0_take 113 = .ok (.aload_n 0, 1) := by decide +kernel
theorem dX0_take_114 : decode cX0_take 114 = .ok (.getfield 53, 3) := by decide +kernel
theorem dX0_take_117 : decode cX0_take 117 = .ok (.if_icmp .ge 7, 3) := by decide +kernel
theorem dX0_take_120 : decode cX0_take 120 = .ok (.iconst 1, 1) := by decide +kernel
theorem dX0_take_121 : decode cX0_take 121 = .ok (.goto 4, 3) := by decide +kernel
theorem dX0_take_124 : decode cX0_take 124 = .ok (.iconst 0, 1) := by decide +kernel
theorem dX0_take_125 : decode cX0_take 125 = .ok (.ireturn, 1) := by decide +kernel
theorem dX0_take_126 : decode cX0_take 126 = .ok (.aload_n 0, 1) := by decide +kernel
theorem dX0_take_127 : decode cX0_take 127 = .ok (.aload_n 2, 1) := by decide +kernel
theorem dX0_take_128 : decode cX0_take 128 = .ok (.iconst 0, 1) := by decide +kernel
theorem dX0_take_129 : decode cX0_take 129 = .ok (.invokevirtual 95, 3) := by decide +kernel
theorem dX0_take_132 : decode cX0_take 132 = .ok (.aload_n 2, 1) := by decide +kernel
theorem dX0_take_133 : decode cX0_take 133 = .ok (.iconst 1, 1) := by decide +kernel
theorem dX0_take_134 : decode cX0_take 134 = .ok (.invokevirtual 95, 3) := by decide +kernel
theorem dX0_take_137 : decode cX0_take 137 = .ok (.aload_n 2, 1) := by decide +kernel
theorem dX0_take_138 : decode cX0_take 138 = .ok (.iconst 2, 1) := by decide +kernel
theorem dX0_take_139 : decode cX0_take 139 = .ok (.invokevirtual 95, 3) := by decide +kernel
theorem dX0_take_142 : decode cX0_take 142 = .ok (.aload_n 2, 1) := by decide +kernel
theorem dX0_take_143 : decode cX0_take 143 = .ok (.iconst 3, 1) := by decide +kernel
theorem dX0_take_144 : decode cX0_take 144 = .ok (.invokevirtual 95, 3) := by decide +kernel
theorem dX0_take_147 : decode cX0_take 147 = .ok (.invokevirtual 60, 3) := by decide +kernel
theorem dX0_take_150 : decode cX0_take 150 = .ok (.aload_n 2, 1) := by decide +kernel
theorem dX0_take_151 : decode cX0_take 151 = .ok (.iconst 1, 1) := by decide +kernel
theorem dX0_take_152 : decode cX0_take 152 = .ok (.invokevirtual 95, 3) := by decide +kernel
theorem dX0_take_155 : decode cX0_take 155 = .ok (.aload_n 2, 1) := by decide +kernel
theorem dX0_take_156 : decode cX0_take 156 = .ok (.iconst 2, 1) := by decide +kernel
theorem dX0_take_157 : decode cX0_take 157 = .ok (.invokevirtual 95, 3) := by decide +kernel
theorem dX0_take_160 : decode cX0_take 160 = .ok (.iadd, 1) := by decide +kernel
theorem dX0_take_161 : decode cX0_take 161 = .ok (.aload_n 2, 1) := by decide +kernel
theorem dX0_take_162 : decode cX0_take 162 = .ok (.iconst 3, 1) := by decide +kernel
theorem dX0_take_163 : decode cX0_take 163 = .ok (.invokevirtual 95, 3) := by decide +kernel
theorem dX0_take_166 : decode cX0_take 166 = .ok (.iadd, 1) := by decide +kernel
theorem dX0_take_167 : decode cX0_take 167 = .ok (.bipush 10, 2) := by decide +kernel
theorem dX0_take_169 : decode cX0_take 169 = .ok (.if_icmp .ne 7, 3) := by decide +kernel
theorem dX0_take_172 : decode cX0_take 172 = .ok (.iconst 1, 1) := by decide +kernel
theorem dX0_take_173 : decode cX0_take 173 = .ok (.goto 4, 3) := by decide +kernel
theorem dX0_take_176 : decode cX0_take 176 = .ok (.iconst 0, 1) := by decide +kernel
theorem dX0_take_177 : decode cX0_take 177 = .ok (.ireturn, 1) := by decide +kernel
theorem dX0_take_178 : decode cX0_take 178 = .ok (.aload_n 0, 1) := by decide +kernel
theorem dX0_take_179 : decode cX0_take 179 = .ok (.iload_n 1, 1) := by decide +kernel
theorem dX0_take_180 : decode cX0_take 180 = .ok (.aload_n 2, 1) := by decide +kernel
theorem dX0_take_181 : decode cX0_take 181 = .ok (.invokevirtual 107, 3) := by decide +kernel
theorem dX0_take_184 : decode cX0_take 184 = .ok (.iconst 1, 1) := by decide +kernel
theorem dX0_take_185 : decode cX0_take 185 = .ok (.ireturn, 1) := by decide +kernel
theorem dX0_takeSetting_0 : decode cX0_takeSetting 0 = .ok (.iload_n 1, 1) := by decide +kernel
theorem dX0_takeSetting_1 : decode cX0_takeSetting 1 = .ok (.tableswitch 181 3 9 #[43, 181, 103, 115, 136, 148, 169], 43) := by decide +kernel
theorem dX0_takeSetting_44 : decode cX0_takeSetting 44 = .ok (.aload_n 0, 1) := by decide +kernel
theorem dX0_takeSetting_45 : decode cX0_takeSetting 45 = .ok (.getfield 44, 3) := by decide +kernel
theorem dX0_takeSetting_48 : decode cX0_takeSetting 48 = .ok (.iconst 2, 1) := by decide +kernel
theorem dX0_takeSetting_49 : decode cX0_takeSetting 49 = .ok (.aload_n 2, 1) := by decide +kernel
theorem dX0_takeSetting_50 : decode cX0_takeSetting 50 = .ok (.iconst 0, 1) := by decide +kernel
theorem dX0_takeSetting_51 : decode cX0_takeSetting 51 = .ok (.invokevirtual 95, 3) := by decide +kernel
theorem dX0_takeSetting_54 : decode cX0_takeSetting 54 = .ok (.imul, 1) := by decide +kernel
theorem dX0_takeSetting_55 : decode cX0_takeSetting 55 = .ok (.aload_n 2, 1) := by decide +kernel
theorem dX0_takeSetting_56 : decode cX0_takeSetting 56 = .ok (.iconst 1, 1) := by decide +kernel
theorem dX0_takeSetting_57 : decode cX0_takeSetting 57 = .ok (.invokevirtual 95, 3) := by decide +kernel
theorem dX0_takeSetting_60 : decode cX0_takeSetting 60 = .ok (.invokevirtual 103, 3) := by decide +kernel
theorem dX0_takeSetting_63 : decode cX0_takeSetting 63 = .ok (.aload_n 0, 1) := by decide +kernel
theorem dX0_takeSetting_64 : decode cX0_takeSetting 64 = .ok (.getfield 44, 3) := by decide +kernel
theorem dX0_takeSetting_67 : decode cX0_takeSetting 67 = .ok (.iconst 2, 1) := by decide +kernel
theorem dX0_takeSetting_68 : decode cX0_takeSetting 68 = .ok (.aload_n 2, 1) := by decide +kernel
theorem dX0_takeSetting_69 : decode cX0_takeSetting 69 = .ok (.iconst 0, 1) := by decide +kernel
theorem dX0_takeSetting_70 : decode cX0_takeSetting 70 = .ok (.invokevirtual 95, 3) := by decide +kernel
theorem dX0_takeSetting_73 : decode cX0_takeSetting 73 = .ok (.imul, 1) := by decide +kernel
theorem dX0_takeSetting_74 : decode cX0_takeSetting 74 = .ok (.iconst 1, 1) := by decide +kernel
theorem dX0_takeSetting_75 : decode cX0_takeSetting 75 = .ok (.iadd, 1) := by decide +kernel
theorem dX0_takeSetting_76 : decode cX0_takeSetting 76 = .ok (.aload_n 2, 1) := by decide +kernel
theorem dX0_takeSetting_77 : decode cX0_takeSetting 77 = .ok (.iconst 2, 1) := by decide +kernel
theorem dX0_takeSetting_78 : decode cX0_takeSetting 78 = .ok (.invokevirtual 95, 3) := by decide +kernel
theorem dX0_takeSetting_81 : decode cX0_takeSetting 81 = .ok (.invokevirtual 103, 3) := by decide +kernel
theorem dX0_takeSetting_84 : decode cX0_takeSetting 84 = .ok (.aload_n 0, 1) := by decide +kernel
theorem dX0_takeSetting_85 : decode cX0_takeSetting 85 = .ok (.getfield 47, 3) := by decide +kernel
theorem dX0_takeSetting_88 : decode cX0_takeSetting 88 = .ok (.aload_n 2, 1) := by decide +kernel
theorem dX0_takeSetting_89 : decode cX0_takeSetting 89 = .ok (.iconst 0, 1) := by decide +kernel
theorem dX0_takeSetting_90 : decode cX0_takeSetting 90 = .ok (.invokevirtual 95, 3) := by decide +kernel
theorem dX0_takeSetting_93 : decode cX0_takeSetting 93 = .ok (.aload_n 2, 1) := by decide +kernel
theorem dX0_takeSetting_94 : decode cX0_takeSetting 94 = .ok (.iconst 3, 1) := by decide +kernel
theorem dX0_takeSetting_95 : decode cX0_takeSetting 95 = .ok (.invokevirtual 95, 3) := by decide +kernel
theorem dX0_takeSetting_98 : decode cX0_takeSetting 98 = .ok (.invokevirtual 103, 3) := by decide +kernel
theorem dX0_takeSetting_101 : decode cX0_takeSetting 101 = .ok (.goto 81, 3) := by decide +kernel
theorem dX0_takeSetting_104 : decode cX0_takeSetting 104 = .ok (.aload_n 0, 1) := by decide +kernel
theorem dX0_takeSetting_105 : decode cX0_takeSetting 105 = .ok (.aload_n 2, 1) := by decide +kernel
theorem dX0_takeSetting_106 : decode cX0_takeSetting 106 = .ok (.iconst 0, 1) := by decide +kernel
theorem dX0_takeSetting_107 : decode cX0_takeSetting 107 = .ok (.invokevirtual 95, 3) := by decide +kernel
theorem dX0_takeSetting_110 : decode cX0_takeSetting 110 = .ok (.putfield 64, 3) := by decide +kernel
theorem dX0_takeSetting_113 : decode cX0_takeSetting 113 = .ok (.goto 69, 3) := by decide +kernel
theorem dX0_takeSetting_116 : decode cX0_takeSetting 116 = .ok (.aload_n 0, 1) := by decide +kernel
theorem dX0_takeSetting_117 : decode cX0_takeSetting 117 = .ok (.aload_n 2, 1) := by decide +kernel
theorem dX0_takeSetting_118 : decode cX0_takeSetting 118 = .ok (.iconst 0, 1) := by decide +kernel
theorem dX0_takeSetting_119 : decode cX0_takeSetting 119 = .ok (.invokevirtual 95, 3) := by decide +kernel
theorem dX0_takeSetting_122 : decode cX0_takeSetting 122 = .ok (.putfield 67, 3) := by decide +kernel
theorem dX0_takeSetting_125 : decode cX0_takeSetting 125 = .ok (.aload_n 0, 1) := by decide +kernel
theorem dX0_takeSetting_126 : decode cX0_takeSetting 126 = .ok (.aload_n 2, 1) := by decide +kernel
theorem dX0_takeSetting_127 : decode cX0_takeSetting 127 = .ok (.iconst 1, 1) := by decide +kernel
theorem dX0_takeSetting_128 : decode cX0_takeSetting 128 = .ok (.invokevirtual 95, 3) := by decide +kernel
theorem dX0_takeSetting_131 : decode cX0_takeSetting 131 = .ok (.putfield 70, 3) := by decide +kernel
theorem dX0_takeSetting_134 : decode cX0_takeSetting 134 = .ok (.goto 48, 3) := by decide +kernel
theorem dX0_takeSetting_137 : decode cX0_takeSetting 137 = .ok (.aload_n 0, 1) := by decide +kernel
theorem dX0_takeSetting_138 : decode cX0_takeSetting 138 = .ok (.aload_n 2, 1) := by decide +kernel
theorem dX0_takeSetting_139 : decode cX0_takeSetting 139 = .ok (.iconst 0, 1) := by decide +kernel
theorem dX0_takeSetting_140 : decode cX0_takeSetting 140 = .ok (.invokevirtual 95, 3) := by decide +kernel
theorem dX0_takeSetting_143 : decode cX0_takeSetting 143 = .ok (.putfield 73, 3) := by decide +kernel
theorem dX0_takeSetting_146 : decode cX0_takeSetting 146 = .ok (.goto 36, 3) := by decide +kernel
theorem dX0_takeSetting_149 : decode cX0_takeSetting 149 = .ok (.aload_n 0, 1) := by decide +kernel
theorem dX0_takeSetting_150 : decode cX0_takeSetting 150 = .ok (.aload_n 2, 1) := by decide +kernel
theorem dX0_takeSetting_151 : decode cX0_takeSetting 151 = .ok (.iconst 0, 1) := by decide +kernel
theorem dX0_takeSetting_152 : decode cX0_takeSetting 152 = .ok (.invokevirtual 95, 3) := by decide +kernel
theorem dX0_takeSetting_155 : decode cX0_takeSetting 155 = .ok (.putfield 76, 3) := by decide +kernel
theorem dX0_takeSetting_158 : decode cX0_takeSetting 158 = .ok (.aload_n 0, 1) := by decide +kernel
theorem dX0_takeSetting_159 : decode cX0_takeSetting 159 = .ok (.aload_n 2, 1) := by decide +kernel
theorem dX0_takeSetting_160 : decode cX0_takeSetting 160 = .ok (.iconst 1, 1) := by decide +kernel
theorem dX0_takeSetting_161 : decode cX0_takeSetting 161 = .ok (.invokevirtual 95, 3) := by decide +kernel
theorem dX0_takeSetting_164 : decode cX0_takeSetting 164 = .ok (.putfield 79, 3) := by decide +kernel
theorem dX0_takeSetting_167 : decode cX0_takeSetting 167 = .ok (.goto 15, 3) := by decide +kernel
theorem dX0_takeSetting_170 : decode cX0_takeSetting 170 = .ok (.aload_n 0, 1) := by decide +kernel
theorem dX0_takeSetting_171 : decode cX0_takeSetting 171 = .ok (.aload_n 2, 1) := by decide +kernel
theorem dX0_takeSetting_172 : decode cX0_takeSetting 172 = .ok (.iconst 0, 1) := by decide +kernel
theorem dX0_takeSetting_173 : decode cX0_takeSetting 173 = .ok (.invokevirtual 95, 3) := by decide +kernel
theorem dX0_takeSetting_176 : decode cX0_takeSetting 176 = .ok (.putfield 82, 3) := by decide +kernel
theorem dX0_takeSetting_179 : decode cX0_takeSetting 179 = .ok (.goto 3, 3) := by decide +kernel
theorem dX0_takeSetting_182 : decode cX0_takeSetting 182 = .ok (.return_, 1) := by decide +kernel
theorem dX0_addRoof_0 : decode cX0_addRoof 0 = .ok (.aload_n 0, 1) := by decide +kernel
theorem dX0_addRoof_1 : decode cX0_addRoof 1 = .ok (.getfield 53, 3) := by decide +kernel
theorem dX0_addRoof_4 : decode cX0_addRoof 4 = .ok (.bipush 8, 2) := by decide +kernel
theorem dX0_addRoof_6 : decode cX0_addRoof 6 = .ok (.if_icmp .lt 5, 3) := by decide +kernel
theorem dX0_addRoof_9 : decode cX0_addRoof 9 = .ok (.iconst 0, 1) := by decide +kernel
theorem dX0_addRoof_10 : decode cX0_addRoof 10 = .ok (.ireturn, 1) := by decide +kernel
theorem dX0_addRoof_11 : decode cX0_addRoof 11 = .ok (.aload_n 0, 1) := by decide +kernel
theorem dX0_addRoof_12 : decode cX0_addRoof 12 = .ok (.getfield 14, 3) := by decide +kernel
theorem dX0_addRoof_15 : decode cX0_addRoof 15 = .ok (.iconst 2, 1) := by decide +kernel
theorem dX0_addRoof_16 : decode cX0_addRoof 16 = .ok (.aload_n 0, 1) := by decide +kernel
theorem dX0_addRoof_17 : decode cX0_addRoof 17 = .ok (.getfield 53, 3) := by decide +kernel
theorem dX0_addRoof_20 : decode cX0_addRoof 20 = .ok (.imul, 1) := by decide +kernel
theorem dX0_addRoof_21 : decode cX0_addRoof 21 = .ok (.iload_n 1, 1) := by decide +kernel
theorem dX0_addRoof_22 : decode cX0_addRoof 22 = .ok (.invokevirtual 103, 3) := by decide +kernel
theorem dX0_addRoof_25 : decode cX0_addRoof 25 = .ok (.aload_n 0, 1) := by decide +kernel
theorem dX0_addRoof_26 : decode cX0_addRoof 26 = .ok (.getfield 14, 3) := by decide +kernel
theorem dX0_addRoof_29 : decode cX0_addRoof 29 = .ok (.iconst 2, 1) := by decide +kernel
theorem dX0_addRoof_30 : decode cX0_addRoof 30 = .ok (.aload_n 0, 1) := by decide +kernel
theorem dX0_addRoof_31 : decode cX0_addRoof 31 = .ok (.getfield 53, 3) := by decide +kernel
theorem dX0_addRoof_34 : decode cX0_addRoof 34 = .ok (.imul, 1) := by decide +kernel
theorem dX0_addRoof_35 : decode cX0_addRoof 35 = .ok (.iconst 1, 1) := by decide +kernel
theorem dX0_addRoof_36 : decode cX0_addRoof 36 = .ok (.iadd, 1) := by decide +kernel
theorem dX0_addRoof_37 : decode cX0_addRoof 37 = .ok (.iload_n 2, 1) := by decide +kernel
theorem dX0_addRoof_38 : decode cX0_addRoof 38 = .ok (.invokevirtual 103, 3) := by decide +kernel
theorem dX0_addRoof_41 : decode cX0_addRoof 41 = .ok (.aload_n 0, 1) := by decide +kernel
theorem dX0_addRoof_42 : decode cX0_addRoof 42 = .ok (.getfield 20, 3) := by decide +kernel
theorem dX0_addRoof_45 : decode cX0_addRoof 45 = .ok (.aload_n 0, 1) := by decide +kernel
theorem dX0_addRoof_46 : decode cX0_addRoof 46 = .ok (.getfield 53, 3) := by decide +kernel
theorem dX0_addRoof_49 : decode cX0_addRoof 49 = .ok (.iload_n 3, 1) := by decide +kernel
theorem dX0_addRoof_50 : decode cX0_addRoof 50 = .ok (.invokevirtual 103, 3) := by decide +kernel
theorem dX0_addRoof_53 : decode cX0_addRoof 53 = .ok (.aload_n 0, 1) := by decide +kernel
theorem dX0_addRoof_54 : decode cX0_addRoof 54 = .ok (.getfield 23, 3) := by decide +kernel
theorem dX0_addRoof_57 : decode cX0_addRoof 57 = .ok (.aload_n 0, 1) := by decide +kernel
theorem dX0_addRoof_58 : decode cX0_addRoof 58 = .ok (.getfield 53, 3) := by decide +kernel
theorem dX0_addRoof_61 : decode cX0_addRoof 61 = .ok (.iload 4, 2) := by decide +kernel
theorem dX0_addRoof_63 : decode cX0_addRoof 63 = .ok (.invokevirtual 103, 3) := by decide +kernel
theorem dX0_addRoof_66 : decode cX0_addRoof 66 = .ok (.aload_n 0, 1) := by decide +kernel
theorem dX0_addRoof_67 : decode cX0_addRoof 67 = .ok (.getfield 26, 3) := by decide +kernel
theorem dX0_addRoof_70 : decode cX0_addRoof 70 = .ok (.aload_n 0, 1) := by decide +kernel
theorem dX0_addRoof_71 : decode cX0_addRoof 71 = .ok (.getfield 53, 3) := by decide +kernel
theorem dX0_addRoof_74 : decode cX0_addRoof 74 = .ok (.iload 5, 2) := by decide +kernel
theorem dX0_addRoof_76 : decode cX0_addRoof 76 = .ok (.invokevirtual 103, 3) := by decide +kernel
theorem dX0_addRoof_79 : decode cX0_addRoof 79 = .ok (.aload_n 0, 1) := by decide +kernel
theorem dX0_addRoof_80 : decode cX0_addRoof 80 = .ok (.getfield 29, 3) := by decide +kernel
theorem dX0_addRoof_83 : decode cX0_addRoof 83 = .ok (.aload_n 0, 1) := by decide +kernel
theorem dX0_addRoof_84 : decode cX0_addRoof 84 = .ok (.getfield 53, 3) := by decide +kernel
theorem dX0_addRoof_87 : decode cX0_addRoof 87 = .ok (.iload 6, 2) := by decide +kernel
theorem dX0_addRoof_89 : decode cX0_addRoof 89 = .ok (.invokevirtual 103, 3) := by decide +kernel
theorem dX0_addRoof_92 : decode cX0_addRoof 92 = .ok (.aload_n 0, 1) := by decide +kernel
theorem dX0_addRoof_93 : decode cX0_addRoof 93 = .ok (.dup, 1) := by decide +kernel
theorem dX0_addRoof_94 : decode cX0_addRoof 94 = .ok (.getfield 53, 3) := by decide +kernel
theorem dX0_addRoof_97 : decode cX0_addRoof 97 = .ok (.iconst 1, 1) := by decide +kernel
theorem dX0_addRoof_98 : decode cX0_addRoof 98 = .ok (.iadd, 1) := by decide +kernel
theorem dX0_addRoof_99 : decode cX0_addRoof 99 = .ok (.putfield 53, 3) := by decide +kernel
theorem dX0_addRoof_102 : decode cX0_addRoof 102 = .ok (.iconst 1, 1) := by decide +kernel
theorem dX0_addRoof_103 : decode cX0_addRoof 103 = .ok (.ireturn, 1) := by decide +kernel
theorem dX0_addBearing_0 : decode cX0_addBearing 0 = .ok (.aload_n 0, 1) := by decide +kernel
theorem dX0_addBearing_1 : decode cX0_addBearing 1 = .ok (.getfield 35, 3) := by decide +kernel
theorem dX0_addBearing_4 : decode cX0_addBearing 4 = .ok (.iload_n 1, 1) := by decide +kernel
theorem dX0_addBearing_5 : decode cX0_addBearing 5 = .ok (.invokevirtual 95, 3) := by decide +kernel
theorem dX0_addBearing_8 : decode cX0_addBearing 8 = .ok (.istore 4, 2) := by decide +kernel
theorem dX0_addBearing_10 : decode cX0_addBearing 10 = .ok (.iload_n 1, 1) := by decide +kernel
theorem dX0_addBearing_11 : decode cX0_addBearing 11 = .ok (.aload_n 0, 1) := by decide +kernel
theorem dX0_addBearing_12 : decode cX0_addBearing 12 = .ok (.getfield 53, 3) := by decide +kernel
theorem dX0_addBearing_15 : decode cX0_addBearing 15 = .ok (.if_icmp .ge 9, 3) := by decide +kernel
theorem dX0_addBearing_18 : decode cX0_addBearing 18 = .ok (.iload 4, 2) := by decide +kernel
theorem dX0_addBearing_20 : decode cX0_addBearing 20 = .ok (.iconst 4, 1) := by decide +kernel
theorem dX0_addBearing_21 : decode cX0_addBearing 21 = .ok (.if_icmp .lt 5, 3) := by decide +kernel
theorem dX0_addBearing_24 : decode cX0_addBearing 24 = .ok (.iconst 0, 1) := by decide +kernel
theorem dX0_addBearing_25 : decode cX0_addBearing 25 = .ok (.ireturn, 1) := by decide +kernel
theorem dX0_addBearing_26 : decode cX0_addBearing 26 = .ok (.aload_n 0, 1) := by decide +kernel
theorem dX0_addBearing_27 : decode cX0_addBearing 27 = .ok (.getfield 38, 3) := by decide +kernel
theorem dX0_addBearing_30 : decode cX0_addBearing 30 = .ok (.iload_n 1, 1) := by decide +kernel
theorem dX0_addBearing_31 : decode cX0_addBearing 31 = .ok (.iconst 4, 1) := by decide +kernel
theorem dX0_addBearing_32 : decode cX0_addBearing 32 = .ok (.imul, 1) := by decide +kernel
theorem dX0_addBearing_33 : decode cX0_addBearing 33 = .ok (.iload 4, 2) := by decide +kernel
theorem dX0_addBearing_35 : decode cX0_addBearing 35 = .ok (.iadd, 1) := by decide +kernel
theorem dX0_addBearing_36 : decode cX0_addBearing 36 = .ok (.iload_n 2, 1) := by decide +kernel
theorem dX0_addBearing_37 : decode cX0_addBearing 37 = .ok (.invokevirtual 103, 3) := by decide +kernel
theorem dX0_addBearing_40 : decode cX0_addBearing 40 = .ok (.aload_n 0, 1) := by decide +kernel
theorem dX0_addBearing_41 : decode cX0_addBearing 41 = .ok (.getfield 41, 3) := by decide +kernel
theorem dX0_addBearing_44 : decode cX0_addBearing 44 = .ok (.iload_n 1, 1) := by decide +kernel
theorem dX0_addBearing_45 : decode cX0_addBearing 45 = .ok (.iconst 4, 1) := by decide +kernel
theorem dX0_addBearing_46 : decode cX0_addBearing 46 = .ok (.imul, 1) := by decide +kernel
theorem dX0_addBearing_47 : decode cX0_addBearing 47 = .ok (.iload 4, 2) := by decide +kernel
theorem dX0_addBearing_49 : decode cX0_addBearing 49 = .ok (.iadd, 1) := by decide +kernel
theorem dX0_addBearing_50 : decode cX0_addBearing 50 = .ok (.iload_n 3, 1) := by decide +kernel
theorem dX0_addBearing_51 : decode cX0_addBearing 51 = .ok (.invokevirtual 103, 3) := by decide +kernel
theorem dX0_addBearing_54 : decode cX0_addBearing 54 = .ok (.aload_n 0, 1) := by decide +kernel
theorem dX0_addBearing_55 : decode cX0_addBearing 55 = .ok (.getfield 35, 3) := by decide +kernel
theorem dX0_addBearing_58 : decode cX0_addBearing 58 = .ok (.iload_n 1, 1) := by decide +kernel
theorem dX0_addBearing_59 : decode cX0_addBearing 59 = .ok (.iload 4, 2) := by decide +kernel
theorem dX0_addBearing_61 : decode cX0_addBearing 61 = .ok (.iconst 1, 1) := by decide +kernel
theorem dX0_addBearing_62 : decode cX0_addBearing 62 = .ok (.iadd, 1) := by decide +kernel
theorem dX0_addBearing_63 : decode cX0_addBearing 63 = .ok (.invokevirtual 103, 3) := by decide +kernel
theorem dX0_addBearing_66 : decode cX0_addBearing 66 = .ok (.iconst 1, 1) := by decide +kernel
theorem dX0_addBearing_67 : decode cX0_addBearing 67 = .ok (.ireturn, 1) := by decide +kernel
theorem dX0_setChain_0 : decode cX0_setChain 0 = .ok (.aload_n 0, 1) := by decide +kernel
theorem dX0_setChain_1 : decode cX0_setChain 1 = .ok (.getfield 50, 3) := by decide +kernel
theorem dX0_setChain_4 : decode cX0_setChain 4 = .ok (.iconst 3, 1) := by decide +kernel
theorem dX0_setChain_5 : decode cX0_setChain 5 = .ok (.iload_n 1, 1) := by decide +kernel
theorem dX0_setChain_6 : decode cX0_setChain 6 = .ok (.imul, 1) := by decide +kernel
theorem dX0_setChain_7 : decode cX0_setChain 7 = .ok (.iload_n 2, 1) := by decide +kernel
theorem dX0_setChain_8 : decode cX0_setChain 8 = .ok (.invokevirtual 103, 3) := by decide +kernel
theorem dX0_setChain_11 : decode cX0_setChain 11 = .ok (.aload_n 0, 1) := by decide +kernel
theorem dX0_setChain_12 : decode cX0_setChain 12 = .ok (.getfield 50, 3) := by decide +kernel
theorem dX0_setChain_15 : decode cX0_setChain 15 = .ok (.iconst 3, 1) := by decide +kernel
theorem dX0_setChain_16 : decode cX0_setChain 16 = .ok (.iload_n 1, 1) := by decide +kernel
theorem dX0_setChain_17 : decode cX0_setChain 17 = .ok (.imul, 1) := by decide +kernel
theorem dX0_setChain_18 : decode cX0_setChain 18 = .ok (.iconst 1, 1) := by decide +kernel
theorem dX0_setChain_19 : decode cX0_setChain 19 = .ok (.iadd, 1) := by decide +kernel
theorem dX0_setChain_20 : decode cX0_setChain 20 = .ok (.iload_n 3, 1) := by decide +kernel
theorem dX0_setChain_21 : decode cX0_setChain 21 = .ok (.invokevirtual 103, 3) := by decide +kernel
theorem dX0_setChain_24 : decode cX0_setChain 24 = .ok (.aload_n 0, 1) := by decide +kernel
theorem dX0_setChain_25 : decode cX0_setChain 25 = .ok (.getfield 50, 3) := by decide +kernel
theorem dX0_setChain_28 : decode cX0_setChain 28 = .ok (.iconst 3, 1) := by decide +kernel
theorem dX0_setChain_29 : decode cX0_setChain 29 = .ok (.iload_n 1, 1) := by decide +kernel
theorem dX0_setChain_30 : decode cX0_setChain 30 = .ok (.imul, 1) := by decide +kernel
theorem dX0_setChain_31 : decode cX0_setChain 31 = .ok (.iconst 2, 1) := by decide +kernel
theorem dX0_setChain_32 : decode cX0_setChain 32 = .ok (.iadd, 1) := by decide +kernel
theorem dX0_setChain_33 : decode cX0_setChain 33 = .ok (.iload 4, 2) := by decide +kernel
theorem dX0_setChain_35 : decode cX0_setChain 35 = .ok (.invokevirtual 103, 3) := by decide +kernel
theorem dX0_setChain_38 : decode cX0_setChain 38 = .ok (.return_, 1) := by decide +kernel
theorem dX0_addPlainBearings_0 : decode cX0_addPlainBearings 0 = .ok (.iconst 0, 1) := by decide +kernel
theorem dX0_addPlainBearings_1 : decode cX0_addPlainBearings 1 = .ok (.istore_n 1, 1) := by decide +kernel
theorem dX0_addPlainBearings_2 : decode cX0_addPlainBearings 2 = .ok (.iload_n 1, 1) := by decide +kernel
theorem dX0_addPlainBearings_3 : decode cX0_addPlainBearings 3 = .ok (.aload_n 0, 1) := by decide +kernel
theorem dX0_addPlainBearings_4 : decode cX0_addPlainBearings 4 = .ok (.getfield 53, 3) := by decide +kernel
theorem dX0_addPlainBearings_7 : decode cX0_addPlainBearings 7 = .ok (.if_icmp .ge 31, 3) := by decide +kernel
theorem dX0_addPlainBearings_10 : decode cX0_addPlainBearings 10 = .ok (.aload_n 0, 1) := by decide +kernel
theorem dX0_addPlainBearings_11 : decode cX0_addPlainBearings 11 = .ok (.getfield 35, 3) := by decide +kernel
theorem dX0_addPlainBearings_14 : decode cX0_addPlainBearings 14 = .ok (.iload_n 1, 1) := by decide +kernel
theorem dX0_addPlainBearings_15 : decode cX0_addPlainBearings 15 = .ok (.invokevirtual 95, 3) := by decide +kernel
theorem dX0_addPlainBearings_18 : decode cX0_addPlainBearings 18 = .ok (.ifCond .ne 14, 3) := by decide +kernel
theorem dX0_addPlainBearings_21 : decode cX0_addPlainBearings 21 = .ok (.aload_n 0, 1) := by decide +kernel
theorem dX0_addPlainBearings_22 : decode cX0_addPlainBearings 22 = .ok (.iload_n 1, 1) := by decide +kernel
theorem dX0_addPlainBearings_23 : decode cX0_addPlainBearings 23 = .ok (.sipush 500, 3) := by decide +kernel
theorem dX0_addPlainBearings_26 : decode cX0_addPlainBearings 26 = .ok (.bipush 10, 2) := by decide +kernel
theorem dX0_addPlainBearings_28 : decode cX0_addPlainBearings 28 = .ok (.invokevirtual 99, 3) := by decide +kernel
theorem dX0_addPlainBearings_31 : decode cX0_addPlainBearings 31 = .ok (.pop, 1) := by decide +kernel
theorem dX0_addPlainBearings_32 : decode cX0_addPlainBearings 32 = .ok (.iinc 1 1, 3) := by decide +kernel
theorem dX0_addPlainBearings_35 : decode cX0_addPlainBearings 35 = .ok (.goto (-33), 3) := by decide +kernel
theorem dX0_addPlainBearings_38 : decode cX0_addPlainBearings 38 = .ok (.return_, 1) := by decide +kernel
theorem dX0_fitsTogether_0 : decode cX0_fitsTogether 0 = .ok (.iconst 0, 1) := by decide +kernel
theorem dX0_fitsTogether_1 : decode cX0_fitsTogether 1 = .ok (.istore_n 1, 1) := by decide +kernel
theorem dX0_fitsTogether_2 : decode cX0_fitsTogether 2 = .ok (.iload_n 1, 1) := by decide +kernel
theorem dX0_fitsTogether_3 : decode cX0_fitsTogether 3 = .ok (.aload_n 0, 1) := by decide +kernel
theorem dX0_fitsTogether_4 : decode cX0_fitsTogether 4 = .ok (.getfield 53, 3) := by decide +kernel
theorem dX0_fitsTogether_7 : decode cX0_fitsTogether 7 = .ok (.if_icmp .ge 67, 3) := by decide +kernel
theorem dX0_fitsTogether_10 : decode cX0_fitsTogether 10 = .ok (.aload_n 0, 1) := by decide +kernel
theorem dX0_fitsTogether_11 : decode cX0_fitsTogether 11 = .ok (.getfield 29, 3) := by decide +kernel
theorem dX0_fitsTogether_14 : decode cX0_fitsTogether 14 = .ok (.iload_n 1, 1) := by decide +kernel
theorem dX0_fitsTogether_15 : decode cX0_fitsTogether 15 = .ok (.invokevirtual 95, 3) := by decide +kernel
theorem dX0_fitsTogether_18 : decode cX0_fitsTogether 18 = .ok (.istore_n 2, 1) := by decide +kernel
theorem dX0_fitsTogether_19 : decode cX0_fitsTogether 19 = .ok (.iload_n 2, 1) := by decide +kernel
theorem dX0_fitsTogether_20 : decode cX0_fitsTogether 20 = .ok (.iload_n 1, 1) := by decide +kernel
theorem dX0_fitsTogether_21 : decode cX0_fitsTogether 21 = .ok (.if_icmp .eq 17, 3) := by decide +kernel
theorem dX0_fitsTogether_24 : decode cX0_fitsTogether 24 = .ok (.iload_n 2, 1) := by decide +kernel
theorem dX0_fitsTogether_25 : decode cX0_fitsTogether 25 = .ok (.aload_n 0, 1) := by decide +kernel
theorem dX0_fitsTogether_26 : decode cX0_fitsTogether 26 = .ok (.getfield 53, 3) := by decide +kernel
theorem dX0_fitsTogether_29 : decode cX0_fitsTogether 29 = .ok (.if_icmp .lt 11, 3) := by decide +kernel
theorem dX0_fitsTogether_32 : decode cX0_fitsTogether 32 = .ok (.iload_n 2, 1) := by decide +kernel
theorem dX0_fitsTogether_33 : decode cX0_fitsTogether 33 = .ok (.bipush 8, 2) := by decide +kernel
theorem dX0_fitsTogether_35 : decode cX0_fitsTogether 35 = .ok (.if_icmp .eq 5, 3) := by decide +kernel
theorem dX0_fitsTogether_38 : decode cX0_fitsTogether 38 = .ok (.iconst 0, 1) := by decide +kernel
theorem dX0_fitsTogether_39 : decode cX0_fitsTogether 39 = .ok (.ireturn, 1) := by decide +kernel
theorem dX0_fitsTogether_40 : decode cX0_fitsTogether 40 = .ok (.aload_n 0, 1) := by decide +kernel
theorem dX0_fitsTogether_41 : decode cX0_fitsTogether 41 = .ok (.getfield 35, 3) := by decide +kernel
theorem dX0_fitsTogether_44 : decode cX0_fitsTogether 44 = .ok (.iload_n 1, 1) := by decide +kernel
theorem dX0_fitsTogether_45 : decode cX0_fitsTogether 45 = .ok (.invokevirtual 95, 3) := by decide +kernel
theorem dX0_fitsTogether_48 : decode cX0_fitsTogether 48 = .ok (.ifCond .le 20, 3) := by decide +kernel
theorem dX0_fitsTogether_51 : decode cX0_fitsTogether 51 = .ok (.aload_n 0, 1) := by decide +kernel
theorem dX0_fitsTogether_52 : decode cX0_fitsTogether 52 = .ok (.iload_n 1, 1) := by decide +kernel
theorem dX0_fitsTogether_53 : decode cX0_fitsTogether 53 = .ok (.aload_n 0, 1) := by decide +kernel
theorem dX0_fitsTogether_54 : decode cX0_fitsTogether 54 = .ok (.iload_n 1, 1) := by decide +kernel
theorem dX0_fitsTogether_55 : decode cX0_fitsTogether 55 = .ok (.invokevirtual 111, 3) := by decide +kernel
theorem dX0_fitsTogether_58 : decode cX0_fitsTogether 58 = .ok (.invokevirtual 114, 3) := by decide +kernel
theorem dX0_fitsTogether_61 : decode cX0_fitsTogether 61 = .ok (.bipush 10, 2) := by decide +kernel
theorem dX0_fitsTogether_63 : decode cX0_fitsTogether 63 = .ok (.if_icmp .eq 5, 3) := by decide +kernel
theorem dX0_fitsTogether_66 : decode cX0_fitsTogether 66 = .ok (.iconst 0, 1) := by decide +kernel
theorem dX0_fitsTogether_67 : decode cX0_fitsTogether 67 = .ok (.ireturn, 1) := by decide +kernel
theorem dX0_fitsTogether_68 : decode cX0_fitsTogether 68 = .ok (.iinc 1 1, 3) := by decide +kernel
theorem dX0_fitsTogether_71 : decode cX0_fitsTogether 71 = .ok (.goto (-69), 3) := by decide +kernel
theorem dX0_fitsTogether_74 : decode cX0_fitsTogether 74 = .ok (.aload_n 0, 1) := by decide +kernel
theorem dX0_fitsTogether_75 : decode cX0_fitsTogether 75 = .ok (.getfield 53, 3) := by decide +kernel
theorem dX0_fitsTogether_78 : decode cX0_fitsTogether 78 = .ok (.ifCond .le 7, 3) := by decide +kernel
theorem dX0_fitsTogether_81 : decode cX0_fitsTogether 81 = .ok (.iconst 1, 1) := by decide +kernel
theorem dX0_fitsTogether_82 : decode cX0_fitsTogether 82 = .ok (.goto 4, 3) := by decide +kernel
theorem dX0_fitsTogether_85 : decode cX0_fitsTogether 85 = .ok (.iconst 0, 1) := by decide +kernel
theorem dX0_fitsTogether_86 : decode cX0_fitsTogether 86 = .ok (.ireturn, 1) := by decide +kernel
theorem dX0_allBearings_0 : decode cX0_allBearings 0 = .ok (.iconst 1, 1) := by decide +kernel
theorem dX0_allBearings_1 : decode cX0_allBearings 1 = .ok (.aload_n 0, 1) := by decide +kernel
theorem dX0_allBearings_2 : decode cX0_allBearings 2 = .ok (.getfield 35, 3) := by decide +kernel
theorem dX0_allBearings_5 : decode cX0_allBearings 5 = .ok (.iload_n 1, 1) := by decide +kernel
theorem dX0_allBearings_6 : decode cX0_allBearings 6 = .ok (.invokevirtual 95, 3) := by decide +kernel
theorem dX0_allBearings_9 : decode cX0_allBearings 9 = .ok (.ishl, 1) := by decide +kernel
theorem dX0_allBearings_10 : decode cX0_allBearings 10 = .ok (.iconst 1, 1) := by decide +kernel
theorem dX0_allBearings_11 : decode cX0_allBearings 11 = .ok (.isub, 1) := by decide +kernel
theorem dX0_allBearings_12 : decode cX0_allBearings 12 = .ok (.ireturn, 1) := by decide +kernel
theorem dX0_tenthsOf_0 : decode cX0_tenthsOf 0 = .ok (.iconst 0, 1) := by decide +kernel
theorem dX0_tenthsOf_1 : decode cX0_tenthsOf 1 = .ok (.istore_n 3, 1) := by decide +kernel
theorem dX0_tenthsOf_2 : decode cX0_tenthsOf 2 = .ok (.iconst 0, 1) := by decide +kernel
theorem dX0_tenthsOf_3 : decode cX0_tenthsOf 3 = .ok (.istore 4, 2) := by decide +kernel
theorem dX0_tenthsOf_5 : decode cX0_tenthsOf 5 = .ok (.iload 4, 2) := by decide +kernel
theorem dX0_tenthsOf_7 : decode cX0_tenthsOf 7 = .ok (.iconst 4, 1) := by decide +kernel
theorem dX0_tenthsOf_8 : decode cX0_tenthsOf 8 = .ok (.if_icmp .ge 35, 3) := by decide +kernel
theorem dX0_tenthsOf_11 : decode cX0_tenthsOf 11 = .ok (.iload_n 2, 1) := by decide +kernel
theorem dX0_tenthsOf_12 : decode cX0_tenthsOf 12 = .ok (.iload 4, 2) := by decide +kernel
theorem dX0_tenthsOf_14 : decode cX0_tenthsOf 14 = .ok (.ishr, 1) := by decide +kernel
theorem dX0_tenthsOf_15 : decode cX0_tenthsOf 15 = .ok (.iconst 1, 1) := by decide +kernel
theorem dX0_tenthsOf_16 : decode cX0_tenthsOf 16 = .ok (.iand, 1) := by decide +kernel
theorem dX0_tenthsOf_17 : decode cX0_tenthsOf 17 = .ok (.iconst 1, 1) := by decide +kernel
theorem dX0_tenthsOf_18 : decode cX0_tenthsOf 18 = .ok (.if_icmp .ne 19, 3) := by decide +kernel
theorem dX0_tenthsOf_21 : decode cX0_tenthsOf 21 = .ok (.iload_n 3, 1) := by decide +kernel
theorem dX0_tenthsOf_22 : decode cX0_tenthsOf 22 = .ok (.aload_n 0, 1) := by decide +kernel
theorem dX0_tenthsOf_23 : decode cX0_tenthsOf 23 = .ok (.getfield 41, 3) := by decide +kernel
theorem dX0_tenthsOf_26 : decode cX0_tenthsOf 26 = .ok (.iload_n 1, 1) := by decide +kernel
theorem dX0_tenthsOf_27 : decode cX0_tenthsOf 27 = .ok (.iconst 4, 1) := by decide +kernel
theorem dX0_tenthsOf_28 : decode cX0_tenthsOf 28 = .ok (.imul, 1) := by decide +kernel
theorem dX0_tenthsOf_29 : decode cX0_tenthsOf 29 = .ok (.iload 4, 2) := by decide +kernel
theorem dX0_tenthsOf_31 : decode cX0_tenthsOf 31 = .ok (.iadd, 1) := by decide +kernel
theorem dX0_tenthsOf_32 : decode cX0_tenthsOf 32 = .ok (.invokevirtual 95, 3) := by decide +kernel
theorem dX0_tenthsOf_35 : decode cX0_tenthsOf 35 = .ok (.iadd, 1) := by decide +kernel
theorem dX0_tenthsOf_36 : decode cX0_tenthsOf 36 = .ok (.istore_n 3, 1) := by decide +kernel
theorem dX0_tenthsOf_37 : decode cX0_tenthsOf 37 = .ok (.iinc 4 1, 3) := by decide +kernel
theorem dX0_tenthsOf_40 : decode cX0_tenthsOf 40 = .ok (.goto (-35), 3) := by decide +kernel
theorem dX0_tenthsOf_43 : decode cX0_tenthsOf 43 = .ok (.iload_n 3, 1) := by decide +kernel
theorem dX0_tenthsOf_44 : decode cX0_tenthsOf 44 = .ok (.ireturn, 1) := by decide +kernel
theorem dX0_tenthsOfNext_0 : decode cX0_tenthsOfNext 0 = .ok (.aload_n 0, 1) := by decide +kernel
theorem dX0_tenthsOfNext_1 : decode cX0_tenthsOfNext 1 = .ok (.getfield 50, 3) := by decide +kernel
theorem dX0_tenthsOfNext_4 : decode cX0_tenthsOfNext 4 = .ok (.iconst 3, 1) := by decide +kernel
theorem dX0_tenthsOfNext_5 : decode cX0_tenthsOfNext 5 = .ok (.iload_n 1, 1) := by decide +kernel
theorem dX0_tenthsOfNext_6 : decode cX0_tenthsOfNext 6 = .ok (.imul, 1) := by decide +kernel
theorem dX0_tenthsOfNext_7 : decode cX0_tenthsOfNext 7 = .ok (.iload_n 2, 1) := by decide +kernel
theorem dX0_tenthsOfNext_8 : decode cX0_tenthsOfNext 8 = .ok (.iadd, 1) := by decide +kernel
theorem dX0_tenthsOfNext_9 : decode cX0_tenthsOfNext 9 = .ok (.invokevirtual 95, 3) := by decide +kernel
theorem dX0_tenthsOfNext_12 : decode cX0_tenthsOfNext 12 = .ok (.ireturn, 1) := by decide +kernel
theorem dX0_worthWithLives_0 : decode cX0_worthWithLives 0 = .ok (.aload_n 0, 1) := by decide +kernel
theorem dX0_worthWithLives_1 : decode cX0_worthWithLives 1 = .ok (.getfield 26, 3) := by decide +kernel
theorem dX0_worthWithLives_4 : decode cX0_worthWithLives 4 = .ok (.iload_n 1, 1) := by decide +kernel
theorem dX0_worthWithLives_5 : decode cX0_worthWithLives 5 = .ok (.invokevirtual 95, 3) := by decide +kernel
theorem dX0_worthWithLives_8 : decode cX0_worthWithLives 8 = .ok (.aload_n 0, 1) := by decide +kernel
theorem dX0_worthWithLives_9 : decode cX0_worthWithLives 9 = .ok (.getfield 82, 3) := by decide +kernel
theorem dX0_worthWithLives_12 : decode cX0_worthWithLives 12 = .ok (.aload_n 0, 1) := by decide +kernel
theorem dX0_worthWithLives_13 : decode cX0_worthWithLives 13 = .ok (.getfield 32, 3) := by decide +kernel
theorem dX0_worthWithLives_16 : decode cX0_worthWithLives 16 = .ok (.iload_n 1, 1) := by decide +kernel
theorem dX0_worthWithLives_17 : decode cX0_worthWithLives 17 = .ok (.invokevirtual 95, 3) := by decide +kernel
theorem dX0_worthWithLives_20 : decode cX0_worthWithLives 20 = .ok (.imul, 1) := by decide +kernel
theorem dX0_worthWithLives_21 : decode cX0_worthWithLives 21 = .ok (.iadd, 1) := by decide +kernel
theorem dX0_worthWithLives_22 : decode cX0_worthWithLives 22 = .ok (.ireturn, 1) := by decide +kernel
theorem dX1_init_0 : decode cX1_init 0 = .ok (.aload_n 0, 1) := by decide +kernel
theorem dX1_init_1 : decode cX1_init 1 = .ok (.invokespecial 3, 3) := by decide +kernel
theorem dX1_init_4 : decode cX1_init 4 = .ok (.aload_n 0, 1) := by decide +kernel
theorem dX1_init_5 : decode cX1_init 5 = .ok (.new 9, 3) := by decide +kernel
theorem dX1_init_8 : decode cX1_init 8 = .ok (.dup, 1) := by decide +kernel
theorem dX1_init_9 : decode cX1_init 9 = .ok (.bipush 6, 2) := by decide +kernel
theorem dX1_init_11 : decode cX1_init 11 = .ok (.invokespecial 11, 3) := by decide +kernel
theorem dX1_init_14 : decode cX1_init 14 = .ok (.putfield 14, 3) := by decide +kernel
theorem dX1_init_17 : decode cX1_init 17 = .ok (.aload_n 0, 1) := by decide +kernel
theorem dX1_init_18 : decode cX1_init 18 = .ok (.iconst 0, 1) := by decide +kernel
theorem dX1_init_19 : decode cX1_init 19 = .ok (.putfield 20, 3) := by decide +kernel
theorem dX1_init_22 : decode cX1_init 22 = .ok (.aload_n 0, 1) := by decide +kernel
theorem dX1_init_23 : decode cX1_init 23 = .ok (.aload_n 1, 1) := by decide +kernel
theorem dX1_init_24 : decode cX1_init 24 = .ok (.putfield 24, 3) := by decide +kernel
theorem dX1_init_27 : decode cX1_init 27 = .ok (.return_, 1) := by decide +kernel
theorem dX1_readInto_0 : decode cX1_readInto 0 = .ok (.aload_n 1, 1) := by decide +kernel
theorem dX1_readInto_1 : decode cX1_readInto 1 = .ok (.invokevirtual 28, 3) := by decide +kernel
theorem dX1_readInto_4 : decode cX1_readInto 4 = .ok (.aload_n 0, 1) := by decide +kernel
theorem dX1_readInto_5 : decode cX1_readInto 5 = .ok (.iconst 0, 1) := by decide +kernel
theorem dX1_readInto_6 : decode cX1_readInto 6 = .ok (.putfield 20, 3) := by decide +kernel
theorem dX1_readInto_9 : decode cX1_readInto 9 = .ok (.iconst 0, 1) := by decide +kernel
theorem dX1_readInto_10 : decode cX1_readInto 10 = .ok (.istore_n 2, 1) := by decide +kernel
theorem dX1_readInto_11 : decode cX1_readInto 11 = .ok (.iload_n 2, 1) := by decide +kernel
theorem dX1_readInto_12 : decode cX1_readInto 12 = .ok (.sipush 500, 3) := by decide +kernel
theorem dX1_readInto_15 : decode cX1_readInto 15 = .ok (.if_icmp .ge 38, 3) := by decide +kernel
theorem dX1_readInto_18 : decode cX1_readInto 18 = .ok (.aload_n 0, 1) := by decide +kernel
theorem dX1_readInto_19 : decode cX1_readInto 19 = .ok (.getfield 20, 3) := by decide +kernel
theorem dX1_readInto_22 : decode cX1_readInto 22 = .ok (.aload_n 0, 1) := by decide +kernel
theorem dX1_readInto_23 : decode cX1_readInto 23 = .ok (.getfield 24, 3) := by decide +kernel
theorem dX1_readInto_26 : decode cX1_readInto 26 = .ok (.invokevirtual 33, 3) := by decide +kernel
theorem dX1_readInto_29 : decode cX1_readInto 29 = .ok (.if_icmp .ge 24, 3) := by decide +kernel
theorem dX1_readInto_32 : decode cX1_readInto 32 = .ok (.aload_n 0, 1) := by decide +kernel
theorem dX1_readInto_33 : decode cX1_readInto 33 = .ok (.getfield 20, 3) := by decide +kernel
theorem dX1_readInto_36 : decode cX1_readInto 36 = .ok (.istore_n 3, 1) := by decide +kernel
theorem dX1_readInto_37 : decode cX1_readInto 37 = .ok (.aload_n 0, 1) := by decide +kernel
theorem dX1_readInto_38 : decode cX1_readInto 38 = .ok (.aload_n 1, 1) := by decide +kernel
theorem dX1_readInto_39 : decode cX1_readInto 39 = .ok (.invokevirtual 39, 3) := by decide +kernel
theorem dX1_readInto_42 : decode cX1_readInto 42 = .ok (.ifCond .ne 5, 3) := by decide +kernel
theorem dX1_readInto_45 : decode cX1_readInto 45 = .ok (.iload_n 3, 1) := by decide +kernel
theorem dX1_readInto_46 : decode cX1_readInto 46 = .ok (.ireturn, 1) := by decide +kernel
theorem dX1_readInto_47 : decode cX1_readInto 47 = .ok (.iinc 2 1, 3) := by decide +kernel
theorem dX1_readInto_50 : decode cX1_readInto 50 = .ok (.goto (-39), 3) := by decide +kernel
theorem dX1_readInto_53 : decode cX1_readInto 53 = .ok (.bipush (-4), 2) := by decide +kernel
theorem dX1_readInto_55 : decode cX1_readInto 55 = .ok (.ireturn, 1) := by decide +kernel
theorem dX1_readItem_0 : decode cX1_readItem 0 = .ok (.aload_n 0, 1) := by decide +kernel
theorem dX1_readItem_1 : decode cX1_readItem 1 = .ok (.getfield 24, 3) := by decide +kernel
theorem dX1_readItem_4 : decode cX1_readItem 4 = .ok (.aload_n 0, 1) := by decide +kernel
theorem dX1_readItem_5 : decode cX1_readItem 5 = .ok (.getfield 20, 3) := by decide +kernel
theorem dX1_readItem_8 : decode cX1_readItem 8 = .ok (.invokevirtual 43, 3) := by decide +kernel
theorem dX1_readItem_11 : decode cX1_readItem 11 = .ok (.istore_n 2, 1) := by decide +kernel
theorem dX1_readItem_12 : decode cX1_readItem 12 = .ok (.iload_n 2, 1) := by decide +kernel
theorem dX1_readItem_13 : decode cX1_readItem 13 = .ok (.ifCond .ge 7, 3) := by decide +kernel
theorem dX1_readItem_16 : decode cX1_readItem 16 = .ok (.iconst (-1), 1) := by decide +kernel
theorem dX1_readItem_17 : decode cX1_readItem 17 = .ok (.goto 10, 3) := by decide +kernel
theorem dX1_readItem_20 : decode cX1_readItem 20 = .ok (.ldc 47, 2) := by decide +kernel
theorem dX1_readItem_22 : decode cX1_readItem 22 = .ok (.iload_n 2, 1) := by decide +kernel
theorem dX1_readItem_23 : decode cX1_readItem 23 = .ok (.i2c, 1) := by decide +kernel
theorem dX1_readItem_24 : decode cX1_readItem 24 = .ok (.invokevirtual 49, 3) := by decide +kernel
theorem dX1_readItem_27 : decode cX1_readItem 27 = .ok (.istore_n 3, 1) := by decide +kernel
theorem dX1_readItem_28 : decode cX1_readItem 28 = .ok (.iload_n 3, 1) := by decide +kernel
theorem dX1_readItem_29 : decode cX1_readItem 29 = .ok (.ifCond .lt 11, 3) := by decide +kernel
theorem dX1_readItem_32 : decode cX1_readItem 32 = .ok (.iload_n 3, 1) := by decide +kernel
theorem dX1_readItem_33 : decode cX1_readItem 33 = .ok (.getstatic 54, 3) := by decide +kernel
theorem dX1_readItem_36 : decode cX1_readItem 36 = .ok (.arraylength, 1) := by decide +kernel
theorem dX1_readItem_37 : decode cX1_readItem 37 = .ok (.if_icmp .lt 5, 3) := by decide +kernel
theorem dX1_readItem_40 : decode cX1_readItem 40 = .ok (.iconst 0, 1) := by decide +kernel
theorem dX1_readItem_41 : decode cX1_readItem 41 = .ok (.ireturn, 1) := by decide +kernel
theorem dX1_readItem_42 : decode cX1_readItem 42 = .ok (.aload_n 0, 1) := by decide +kernel
theorem dX1_readItem_43 : decode cX1_readItem 43 = .ok (.dup, 1) := by decide +kernel
theorem dX1_readItem_44 : decode cX1_readItem 44 = .ok (.getfield 20, 3) := by decide +kernel
theorem dX1_readItem_47 : decode cX1_readItem 47 = .ok (.iconst 1, 1) := by decide +kernel
theorem dX1_readItem_48 : decode cX1_readItem 48 = .ok (.iadd, 1) := by decide +kernel
theorem dX1_readItem_49 : decode cX1_readItem 49 = .ok (.putfield 20, 3) := by decide +kernel
theorem dX1_readItem_52 : decode cX1_readItem 52 = .ok (.getstatic 54, 3) := by decide +kernel
theorem dX1_readItem_55 : decode cX1_readItem 55 = .ok (.iload_n 3, 1) := by decide +kernel
theorem dX1_readItem_56 : decode cX1_readItem 56 = .ok (.iaload, 1) := by decide +kernel
theorem dX1_readItem_57 : decode cX1_readItem 57 = .ok (.istore 4, 2) := by decide +kernel
theorem dX1_readItem_59 : decode cX1_readItem 59 = .ok (.iconst 0, 1) := by decide +kernel
theorem dX1_readItem_60 : decode cX1_readItem 60 = .ok (.istore 5, 2) := by decide +kernel
theorem dX1_readItem_62 : decode cX1_readItem 62 = .ok (.iload 5, 2) := by decide +kernel
theorem dX1_readItem_64 : decode cX1_readItem 64 = .ok (.iload 4, 2) := by decide +kernel
theorem dX1_readItem_66 : decode cX1_readItem 66 = .ok (.if_icmp .ge 53, 3) := by decide +kernel
theorem dX1_readItem_69 : decode cX1_readItem 69 = .ok (.aload_n 0, 1) := by decide +kernel
theorem dX1_readItem_70 : decode cX1_readItem 70 = .ok (.iload 5, 2) := by decide +kernel
theorem dX1_readItem_72 : decode cX1_readItem 72 = .ok (.invokevirtual 58, 3) := by decide +kernel
theorem dX1_readItem_75 : decode cX1_readItem 75 = .ok (.ifCond .eq 36, 3) := by decide +kernel
theorem dX1_readItem_78 : decode cX1_readItem 78 = .ok (.aload_n 0, 1) := by decide +kernel
theorem dX1_readItem_79 : decode cX1_readItem 79 = .ok (.iload_n 3, 1) := by decide +kernel
theorem dX1_readItem_80 : decode cX1_readItem 80 = .ok (.iload 5, 2) := by decide +kernel
theorem dX1_readItem_82 : decode cX1_readItem 82 = .ok (.invokevirtual 62, 3) := by decide +kernel
theorem dX1_readItem_85 : decode cX1_readItem 85 = .ok (.ifCond .eq 26, 3) := by decide +kernel
theorem dX1_readItem_88 : decode cX1_readItem 88 = .ok (.aload_n 0, 1) := by decide +kernel
theorem dX1_readItem_89 : decode cX1_readItem 89 = .ok (.iload 5, 2) := by decide +kernel
theorem dX1_readItem_91 : decode cX1_readItem 91 = .ok (.iload 4, 2) := by decide +kernel
theorem dX1_readItem_93 : decode cX1_readItem 93 = .ok (.iconst 1, 1) := by decide +kernel
theorem dX1_readItem_94 : decode cX1_readItem 94 = .ok (.isub, 1) := by decide +kernel
theorem dX1_readItem_95 : decode cX1_readItem 95 = .ok (.if_icmp .ne 8, 3) := by decide +kernel
theorem dX1_readItem_98 : decode cX1_readItem 98 = .ok (.bipush 59, 2) := by decide +kernel
theorem dX1_readItem_100 : decode cX1_readItem 100 = .ok (.goto 5, 3) := by decide +kernel
theorem dX1_readItem_103 : decode cX1_readItem 103 = .ok (.bipush 44, 2) := by decide +kernel
theorem dX1_readItem_105 : decode cX1_readItem 105 = .ok (.invokevirtual 66, 3) := by decide +kernel
theorem dX1_readItem_108 : decode cX1_readItem 108 = .ok (.ifCond .ne 5, 3) := by decide +kernel
theorem dX1_readItem_111 : decode cX1_readItem 111 = .ok (.iconst 0, 1) := by decide +kernel
theorem dX1_readItem_112 : decode cX1_readItem 112 = .ok (.ireturn, 1) := by decide +kernel
theorem dX1_readItem_113 : decode cX1_readItem 113 = .ok (.iinc 5 1, 3) := by decide +kernel
theorem dX1_readItem_116 : decode cX1_readItem 116 = .ok (.goto (-54), 3) := by decide +kernel
theorem dX1_readItem_119 : decode cX1_readItem 119 = .ok (.aload_n 1, 1) := by decide +kernel
theorem dX1_readItem_120 : decode cX1_readItem 120 = .ok (.iload_n 3, 1) := by decide +kernel
theorem dX1_readItem_121 : decode cX1_readItem 121 = .ok (.aload_n 0, 1) := by decide +kernel
theorem dX1_readItem_122 : decode cX1_readItem 122 = .ok (.getfield 14, 3) := by decide +kernel
theorem dX1_readItem_125 : decode cX1_readItem 125 = .ok (.invokevirtual 69, 3) := by decide +kernel
theorem dX1_readItem_128 : decode cX1_readItem 128 = .ok (.ireturn, 1) := by decide +kernel
theorem dX1_readNumber_0 : decode cX1_readNumber 0 = .ok (.iconst 0, 1) := by decide +kernel
theorem dX1_readNumber_1 : decode cX1_readNumber 1 = .ok (.istore_n 2, 1) := by decide +kernel
theorem dX1_readNumber_2 : decode cX1_readNumber 2 = .ok (.iconst 0, 1) := by decide +kernel
theorem dX1_readNumber_3 : decode cX1_readNumber 3 = .ok (.istore_n 3, 1) := by decide +kernel
theorem dX1_readNumber_4 : decode cX1_readNumber 4 = .ok (.iload_n 3, 1) := by decide +kernel
theorem dX1_readNumber_5 : decode cX1_readNumber 5 = .ok (.iconst 3, 1) := by decide +kernel
theorem dX1_readNumber_6 : decode cX1_readNumber 6 = .ok (.if_icmp .ge 56, 3) := by decide +kernel
theorem dX1_readNumber_9 : decode cX1_readNumber 9 = .ok (.aload_n 0, 1) := by decide +kernel
theorem dX1_readNumber_10 : decode cX1_readNumber 10 = .ok (.getfield 24, 3) := by decide +kernel
theorem dX1_readNumber_13 : decode cX1_readNumber 13 = .ok (.aload_n 0, 1) := by decide +kernel
theorem dX1_readNumber_14 : decode cX1_readNumber 14 = .ok (.getfield 20, 3) := by decide +kernel
theorem dX1_readNumber_17 : decode cX1_readNumber 17 = .ok (.invokevirtual 43, 3) := by decide +kernel
theorem dX1_readNumber_20 : decode cX1_readNumber 20 = .ok (.invokestatic 73, 3) := by decide +kernel
theorem dX1_readNumber_23 : decode cX1_readNumber 23 = .ok (.ifCond .eq 39, 3) := by decide +kernel
theorem dX1_readNumber_26 : decode cX1_readNumber 26 = .ok (.bipush 10, 2) := by decide +kernel
theorem dX1_readNumber_28 : decode cX1_readNumber 28 = .ok (.iload_n 2, 1) := by decide +kernel
theorem dX1_readNumber_29 : decode cX1_readNumber 29 = .ok (.imul, 1) := by decide +kernel
theorem dX1_readNumber_30 : decode cX1_readNumber 30 = .ok (.aload_n 0, 1) := by decide +kernel
theorem dX1_readNumber_31 : decode cX1_readNumber 31 = .ok (.getfield 24, 3) := by decide +kernel
theorem dX1_readNumber_34 : decode cX1_readNumber 34 = .ok (.aload_n 0, 1) := by decide +kernel
theorem dX1_readNumber_35 : decode cX1_readNumber 35 = .ok (.getfield 20, 3) := by decide +kernel
theorem dX1_readNumber_38 : decode cX1_readNumber 38 = .ok (.invokevirtual 43, 3) := by decide +kernel
theorem dX1_readNumber_41 : decode cX1_readNumber 41 = .ok (.iadd, 1) := by decide +kernel
theorem dX1_readNumber_42 : decode cX1_readNumber 42 = .ok (.bipush 48, 2) := by decide +kernel
theorem dX1_readNumber_44 : decode cX1_readNumber 44 = .ok (.isub, 1) := by decide +kernel
theorem dX1_readNumber_45 : decode cX1_readNumber 45 = .ok (.istore_n 2, 1) := by decide +kernel
theorem dX1_readNumber_46 : decode cX1_readNumber 46 = .ok (.aload_n 0, 1) := by decide +kernel
theorem dX1_readNumber_47 : decode cX1_readNumber 47 = .ok (.dup, 1) := by decide +kernel
theorem dX1_readNumber_48 : decode cX1_readNumber 48 = .ok (.getfield 20, 3) := by decide +kernel
theorem dX1_readNumber_51 : decode cX1_readNumber 51 = .ok (.iconst 1, 1) := by decide +kernel
theorem dX1_readNumber_52 : decode cX1_readNumber 52 = .ok (.iadd, 1) := by decide +kernel
theorem dX1_readNumber_53 : decode cX1_readNumber 53 = .ok (.putfield 20, 3) := by decide +kernel
theorem dX1_readNumber_56 : decode cX1_readNumber 56 = .ok (.iinc 3 1, 3) := by decide +kernel
theorem dX1_readNumber_59 : decode cX1_readNumber 59 = .ok (.goto (-55), 3) := by decide +kernel
theorem dX1_readNumber_62 : decode cX1_readNumber 62 = .ok (.aload_n 0, 1) := by decide +kernel
theorem dX1_readNumber_63 : decode cX1_readNumber 63 = .ok (.getfield 14, 3) := by decide +kernel
theorem dX1_readNumber_66 : decode cX1_readNumber 66 = .ok (.iload_n 1, 1) := by decide +kernel
theorem dX1_readNumber_67 : decode cX1_readNumber 67 = .ok (.iload_n 2, 1) := by decide +kernel
theorem dX1_readNumber_68 : decode cX1_readNumber 68 = .ok (.invokevirtual 76, 3) := by decide +kernel
theorem dX1_readNumber_71 : decode cX1_readNumber 71 = .ok (.iload_n 3, 1) := by decide +kernel
theorem dX1_readNumber_72 : decode cX1_readNumber 72 = .ok (.ifCond .le 7, 3) := by decide +kernel
theorem dX1_readNumber_75 : decode cX1_readNumber 75 = .ok (.iconst 1, 1) := by decide +kernel
theorem dX1_readNumber_76 : decode cX1_readNumber 76 = .ok (.goto 4, 3) := by decide +kernel
theorem dX1_readNumber_79 : decode cX1_readNumber 79 = .ok (.iconst 0, 1) := by decide +kernel
theorem dX1_readNumber_80 : decode cX1_readNumber 80 = .ok (.ireturn, 1) := by decide +kernel
theorem dX1_isFigure_0 : decode cX1_isFigure 0 = .ok (.iload_n 0, 1) := by decide +kernel
theorem dX1_isFigure_1 : decode cX1_isFigure 1 = .ok (.bipush 48, 2) := by decide +kernel
theorem dX1_isFigure_3 : decode cX1_isFigure 3 = .ok (.if_icmp .lt 13, 3) := by decide +kernel
theorem dX1_isFigure_6 : decode cX1_isFigure 6 = .ok (.iload_n 0, 1) := by decide +kernel
theorem dX1_isFigure_7 : decode cX1_isFigure 7 = .ok (.bipush 57, 2) := by decide +kernel
theorem dX1_isFigure_9 : decode cX1_isFigure 9 = .ok (.if_icmp .gt 7, 3) := by decide +kernel
theorem dX1_isFigure_12 : decode cX1_isFigure 12 = .ok (.iconst 1, 1) := by decide +kernel
theorem dX1_isFigure_13 : decode cX1_isFigure 13 = .ok (.goto 4, 3) := by decide +kernel
theorem dX1_isFigure_16 : decode cX1_isFigure 16 = .ok (.iconst 0, 1) := by decide +kernel
theorem dX1_isFigure_17 : decode cX1_isFigure 17 = .ok (.ireturn, 1) := by decide +kernel
theorem dX1_isInRange_0 : decode cX1_isInRange 0 = .ok (.iload_n 1, 1) := by decide +kernel
theorem dX1_isInRange_1 : decode cX1_isInRange 1 = .ok (.bipush 6, 2) := by decide +kernel
theorem dX1_isInRange_3 : decode cX1_isInRange 3 = .ok (.imul, 1) := by decide +kernel
theorem dX1_isInRange_4 : decode cX1_isInRange 4 = .ok (.iload_n 2, 1) := by decide +kernel
theorem dX1_isInRange_5 : decode cX1_isInRange 5 = .ok (.iadd, 1) := by decide +kernel
theorem dX1_isInRange_6 : decode cX1_isInRange 6 = .ok (.istore_n 3, 1) := by decide +kernel
theorem dX1_isInRange_7 : decode cX1_isInRange 7 = .ok (.iload_n 3, 1) := by decide +kernel
theorem dX1_isInRange_8 : decode cX1_isInRange 8 = .ok (.ifCond .lt 55, 3) := by decide +kernel
theorem dX1_isInRange_11 : decode cX1_isInRange 11 = .ok (.iload_n 3, 1) := by decide +kernel
theorem dX1_isInRange_12 : decode cX1_isInRange 12 = .ok (.getstatic 80, 3) := by decide +kernel
theorem dX1_isInRange_15 : decode cX1_isInRange 15 = .ok (.arraylength, 1) := by decide +kernel
theorem dX1_isInRange_16 : decode cX1_isInRange 16 = .ok (.if_icmp .ge 47, 3) := by decide +kernel
theorem dX1_isInRange_19 : decode cX1_isInRange 19 = .ok (.iload_n 3, 1) := by decide +kernel
theorem dX1_isInRange_20 : decode cX1_isInRange 20 = .ok (.getstatic 83, 3) := by decide +kernel
theorem dX1_isInRange_23 : decode cX1_isInRange 23 = .ok (.arraylength, 1) := by decide +kernel
theorem dX1_isInRange_24 : decode cX1_isInRange 24 = .ok (.if_icmp .ge 39, 3) := by decide +kernel
theorem dX1_isInRange_27 : decode cX1_isInRange 27 = .ok (.aload_n 0, 1) := by decide +kernel
theorem dX1_isInRange_28 : decode cX1_isInRange 28 = .ok (.getfield 14, 3) := by decide +kernel
theorem dX1_isInRange_31 : decode cX1_isInRange 31 = .ok (.iload_n 2, 1) := by decide +kernel
theorem dX1_isInRange_32 : decode cX1_isInRange 32 = .ok (.invokevirtual 86, 3) := by decide +kernel
theorem dX1_isInRange_35 : decode cX1_isInRange 35 = .ok (.getstatic 80, 3) := by decide +kernel
theorem dX1_isInRange_38 : decode cX1_isInRange 38 = .ok (.iload_n 3, 1) := by decide +kernel
theorem dX1_isInRange_39 : decode cX1_isInRange 39 = .ok (.iaload, 1) := by decide +kernel
theorem dX1_isInRange_40 : decode cX1_isInRange 40 = .ok (.if_icmp .lt 23, 3) := by decide +kernel
theorem dX1_isInRange_43 : decode cX1_isInRange 43 = .ok (.aload_n 0, 1) := by decide +kernel
theorem dX1_isInRange_44 : decode cX1_isInRange 44 = .ok (.getfield 14, 3) := by decide +kernel
theorem dX1_isInRange_47 : decode cX1_isInRange 47 = .ok (.iload_n 2, 1) := by decide +kernel
theorem dX1_isInRange_48 : decode cX1_isInRange 48 = .ok (.invokevirtual 86, 3) := by decide +kernel
theorem dX1_isInRange_51 : decode cX1_isInRange 51 = .ok (.getstatic 83, 3) := by decide +kernel
theorem dX1_isInRange_54 : decode cX1_isInRange 54 = .ok (.iload_n 3, 1) := by decide +kernel
theorem dX1_isInRange_55 : decode cX1_isInRange 55 = .ok (.iaload, 1) := by decide +kernel
theorem dX1_isInRange_56 : decode cX1_isInRange 56 = .ok (.if_icmp .gt 7, 3) := by decide +kernel
theorem dX1_isInRange_59 : decode cX1_isInRange 59 = .ok (.iconst 1, 1) := by decide +kernel
theorem dX1_isInRange_60 : decode cX1_isInRange 60 = .ok (.goto 4, 3) := by decide +kernel
theorem dX1_isInRange_63 : decode cX1_isInRange 63 = .ok (.iconst 0, 1) := by decide +kernel
theorem dX1_isInRange_64 : decode cX1_isInRange 64 = .ok (.ireturn, 1) := by decide +kernel
theorem dX1_readSign_0 : decode cX1_readSign 0 = .ok (.aload_n 0, 1) := by decide +kernel
theorem dX1_readSign_1 : decode cX1_readSign 1 = .ok (.getfield 24, 3) := by decide +kernel
theorem dX1_readSign_4 : decode cX1_readSign 4 = .ok (.aload_n 0, 1) := by decide +kernel
theorem dX1_readSign_5 : decode cX1_readSign 5 = .ok (.getfield 20, 3) := by decide +kernel
theorem dX1_readSign_8 : decode cX1_readSign 8 = .ok (.invokevirtual 43, 3) := by decide +kernel
theorem dX1_readSign_11 : decode cX1_readSign 11 = .ok (.iload_n 1, 1) := by decide +kernel
theorem dX1_readSign_12 : decode cX1_readSign 12 = .ok (.if_icmp .eq 5, 3) := by decide +kernel
theorem dX1_readSign_15 : decode cX1_readSign 15 = .ok (.iconst 0, 1) := by decide +kernel
theorem dX1_readSign_16 : decode cX1_readSign 16 = .ok (.ireturn, 1) := by decide +kernel
theorem dX1_readSign_17 : decode cX1_readSign 17 = .ok (.aload_n 0, 1) := by decide +kernel
theorem dX1_readSign_18 : decode cX1_readSign 18 = .ok (.dup, 1) := by decide +kernel
theorem dX1_readSign_19 : decode cX1_readSign 19 = .ok (.getfield 20, 3) := by decide +kernel
theorem dX1_readSign_22 : decode cX1_readSign 22 = .ok (.iconst 1, 1) := by decide +kernel
theorem dX1_readSign_23 : decode cX1_readSign 23 = .ok (.iadd, 1) := by decide +kernel
theorem dX1_readSign_24 : decode cX1_readSign 24 = .ok (.putfield 20, 3) := by decide +kernel
theorem dX1_readSign_27 : decode cX1_readSign 27 = .ok (.iconst 1, 1) := by decide +kernel
theorem dX1_readSign_28 : decode cX1_readSign 28 = .ok (.ireturn, 1) := by decide +kernel
theorem dX2_init_0 : decode cX2_init 0 = .ok (.aload_n 0, 1) := by decide +kernel
theorem dX2_init_1 : decode cX2_init 1 = .ok (.invokespecial 1, 3) := by decide +kernel
theorem dX2_init_4 : decode cX2_init 4 = .ok (.aload_n 0, 1) := by decide +kernel
theorem dX2_init_5 : decode cX2_init 5 = .ok (.iload_n 1, 1) := by decide +kernel
theorem dX2_init_6 : decode cX2_init 6 = .ok (.iconst 0, 1) := by decide +kernel
theorem dX2_init_7 : decode cX2_init 7 = .ok (.invokestatic 7, 3) := by decide +kernel
theorem dX2_init_10 : decode cX2_init 10 = .ok (.newarray .int, 2) := by decide +kernel
theorem dX2_init_12 : decode cX2_init 12 = .ok (.putfield 13, 3) := by decide +kernel
theorem dX2_init_15 : decode cX2_init 15 = .ok (.return_, 1) := by decide +kernel
theorem dX2_get_0 : decode cX2_get 0 = .ok (.iload_n 1, 1) := by decide +kernel
theorem dX2_get_1 : decode cX2_get 1 = .ok (.ifCond .lt 21, 3) := by decide +kernel
theorem dX2_get_4 : decode cX2_get 4 = .ok (.iload_n 1, 1) := by decide +kernel
theorem dX2_get_5 : decode cX2_get 5 = .ok (.aload_n 0, 1) := by decide +kernel
theorem dX2_get_6 : decode cX2_get 6 = .ok (.getfield 13, 3) := by decide +kernel
theorem dX2_get_9 : decode cX2_get 9 = .ok (.arraylength, 1) := by decide +kernel
theorem dX2_get_10 : decode cX2_get 10 = .ok (.if_icmp .ge 12, 3) := by decide +kernel
theorem dX2_get_13 : decode cX2_get 13 = .ok (.aload_n 0, 1) := by decide +kernel
theorem dX2_get_14 : decode cX2_get 14 = .ok (.getfield 13, 3) := by decide +kernel
theorem dX2_get_17 : decode cX2_get 17 = .ok (.iload_n 1, 1) := by decide +kernel
theorem dX2_get_18 : decode cX2_get 18 = .ok (.iaload, 1) := by decide +kernel
theorem dX2_get_19 : decode cX2_get 19 = .ok (.goto 4, 3) := by decide +kernel
theorem dX2_get_22 : decode cX2_get 22 = .ok (.iconst 0, 1) := by decide +kernel
theorem dX2_get_23 : decode cX2_get 23 = .ok (.ireturn, 1) := by decide +kernel
theorem dX2_set_0 : decode cX2_set 0 = .ok (.iload_n 1, 1) := by decide +kernel
theorem dX2_set_1 : decode cX2_set 1 = .ok (.ifCond .lt 19, 3) := by decide +kernel
theorem dX2_set_4 : decode cX2_set 4 = .ok (.iload_n 1, 1) := by decide +kernel
theorem dX2_set_5 : decode cX2_set 5 = .ok (.aload_n 0, 1) := by decide +kernel
theorem dX2_set_6 : decode cX2_set 6 = .ok (.getfield 13, 3) := by decide +kernel
theorem dX2_set_9 : decode cX2_set 9 = .ok (.arraylength, 1) := by decide +kernel
theorem dX2_set_10 : decode cX2_set 10 = .ok (.if_icmp .ge 10, 3) := by decide +kernel
theorem dX2_set_13 : decode cX2_set 13 = .ok (.aload_n 0, 1) := by decide +kernel
theorem dX2_set_14 : decode cX2_set 14 = .ok (.getfield 13, 3) := by decide +kernel
theorem dX2_set_17 : decode cX2_set 17 = .ok (.iload_n 1, 1) := by decide +kernel
theorem dX2_set_18 : decode cX2_set 18 = .ok (.iload_n 2, 1) := by decide +kernel
theorem dX2_set_19 : decode cX2_set 19 = .ok (.iastore, 1) := by decide +kernel
theorem dX2_set_20 : decode cX2_set 20 = .ok (.return_, 1) := by decide +kernel
theorem dX2_increase_0 : decode cX2_increase 0 = .ok (.aload_n 0, 1) := by decide +kernel
theorem dX2_increase_1 : decode cX2_increase 1 = .ok (.iload_n 1, 1) := by decide +kernel
theorem dX2_increase_2 : decode cX2_increase 2 = .ok (.aload_n 0, 1) := by decide +kernel
theorem dX2_increase_3 : decode cX2_increase 3 = .ok (.iload_n 1, 1) := by decide +kernel
theorem dX2_increase_4 : decode cX2_increase 4 = .ok (.invokevirtual 19, 3) := by decide +kernel
theorem dX2_increase_7 : decode cX2_increase 7 = .ok (.iload_n 2, 1) := by decide +kernel
theorem dX2_increase_8 : decode cX2_increase 8 = .ok (.iadd, 1) := by decide +kernel
theorem dX2_increase_9 : decode cX2_increase 9 = .ok (.invokevirtual 23, 3) := by decide +kernel
theorem dX2_increase_12 : decode cX2_increase 12 = .ok (.return_, 1) := by decide +kernel
theorem dX2_fill_0 : decode cX2_fill 0 = .ok (.iconst 0, 1) := by decide +kernel
theorem dX2_fill_1 : decode cX2_fill 1 = .ok (.istore_n 2, 1) := by decide +kernel
theorem dX2_fill_2 : decode cX2_fill 2 = .ok (.iload_n 2, 1) := by decide +kernel
theorem dX2_fill_3 : decode cX2_fill 3 = .ok (.aload_n 0, 1) := by decide +kernel
theorem dX2_fill_4 : decode cX2_fill 4 = .ok (.getfield 13, 3) := by decide +kernel
theorem dX2_fill_7 : decode cX2_fill 7 = .ok (.arraylength, 1) := by decide +kernel
theorem dX2_fill_8 : decode cX2_fill 8 = .ok (.if_icmp .ge 16, 3) := by decide +kernel
theorem dX2_fill_11 : decode cX2_fill 11 = .ok (.aload_n 0, 1) := by decide +kernel
theorem dX2_fill_12 : decode cX2_fill 12 = .ok (.getfield 13, 3) := by decide +kernel
theorem dX2_fill_15 : decode cX2_fill 15 = .ok (.iload_n 2, 1) := by decide +kernel
theorem dX2_fill_16 : decode cX2_fill 16 = .ok (.iload_n 1, 1) := by decide +kernel
theorem dX2_fill_17 : decode cX2_fill 17 = .ok (.iastore, 1) := by decide +kernel
theorem dX2_fill_18 : decode cX2_fill 18 = .ok (.iinc 2 1, 3) := by decide +kernel
theorem dX2_fill_21 : decode cX2_fill 21 = .ok (.goto (-19), 3) := by decide +kernel
theorem dX2_fill_24 : decode cX2_fill 24 = .ok (.return_, 1) := by decide +kernel
theorem dX2_copyFrom_0 : decode cX2_copyFrom 0 = .ok (.iconst 0, 1) := by decide +kernel
theorem dX2_copyFrom_1 : decode cX2_copyFrom 1 = .ok (.istore_n 2, 1) := by decide +kernel
theorem dX2_copyFrom_2 : decode cX2_copyFrom 2 = .ok (.iload_n 2, 1) := by decide +kernel
theorem dX2_copyFrom_3 : decode cX2_copyFrom 3 = .ok (.aload_n 0, 1) := by decide +kernel
theorem dX2_copyFrom_4 : decode cX2_copyFrom 4 = .ok (.getfield 13, 3) := by decide +kernel
theorem dX2_copyFrom_7 : decode cX2_copyFrom 7 = .ok (.arraylength, 1) := by decide +kernel
theorem dX2_copyFrom_8 : decode cX2_copyFrom 8 = .ok (.if_icmp .ge 30, 3) := by decide +kernel
theorem dX2_copyFrom_11 : decode cX2_copyFrom 11 = .ok (.iload_n 2, 1) := by decide +kernel
theorem dX2_copyFrom_12 : decode cX2_copyFrom 12 = .ok (.aload_n 1, 1) := by decide +kernel
theorem dX2_copyFrom_13 : decode cX2_copyFrom 13 = .ok (.getfield 13, 3) := by decide +kernel
theorem dX2_copyFrom_16 : decode cX2_copyFrom 16 = .ok (.arraylength, 1) := by decide +kernel
theorem dX2_copyFrom_17 : decode cX2_copyFrom 17 = .ok (.if_icmp .ge 21, 3) := by decide +kernel
theorem dX2_copyFrom_20 : decode cX2_copyFrom 20 = .ok (.aload_n 0, 1) := by decide +kernel
theorem dX2_copyFrom_21 : decode cX2_copyFrom 21 = .ok (.getfield 13, 3) := by decide +kernel
theorem dX2_copyFrom_24 : decode cX2_copyFrom 24 = .ok (.iload_n 2, 1) := by decide +kernel
theorem dX2_copyFrom_25 : decode cX2_copyFrom 25 = .ok (.aload_n 1, 1) := by decide +kernel
theorem dX2_copyFrom_26 : decode cX2_copyFrom 26 = .ok (.getfield 13, 3) := by decide +kernel
theorem dX2_copyFrom_29 : decode cX2_copyFrom 29 = .ok (.iload_n 2, 1) := by decide +kernel
theorem dX2_copyFrom_30 : decode cX2_copyFrom 30 = .ok (.iaload, 1) := by decide +kernel
theorem dX2_copyFrom_31 : decode cX2_copyFrom 31 = .ok (.iastore, 1) := by decide +kernel
theorem dX2_copyFrom_32 : decode cX2_copyFrom 32 = .ok (.iinc 2 1, 3) := by decide +kernel
theorem dX2_copyFrom_35 : decode cX2_copyFrom 35 = .ok (.goto (-33), 3) := by decide +kernel
theorem dX2_copyFrom_38 : decode cX2_copyFrom 38 = .ok (.return_, 1) := by decide +kernel
theorem dX3_choose_0 : decode cX3_choose 0 = .ok (.iload_n 1, 1) := by decide +kernel
theorem dX3_choose_1 : decode cX3_choose 1 = .ok (.tableswitch 60 0 3 #[31, 36, 46, 55], 31) := by decide +kernel
theorem dX3_choose_32 : decode cX3_choose 32 = .ok (.aload_n 0, 1) := by decide +kernel
theorem dX3_choose_33 : decode cX3_choose 33 = .ok (.invokestatic 9, 3) := by decide +kernel
theorem dX3_choose_36 : decode cX3_choose 36 = .ok (.ireturn, 1) := by decide +kernel
theorem dX3_choose_37 : decode cX3_choose 37 = .ok (.aload_n 0, 1) := by decide +kernel
theorem dX3_choose_38 : decode cX3_choose 38 = .ok (.aload_n 0, 1) := by decide +kernel
theorem dX3_choose_39 : decode cX3_choose 39 = .ok (.iload_n 2, 1) := by decide +kernel
theorem dX3_choose_40 : decode cX3_choose 40 = .ok (.invokestatic 15, 3) := by decide +kernel
theorem dX3_choose_43 : decode cX3_choose 43 = .ok (.invokestatic 19, 3) := by decide +kernel
theorem dX3_choose_46 : decode cX3_choose 46 = .ok (.ireturn, 1) := by decide +kernel
theorem dX3_choose_47 : decode cX3_choose 47 = .ok (.aload_n 0, 1) := by decide +kernel
theorem dX3_choose_48 : decode cX3_choose 48 = .ok (.aload_n 0, 1) := by decide +kernel
theorem dX3_choose_49 : decode cX3_choose 49 = .ok (.invokestatic 22, 3) := by decide +kernel
theorem dX3_choose_52 : decode cX3_choose 52 = .ok (.invokestatic 19, 3) := by decide +kernel
theorem dX3_choose_55 : decode cX3_choose 55 = .ok (.ireturn, 1) := by decide +kernel
theorem dX3_choose_56 : decode cX3_choose 56 = .ok (.aload_n 0, 1) := by decide +kernel
theorem dX3_choose_57 : decode cX3_choose 57 = .ok (.getfield 25, 3) := by decide +kernel
theorem dX3_choose_60 : decode cX3_choose 60 = .ok (.ireturn, 1) := by decide +kernel
theorem dX3_choose_61 : decode cX3_choose 61 = .ok (.bipush 16, 2) := by decide +kernel
theorem dX3_choose_63 : decode cX3_choose 63 = .ok (.ireturn, 1) := by decide +kernel
theorem dX3_deepest_0 : decode cX3_deepest 0 = .ok (.bipush 16, 2) := by decide +kernel
theorem dX3_deepest_2 : decode cX3_deepest 2 = .ok (.istore_n 1, 1) := by decide +kernel
theorem dX3_deepest_3 : decode cX3_deepest 3 = .ok (.iconst 0, 1) := by decide +kernel
theorem dX3_deepest_4 : decode cX3_deepest 4 = .ok (.istore_n 2, 1) := by decide +kernel
theorem dX3_deepest_5 : decode cX3_deepest 5 = .ok (.iload_n 2, 1) := by decide +kernel
theorem dX3_deepest_6 : decode cX3_deepest 6 = .ok (.iconst 2, 1) := by decide +kernel
theorem dX3_deepest_7 : decode cX3_deepest 7 = .ok (.aload_n 0, 1) := by decide +kernel
theorem dX3_deepest_8 : decode cX3_deepest 8 = .ok (.getfield 31, 3) := by decide +kernel
theorem dX3_deepest_11 : decode cX3_deepest 11 = .ok (.getfield 35, 3) := by decide +kernel
theorem dX3_deepest_14 : decode cX3_deepest 14 = .ok (.imul, 1) := by decide +kernel
theorem dX3_deepest_15 : decode cX3_deepest 15 = .ok (.if_icmp .ge 40, 3) := by decide +kernel
theorem dX3_deepest_18 : decode cX3_deepest 18 = .ok (.aload_n 0, 1) := by decide +kernel
theorem dX3_deepest_19 : decode cX3_deepest 19 = .ok (.iload_n 2, 1) := by decide +kernel
theorem dX3_deepest_20 : decode cX3_deepest 20 = .ok (.iconst 2, 1) := by decide +kernel
theorem dX3_deepest_21 : decode cX3_deepest 21 = .ok (.idiv, 1) := by decide +kernel
theorem dX3_deepest_22 : decode cX3_deepest 22 = .ok (.invokevirtual 40, 3) := by decide +kernel
theorem dX3_deepest_25 : decode cX3_deepest 25 = .ok (.ifCond .eq 24, 3) := by decide +kernel
theorem dX3_deepest_28 : decode cX3_deepest 28 = .ok (.aload_n 0, 1) := by decide +kernel
theorem dX3_deepest_29 : decode cX3_deepest 29 = .ok (.getfield 44, 3) := by decide +kernel
theorem dX3_deepest_32 : decode cX3_deepest 32 = .ok (.iload_n 2, 1) := by decide +kernel
theorem dX3_deepest_33 : decode cX3_deepest 33 = .ok (.invokevirtual 48, 3) := by decide +kernel
theorem dX3_deepest_36 : decode cX3_deepest 36 = .ok (.aload_n 0, 1) := by decide +kernel
theorem dX3_deepest_37 : decode cX3_deepest 37 = .ok (.getfield 44, 3) := by decide +kernel
theorem dX3_deepest_40 : decode cX3_deepest 40 = .ok (.iload_n 1, 1) := by decide +kernel
theorem dX3_deepest_41 : decode cX3_deepest 41 = .ok (.invokevirtual 48, 3) := by decide +kernel
theorem dX3_deepest_44 : decode cX3_deepest 44 = .ok (.if_icmp .le 5, 3) := by decide +kernel
theorem dX3_deepest_47 : decode cX3_deepest 47 = .ok (.iload_n 2, 1) := by decide +kernel
theorem dX3_deepest_48 : decode cX3_deepest 48 = .ok (.istore_n 1, 1) := by decide +kernel
theorem dX3_deepest_49 : decode cX3_deepest 49 = .ok (.iinc 2 1, 3) := by decide +kernel
theorem dX3_deepest_52 : decode cX3_deepest 52 = .ok (.goto (-47), 3) := by decide +kernel
theorem dX3_deepest_55 : decode cX3_deepest 55 = .ok (.iload_n 1, 1) := by decide +kernel
theorem dX3_deepest_56 : decode cX3_deepest 56 = .ok (.ireturn, 1) := by decide +kernel
theorem dX3_weakest_0 : decode cX3_weakest 0 = .ok (.aload_n 0, 1) := by decide +kernel
theorem dX3_weakest_1 : decode cX3_weakest 1 = .ok (.getfield 31, 3) := by decide +kernel
theorem dX3_weakest_4 : decode cX3_weakest 4 = .ok (.getfield 54, 3) := by decide +kernel
theorem dX3_weakest_7 : decode cX3_weakest 7 = .ok (.iconst 2, 1) := by decide +kernel
theorem dX3_weakest_8 : decode cX3_weakest 8 = .ok (.iload_n 1, 1) := by decide +kernel
theorem dX3_weakest_9 : decode cX3_weakest 9 = .ok (.imul, 1) := by decide +kernel
theorem dX3_weakest_10 : decode cX3_weakest 10 = .ok (.invokevirtual 48, 3) := by decide +kernel
theorem dX3_weakest_13 : decode cX3_weakest 13 = .ok (.istore_n 2, 1) := by decide +kernel
theorem dX3_weakest_14 : decode cX3_weakest 14 = .ok (.aload_n 0, 1) := by decide +kernel
theorem dX3_weakest_15 : decode cX3_weakest 15 = .ok (.getfield 31, 3) := by decide +kernel
theorem dX3_weakest_18 : decode cX3_weakest 18 = .ok (.getfield 54, 3) := by decide +kernel
theorem dX3_weakest_21 : decode cX3_weakest 21 = .ok (.iconst 2, 1) := by decide +kernel
theorem dX3_weakest_22 : decode cX3_weakest 22 = .ok (.iload_n 1, 1) := by decide +kernel
theorem dX3_weakest_23 : decode cX3_weakest 23 = .ok (.imul, 1) := by decide +kernel
theorem dX3_weakest_24 : decode cX3_weakest 24 = .ok (.iconst 1, 1) := by decide +kernel
theorem dX3_weakest_25 : decode cX3_weakest 25 = .ok (.iadd, 1) := by decide +kernel
theorem dX3_weakest_26 : decode cX3_weakest 26 = .ok (.invokevirtual 48, 3) := by decide +kernel
theorem dX3_weakest_29 : decode cX3_weakest 29 = .ok (.istore_n 3, 1) := by decide +kernel
theorem dX3_weakest_30 : decode cX3_weakest 30 = .ok (.iconst (-1), 1) := by decide +kernel
theorem dX3_weakest_31 : decode cX3_weakest 31 = .ok (.istore 4, 2) := by decide +kernel
theorem dX3_weakest_33 : decode cX3_weakest 33 = .ok (.iconst 0, 1) := by decide +kernel
theorem dX3_weakest_34 : decode cX3_weakest 34 = .ok (.istore 5, 2) := by decide +kernel
theorem dX3_weakest_36 : decode cX3_weakest 36 = .ok (.iconst 0, 1) := by decide +kernel
theorem dX3_weakest_37 : decode cX3_weakest 37 = .ok (.istore 6, 2) := by decide +kernel
theorem dX3_weakest_39 : decode cX3_weakest 39 = .ok (.iconst 0, 1) := by decide +kernel
theorem dX3_weakest_40 : decode cX3_weakest 40 = .ok (.istore 7, 2) := by decide +kernel
theorem dX3_weakest_42 : decode cX3_weakest 42 = .ok (.iload 7, 2) := by decide +kernel
theorem dX3_weakest_44 : decode cX3_weakest 44 = .ok (.aload_n 0, 1) := by decide +kernel
theorem dX3_weakest_45 : decode cX3_weakest 45 = .ok (.getfield 31, 3) := by decide +kernel
theorem dX3_weakest_48 : decode cX3_weakest 48 = .ok (.getfield 35, 3) := by decide +kernel
theorem dX3_weakest_51 : decode cX3_weakest 51 = .ok (.if_icmp .ge 72, 3) := by decide +kernel
theorem dX3_weakest_54 : decode cX3_weakest 54 = .ok (.aload_n 0, 1) := by decide +kernel
theorem dX3_weakest_55 : decode cX3_weakest 55 = .ok (.iload 7, 2) := by decide +kernel
theorem dX3_weakest_57 : decode cX3_weakest 57 = .ok (.invokestatic 57, 3) := by decide +kernel
theorem dX3_weakest_60 : decode cX3_weakest 60 = .ok (.ifCond .eq 57, 3) := by decide +kernel
theorem dX3_weakest_63 : decode cX3_weakest 63 = .ok (.aload_n 0, 1) := by decide +kernel
theorem dX3_weakest_64 : decode cX3_weakest 64 = .ok (.iload 7, 2) := by decide +kernel
theorem dX3_weakest_66 : decode cX3_weakest 66 = .ok (.aload_n 0, 1) := by decide +kernel
theorem dX3_weakest_67 : decode cX3_weakest 67 = .ok (.iload 7, 2) := by decide +kernel
theorem dX3_weakest_69 : decode cX3_weakest 69 = .ok (.iload_n 2, 1) := by decide +kernel
theorem dX3_weakest_70 : decode cX3_weakest 70 = .ok (.iload_n 3, 1) := by decide +kernel
theorem dX3_weakest_71 : decode cX3_weakest 71 = .ok (.invokevirtual 61, 3) := by decide +kernel
theorem dX3_weakest_74 : decode cX3_weakest 74 = .ok (.invokevirtual 65, 3) := by decide +kernel
theorem dX3_weakest_77 : decode cX3_weakest 77 = .ok (.istore 8, 2) := by decide +kernel
theorem dX3_weakest_79 : decode cX3_weakest 79 = .ok (.aload_n 0, 1) := by decide +kernel
theorem dX3_weakest_80 : decode cX3_weakest 80 = .ok (.iload 7, 2) := by decide +kernel
theorem dX3_weakest_82 : decode cX3_weakest 82 = .ok (.invokevirtual 69, 3) := by decide +kernel
theorem dX3_weakest_85 : decode cX3_weakest 85 = .ok (.istore 9, 2) := by decide +kernel
theorem dX3_weakest_87 : decode cX3_weakest 87 = .ok (.iload 4, 2) := by decide +kernel
theorem dX3_weakest_89 : decode cX3_weakest 89 = .ok (.ifCond .lt 16, 3) := by decide +kernel
theorem dX3_weakest_92 : decode cX3_weakest 92 = .ok (.iload 8, 2) := by decide +kernel
theorem dX3_weakest_94 : decode cX3_weakest 94 = .ok (.iload 6, 2) := by decide +kernel
theorem dX3_weakest_96 : decode cX3_weakest 96 = .ok (.imul, 1) := by decide +kernel
theorem dX3_weakest_97 : decode cX3_weakest 97 = .ok (.iload 5, 2) := by decide +kernel
theorem dX3_weakest_99 : decode cX3_weakest 99 = .ok (.iload 9, 2) := by decide +kernel
theorem dX3_weakest_101 : decode cX3_weakest 101 = .ok (.imul, 1) := by decide +kernel
theorem dX3_weakest_102 : decode cX3_weakest 102 = .ok (.if_icmp .le 15, 3) := by decide +kernel
theorem dX3_weakest_105 : decode cX3_weakest 105 = .ok (.iload 7, 2) := by decide +kernel
theorem dX3_weakest_107 : decode cX3_weakest 107 = .ok (.istore 4, 2) := by decide +kernel
theorem dX3_weakest_109 : decode cX3_weakest 109 = .ok (.iload 8, 2) := by decide +kernel
theorem dX3_weakest_111 : decode cX3_weakest 111 = .ok (.istore 5, 2) := by decide +kernel
theorem dX3_weakest_113 : decode cX3_weakest 113 = .ok (.iload 9, 2) := by decide +kernel
theorem dX3_weakest_115 : decode cX3_weakest 115 = .ok (.istore 6, 2) := by decide +kernel
theorem dX3_weakest_117 : decode cX3_weakest 117 = .ok (.iinc 7 1, 3) := by decide +kernel
theorem dX3_weakest_120 : decode cX3_weakest 120 = .ok (.goto (-78), 3) := by decide +kernel
theorem dX3_weakest_123 : decode cX3_weakest 123 = .ok (.iload 4, 2) := by decide +kernel
theorem dX3_weakest_125 : decode cX3_weakest 125 = .ok (.ireturn, 1) := by decide +kernel
theorem dX3_fullest_0 : decode cX3_fullest 0 = .ok (.iconst (-1), 1) := by decide +kernel
theorem dX3_fullest_1 : decode cX3_fullest 1 = .ok (.istore_n 1, 1) := by decide +kernel
theorem dX3_fullest_2 : decode cX3_fullest 2 = .ok (.iconst 0, 1) := by decide +kernel
theorem dX3_fullest_3 : decode cX3_fullest 3 = .ok (.istore_n 2, 1) := by decide +kernel
theorem dX3_fullest_4 : decode cX3_fullest 4 = .ok (.iload_n 2, 1) := by decide +kernel
theorem dX3_fullest_5 : decode cX3_fullest 5 = .ok (.aload_n 0, 1) := by decide +kernel
theorem dX3_fullest_6 : decode cX3_fullest 6 = .ok (.getfield 31, 3) := by decide +kernel
theorem dX3_fullest_9 : decode cX3_fullest 9 = .ok (.getfield 35, 3) := by decide +kernel
theorem dX3_fullest_12 : decode cX3_fullest 12 = .ok (.if_icmp .ge 48, 3) := by decide +kernel
theorem dX3_fullest_15 : decode cX3_fullest 15 = .ok (.aload_n 0, 1) := by decide +kernel
theorem dX3_fullest_16 : decode cX3_fullest 16 = .ok (.iload_n 2, 1) := by decide +kernel
theorem dX3_fullest_17 : decode cX3_fullest 17 = .ok (.invokestatic 57, 3) := by decide +kernel
theorem dX3_fullest_20 : decode cX3_fullest 20 = .ok (.ifCond .eq 34, 3) := by decide +kernel
theorem dX3_fullest_23 : decode cX3_fullest 23 = .ok (.iload_n 1, 1) := by decide +kernel
theorem dX3_fullest_24 : decode cX3_fullest 24 = .ok (.ifCond .lt 28, 3) := by decide +kernel
theorem dX3_fullest_27 : decode cX3_fullest 27 = .ok (.aload_n 0, 1) := by decide +kernel
theorem dX3_fullest_28 : decode cX3_fullest 28 = .ok (.getfield 31, 3) := by decide +kernel
theorem dX3_fullest_31 : decode cX3_fullest 31 = .ok (.getfield 72, 3) := by decide +kernel
theorem dX3_fullest_34 : decode cX3_fullest 34 = .ok (.iload_n 2, 1) := by decide +kernel
theorem dX3_fullest_35 : decode cX3_fullest 35 = .ok (.invokevirtual 48, 3) := by decide +kernel
theorem dX3_fullest_38 : decode cX3_fullest 38 = .ok (.aload_n 0, 1) := by decide +kernel
theorem dX3_fullest_39 : decode cX3_fullest 39 = .ok (.getfield 31, 3) := by decide +kernel
theorem dX3_fullest_42 : decode cX3_fullest 42 = .ok (.getfield 72, 3) := by decide +kernel
theorem dX3_fullest_45 : decode cX3_fullest 45 = .ok (.iload_n 1, 1) := by decide +kernel
theorem dX3_fullest_46 : decode cX3_fullest 46 = .ok (.invokevirtual 48, 3) := by decide +kernel
theorem dX3_fullest_49 : decode cX3_fullest 49 = .ok (.if_icmp .le 5, 3) := by decide +kernel
theorem dX3_fullest_52 : decode cX3_fullest 52 = .ok (.iload_n 2, 1) := by decide +kernel
theorem dX3_fullest_53 : decode cX3_fullest 53 = .ok (.istore_n 1, 1) := by decide +kernel
theorem dX3_fullest_54 : decode cX3_fullest 54 = .ok (.iinc 2 1, 3) := by decide +kernel
theorem dX3_fullest_57 : decode cX3_fullest 57 = .ok (.goto (-53), 3) := by decide +kernel
theorem dX3_fullest_60 : decode cX3_fullest 60 = .ok (.iload_n 1, 1) := by decide +kernel
theorem dX3_fullest_61 : decode cX3_fullest 61 = .ok (.ireturn, 1) := by decide +kernel
theorem dX3_isSnowy_0 : decode cX3_isSnowy 0 = .ok (.aload_n 0, 1) := by decide +kernel
theorem dX3_isSnowy_1 : decode cX3_isSnowy 1 = .ok (.iload_n 1, 1) := by decide +kernel
theorem dX3_isSnowy_2 : decode cX3_isSnowy 2 = .ok (.invokevirtual 40, 3) := by decide +kernel
theorem dX3_isSnowy_5 : decode cX3_isSnowy 5 = .ok (.ifCond .eq 33, 3) := by decide +kernel
theorem dX3_isSnowy_8 : decode cX3_isSnowy 8 = .ok (.aload_n 0, 1) := by decide +kernel
theorem dX3_isSnowy_9 : decode cX3_isSnowy 9 = .ok (.getfield 44, 3) := by decide +kernel
theorem dX3_isSnowy_12 : decode cX3_isSnowy 12 = .ok (.iconst 2, 1) := by decide +kernel
theorem dX3_isSnowy_13 : decode cX3_isSnowy 13 = .ok (.iload_n 1, 1) := by decide +kernel
theorem dX3_isSnowy_14 : decode cX3_isSnowy 14 = .ok (.imul, 1) := by decide +kernel
theorem dX3_isSnowy_15 : decode cX3_isSnowy 15 = .ok (.invokevirtual 48, 3) := by decide +kernel
theorem dX3_isSnowy_18 : decode cX3_isSnowy 18 = .ok (.aload_n 0, 1) := by decide +kernel
theorem dX3_isSnowy_19 : decode cX3_isSnowy 19 = .ok (.getfield 44, 3) := by decide +kernel
theorem dX3_isSnowy_22 : decode cX3_isSnowy 22 = .ok (.iconst 2, 1) := by decide +kernel
theorem dX3_isSnowy_23 : decode cX3_isSnowy 23 = .ok (.iload_n 1, 1) := by decide +kernel
theorem dX3_isSnowy_24 : decode cX3_isSnowy 24 = .ok (.imul, 1) := by decide +kernel
theorem dX3_isSnowy_25 : decode cX3_isSnowy 25 = .ok (.iconst 1, 1) := by decide +kernel
theorem dX3_isSnowy_26 : decode cX3_isSnowy 26 = .ok (.iadd, 1) := by decide +kernel
theorem dX3_isSnowy_27 : decode cX3_isSnowy 27 = .ok (.invokevirtual 48, 3) := by decide +kernel
theorem dX3_isSnowy_30 : decode cX3_isSnowy 30 = .ok (.iadd, 1) := by decide +kernel
theorem dX3_isSnowy_31 : decode cX3_isSnowy 31 = .ok (.ifCond .le 7, 3) := by decide +kernel
theorem dX3_isSnowy_34 : decode cX3_isSnowy 34 = .ok (.iconst 1, 1) := by decide +kernel
theorem dX3_isSnowy_35 : decode cX3_isSnowy 35 = .ok (.goto 4, 3) := by decide +kernel
theorem dX3_isSnowy_38 : decode cX3_isSnowy 38 = .ok (.iconst 0, 1) := by decide +kernel
theorem dX3_isSnowy_39 : decode cX3_isSnowy 39 = .ok (.ireturn, 1) := by decide +kernel
theorem dX3_deeperSide_0 : decode cX3_deeperSide 0 = .ok (.iload_n 1, 1) := by decide +kernel
theorem dX3_deeperSide_1 : decode cX3_deeperSide 1 = .ok (.ifCond .ge 6, 3) := by decide +kernel
theorem dX3_deeperSide_4 : decode cX3_deeperSide 4 = .ok (.bipush 16, 2) := by decide +kernel
theorem dX3_deeperSide_6 : decode cX3_deeperSide 6 = .ok (.ireturn, 1) := by decide +kernel
theorem dX3_deeperSide_7 : decode cX3_deeperSide 7 = .ok (.aload_n 0, 1) := by decide +kernel
theorem dX3_deeperSide_8 : decode cX3_deeperSide 8 = .ok (.getfield 44, 3) := by decide +kernel
theorem dX3_deeperSide_11 : decode cX3_deeperSide 11 = .ok (.iconst 2, 1) := by decide +kernel
theorem dX3_deeperSide_12 : decode cX3_deeperSide 12 = .ok (.iload_n 1, 1) := by decide +kernel
theorem dX3_deeperSide_13 : decode cX3_deeperSide 13 = .ok (.imul, 1) := by decide +kernel
theorem dX3_deeperSide_14 : decode cX3_deeperSide 14 = .ok (.iconst 1, 1) := by decide +kernel
theorem dX3_deeperSide_15 : decode cX3_deeperSide 15 = .ok (.iadd, 1) := by decide +kernel
theorem dX3_deeperSide_16 : decode cX3_deeperSide 16 = .ok (.invokevirtual 48, 3) := by decide +kernel
theorem dX3_deeperSide_19 : decode cX3_deeperSide 19 = .ok (.aload_n 0, 1) := by decide +kernel
theorem dX3_deeperSide_20 : decode cX3_deeperSide 20 = .ok (.getfield 44, 3) := by decide +kernel
theorem dX3_deeperSide_23 : decode cX3_deeperSide 23 = .ok (.iconst 2, 1) := by decide +kernel
theorem dX3_deeperSide_24 : decode cX3_deeperSide 24 = .ok (.iload_n 1, 1) := by decide +kernel
theorem dX3_deeperSide_25 : decode cX3_deeperSide 25 = .ok (.imul, 1) := by decide +kernel
theorem dX3_deeperSide_26 : decode cX3_deeperSide 26 = .ok (.invokevirtual 48, 3) := by decide +kernel
theorem dX3_deeperSide_29 : decode cX3_deeperSide 29 = .ok (.if_icmp .le 11, 3) := by decide +kernel
theorem dX3_deeperSide_32 : decode cX3_deeperSide 32 = .ok (.iconst 2, 1) := by decide +kernel
theorem dX3_deeperSide_33 : decode cX3_deeperSide 33 = .ok (.iload_n 1, 1) := by decide +kernel
theorem dX3_deeperSide_34 : decode cX3_deeperSide 34 = .ok (.imul, 1) := by decide +kernel
theorem dX3_deeperSide_35 : decode cX3_deeperSide 35 = .ok (.iconst 1, 1) := by decide +kernel
theorem dX3_deeperSide_36 : decode cX3_deeperSide 36 = .ok (.iadd, 1) := by decide +kernel
theorem dX3_deeperSide_37 : decode cX3_deeperSide 37 = .ok (.goto 6, 3) := by decide +kernel
theorem dX3_deeperSide_40 : decode cX3_deeperSide 40 = .ok (.iconst 2, 1) := by decide +kernel
theorem dX3_deeperSide_41 : decode cX3_deeperSide 41 = .ok (.iload_n 1, 1) := by decide +kernel
theorem dX3_deeperSide_42 : decode cX3_deeperSide 42 = .ok (.imul, 1) := by decide +kernel
theorem dX3_deeperSide_43 : decode cX3_deeperSide 43 = .ok (.ireturn, 1) := by decide +kernel
theorem dX4_init_0 : decode cX4_init 0 = .ok (.aload_n 0, 1) := by decide +kernel
theorem dX4_init_1 : decode cX4_init 1 = .ok (.invokespecial 3, 3) := by decide +kernel
theorem dX4_init_4 : decode cX4_init 4 = .ok (.aload_n 0, 1) := by decide +kernel
theorem dX4_init_5 : decode cX4_init 5 = .ok (.new 9, 3) := by decide +kernel
theorem dX4_init_8 : decode cX4_init 8 = .ok (.dup, 1) := by decide +kernel
theorem dX4_init_9 : decode cX4_init 9 = .ok (.iconst 3, 1) := by decide +kernel
theorem dX4_init_10 : decode cX4_init 10 = .ok (.invokespecial 11, 3) := by decide +kernel
theorem dX4_init_13 : decode cX4_init 13 = .ok (.putfield 14, 3) := by decide +kernel
theorem dX4_init_16 : decode cX4_init 16 = .ok (.aload_n 0, 1) := by decide +kernel
theorem dX4_init_17 : decode cX4_init 17 = .ok (.new 9, 3) := by decide +kernel
theorem dX4_init_20 : decode cX4_init 20 = .ok (.dup, 1) := by decide +kernel
theorem dX4_init_21 : decode cX4_init 21 = .ok (.iconst 3, 1) := by decide +kernel
theorem dX4_init_22 : decode cX4_init 22 = .ok (.invokespecial 11, 3) := by decide +kernel
theorem dX4_init_25 : decode cX4_init 25 = .ok (.putfield 20, 3) := by decide +kernel
theorem dX4_init_28 : decode cX4_init 28 = .ok (.aload_n 0, 1) := by decide +kernel
theorem dX4_init_29 : decode cX4_init 29 = .ok (.lconst 0, 1) := by decide +kernel
theorem dX4_init_30 : decode cX4_init 30 = .ok (.putfield 23, 3) := by decide +kernel
theorem dX4_init_33 : decode cX4_init 33 = .ok (.aload_n 0, 1) := by decide +kernel
theorem dX4_init_34 : decode cX4_init 34 = .ok (.aload_n 1, 1) := by decide +kernel
theorem dX4_init_35 : decode cX4_init 35 = .ok (.putfield 27, 3) := by decide +kernel
theorem dX4_init_38 : decode cX4_init 38 = .ok (.return_, 1) := by decide +kernel
theorem dX4_find_0 : decode cX4_find 0 = .ok (.aload_n 0, 1) := by decide +kernel
theorem dX4_find_1 : decode cX4_find 1 = .ok (.ldc2_w 32, 3) := by decide +kernel
theorem dX4_find_4 : decode cX4_find 4 = .ok (.putfield 23, 3) := by decide +kernel
theorem dX4_find_7 : decode cX4_find 7 = .ok (.aload_n 0, 1) := by decide +kernel
theorem dX4_find_8 : decode cX4_find 8 = .ok (.aload_n 1, 1) := by decide +kernel
theorem dX4_find_9 : decode cX4_find 9 = .ok (.iconst 0, 1) := by decide +kernel
theorem dX4_find_10 : decode cX4_find 10 = .ok (.iload_n 2, 1) := by decide +kernel
theorem dX4_find_11 : decode cX4_find 11 = .ok (.invokevirtual 34, 3) := by decide +kernel
theorem dX4_find_14 : decode cX4_find 14 = .ok (.return_, 1) := by decide +kernel
theorem dX4_goOn_0 : decode cX4_goOn 0 = .ok (.aload_n 1, 1) := by decide +kernel
theorem dX4_goOn_1 : decode cX4_goOn 1 = .ok (.getfield 38, 3) := by decide +kernel
theorem dX4_goOn_4 : decode cX4_goOn 4 = .ok (.astore 4, 2) := by decide +kernel
theorem dX4_goOn_6 : decode cX4_goOn 6 = .ok (.aload 4, 2) := by decide +kernel
theorem dX4_goOn_8 : decode cX4_goOn 8 = .ok (.ifnull 8, 3) := by decide +kernel
theorem dX4_goOn_11 : decode cX4_goOn 11 = .ok (.iload_n 2, 1) := by decide +kernel
theorem dX4_goOn_12 : decode cX4_goOn 12 = .ok (.iload_n 3, 1) := by decide +kernel
theorem dX4_goOn_13 : decode cX4_goOn 13 = .ok (.if_icmp .lt 4, 3) := by decide +kernel
theorem dX4_goOn_16 : decode cX4_goOn 16 = .ok (.return_, 1) := by decide +kernel
theorem dX4_goOn_17 : decode cX4_goOn 17 = .ok (.iconst 0, 1) := by decide +kernel
theorem dX4_goOn_18 : decode cX4_goOn 18 = .ok (.istore 5, 2) := by decide +kernel
theorem dX4_goOn_20 : decode cX4_goOn 20 = .ok (.iload 5, 2) := by decide +kernel
theorem dX4_goOn_22 : decode cX4_goOn 22 = .ok (.bipush 16, 2) := by decide +kernel
theorem dX4_goOn_24 : decode cX4_goOn 24 = .ok (.if_icmp .gt 132, 3) := by decide +kernel
theorem dX4_goOn_27 : decode cX4_goOn 27 = .ok (.iload 5, 2) := by decide +kernel
theorem dX4_goOn_29 : decode cX4_goOn 29 = .ok (.bipush 16, 2) := by decide +kernel
theorem dX4_goOn_31 : decode cX4_goOn 31 = .ok (.if_icmp .eq 17, 3) := by decide +kernel
theorem dX4_goOn_34 : decode cX4_goOn 34 = .ok (.aload_n 1, 1) := by decide +kernel
theorem dX4_goOn_35 : decode cX4_goOn 35 = .ok (.iload 5, 2) := by decide +kernel
theorem dX4_goOn_37 : decode cX4_goOn 37 = .ok (.iconst 2, 1) := by decide +kernel
theorem dX4_goOn_38 : decode cX4_goOn 38 = .ok (.idiv, 1) := by decide +kernel
theorem dX4_goOn_39 : decode cX4_goOn 39 = .ok (.invokevirtual 44, 3) := by decide +kernel
theorem dX4_goOn_42 : decode cX4_goOn 42 = .ok (.ifCond .ne 6, 3) := by decide +kernel
theorem dX4_goOn_45 : decode cX4_goOn 45 = .ok (.goto 105, 3) := by decide +kernel
theorem dX4_goOn_48 : decode cX4_goOn 48 = .ok (.aload 4, 2) := by decide +kernel
theorem dX4_goOn_50 : decode cX4_goOn 50 = .ok (.aload_n 1, 1) := by decide +kernel
theorem dX4_goOn_51 : decode cX4_goOn 51 = .ok (.invokevirtual 48, 3) := by decide +kernel
theorem dX4_goOn_54 : decode cX4_goOn 54 = .ok (.aload 4, 2) := by decide +kernel
theorem dX4_goOn_56 : decode cX4_goOn 56 = .ok (.iload 5, 2) := by decide +kernel
theorem dX4_goOn_58 : decode cX4_goOn 58 = .ok (.aload_n 0, 1) := by decide +kernel
theorem dX4_goOn_59 : decode cX4_goOn 59 = .ok (.getfield 27, 3) := by decide +kernel
theorem dX4_goOn_62 : decode cX4_goOn 62 = .ok (.iload_n 2, 1) := by decide +kernel
theorem dX4_goOn_63 : decode cX4_goOn 63 = .ok (.invokevirtual 52, 3) := by decide +kernel
theorem dX4_goOn_66 : decode cX4_goOn 66 = .ok (.aload_n 1, 1) := by decide +kernel
theorem dX4_goOn_67 : decode cX4_goOn 67 = .ok (.getfield 56, 3) := by decide +kernel
theorem dX4_goOn_70 : decode cX4_goOn 70 = .ok (.getfield 60, 3) := by decide +kernel
theorem dX4_goOn_73 : decode cX4_goOn 73 = .ok (.invokevirtual 66, 3) := by decide +kernel
theorem dX4_goOn_76 : decode cX4_goOn 76 = .ok (.aload_n 0, 1) := by decide +kernel
theorem dX4_goOn_77 : decode cX4_goOn 77 = .ok (.getfield 14, 3) := by decide +kernel
theorem dX4_goOn_80 : decode cX4_goOn 80 = .ok (.iload_n 2, 1) := by decide +kernel
theorem dX4_goOn_81 : decode cX4_goOn 81 = .ok (.iload 5, 2) := by decide +kernel
theorem dX4_goOn_83 : decode cX4_goOn 83 = .ok (.invokevirtual 70, 3) := by decide +kernel
theorem dX4_goOn_86 : decode cX4_goOn 86 = .ok (.aload 4, 2) := by decide +kernel
theorem dX4_goOn_88 : decode cX4_goOn 88 = .ok (.invokevirtual 74, 3) := by decide +kernel
theorem dX4_goOn_91 : decode cX4_goOn 91 = .ok (.lstore 6, 2) := by decide +kernel
theorem dX4_goOn_93 : decode cX4_goOn 93 = .ok (.lload 6, 2) := by decide +kernel
theorem dX4_goOn_95 : decode cX4_goOn 95 = .ok (.aload_n 0, 1) := by decide +kernel
theorem dX4_goOn_96 : decode cX4_goOn 96 = .ok (.getfield 23, 3) := by decide +kernel
theorem dX4_goOn_99 : decode cX4_goOn 99 = .ok (.lcmp, 1) := by decide +kernel
theorem dX4_goOn_100 : decode cX4_goOn 100 = .ok (.ifCond .ge 23, 3) := by decide +kernel
theorem dX4_goOn_103 : decode cX4_goOn 103 = .ok (.iload_n 2, 1) := by decide +kernel
theorem dX4_goOn_104 : decode cX4_goOn 104 = .ok (.iconst 1, 1) := by decide +kernel
theorem dX4_goOn_105 : decode cX4_goOn 105 = .ok (.iadd, 1) := by decide +kernel
theorem dX4_goOn_106 : decode cX4_goOn 106 = .ok (.iload_n 3, 1) := by decide +kernel
theorem dX4_goOn_107 : decode cX4_goOn 107 = .ok (.if_icmp .ge 16, 3) := by decide +kernel
theorem dX4_goOn_110 : decode cX4_goOn 110 = .ok (.aload_n 0, 1) := by decide +kernel
theorem dX4_goOn_111 : decode cX4_goOn 111 = .ok (.aload 4, 2) := by decide +kernel
theorem dX4_goOn_113 : decode cX4_goOn 113 = .ok (.iload_n 2, 1) := by decide +kernel
theorem dX4_goOn_114 : decode cX4_goOn 114 = .ok (.iconst 1, 1) := by decide +kernel
theorem dX4_goOn_115 : decode cX4_goOn 115 = .ok (.iadd, 1) := by decide +kernel
theorem dX4_goOn_116 : decode cX4_goOn 116 = .ok (.iload_n 3, 1) := by decide +kernel
theorem dX4_goOn_117 : decode cX4_goOn 117 = .ok (.invokevirtual 34, 3) := by decide +kernel
theorem dX4_goOn_120 : decode cX4_goOn 120 = .ok (.goto 30, 3) := by decide +kernel
theorem dX4_goOn_123 : decode cX4_goOn 123 = .ok (.lload 6, 2) := by decide +kernel
theorem dX4_goOn_125 : decode cX4_goOn 125 = .ok (.aload_n 0, 1) := by decide +kernel
theorem dX4_goOn_126 : decode cX4_goOn 126 = .ok (.getfield 23, 3) := by decide +kernel
theorem dX4_goOn_129 : decode cX4_goOn 129 = .ok (.lcmp, 1) := by decide +kernel
theorem dX4_goOn_130 : decode cX4_goOn 130 = .ok (.ifCond .ge 20, 3) := by decide +kernel
theorem dX4_goOn_133 : decode cX4_goOn 133 = .ok (.aload_n 0, 1) := by decide +kernel
theorem dX4_goOn_134 : decode cX4_goOn 134 = .ok (.lload 6, 2) := by decide +kernel
theorem dX4_goOn_136 : decode cX4_goOn 136 = .ok (.putfield 23, 3) := by decide +kernel
theorem dX4_goOn_139 : decode cX4_goOn 139 = .ok (.aload_n 0, 1) := by decide +kernel
theorem dX4_goOn_140 : decode cX4_goOn 140 = .ok (.getfield 20, 3) := by decide +kernel
theorem dX4_goOn_143 : decode cX4_goOn 143 = .ok (.aload_n 0, 1) := by decide +kernel
theorem dX4_goOn_144 : decode cX4_goOn 144 = .ok (.getfield 14, 3) := by decide +kernel
theorem dX4_goOn_147 : decode cX4_goOn 147 = .ok (.invokevirtual 78, 3) := by decide +kernel
theorem dX4_goOn_150 : decode cX4_goOn 150 = .ok (.iinc 5 1, 3) := by decide +kernel
theorem dX4_goOn_153 : decode cX4_goOn 153 = .ok (.goto (-133), 3) := by decide +kernel
theorem dX4_goOn_156 : decode cX4_goOn 156 = .ok (.return_, 1) := by decide +kernel
theorem dX5_init_0 : decode cX5_init 0 = .ok (.aload_n 0, 1) := by decide +kernel
theorem dX5_init_1 : decode cX5_init 1 = .ok (.invokespecial 3, 3) := by decide +kernel
theorem dX5_init_4 : decode cX5_init 4 = .ok (.aload_n 0, 1) := by decide +kernel
theorem dX5_init_5 : decode cX5_init 5 = .ok (.new 9, 3) := by decide +kernel
theorem dX5_init_8 : decode cX5_init 8 = .ok (.dup, 1) := by decide +kernel
theorem dX5_init_9 : decode cX5_init 9 = .ok (.sipush 500, 3) := by decide +kernel
theorem dX5_init_12 : decode cX5_init 12 = .ok (.invokespecial 11, 3) := by decide +kernel
theorem dX5_init_15 : decode cX5_init 15 = .ok (.putfield 14, 3) := by decide +kernel
theorem dX5_init_18 : decode cX5_init 18 = .ok (.aload_n 0, 1) := by decide +kernel
theorem dX5_init_19 : decode cX5_init 19 = .ok (.iconst 0, 1) := by decide +kernel
theorem dX5_init_20 : decode cX5_init 20 = .ok (.putfield 20, 3) := by decide +kernel
theorem dX5_init_23 : decode cX5_init 23 = .ok (.return_, 1) := by decide +kernel
theorem dX5_length_0 : decode cX5_length 0 = .ok (.aload_n 0, 1) := by decide +kernel
theorem dX5_length_1 : decode cX5_length 1 = .ok (.getfield 20, 3) := by decide +kernel
theorem dX5_length_4 : decode cX5_length 4 = .ok (.ireturn, 1) := by decide +kernel
theorem dX5_append_0 : decode cX5_append 0 = .ok (.aload_n 0, 1) := by decide +kernel
theorem dX5_append_1 : decode cX5_append 1 = .ok (.getfield 20, 3) := by decide +kernel
theorem dX5_append_4 : decode cX5_append 4 = .ok (.sipush 500, 3) := by decide +kernel
theorem dX5_append_7 : decode cX5_append 7 = .ok (.if_icmp .ge 25, 3) := by decide +kernel
theorem dX5_append_10 : decode cX5_append 10 = .ok (.aload_n 0, 1) := by decide +kernel
theorem dX5_append_11 : decode cX5_append 11 = .ok (.getfield 14, 3) := by decide +kernel
theorem dX5_append_14 : decode cX5_append 14 = .ok (.aload_n 0, 1) := by decide +kernel
theorem dX5_append_15 : decode cX5_append 15 = .ok (.getfield 20, 3) := by decide +kernel
theorem dX5_append_18 : decode cX5_append 18 = .ok (.iload_n 1, 1) := by decide +kernel
theorem dX5_append_19 : decode cX5_append 19 = .ok (.invokevirtual 24, 3) := by decide +kernel
theorem dX5_append_22 : decode cX5_append 22 = .ok (.aload_n 0, 1) := by decide +kernel
theorem dX5_append_23 : decode cX5_append 23 = .ok (.dup, 1) := by decide +kernel
theorem dX5_append_24 : decode cX5_append 24 = .ok (.getfield 20, 3) := by decide +kernel
theorem dX5_append_27 : decode cX5_append 27 = .ok (.iconst 1, 1) := by decide +kernel
theorem dX5_append_28 : decode cX5_append 28 = .ok (.iadd, 1) := by decide +kernel
theorem dX5_append_29 : decode cX5_append 29 = .ok (.putfield 20, 3) := by decide +kernel
theorem dX5_append_32 : decode cX5_append 32 = .ok (.return_, 1) := by decide +kernel
theorem dX5_clear_0 : decode cX5_clear 0 = .ok (.aload_n 0, 1) := by decide +kernel
theorem dX5_clear_1 : decode cX5_clear 1 = .ok (.iconst 0, 1) := by decide +kernel
theorem dX5_clear_2 : decode cX5_clear 2 = .ok (.putfield 20, 3) := by decide +kernel
theorem dX5_clear_5 : decode cX5_clear 5 = .ok (.return_, 1) := by decide +kernel
theorem dX5_byteAt_0 : decode cX5_byteAt 0 = .ok (.iload_n 1, 1) := by decide +kernel
theorem dX5_byteAt_1 : decode cX5_byteAt 1 = .ok (.ifCond .lt 22, 3) := by decide +kernel
theorem dX5_byteAt_4 : decode cX5_byteAt 4 = .ok (.iload_n 1, 1) := by decide +kernel
theorem dX5_byteAt_5 : decode cX5_byteAt 5 = .ok (.aload_n 0, 1) := by decide +kernel
theorem dX5_byteAt_6 : decode cX5_byteAt 6 = .ok (.getfield 20, 3) := by decide +kernel
theorem dX5_byteAt_9 : decode cX5_byteAt 9 = .ok (.if_icmp .ge 14, 3) := by decide +kernel
theorem dX5_byteAt_12 : decode cX5_byteAt 12 = .ok (.aload_n 0, 1) := by decide +kernel
theorem dX5_byteAt_13 : decode cX5_byteAt 13 = .ok (.getfield 14, 3) := by decide +kernel
theorem dX5_byteAt_16 : decode cX5_byteAt 16 = .ok (.iload_n 1, 1) := by decide +kernel
theorem dX5_byteAt_17 : decode cX5_byteAt 17 = .ok (.invokevirtual 28, 3) := by decide +kernel
theorem dX5_byteAt_20 : decode cX5_byteAt 20 = .ok (.goto 4, 3) := by decide +kernel
theorem dX5_byteAt_23 : decode cX5_byteAt 23 = .ok (.iconst (-1), 1) := by decide +kernel
theorem dX5_byteAt_24 : decode cX5_byteAt 24 = .ok (.ireturn, 1) := by decide +kernel
theorem dX6_init_0 : decode cX6_init 0 = .ok (.aload_n 0, 1) := by decide +kernel
theorem dX6_init_1 : decode cX6_init 1 = .ok (.invokespecial 3, 3) := by decide +kernel
theorem dX6_init_4 : decode cX6_init 4 = .ok (.aload_n 0, 1) := by decide +kernel
theorem dX6_init_5 : decode cX6_init 5 = .ok (.new 9, 3) := by decide +kernel
theorem dX6_init_8 : decode cX6_init 8 = .ok (.dup, 1) := by decide +kernel
theorem dX6_init_9 : decode cX6_init 9 = .ok (.bipush 16, 2) := by decide +kernel
theorem dX6_init_11 : decode cX6_init 11 = .ok (.invokespecial 11, 3) := by decide +kernel
theorem dX6_init_14 : decode cX6_init 14 = .ok (.putfield 14, 3) := by decide +kernel
theorem dX6_init_17 : decode cX6_init 17 = .ok (.aload_n 0, 1) := by decide +kernel
theorem dX6_init_18 : decode cX6_init 18 = .ok (.new 9, 3) := by decide +kernel
theorem dX6_init_21 : decode cX6_init 21 = .ok (.dup, 1) := by decide +kernel
theorem dX6_init_22 : decode cX6_init 22 = .ok (.bipush 8, 2) := by decide +kernel
theorem dX6_init_24 : decode cX6_init 24 = .ok (.invokespecial 11, 3) := by decide +kernel
theorem dX6_init_27 : decode cX6_init 27 = .ok (.putfield 20, 3) := by decide +kernel
theorem dX6_init_30 : decode cX6_init 30 = .ok (.aload_n 0, 1) := by decide +kernel
theorem dX6_init_31 : decode cX6_init 31 = .ok (.new 9, 3) := by decide +kernel
theorem dX6_init_34 : decode cX6_init 34 = .ok (.dup, 1) := by decide +kernel
theorem dX6_init_35 : decode cX6_init 35 = .ok (.bipush 8, 2) := by decide +kernel
theorem dX6_init_37 : decode cX6_init 37 = .ok (.invokespecial 11, 3) := by decide +kernel
theorem dX6_init_40 : decode cX6_init 40 = .ok (.putfield 23, 3) := by decide +kernel
theorem dX6_init_43 : decode cX6_init 43 = .ok (.aload_n 0, 1) := by decide +kernel
theorem dX6_init_44 : decode cX6_init 44 = .ok (.new 9, 3) := by decide +kernel
theorem dX6_init_47 : decode cX6_init 47 = .ok (.dup, 1) := by decide +kernel
theorem dX6_init_48 : decode cX6_init 48 = .ok (.bipush 8, 2) := by decide +kernel
theorem dX6_init_50 : decode cX6_init 50 = .ok (.invokespecial 11, 3) := by decide +kernel
theorem dX6_init_53 : decode cX6_init 53 = .ok (.putfield 26, 3) := by decide +kernel
theorem dX6_init_56 : decode cX6_init 56 = .ok (.aload_n 0, 1) := by decide +kernel
theorem dX6_init_57 : decode cX6_init 57 = .ok (.new 9, 3) := by decide +kernel
theorem dX6_init_60 : decode cX6_init 60 = .ok (.dup, 1) := by decide +kernel
theorem dX6_init_61 : decode cX6_init 61 = .ok (.bipush 24, 2) := by decide +kernel
theorem dX6_init_63 : decode cX6_init 63 = .ok (.invokespecial 11, 3) := by decide +kernel
theorem dX6_init_66 : decode cX6_init 66 = .ok (.putfield 29, 3) := by decide +kernel
theorem dX6_init_69 : decode cX6_init 69 = .ok (.aload_n 0, 1) := by decide +kernel
theorem dX6_init_70 : decode cX6_init 70 = .ok (.new 9, 3) := by decide +kernel
theorem dX6_init_73 : decode cX6_init 73 = .ok (.dup, 1) := by decide +kernel
theorem dX6_init_74 : decode cX6_init 74 = .ok (.bipush 8, 2) := by decide +kernel
theorem dX6_init_76 : decode cX6_init 76 = .ok (.invokespecial 11, 3) := by decide +kernel
theorem dX6_init_79 : decode cX6_init 79 = .ok (.putfield 32, 3) := by decide +kernel
theorem dX6_init_82 : decode cX6_init 82 = .ok (.aload_n 0, 1) := by decide +kernel
theorem dX6_init_83 : decode cX6_init 83 = .ok (.iconst 0, 1) := by decide +kernel
theorem dX6_init_84 : decode cX6_init 84 = .ok (.putfield 35, 3) := by decide +kernel
theorem dX6_init_87 : decode cX6_init 87 = .ok (.aload_n 0, 1) := by decide +kernel
theorem dX6_init_88 : decode cX6_init 88 = .ok (.iconst 0, 1) := by decide +kernel
theorem dX6_init_89 : decode cX6_init 89 = .ok (.putfield 39, 3) := by decide +kernel
theorem dX6_init_92 : decode cX6_init 92 = .ok (.aload_n 0, 1) := by decide +kernel
theorem dX6_init_93 : decode cX6_init 93 = .ok (.iconst 0, 1) := by decide +kernel
theorem dX6_init_94 : decode cX6_init 94 = .ok (.putfield 42, 3) := by decide +kernel
theorem dX6_init_97 : decode cX6_init 97 = .ok (.aload_n 0, 1) := by decide +kernel
theorem dX6_init_98 : decode cX6_init 98 = .ok (.iconst 0, 1) := by decide +kernel
theorem dX6_init_99 : decode cX6_init 99 = .ok (.putfield 45, 3) := by decide +kernel
theorem dX6_init_102 : decode cX6_init 102 = .ok (.aload_n 0, 1) := by decide +kernel
theorem dX6_init_103 : decode cX6_init 103 = .ok (.iconst 0, 1) := by decide +kernel
theorem dX6_init_104 : decode cX6_init 104 = .ok (.putfield 48, 3) := by decide +kernel
theorem dX6_init_107 : decode cX6_init 107 = .ok (.aload_n 0, 1) := by decide +kernel
theorem dX6_init_108 : decode cX6_init 108 = .ok (.aload_n 1, 1) := by decide +kernel
theorem dX6_init_109 : decode cX6_init 109 = .ok (.putfield 51, 3) := by decide +kernel
theorem dX6_init_112 : decode cX6_init 112 = .ok (.aload_n 0, 1) := by decide +kernel
theorem dX6_init_113 : decode cX6_init 113 = .ok (.aload_n 2, 1) := by decide +kernel
theorem dX6_init_114 : decode cX6_init 114 = .ok (.putfield 55, 3) := by decide +kernel
theorem dX6_init_117 : decode cX6_init 117 = .ok (.return_, 1) := by decide +kernel
theorem dX6_copyFrom_0 : decode cX6_copyFrom 0 = .ok (.aload_n 0, 1) := by decide +kernel
theorem dX6_copyFrom_1 : decode cX6_copyFrom 1 = .ok (.getfield 14, 3) := by decide +kernel
theorem dX6_copyFrom_4 : decode cX6_copyFrom 4 = .ok (.aload_n 1, 1) := by decide +kernel
theorem dX6_copyFrom_5 : decode cX6_copyFrom 5 = .ok (.getfield 14, 3) := by decide +kernel
theorem dX6_copyFrom_8 : decode cX6_copyFrom 8 = .ok (.invokevirtual 59, 3) := by decide +kernel
theorem dX6_copyFrom_11 : decode cX6_copyFrom 11 = .ok (.aload_n 0, 1) := by decide +kernel
theorem dX6_copyFrom_12 : decode cX6_copyFrom 12 = .ok (.getfield 20, 3) := by decide +kernel
theorem dX6_copyFrom_15 : decode cX6_copyFrom 15 = .ok (.aload_n 1, 1) := by decide +kernel
theorem dX6_copyFrom_16 : decode cX6_copyFrom 16 = .ok (.getfield 20, 3) := by decide +kernel
theorem dX6_copyFrom_19 : decode cX6_copyFrom 19 = .ok (.invokevirtual 59, 3) := by decide +kernel
theorem dX6_copyFrom_22 : decode cX6_copyFrom 22 = .ok (.aload_n 0, 1) := by decide +kernel
theorem dX6_copyFrom_23 : decode cX6_copyFrom 23 = .ok (.getfield 23, 3) := by decide +kernel
theorem dX6_copyFrom_26 : decode cX6_copyFrom 26 = .ok (.aload_n 1, 1) := by decide +kernel
theorem dX6_copyFrom_27 : decode cX6_copyFrom 27 = .ok (.getfield 23, 3) := by decide +kernel
theorem dX6_copyFrom_30 : decode cX6_copyFrom 30 = .ok (.invokevirtual 59, 3) := by decide +kernel
theorem dX6_copyFrom_33 : decode cX6_copyFrom 33 = .ok (.aload_n 0, 1) := by decide +kernel
theorem dX6_copyFrom_34 : decode cX6_copyFrom 34 = .ok (.getfield 26, 3) := by decide +kernel
theorem dX6_copyFrom_37 : decode cX6_copyFrom 37 = .ok (.aload_n 1, 1) := by decide +kernel
theorem dX6_copyFrom_38 : decode cX6_copyFrom 38 = .ok (.getfield 26, 3) := by decide +kernel
theorem dX6_copyFrom_41 : decode cX6_copyFrom 41 = .ok (.invokevirtual 59, 3) := by decide +kernel
theorem dX6_copyFrom_44 : decode cX6_copyFrom 44 = .ok (.aload_n 0, 1) := by decide +kernel
theorem dX6_copyFrom_45 : decode cX6_copyFrom 45 = .ok (.getfield 29, 3) := by decide +kernel
theorem dX6_copyFrom_48 : decode cX6_copyFrom 48 = .ok (.aload_n 1, 1) := by decide +kernel
theorem dX6_copyFrom_49 : decode cX6_copyFrom 49 = .ok (.getfield 29, 3) := by decide +kernel
theorem dX6_copyFrom_52 : decode cX6_copyFrom 52 = .ok (.invokevirtual 59, 3) := by decide +kernel
theorem dX6_copyFrom_55 : decode cX6_copyFrom 55 = .ok (.aload_n 0, 1) := by decide +kernel
theorem dX6_copyFrom_56 : decode cX6_copyFrom 56 = .ok (.getfield 32, 3) := by decide +kernel
theorem dX6_copyFrom_59 : decode cX6_copyFrom 59 = .ok (.aload_n 1, 1) := by decide +kernel
theorem dX6_copyFrom_60 : decode cX6_copyFrom 60 = .ok (.getfield 32, 3) := by decide +kernel
theorem dX6_copyFrom_63 : decode cX6_copyFrom 63 = .ok (.invokevirtual 59, 3) := by decide +kernel
theorem dX6_copyFrom_66 : decode cX6_copyFrom 66 = .ok (.aload_n 0, 1) := by decide +kernel
theorem dX6_copyFrom_67 : decode cX6_copyFrom 67 = .ok (.aload_n 1, 1) := by decide +kernel
theorem dX6_copyFrom_68 : decode cX6_copyFrom 68 = .ok (.getfield 35, 3) := by decide +kernel
theorem dX6_copyFrom_71 : decode cX6_copyFrom 71 = .ok (.putfield 35, 3) := by decide +kernel
theorem dX6_copyFrom_74 : decode cX6_copyFrom 74 = .ok (.aload_n 0, 1) := by decide +kernel
theorem dX6_copyFrom_75 : decode cX6_copyFrom 75 = .ok (.aload_n 1, 1) := by decide +kernel
theorem dX6_copyFrom_76 : decode cX6_copyFrom 76 = .ok (.getfield 39, 3) := by decide +kernel
theorem dX6_copyFrom_79 : decode cX6_copyFrom 79 = .ok (.putfield 39, 3) := by decide +kernel
theorem dX6_copyFrom_82 : decode cX6_copyFrom 82 = .ok (.aload_n 0, 1) := by decide +kernel
theorem dX6_copyFrom_83 : decode cX6_copyFrom 83 = .ok (.aload_n 1, 1) := by decide +kernel
theorem dX6_copyFrom_84 : decode cX6_copyFrom 84 = .ok (.getfield 42, 3) := by decide +kernel
theorem dX6_copyFrom_87 : decode cX6_copyFrom 87 = .ok (.putfield 42, 3) := by decide +kernel
theorem dX6_copyFrom_90 : decode cX6_copyFrom 90 = .ok (.aload_n 0, 1) := by decide +kernel
theorem dX6_copyFrom_91 : decode cX6_copyFrom 91 = .ok (.aload_n 1, 1) := by decide +kernel
theorem dX6_copyFrom_92 : decode cX6_copyFrom 92 = .ok (.getfield 45, 3) := by decide +kernel
theorem dX6_copyFrom_95 : decode cX6_copyFrom 95 = .ok (.putfield 45, 3) := by decide +kernel
theorem dX6_copyFrom_98 : decode cX6_copyFrom 98 = .ok (.aload_n 0, 1) := by decide +kernel
theorem dX6_copyFrom_99 : decode cX6_copyFrom 99 = .ok (.aload_n 1, 1) := by decide +kernel
theorem dX6_copyFrom_100 : decode cX6_copyFrom 100 = .ok (.getfield 48, 3) := by decide +kernel
theorem dX6_copyFrom_103 : decode cX6_copyFrom 103 = .ok (.putfield 48, 3) := by decide +kernel
theorem dX6_copyFrom_106 : decode cX6_copyFrom 106 = .ok (.return_, 1) := by decide +kernel
theorem dX6_startFrom_0 : decode cX6_startFrom 0 = .ok (.aload_n 0, 1) := by decide +kernel
theorem dX6_startFrom_1 : decode cX6_startFrom 1 = .ok (.aload_n 1, 1) := by decide +kernel
theorem dX6_startFrom_2 : decode cX6_startFrom 2 = .ok (.invokevirtual 63, 3) := by decide +kernel
theorem dX6_startFrom_5 : decode cX6_startFrom 5 = .ok (.aload_n 0, 1) := by decide +kernel
theorem dX6_startFrom_6 : decode cX6_startFrom 6 = .ok (.getfield 32, 3) := by decide +kernel
theorem dX6_startFrom_9 : decode cX6_startFrom 9 = .ok (.iconst 0, 1) := by decide +kernel
theorem dX6_startFrom_10 : decode cX6_startFrom 10 = .ok (.invokevirtual 66, 3) := by decide +kernel
theorem dX6_startFrom_13 : decode cX6_startFrom 13 = .ok (.return_, 1) := by decide +kernel
theorem dX6_begin_0 : decode cX6_begin 0 = .ok (.aload_n 0, 1) := by decide +kernel
theorem dX6_begin_1 : decode cX6_begin 1 = .ok (.iconst 1, 1) := by decide +kernel
theorem dX6_begin_2 : decode cX6_begin 2 = .ok (.aload_n 0, 1) := by decide +kernel
theorem dX6_begin_3 : decode cX6_begin 3 = .ok (.getfield 51, 3) := by decide +kernel
theorem dX6_begin_6 : decode cX6_begin 6 = .ok (.getfield 69, 3) := by decide +kernel
theorem dX6_begin_9 : decode cX6_begin 9 = .ok (.ishl, 1) := by decide +kernel
theorem dX6_begin_10 : decode cX6_begin 10 = .ok (.iconst 1, 1) := by decide +kernel
theorem dX6_begin_11 : decode cX6_begin 11 = .ok (.isub, 1) := by decide +kernel
theorem dX6_begin_12 : decode cX6_begin 12 = .ok (.putfield 35, 3) := by decide +kernel
theorem dX6_begin_15 : decode cX6_begin 15 = .ok (.aload_n 0, 1) := by decide +kernel
theorem dX6_begin_16 : decode cX6_begin 16 = .ok (.getfield 14, 3) := by decide +kernel
theorem dX6_begin_19 : decode cX6_begin 19 = .ok (.aload_n 0, 1) := by decide +kernel
theorem dX6_begin_20 : decode cX6_begin 20 = .ok (.getfield 51, 3) := by decide +kernel
theorem dX6_begin_23 : decode cX6_begin 23 = .ok (.getfield 74, 3) := by decide +kernel
theorem dX6_begin_26 : decode cX6_begin 26 = .ok (.invokevirtual 59, 3) := by decide +kernel
theorem dX6_begin_29 : decode cX6_begin 29 = .ok (.iconst 0, 1) := by decide +kernel
theorem dX6_begin_30 : decode cX6_begin 30 = .ok (.istore_n 1, 1) := by decide +kernel
theorem dX6_begin_31 : decode cX6_begin 31 = .ok (.iload_n 1, 1) := by decide +kernel
theorem dX6_begin_32 : decode cX6_begin 32 = .ok (.bipush 8, 2) := by decide +kernel
theorem dX6_begin_34 : decode cX6_begin 34 = .ok (.if_icmp .ge 25, 3) := by decide +kernel
theorem dX6_begin_37 : decode cX6_begin 37 = .ok (.aload_n 0, 1) := by decide +kernel
theorem dX6_begin_38 : decode cX6_begin 38 = .ok (.getfield 20, 3) := by decide +kernel
theorem dX6_begin_41 : decode cX6_begin 41 = .ok (.iload_n 1, 1) := by decide +kernel
theorem dX6_begin_42 : decode cX6_begin 42 = .ok (.aload_n 0, 1) := by decide +kernel
theorem dX6_begin_43 : decode cX6_begin 43 = .ok (.getfield 51, 3) := by decide +kernel
theorem dX6_begin_46 : decode cX6_begin 46 = .ok (.iload_n 1, 1) := by decide +kernel
theorem dX6_begin_47 : decode cX6_begin 47 = .ok (.invokevirtual 75, 3) := by decide +kernel
theorem dX6_begin_50 : decode cX6_begin 50 = .ok (.invokevirtual 79, 3) := by decide +kernel
theorem dX6_begin_53 : decode cX6_begin 53 = .ok (.iinc 1 1, 3) := by decide +kernel
theorem dX6_begin_56 : decode cX6_begin 56 = .ok (.goto (-25), 3) := by decide +kernel
theorem dX6_begin_59 : decode cX6_begin 59 = .ok (.aload_n 0, 1) := by decide +kernel
theorem dX6_begin_60 : decode cX6_begin 60 = .ok (.getfield 23, 3) := by decide +kernel
theorem dX6_begin_63 : decode cX6_begin 63 = .ok (.iconst 0, 1) := by decide +kernel
theorem dX6_begin_64 : decode cX6_begin 64 = .ok (.invokevirtual 66, 3) := by decide +kernel
theorem dX6_begin_67 : decode cX6_begin 67 = .ok (.aload_n 0, 1) := by decide +kernel
theorem dX6_begin_68 : decode cX6_begin 68 = .ok (.getfield 26, 3) := by decide +kernel
theorem dX6_begin_71 : decode cX6_begin 71 = .ok (.iconst 0, 1) := by decide +kernel
theorem dX6_begin_72 : decode cX6_begin 72 = .ok (.invokevirtual 66, 3) := by decide +kernel
theorem dX6_begin_75 : decode cX6_begin 75 = .ok (.aload_n 0, 1) := by decide +kernel
theorem dX6_begin_76 : decode cX6_begin 76 = .ok (.getfield 29, 3) := by decide +kernel
theorem dX6_begin_79 : decode cX6_begin 79 = .ok (.iconst 0, 1) := by decide +kernel
theorem dX6_begin_80 : decode cX6_begin 80 = .ok (.invokevirtual 66, 3) := by decide +kernel
theorem dX6_begin_83 : decode cX6_begin 83 = .ok (.aload_n 0, 1) := by decide +kernel
theorem dX6_begin_84 : decode cX6_begin 84 = .ok (.iconst 0, 1) := by decide +kernel
theorem dX6_begin_85 : decode cX6_begin 85 = .ok (.putfield 39, 3) := by decide +kernel
theorem dX6_begin_88 : decode cX6_begin 88 = .ok (.aload_n 0, 1) := by decide +kernel
theorem dX6_begin_89 : decode cX6_begin 89 = .ok (.iconst 0, 1) := by decide +kernel
theorem dX6_begin_90 : decode cX6_begin 90 = .ok (.putfield 42, 3) := by decide +kernel
theorem dX6_begin_93 : decode cX6_begin 93 = .ok (.aload_n 0, 1) := by decide +kernel
theorem dX6_begin_94 : decode cX6_begin 94 = .ok (.aload_n 0, 1) := by decide +kernel
theorem dX6_begin_95 : decode cX6_begin 95 = .ok (.getfield 51, 3) := by decide +kernel
theorem dX6_begin_98 : decode cX6_begin 98 = .ok (.getfield 83, 3) := by decide +kernel
theorem dX6_begin_101 : decode cX6_begin 101 = .ok (.putfield 45, 3) := by decide +kernel
theorem dX6_begin_104 : decode cX6_begin 104 = .ok (.aload_n 0, 1) := by decide +kernel
theorem dX6_begin_105 : decode cX6_begin 105 = .ok (.iconst 0, 1) := by decide +kernel
theorem dX6_begin_106 : decode cX6_begin 106 = .ok (.putfield 48, 3) := by decide +kernel
theorem dX6_begin_109 : decode cX6_begin 109 = .ok (.aload_n 0, 1) := by decide +kernel
theorem dX6_begin_110 : decode cX6_begin 110 = .ok (.invokevirtual 86, 3) := by decide +kernel
theorem dX6_begin_113 : decode cX6_begin 113 = .ok (.pop, 1) := by decide +kernel
theorem dX6_begin_114 : decode cX6_begin 114 = .ok (.return_, 1) := by decide +kernel
theorem dX6_stands_0 : decode cX6_stands 0 = .ok (.iload_n 1, 1) := by decide +kernel
theorem dX6_stands_1 : decode cX6_stands 1 = .ok (.ifCond .lt 30, 3) := by decide +kernel
theorem dX6_stands_4 : decode cX6_stands 4 = .ok (.iload_n 1, 1) := by decide +kernel
theorem dX6_stands_5 : decode cX6_stands 5 = .ok (.aload_n 0, 1) := by decide +kernel
theorem dX6_stands_6 : decode cX6_stands 6 = .ok (.getfield 51, 3) := by decide +kernel
theorem dX6_stands_9 : decode cX6_stands 9 = .ok (.getfield 69, 3) := by decide +kernel
theorem dX6_stands_12 : decode cX6_stands 12 = .ok (.if_icmp .ge 19, 3) := by decide +kernel
theorem dX6_stands_15 : decode cX6_stands 15 = .ok (.aload_n 0, 1) := by decide +kernel
theorem dX6_stands_16 : decode cX6_stands 16 = .ok (.getfield 35, 3) := by decide +kernel
theorem dX6_stands_19 : decode cX6_stands 19 = .ok (.iload_n 1, 1) := by decide +kernel
theorem dX6_stands_20 : decode cX6_stands 20 = .ok (.ishr, 1) := by decide +kernel
theorem dX6_stands_21 : decode cX6_stands 21 = .ok (.iconst 1, 1) := by decide +kernel
theorem dX6_stands_22 : decode cX6_stands 22 = .ok (.iand, 1) := by decide +kernel
theorem dX6_stands_23 : decode cX6_stands 23 = .ok (.iconst 1, 1) := by decide +kernel
theorem dX6_stands_24 : decode cX6_stands 24 = .ok (.if_icmp .ne 7, 3) := by decide +kernel
theorem dX6_stands_27 : decode cX6_stands 27 = .ok (.iconst 1, 1) := by decide +kernel
theorem dX6_stands_28 : decode cX6_stands 28 = .ok (.goto 4, 3) := by decide +kernel
theorem dX6_stands_31 : decode cX6_stands 31 = .ok (.iconst 0, 1) := by decide +kernel
theorem dX6_stands_32 : decode cX6_stands 32 = .ok (.ireturn, 1) := by decide +kernel
theorem dX6_pressWith_0 : decode cX6_pressWith 0 = .ok (.aload_n 0, 1) := by decide +kernel
theorem dX6_pressWith_1 : decode cX6_pressWith 1 = .ok (.getfield 14, 3) := by decide +kernel
theorem dX6_pressWith_4 : decode cX6_pressWith 4 = .ok (.iconst 2, 1) := by decide +kernel
theorem dX6_pressWith_5 : decode cX6_pressWith 5 = .ok (.iload_n 1, 1) := by decide +kernel
theorem dX6_pressWith_6 : decode cX6_pressWith 6 = .ok (.imul, 1) := by decide +kernel
theorem dX6_pressWith_7 : decode cX6_pressWith 7 = .ok (.invokevirtual 90, 3) := by decide +kernel
theorem dX6_pressWith_10 : decode cX6_pressWith 10 = .ok (.iload_n 2, 1) := by decide +kernel
theorem dX6_pressWith_11 : decode cX6_pressWith 11 = .ok (.iadd, 1) := by decide +kernel
theorem dX6_pressWith_12 : decode cX6_pressWith 12 = .ok (.istore 4, 2) := by decide +kernel
theorem dX6_pressWith_14 : decode cX6_pressWith 14 = .ok (.aload_n 0, 1) := by decide +kernel
theorem dX6_pressWith_15 : decode cX6_pressWith 15 = .ok (.getfield 14, 3) := by decide +kernel
theorem dX6_pressWith_18 : decode cX6_pressWith 18 = .ok (.iconst 2, 1) := by decide +kernel
theorem dX6_pressWith_19 : decode cX6_pressWith 19 = .ok (.iload_n 1, 1) := by decide +kernel
theorem dX6_pressWith_20 : decode cX6_pressWith 20 = .ok (.imul, 1) := by decide +kernel
theorem dX6_pressWith_21 : decode cX6_pressWith 21 = .ok (.iconst 1, 1) := by decide +kernel
theorem dX6_pressWith_22 : decode cX6_pressWith 22 = .ok (.iadd, 1) := by decide +kernel
theorem dX6_pressWith_23 : decode cX6_pressWith 23 = .ok (.invokevirtual 90, 3) := by decide +kernel
theorem dX6_pressWith_26 : decode cX6_pressWith 26 = .ok (.iload_n 3, 1) := by decide +kernel
theorem dX6_pressWith_27 : decode cX6_pressWith 27 = .ok (.iadd, 1) := by decide +kernel
theorem dX6_pressWith_28 : decode cX6_pressWith 28 = .ok (.istore 5, 2) := by decide +kernel
theorem dX6_pressWith_30 : decode cX6_pressWith 30 = .ok (.iload 4, 2) := by decide +kernel
theorem dX6_pressWith_32 : decode cX6_pressWith 32 = .ok (.iload 5, 2) := by decide +kernel
theorem dX6_pressWith_34 : decode cX6_pressWith 34 = .ok (.iadd, 1) := by decide +kernel
theorem dX6_pressWith_35 : decode cX6_pressWith 35 = .ok (.aload_n 0, 1) := by decide +kernel
theorem dX6_pressWith_36 : decode cX6_pressWith 36 = .ok (.getfield 51, 3) := by decide +kernel
theorem dX6_pressWith_39 : decode cX6_pressWith 39 = .ok (.getfield 93, 3) := by decide +kernel
theorem dX6_pressWith_42 : decode cX6_pressWith 42 = .ok (.iload_n 1, 1) := by decide +kernel
theorem dX6_pressWith_43 : decode cX6_pressWith 43 = .ok (.invokevirtual 90, 3) := by decide +kernel
theorem dX6_pressWith_46 : decode cX6_pressWith 46 = .ok (.iload 4, 2) := by decide +kernel
theorem dX6_pressWith_48 : decode cX6_pressWith 48 = .ok (.iload 5, 2) := by decide +kernel
theorem dX6_pressWith_50 : decode cX6_pressWith 50 = .ok (.isub, 1) := by decide +kernel
theorem dX6_pressWith_51 : decode cX6_pressWith 51 = .ok (.invokestatic 96, 3) := by decide +kernel
theorem dX6_pressWith_54 : decode cX6_pressWith 54 = .ok (.imul, 1) := by decide +kernel
theorem dX6_pressWith_55 : decode cX6_pressWith 55 = .ok (.bipush 10, 2) := by decide +kernel
theorem dX6_pressWith_57 : decode cX6_pressWith 57 = .ok (.idiv, 1) := by decide +kernel
theorem dX6_pressWith_58 : decode cX6_pressWith 58 = .ok (.iadd, 1) := by decide +kernel
theorem dX6_pressWith_59 : decode cX6_pressWith 59 = .ok (.ireturn, 1) := by decide +kernel
theorem dX6_propped_0 : decode cX6_propped 0 = .ok (.iconst 0, 1) := by decide +kernel
theorem dX6_propped_1 : decode cX6_propped 1 = .ok (.istore_n 2, 1) := by decide +kernel
theorem dX6_propped_2 : decode cX6_propped 2 = .ok (.iconst 0, 1) := by decide +kernel
theorem dX6_propped_3 : decode cX6_propped 3 = .ok (.istore_n 3, 1) := by decide +kernel
theorem dX6_propped_4 : decode cX6_propped 4 = .ok (.iload_n 3, 1) := by decide +kernel
theorem dX6_propped_5 : decode cX6_propped 5 = .ok (.aload_n 0, 1) := by decide +kernel
theorem dX6_propped_6 : decode cX6_propped 6 = .ok (.getfield 26, 3) := by decide +kernel
theorem dX6_propped_9 : decode cX6_propped 9 = .ok (.iload_n 1, 1) := by decide +kernel
theorem dX6_propped_10 : decode cX6_propped 10 = .ok (.invokevirtual 90, 3) := by decide +kernel
theorem dX6_propped_13 : decode cX6_propped 13 = .ok (.if_icmp .ge 32, 3) := by decide +kernel
theorem dX6_propped_16 : decode cX6_propped 16 = .ok (.iload_n 3, 1) := by decide +kernel
theorem dX6_propped_17 : decode cX6_propped 17 = .ok (.iconst 3, 1) := by decide +kernel
theorem dX6_propped_18 : decode cX6_propped 18 = .ok (.if_icmp .ge 27, 3) := by decide +kernel
theorem dX6_propped_21 : decode cX6_propped 21 = .ok (.aload_n 0, 1) := by decide +kernel
theorem dX6_propped_22 : decode cX6_propped 22 = .ok (.getfield 29, 3) := by decide +kernel
theorem dX6_propped_25 : decode cX6_propped 25 = .ok (.iload_n 1, 1) := by decide +kernel
theorem dX6_propped_26 : decode cX6_propped 26 = .ok (.iconst 3, 1) := by decide +kernel
theorem dX6_propped_27 : decode cX6_propped 27 = .ok (.imul, 1) := by decide +kernel
theorem dX6_propped_28 : decode cX6_propped 28 = .ok (.iload_n 3, 1) := by decide +kernel
theorem dX6_propped_29 : decode cX6_propped 29 = .ok (.iadd, 1) := by decide +kernel
theorem dX6_propped_30 : decode cX6_propped 30 = .ok (.invokevirtual 90, 3) := by decide +kernel
theorem dX6_propped_33 : decode cX6_propped 33 = .ok (.ifCond .ne 6, 3) := by decide +kernel
theorem dX6_propped_36 : decode cX6_propped 36 = .ok (.iinc 2 1, 3) := by decide +kernel
theorem dX6_propped_39 : decode cX6_propped 39 = .ok (.iinc 3 1, 3) := by decide +kernel
theorem dX6_propped_42 : decode cX6_propped 42 = .ok (.goto (-38), 3) := by decide +kernel
theorem dX6_propped_45 : decode cX6_propped 45 = .ok (.iload_n 2, 1) := by decide +kernel
theorem dX6_propped_46 : decode cX6_propped 46 = .ok (.aload_n 0, 1) := by decide +kernel
theorem dX6_propped_47 : decode cX6_propped 47 = .ok (.getfield 51, 3) := by decide +kernel
theorem dX6_propped_50 : decode cX6_propped 50 = .ok (.getfield 101, 3) := by decide +kernel
theorem dX6_propped_53 : decode cX6_propped 53 = .ok (.imul, 1) := by decide +kernel
theorem dX6_propped_54 : decode cX6_propped 54 = .ok (.ireturn, 1) := by decide +kernel
theorem dX6_loadWith_0 : decode cX6_loadWith 0 = .ok (.aload_n 0, 1) := by decide +kernel
theorem dX6_loadWith_1 : decode cX6_loadWith 1 = .ok (.iload_n 1, 1) := by decide +kernel
theorem dX6_loadWith_2 : decode cX6_loadWith 2 = .ok (.iload_n 2, 1) := by decide +kernel
theorem dX6_loadWith_3 : decode cX6_loadWith 3 = .ok (.iload_n 3, 1) := by decide +kernel
theorem dX6_loadWith_4 : decode cX6_loadWith 4 = .ok (.invokevirtual 104, 3) := by decide +kernel
theorem dX6_loadWith_7 : decode cX6_loadWith 7 = .ok (.aload_n 0, 1) := by decide +kernel
theorem dX6_loadWith_8 : decode cX6_loadWith 8 = .ok (.iload_n 1, 1) := by decide +kernel
theorem dX6_loadWith_9 : decode cX6_loadWith 9 = .ok (.invokevirtual 108, 3) := by decide +kernel
theorem dX6_loadWith_12 : decode cX6_loadWith 12 = .ok (.isub, 1) := by decide +kernel
theorem dX6_loadWith_13 : decode cX6_loadWith 13 = .ok (.ireturn, 1) := by decide +kernel
theorem dX6_load_0 : decode cX6_load 0 = .ok (.aload_n 0, 1) := by decide +kernel
theorem dX6_load_1 : decode cX6_load 1 = .ok (.iload_n 1, 1) := by decide +kernel
theorem dX6_load_2 : decode cX6_load 2 = .ok (.iconst 0, 1) := by decide +kernel
theorem dX6_load_3 : decode cX6_load 3 = .ok (.iconst 0, 1) := by decide +kernel
theorem dX6_load_4 : decode cX6_load 4 = .ok (.invokevirtual 104, 3) := by decide +kernel
theorem dX6_load_7 : decode cX6_load 7 = .ok (.aload_n 0, 1) := by decide +kernel
theorem dX6_load_8 : decode cX6_load 8 = .ok (.iload_n 1, 1) := by decide +kernel
theorem dX6_load_9 : decode cX6_load 9 = .ok (.invokevirtual 108, 3) := by decide +kernel
theorem dX6_load_12 : decode cX6_load 12 = .ok (.isub, 1) := by decide +kernel
theorem dX6_load_13 : decode cX6_load 13 = .ok (.ireturn, 1) := by decide +kernel
theorem dX6_chances_0 : decode cX6_chances 0 = .ok (.aload_n 0, 1) := by decide +kernel
theorem dX6_chances_1 : decode cX6_chances 1 = .ok (.getfield 51, 3) := by decide +kernel
theorem dX6_chances_4 : decode cX6_chances 4 = .ok (.iload_n 1, 1) := by decide +kernel
theorem dX6_chances_5 : decode cX6_chances 5 = .ok (.aload_n 0, 1) := by decide +kernel
theorem dX6_chances_6 : decode cX6_chances 6 = .ok (.getfield 20, 3) := by decide +kernel
theorem dX6_chances_9 : decode cX6_chances 9 = .ok (.iload_n 1, 1) := by decide +kernel
theorem dX6_chances_10 : decode cX6_chances 10 = .ok (.invokevirtual 90, 3) := by decide +kernel
theorem dX6_chances_13 : decode cX6_chances 13 = .ok (.invokevirtual 111, 3) := by decide +kernel
theorem dX6_chances_16 : decode cX6_chances 16 = .ok (.ireturn, 1) := by decide +kernel
theorem dX6_chanceOf_0 : decode cX6_chanceOf 0 = .ok (.aload_n 0, 1) := by decide +kernel
theorem dX6_chanceOf_1 : decode cX6_chanceOf 1 = .ok (.getfield 51, 3) := by decide +kernel
theorem dX6_chanceOf_4 : decode cX6_chanceOf 4 = .ok (.iload_n 1, 1) := by decide +kernel
theorem dX6_chanceOf_5 : decode cX6_chanceOf 5 = .ok (.aload_n 0, 1) := by decide +kernel
theorem dX6_chanceOf_6 : decode cX6_chanceOf 6 = .ok (.getfield 20, 3) := by decide +kernel
theorem dX6_chanceOf_9 : decode cX6_chanceOf 9 = .ok (.iload_n 1, 1) := by decide +kernel
theorem dX6_chanceOf_10 : decode cX6_chanceOf 10 = .ok (.invokevirtual 90, 3) := by decide +kernel
theorem dX6_chanceOf_13 : decode cX6_chanceOf 13 = .ok (.iconst 1, 1) := by decide +kernel
theorem dX6_chanceOf_14 : decode cX6_chanceOf 14 = .ok (.iload_n 2, 1) := by decide +kernel
theorem dX6_chanceOf_15 : decode cX6_chanceOf 15 = .ok (.ishl, 1) := by decide +kernel
theorem dX6_chanceOf_16 : decode cX6_chanceOf 16 = .ok (.iand, 1) := by decide +kernel
theorem dX6_chanceOf_17 : decode cX6_chanceOf 17 = .ok (.invokevirtual 111, 3) := by decide +kernel
theorem dX6_chanceOf_20 : decode cX6_chanceOf 20 = .ok (.ireturn, 1) := by decide +kernel
theorem dX6_staysBelow_0 : decode cX6_staysBelow 0 = .ok (.iconst 0, 1) := by decide +kernel
theorem dX6_staysBelow_1 : decode cX6_staysBelow 1 = .ok (.istore_n 3, 1) := by decide +kernel
theorem dX6_staysBelow_2 : decode cX6_staysBelow 2 = .ok (.iconst 0, 1) := by decide +kernel
theorem dX6_staysBelow_3 : decode cX6_staysBelow 3 = .ok (.istore 4, 2) := by decide +kernel
theorem dX6_staysBelow_5 : decode cX6_staysBelow 5 = .ok (.iload 4, 2) := by decide +kernel
theorem dX6_staysBelow_7 : decode cX6_staysBelow 7 = .ok (.iconst 4, 1) := by decide +kernel
theorem dX6_staysBelow_8 : decode cX6_staysBelow 8 = .ok (.if_icmp .ge 36, 3) := by decide +kernel
theorem dX6_staysBelow_11 : decode cX6_staysBelow 11 = .ok (.aload_n 0, 1) := by decide +kernel
theorem dX6_staysBelow_12 : decode cX6_staysBelow 12 = .ok (.getfield 51, 3) := by decide +kernel
theorem dX6_staysBelow_15 : decode cX6_staysBelow 15 = .ok (.getfield 115, 3) := by decide +kernel
theorem dX6_staysBelow_18 : decode cX6_staysBelow 18 = .ok (.iload_n 1, 1) := by decide +kernel
theorem dX6_staysBelow_19 : decode cX6_staysBelow 19 = .ok (.iconst 4, 1) := by decide +kernel
theorem dX6_staysBelow_20 : decode cX6_staysBelow 20 = .ok (.imul, 1) := by decide +kernel
theorem dX6_staysBelow_21 : decode cX6_staysBelow 21 = .ok (.iload 4, 2) := by decide +kernel
theorem dX6_staysBelow_23 : decode cX6_staysBelow 23 = .ok (.iadd, 1) := by decide +kernel
theorem dX6_staysBelow_24 : decode cX6_staysBelow 24 = .ok (.invokevirtual 90, 3) := by decide +kernel
theorem dX6_staysBelow_27 : decode cX6_staysBelow 27 = .ok (.iload_n 2, 1) := by decide +kernel
theorem dX6_staysBelow_28 : decode cX6_staysBelow 28 = .ok (.if_icmp .ge 10, 3) := by decide +kernel
theorem dX6_staysBelow_31 : decode cX6_staysBelow 31 = .ok (.iload_n 3, 1) := by decide +kernel
theorem dX6_staysBelow_32 : decode cX6_staysBelow 32 = .ok (.iconst 1, 1) := by decide +kernel
theorem dX6_staysBelow_33 : decode cX6_staysBelow 33 = .ok (.iload 4, 2) := by decide +kernel
theorem dX6_staysBelow_35 : decode cX6_staysBelow 35 = .ok (.ishl, 1) := by decide +kernel
theorem dX6_staysBelow_36 : decode cX6_staysBelow 36 = .ok (.ior, 1) := by decide +kernel
theorem dX6_staysBelow_37 : decode cX6_staysBelow 37 = .ok (.istore_n 3, 1) := by decide +kernel
theorem dX6_staysBelow_38 : decode cX6_staysBelow 38 = .ok (.iinc 4 1, 3) := by decide +kernel
theorem dX6_staysBelow_41 : decode cX6_staysBelow 41 = .ok (.goto (-36), 3) := by decide +kernel
theorem dX6_staysBelow_44 : decode cX6_staysBelow 44 = .ok (.aload_n 0, 1) := by decide +kernel
theorem dX6_staysBelow_45 : decode cX6_staysBelow 45 = .ok (.getfield 20, 3) := by decide +kernel
theorem dX6_staysBelow_48 : decode cX6_staysBelow 48 = .ok (.iload_n 1, 1) := by decide +kernel
theorem dX6_staysBelow_49 : decode cX6_staysBelow 49 = .ok (.invokevirtual 90, 3) := by decide +kernel
theorem dX6_staysBelow_52 : decode cX6_staysBelow 52 = .ok (.iload_n 3, 1) := by decide +kernel
theorem dX6_staysBelow_53 : decode cX6_staysBelow 53 = .ok (.iand, 1) := by decide +kernel
theorem dX6_staysBelow_54 : decode cX6_staysBelow 54 = .ok (.ireturn, 1) := by decide +kernel
theorem dX6_staysFrom_0 : decode cX6_staysFrom 0 = .ok (.aload_n 0, 1) := by decide +kernel
theorem dX6_staysFrom_1 : decode cX6_staysFrom 1 = .ok (.getfield 20, 3) := by decide +kernel
theorem dX6_staysFrom_4 : decode cX6_staysFrom 4 = .ok (.iload_n 1, 1) := by decide +kernel
theorem dX6_staysFrom_5 : decode cX6_staysFrom 5 = .ok (.invokevirtual 90, 3) := by decide +kernel
theorem dX6_staysFrom_8 : decode cX6_staysFrom 8 = .ok (.aload_n 0, 1) := by decide +kernel
theorem dX6_staysFrom_9 : decode cX6_staysFrom 9 = .ok (.iload_n 1, 1) := by decide +kernel
theorem dX6_staysFrom_10 : decode cX6_staysFrom 10 = .ok (.iload_n 2, 1) := by decide +kernel
theorem dX6_staysFrom_11 : decode cX6_staysFrom 11 = .ok (.invokevirtual 118, 3) := by decide +kernel
theorem dX6_staysFrom_14 : decode cX6_staysFrom 14 = .ok (.iconst (-1), 1) := by decide +kernel
theorem dX6_staysFrom_15 : decode cX6_staysFrom 15 = .ok (.ixor, 1) := by decide +kernel
theorem dX6_staysFrom_16 : decode cX6_staysFrom 16 = .ok (.iand, 1) := by decide +kernel
theorem dX6_staysFrom_17 : decode cX6_staysFrom 17 = .ok (.ireturn, 1) := by decide +kernel
theorem dX6_chancesBelow_0 : decode cX6_chancesBelow 0 = .ok (.aload_n 0, 1) := by decide +kernel
theorem dX6_chancesBelow_1 : decode cX6_chancesBelow 1 = .ok (.getfield 51, 3) := by decide +kernel
theorem dX6_chancesBelow_4 : decode cX6_chancesBelow 4 = .ok (.iload_n 1, 1) := by decide +kernel
theorem dX6_chancesBelow_5 : decode cX6_chancesBelow 5 = .ok (.aload_n 0, 1) := by decide +kernel
theorem dX6_chancesBelow_6 : decode cX6_chancesBelow 6 = .ok (.iload_n 1, 1) := by decide +kernel
theorem dX6_chancesBelow_7 : decode cX6_chancesBelow 7 = .ok (.iload_n 2, 1) := by decide +kernel
theorem dX6_chancesBelow_8 : decode cX6_chancesBelow 8 = .ok (.invokevirtual 118, 3) := by decide +kernel
theorem dX6_chancesBelow_11 : decode cX6_chancesBelow 11 = .ok (.invokevirtual 111, 3) := by decide +kernel
theorem dX6_chancesBelow_14 : decode cX6_chancesBelow 14 = .ok (.ireturn, 1) := by decide +kernel
theorem dX6_bearingAt_0 : decode cX6_bearingAt 0 = .ok (.iconst 0, 1) := by decide +kernel
theorem dX6_bearingAt_1 : decode cX6_bearingAt 1 = .ok (.istore_n 3, 1) := by decide +kernel
theorem dX6_bearingAt_2 : decode cX6_bearingAt 2 = .ok (.iconst 0, 1) := by decide +kernel
theorem dX6_bearingAt_3 : decode cX6_bearingAt 3 = .ok (.istore 4, 2) := by decide +kernel
theorem dX6_bearingAt_5 : decode cX6_bearingAt 5 = .ok (.iload 4, 2) := by decide +kernel
theorem dX6_bearingAt_7 : decode cX6_bearingAt 7 = .ok (.iconst 4, 1) := by decide +kernel
theorem dX6_bearingAt_8 : decode cX6_bearingAt 8 = .ok (.if_icmp .ge 41, 3) := by decide +kernel
theorem dX6_bearingAt_11 : decode cX6_bearingAt 11 = .ok (.iload_n 3, 1) := by decide +kernel
theorem dX6_bearingAt_12 : decode cX6_bearingAt 12 = .ok (.aload_n 0, 1) := by decide +kernel
theorem dX6_bearingAt_13 : decode cX6_bearingAt 13 = .ok (.iload_n 1, 1) := by decide +kernel
theorem dX6_bearingAt_14 : decode cX6_bearingAt 14 = .ok (.iload 4, 2) := by decide +kernel
theorem dX6_bearingAt_16 : decode cX6_bearingAt 16 = .ok (.invokevirtual 121, 3) := by decide +kernel
theorem dX6_bearingAt_19 : decode cX6_bearingAt 19 = .ok (.iadd, 1) := by decide +kernel
theorem dX6_bearingAt_20 : decode cX6_bearingAt 20 = .ok (.istore_n 3, 1) := by decide +kernel
theorem dX6_bearingAt_21 : decode cX6_bearingAt 21 = .ok (.iload_n 2, 1) := by decide +kernel
theorem dX6_bearingAt_22 : decode cX6_bearingAt 22 = .ok (.iload_n 3, 1) := by decide +kernel
theorem dX6_bearingAt_23 : decode cX6_bearingAt 23 = .ok (.if_icmp .ge 20, 3) := by decide +kernel
theorem dX6_bearingAt_26 : decode cX6_bearingAt 26 = .ok (.aload_n 0, 1) := by decide +kernel
theorem dX6_bearingAt_27 : decode cX6_bearingAt 27 = .ok (.getfield 51, 3) := by decide +kernel
theorem dX6_bearingAt_30 : decode cX6_bearingAt 30 = .ok (.getfield 115, 3) := by decide +kernel
theorem dX6_bearingAt_33 : decode cX6_bearingAt 33 = .ok (.iload_n 1, 1) := by decide +kernel
theorem dX6_bearingAt_34 : decode cX6_bearingAt 34 = .ok (.iconst 4, 1) := by decide +kernel
theorem dX6_bearingAt_35 : decode cX6_bearingAt 35 = .ok (.imul, 1) := by decide +kernel
theorem dX6_bearingAt_36 : decode cX6_bearingAt 36 = .ok (.iload 4, 2) := by decide +kernel
theorem dX6_bearingAt_38 : decode cX6_bearingAt 38 = .ok (.iadd, 1) := by decide +kernel
theorem dX6_bearingAt_39 : decode cX6_bearingAt 39 = .ok (.invokevirtual 90, 3) := by decide +kernel
theorem dX6_bearingAt_42 : decode cX6_bearingAt 42 = .ok (.ireturn, 1) := by decide +kernel
theorem dX6_bearingAt_43 : decode cX6_bearingAt 43 = .ok (.iinc 4 1, 3) := by decide +kernel
theorem dX6_bearingAt_46 : decode cX6_bearingAt 46 = .ok (.goto (-41), 3) := by decide +kernel
theorem dX6_bearingAt_49 : decode cX6_bearingAt 49 = .ok (.iconst 0, 1) := by decide +kernel
theorem dX6_bearingAt_50 : decode cX6_bearingAt 50 = .ok (.ireturn, 1) := by decide +kernel
theorem dX6_passHour_0 : decode cX6_passHour 0 = .ok (.iconst 0, 1) := by decide +kernel
theorem dX6_passHour_1 : decode cX6_passHour 1 = .ok (.istore 4, 2) := by decide +kernel
theorem dX6_passHour_3 : decode cX6_passHour 3 = .ok (.iload 4, 2) := by decide +kernel
theorem dX6_passHour_5 : decode cX6_passHour 5 = .ok (.iload_n 3, 1) := by decide +kernel
theorem dX6_passHour_6 : decode cX6_passHour 6 = .ok (.if_icmp .ge 19, 3) := by decide +kernel
theorem dX6_passHour_9 : decode cX6_passHour 9 = .ok (.aload_n 0, 1) := by decide +kernel
theorem dX6_passHour_10 : decode cX6_passHour 10 = .ok (.aload_n 0, 1) := by decide +kernel
theorem dX6_passHour_11 : decode cX6_passHour 11 = .ok (.iload_n 1, 1) := by decide +kernel
theorem dX6_passHour_12 : decode cX6_passHour 12 = .ok (.iload_n 2, 1) := by decide +kernel
theorem dX6_passHour_13 : decode cX6_passHour 13 = .ok (.invokestatic 124, 3) := by decide +kernel
theorem dX6_passHour_16 : decode cX6_passHour 16 = .ok (.invokevirtual 130, 3) := by decide +kernel
theorem dX6_passHour_19 : decode cX6_passHour 19 = .ok (.iinc 4 1, 3) := by decide +kernel
theorem dX6_passHour_22 : decode cX6_passHour 22 = .ok (.goto (-19), 3) := by decide +kernel
theorem dX6_passHour_25 : decode cX6_passHour 25 = .ok (.aload_n 0, 1) := by decide +kernel
theorem dX6_passHour_26 : decode cX6_passHour 26 = .ok (.iload_n 2, 1) := by decide +kernel
theorem dX6_passHour_27 : decode cX6_passHour 27 = .ok (.invokevirtual 133, 3) := by decide +kernel
theorem dX6_passHour_30 : decode cX6_passHour 30 = .ok (.return_, 1) := by decide +kernel
theorem dX6_passHourAt_0 : decode cX6_passHourAt 0 = .ok (.iconst 0, 1) := by decide +kernel
theorem dX6_passHourAt_1 : decode cX6_passHourAt 1 = .ok (.istore 4, 2) := by decide +kernel
theorem dX6_passHourAt_3 : decode cX6_passHourAt 3 = .ok (.iload 4, 2) := by decide +kernel
theorem dX6_passHourAt_5 : decode cX6_passHourAt 5 = .ok (.iload_n 3, 1) := by decide +kernel
theorem dX6_passHourAt_6 : decode cX6_passHourAt 6 = .ok (.if_icmp .ge 14, 3) := by decide +kernel
theorem dX6_passHourAt_9 : decode cX6_passHourAt 9 = .ok (.aload_n 0, 1) := by decide +kernel
theorem dX6_passHourAt_10 : decode cX6_passHourAt 10 = .ok (.iload_n 1, 1) := by decide +kernel
theorem dX6_passHourAt_11 : decode cX6_passHourAt 11 = .ok (.invokevirtual 130, 3) := by decide +kernel
theorem dX6_passHourAt_14 : decode cX6_passHourAt 14 = .ok (.iinc 4 1, 3) := by decide +kernel
theorem dX6_passHourAt_17 : decode cX6_passHourAt 17 = .ok (.goto (-14), 3) := by decide +kernel
theorem dX6_passHourAt_20 : decode cX6_passHourAt 20 = .ok (.aload_n 0, 1) := by decide +kernel
theorem dX6_passHourAt_21 : decode cX6_passHourAt 21 = .ok (.iload_n 2, 1) := by decide +kernel
theorem dX6_passHourAt_22 : decode cX6_passHourAt 22 = .ok (.invokevirtual 133, 3) := by decide +kernel
theorem dX6_passHourAt_25 : decode cX6_passHourAt 25 = .ok (.return_, 1) := by decide +kernel
theorem dX6_passWeather_0 : decode cX6_passWeather 0 = .ok (.aload_n 0, 1) := by decide +kernel
theorem dX6_passWeather_1 : decode cX6_passWeather 1 = .ok (.iload_n 1, 1) := by decide +kernel
theorem dX6_passWeather_2 : decode cX6_passWeather 2 = .ok (.invokevirtual 136, 3) := by decide +kernel
theorem dX6_passWeather_5 : decode cX6_passWeather 5 = .ok (.aload_n 0, 1) := by decide +kernel
theorem dX6_passWeather_6 : decode cX6_passWeather 6 = .ok (.invokevirtual 139, 3) := by decide +kernel
theorem dX6_passWeather_9 : decode cX6_passWeather 9 = .ok (.aload_n 0, 1) := by decide +kernel
theorem dX6_passWeather_10 : decode cX6_passWeather 10 = .ok (.invokevirtual 142, 3) := by decide +kernel
theorem dX6_passWeather_13 : decode cX6_passWeather 13 = .ok (.aload_n 0, 1) := by decide +kernel
theorem dX6_passWeather_14 : decode cX6_passWeather 14 = .ok (.dup, 1) := by decide +kernel
theorem dX6_passWeather_15 : decode cX6_passWeather 15 = .ok (.getfield 42, 3) := by decide +kernel
theorem dX6_passWeather_18 : decode cX6_passWeather 18 = .ok (.iconst 1, 1) := by decide +kernel
theorem dX6_passWeather_19 : decode cX6_passWeather 19 = .ok (.iadd, 1) := by decide +kernel
theorem dX6_passWeather_20 : decode cX6_passWeather 20 = .ok (.putfield 42, 3) := by decide +kernel
theorem dX6_passWeather_23 : decode cX6_passWeather 23 = .ok (.aload_n 0, 1) := by decide +kernel
theorem dX6_passWeather_24 : decode cX6_passWeather 24 = .ok (.iload_n 1, 1) := by decide +kernel
theorem dX6_passWeather_25 : decode cX6_passWeather 25 = .ok (.putfield 45, 3) := by decide +kernel
theorem dX6_passWeather_28 : decode cX6_passWeather 28 = .ok (.iconst 0, 1) := by decide +kernel
theorem dX6_passWeather_29 : decode cX6_passWeather 29 = .ok (.istore_n 2, 1) := by decide +kernel
theorem dX6_passWeather_30 : decode cX6_passWeather 30 = .ok (.iload_n 2, 1) := by decide +kernel
theorem dX6_passWeather_31 : decode cX6_passWeather 31 = .ok (.aload_n 0, 1) := by decide +kernel
theorem dX6_passWeather_32 : decode cX6_passWeather 32 = .ok (.getfield 51, 3) := by decide +kernel
theorem dX6_passWeather_35 : decode cX6_passWeather 35 = .ok (.getfield 69, 3) := by decide +kernel
theorem dX6_passWeather_38 : decode cX6_passWeather 38 = .ok (.if_icmp .ge 33, 3) := by decide +kernel
theorem dX6_passWeather_41 : decode cX6_passWeather 41 = .ok (.aload_n 0, 1) := by decide +kernel
theorem dX6_passWeather_42 : decode cX6_passWeather 42 = .ok (.getfield 32, 3) := by decide +kernel
theorem dX6_passWeather_45 : decode cX6_passWeather 45 = .ok (.iload_n 2, 1) := by decide +kernel
theorem dX6_passWeather_46 : decode cX6_passWeather 46 = .ok (.aload_n 0, 1) := by decide +kernel
theorem dX6_passWeather_47 : decode cX6_passWeather 47 = .ok (.getfield 32, 3) := by decide +kernel
theorem dX6_passWeather_50 : decode cX6_passWeather 50 = .ok (.iload_n 2, 1) := by decide +kernel
theorem dX6_passWeather_51 : decode cX6_passWeather 51 = .ok (.invokevirtual 90, 3) := by decide +kernel
theorem dX6_passWeather_54 : decode cX6_passWeather 54 = .ok (.aload_n 0, 1) := by decide +kernel
theorem dX6_passWeather_55 : decode cX6_passWeather 55 = .ok (.iload_n 2, 1) := by decide +kernel
theorem dX6_passWeather_56 : decode cX6_passWeather 56 = .ok (.invokevirtual 145, 3) := by decide +kernel
theorem dX6_passWeather_59 : decode cX6_passWeather 59 = .ok (.invokestatic 148, 3) := by decide +kernel
theorem dX6_passWeather_62 : decode cX6_passWeather 62 = .ok (.invokevirtual 79, 3) := by decide +kernel
theorem dX6_passWeather_65 : decode cX6_passWeather 65 = .ok (.iinc 2 1, 3) := by decide +kernel
theorem dX6_passWeather_68 : decode cX6_passWeather 68 = .ok (.goto (-38), 3) := by decide +kernel
theorem dX6_passWeather_71 : decode cX6_passWeather 71 = .ok (.return_, 1) := by decide +kernel
theorem dX6_clearAt_0 : decode cX6_clearAt 0 = .ok (.aload_n 0, 1) := by decide +kernel
theorem dX6_clearAt_1 : decode cX6_clearAt 1 = .ok (.getfield 51, 3) := by decide +kernel
theorem dX6_clearAt_4 : decode cX6_clearAt 4 = .ok (.getfield 151, 3) := by decide +kernel
theorem dX6_clearAt_7 : decode cX6_clearAt 7 = .ok (.aload_n 0, 1) := by decide +kernel
theorem dX6_clearAt_8 : decode cX6_clearAt 8 = .ok (.getfield 14, 3) := by decide +kernel
theorem dX6_clearAt_11 : decode cX6_clearAt 11 = .ok (.iload_n 1, 1) := by decide +kernel
theorem dX6_clearAt_12 : decode cX6_clearAt 12 = .ok (.invokevirtual 90, 3) := by decide +kernel
theorem dX6_clearAt_15 : decode cX6_clearAt 15 = .ok (.invokestatic 154, 3) := by decide +kernel
theorem dX6_clearAt_18 : decode cX6_clearAt 18 = .ok (.istore_n 2, 1) := by decide +kernel
theorem dX6_clearAt_19 : decode cX6_clearAt 19 = .ok (.iload_n 2, 1) := by decide +kernel
theorem dX6_clearAt_20 : decode cX6_clearAt 20 = .ok (.ifCond .gt 4, 3) := by decide +kernel
theorem dX6_clearAt_23 : decode cX6_clearAt 23 = .ok (.return_, 1) := by decide +kernel
theorem dX6_clearAt_24 : decode cX6_clearAt 24 = .ok (.aload_n 0, 1) := by decide +kernel
theorem dX6_clearAt_25 : decode cX6_clearAt 25 = .ok (.getfield 14, 3) := by decide +kernel
theorem dX6_clearAt_28 : decode cX6_clearAt 28 = .ok (.iload_n 1, 1) := by decide +kernel
theorem dX6_clearAt_29 : decode cX6_clearAt 29 = .ok (.iload_n 2, 1) := by decide +kernel
theorem dX6_clearAt_30 : decode cX6_clearAt 30 = .ok (.ineg, 1) := by decide +kernel
theorem dX6_clearAt_31 : decode cX6_clearAt 31 = .ok (.invokevirtual 157, 3) := by decide +kernel
theorem dX6_clearAt_34 : decode cX6_clearAt 34 = .ok (.aload_n 0, 1) := by decide +kernel
theorem dX6_clearAt_35 : decode cX6_clearAt 35 = .ok (.getfield 51, 3) := by decide +kernel
theorem dX6_clearAt_38 : decode cX6_clearAt 38 = .ok (.getfield 160, 3) := by decide +kernel
theorem dX6_clearAt_41 : decode cX6_clearAt 41 = .ok (.iload_n 1, 1) := by decide +kernel
theorem dX6_clearAt_42 : decode cX6_clearAt 42 = .ok (.iconst 2, 1) := by decide +kernel
theorem dX6_clearAt_43 : decode cX6_clearAt 43 = .ok (.idiv, 1) := by decide +kernel
theorem dX6_clearAt_44 : decode cX6_clearAt 44 = .ok (.invokevirtual 90, 3) := by decide +kernel
theorem dX6_clearAt_47 : decode cX6_clearAt 47 = .ok (.istore_n 3, 1) := by decide +kernel
theorem dX6_clearAt_48 : decode cX6_clearAt 48 = .ok (.aload_n 0, 1) := by decide +kernel
theorem dX6_clearAt_49 : decode cX6_clearAt 49 = .ok (.iload_n 3, 1) := by decide +kernel
theorem dX6_clearAt_50 : decode cX6_clearAt 50 = .ok (.invokevirtual 163, 3) := by decide +kernel
theorem dX6_clearAt_53 : decode cX6_clearAt 53 = .ok (.ifCond .eq 14, 3) := by decide +kernel
theorem dX6_clearAt_56 : decode cX6_clearAt 56 = .ok (.aload_n 0, 1) := by decide +kernel
theorem dX6_clearAt_57 : decode cX6_clearAt 57 = .ok (.getfield 14, 3) := by decide +kernel
theorem dX6_clearAt_60 : decode cX6_clearAt 60 = .ok (.iconst 2, 1) := by decide +kernel
theorem dX6_clearAt_61 : decode cX6_clearAt 61 = .ok (.iload_n 3, 1) := by decide +kernel
theorem dX6_clearAt_62 : decode cX6_clearAt 62 = .ok (.imul, 1) := by decide +kernel
theorem dX6_clearAt_63 : decode cX6_clearAt 63 = .ok (.iload_n 2, 1) := by decide +kernel
theorem dX6_clearAt_64 : decode cX6_clearAt 64 = .ok (.invokevirtual 157, 3) := by decide +kernel
theorem dX6_clearAt_67 : decode cX6_clearAt 67 = .ok (.return_, 1) := by decide +kernel
theorem dX6_letFall_0 : decode cX6_letFall 0 = .ok (.iconst 0, 1) := by decide +kernel
theorem dX6_letFall_1 : decode cX6_letFall 1 = .ok (.istore_n 2, 1) := by decide +kernel
theorem dX6_letFall_2 : decode cX6_letFall 2 = .ok (.iload_n 2, 1) := by decide +kernel
theorem dX6_letFall_3 : decode cX6_letFall 3 = .ok (.iconst 2, 1) := by decide +kernel
theorem dX6_letFall_4 : decode cX6_letFall 4 = .ok (.aload_n 0, 1) := by decide +kernel
theorem dX6_letFall_5 : decode cX6_letFall 5 = .ok (.getfield 51, 3) := by decide +kernel
theorem dX6_letFall_8 : decode cX6_letFall 8 = .ok (.getfield 69, 3) := by decide +kernel
theorem dX6_letFall_11 : decode cX6_letFall 11 = .ok (.imul, 1) := by decide +kernel
theorem dX6_letFall_12 : decode cX6_letFall 12 = .ok (.if_icmp .ge 70, 3) := by decide +kernel
theorem dX6_letFall_15 : decode cX6_letFall 15 = .ok (.aload_n 0, 1) := by decide +kernel
theorem dX6_letFall_16 : decode cX6_letFall 16 = .ok (.iload_n 2, 1) := by decide +kernel
theorem dX6_letFall_17 : decode cX6_letFall 17 = .ok (.iconst 2, 1) := by decide +kernel
theorem dX6_letFall_18 : decode cX6_letFall 18 = .ok (.idiv, 1) := by decide +kernel
theorem dX6_letFall_19 : decode cX6_letFall 19 = .ok (.invokevirtual 163, 3) := by decide +kernel
theorem dX6_letFall_22 : decode cX6_letFall 22 = .ok (.ifCond .eq 54, 3) := by decide +kernel
theorem dX6_letFall_25 : decode cX6_letFall 25 = .ok (.aload_n 0, 1) := by decide +kernel
theorem dX6_letFall_26 : decode cX6_letFall 26 = .ok (.getfield 14, 3) := by decide +kernel
theorem dX6_letFall_29 : decode cX6_letFall 29 = .ok (.iload_n 2, 1) := by decide +kernel
theorem dX6_letFall_30 : decode cX6_letFall 30 = .ok (.invokevirtual 90, 3) := by decide +kernel
theorem dX6_letFall_33 : decode cX6_letFall 33 = .ok (.aload_n 0, 1) := by decide +kernel
theorem dX6_letFall_34 : decode cX6_letFall 34 = .ok (.getfield 51, 3) := by decide +kernel
theorem dX6_letFall_37 : decode cX6_letFall 37 = .ok (.getfield 167, 3) := by decide +kernel
theorem dX6_letFall_40 : decode cX6_letFall 40 = .ok (.iload_n 1, 1) := by decide +kernel
theorem dX6_letFall_41 : decode cX6_letFall 41 = .ok (.invokevirtual 90, 3) := by decide +kernel
theorem dX6_letFall_44 : decode cX6_letFall 44 = .ok (.imul, 1) := by decide +kernel
theorem dX6_letFall_45 : decode cX6_letFall 45 = .ok (.bipush 10, 2) := by decide +kernel
theorem dX6_letFall_47 : decode cX6_letFall 47 = .ok (.idiv, 1) := by decide +kernel
theorem dX6_letFall_48 : decode cX6_letFall 48 = .ok (.istore_n 3, 1) := by decide +kernel
theorem dX6_letFall_49 : decode cX6_letFall 49 = .ok (.aload_n 0, 1) := by decide +kernel
theorem dX6_letFall_50 : decode cX6_letFall 50 = .ok (.getfield 14, 3) := by decide +kernel
theorem dX6_letFall_53 : decode cX6_letFall 53 = .ok (.iload_n 2, 1) := by decide +kernel
theorem dX6_letFall_54 : decode cX6_letFall 54 = .ok (.aload_n 0, 1) := by decide +kernel
theorem dX6_letFall_55 : decode cX6_letFall 55 = .ok (.getfield 51, 3) := by decide +kernel
theorem dX6_letFall_58 : decode cX6_letFall 58 = .ok (.getfield 170, 3) := by decide +kernel
theorem dX6_letFall_61 : decode cX6_letFall 61 = .ok (.iconst 2, 1) := by decide +kernel
theorem dX6_letFall_62 : decode cX6_letFall 62 = .ok (.iload_n 1, 1) := by decide +kernel
theorem dX6_letFall_63 : decode cX6_letFall 63 = .ok (.imul, 1) := by decide +kernel
theorem dX6_letFall_64 : decode cX6_letFall 64 = .ok (.iload_n 2, 1) := by decide +kernel
theorem dX6_letFall_65 : decode cX6_letFall 65 = .ok (.iconst 2, 1) := by decide +kernel
theorem dX6_letFall_66 : decode cX6_letFall 66 = .ok (.irem, 1) := by decide +kernel
theorem dX6_letFall_67 : decode cX6_letFall 67 = .ok (.iadd, 1) := by decide +kernel
theorem dX6_letFall_68 : decode cX6_letFall 68 = .ok (.invokevirtual 90, 3) := by decide +kernel
theorem dX6_letFall_71 : decode cX6_letFall 71 = .ok (.iload_n 3, 1) := by decide +kernel
theorem dX6_letFall_72 : decode cX6_letFall 72 = .ok (.iadd, 1) := by decide +kernel
theorem dX6_letFall_73 : decode cX6_letFall 73 = .ok (.invokevirtual 157, 3) := by decide +kernel
theorem dX6_letFall_76 : decode cX6_letFall 76 = .ok (.iinc 2 1, 3) := by decide +kernel
theorem dX6_letFall_79 : decode cX6_letFall 79 = .ok (.goto (-77), 3) := by decide +kernel
theorem dX6_letFall_82 : decode cX6_letFall 82 = .ok (.return_, 1) := by decide +kernel
theorem dX6_slide_0 : decode cX6_slide 0 = .ok (.iconst 0, 1) := by decide +kernel
theorem dX6_slide_1 : decode cX6_slide 1 = .ok (.istore_n 1, 1) := by decide +kernel
theorem dX6_slide_2 : decode cX6_slide 2 = .ok (.iload_n 1, 1) := by decide +kernel
theorem dX6_slide_3 : decode cX6_slide 3 = .ok (.iconst 2, 1) := by decide +kernel
theorem dX6_slide_4 : decode cX6_slide 4 = .ok (.aload_n 0, 1) := by decide +kernel
theorem dX6_slide_5 : decode cX6_slide 5 = .ok (.getfield 51, 3) := by decide +kernel
theorem dX6_slide_8 : decode cX6_slide 8 = .ok (.getfield 69, 3) := by decide +kernel
theorem dX6_slide_11 : decode cX6_slide 11 = .ok (.imul, 1) := by decide +kernel
theorem dX6_slide_12 : decode cX6_slide 12 = .ok (.if_icmp .ge 41, 3) := by decide +kernel
theorem dX6_slide_15 : decode cX6_slide 15 = .ok (.aload_n 0, 1) := by decide +kernel
theorem dX6_slide_16 : decode cX6_slide 16 = .ok (.getfield 14, 3) := by decide +kernel
theorem dX6_slide_19 : decode cX6_slide 19 = .ok (.iload_n 1, 1) := by decide +kernel
theorem dX6_slide_20 : decode cX6_slide 20 = .ok (.aload_n 0, 1) := by decide +kernel
theorem dX6_slide_21 : decode cX6_slide 21 = .ok (.getfield 14, 3) := by decide +kernel
theorem dX6_slide_24 : decode cX6_slide 24 = .ok (.iload_n 1, 1) := by decide +kernel
theorem dX6_slide_25 : decode cX6_slide 25 = .ok (.invokevirtual 90, 3) := by decide +kernel
theorem dX6_slide_28 : decode cX6_slide 28 = .ok (.aload_n 0, 1) := by decide +kernel
theorem dX6_slide_29 : decode cX6_slide 29 = .ok (.getfield 51, 3) := by decide +kernel
theorem dX6_slide_32 : decode cX6_slide 32 = .ok (.getfield 173, 3) := by decide +kernel
theorem dX6_slide_35 : decode cX6_slide 35 = .ok (.iload_n 1, 1) := by decide +kernel
theorem dX6_slide_36 : decode cX6_slide 36 = .ok (.iconst 2, 1) := by decide +kernel
theorem dX6_slide_37 : decode cX6_slide 37 = .ok (.idiv, 1) := by decide +kernel
theorem dX6_slide_38 : decode cX6_slide 38 = .ok (.invokevirtual 90, 3) := by decide +kernel
theorem dX6_slide_41 : decode cX6_slide 41 = .ok (.invokestatic 154, 3) := by decide +kernel
theorem dX6_slide_44 : decode cX6_slide 44 = .ok (.invokevirtual 79, 3) := by decide +kernel
theorem dX6_slide_47 : decode cX6_slide 47 = .ok (.iinc 1 1, 3) := by decide +kernel
theorem dX6_slide_50 : decode cX6_slide 50 = .ok (.goto (-48), 3) := by decide +kernel
theorem dX6_slide_53 : decode cX6_slide 53 = .ok (.return_, 1) := by decide +kernel
theorem dX6_bringPropsNearer_0 : decode cX6_bringPropsNearer 0 = .ok (.iconst 0, 1) := by decide +kernel
theorem dX6_bringPropsNearer_1 : decode cX6_bringPropsNearer 1 = .ok (.istore_n 1, 1) := by decide +kernel
theorem dX6_bringPropsNearer_2 : decode cX6_bringPropsNearer 2 = .ok (.iload_n 1, 1) := by decide +kernel
theorem dX6_bringPropsNearer_3 : decode cX6_bringPropsNearer 3 = .ok (.bipush 24, 2) := by decide +kernel
theorem dX6_bringPropsNearer_5 : decode cX6_bringPropsNearer 5 = .ok (.if_icmp .ge 31, 3) := by decide +kernel
theorem dX6_bringPropsNearer_8 : decode cX6_bringPropsNearer 8 = .ok (.aload_n 0, 1) := by decide +kernel
theorem dX6_bringPropsNearer_9 : decode cX6_bringPropsNearer 9 = .ok (.getfield 29, 3) := by decide +kernel
theorem dX6_bringPropsNearer_12 : decode cX6_bringPropsNearer 12 = .ok (.iload_n 1, 1) := by decide +kernel
theorem dX6_bringPropsNearer_13 : decode cX6_bringPropsNearer 13 = .ok (.aload_n 0, 1) := by decide +kernel
theorem dX6_bringPropsNearer_14 : decode cX6_bringPropsNearer 14 = .ok (.getfield 29, 3) := by decide +kernel
theorem dX6_bringPropsNearer_17 : decode cX6_bringPropsNearer 17 = .ok (.iload_n 1, 1) := by decide +kernel
theorem dX6_bringPropsNearer_18 : decode cX6_bringPropsNearer 18 = .ok (.invokevirtual 90, 3) := by decide +kernel
theorem dX6_bringPropsNearer_21 : decode cX6_bringPropsNearer 21 = .ok (.iconst 1, 1) := by decide +kernel
theorem dX6_bringPropsNearer_22 : decode cX6_bringPropsNearer 22 = .ok (.isub, 1) := by decide +kernel
theorem dX6_bringPropsNearer_23 : decode cX6_bringPropsNearer 23 = .ok (.iconst 0, 1) := by decide +kernel
theorem dX6_bringPropsNearer_24 : decode cX6_bringPropsNearer 24 = .ok (.invokestatic 148, 3) := by decide +kernel
theorem dX6_bringPropsNearer_27 : decode cX6_bringPropsNearer 27 = .ok (.invokevirtual 79, 3) := by decide +kernel
theorem dX6_bringPropsNearer_30 : decode cX6_bringPropsNearer 30 = .ok (.iinc 1 1, 3) := by decide +kernel
theorem dX6_bringPropsNearer_33 : decode cX6_bringPropsNearer 33 = .ok (.goto (-31), 3) := by decide +kernel
theorem dX6_bringPropsNearer_36 : decode cX6_bringPropsNearer 36 = .ok (.return_, 1) := by decide +kernel
theorem dX6_addProp_0 : decode cX6_addProp 0 = .ok (.aload_n 0, 1) := by decide +kernel
theorem dX6_addProp_1 : decode cX6_addProp 1 = .ok (.getfield 26, 3) := by decide +kernel
theorem dX6_addProp_4 : decode cX6_addProp 4 = .ok (.iload_n 1, 1) := by decide +kernel
theorem dX6_addProp_5 : decode cX6_addProp 5 = .ok (.invokevirtual 90, 3) := by decide +kernel
theorem dX6_addProp_8 : decode cX6_addProp 8 = .ok (.istore_n 2, 1) := by decide +kernel
theorem dX6_addProp_9 : decode cX6_addProp 9 = .ok (.iload_n 2, 1) := by decide +kernel
theorem dX6_addProp_10 : decode cX6_addProp 10 = .ok (.iconst 3, 1) := by decide +kernel
theorem dX6_addProp_11 : decode cX6_addProp 11 = .ok (.if_icmp .ge 33, 3) := by decide +kernel
theorem dX6_addProp_14 : decode cX6_addProp 14 = .ok (.aload_n 0, 1) := by decide +kernel
theorem dX6_addProp_15 : decode cX6_addProp 15 = .ok (.getfield 29, 3) := by decide +kernel
theorem dX6_addProp_18 : decode cX6_addProp 18 = .ok (.iload_n 1, 1) := by decide +kernel
theorem dX6_addProp_19 : decode cX6_addProp 19 = .ok (.iconst 3, 1) := by decide +kernel
theorem dX6_addProp_20 : decode cX6_addProp 20 = .ok (.imul, 1) := by decide +kernel
theorem dX6_addProp_21 : decode cX6_addProp 21 = .ok (.iload_n 2, 1) := by decide +kernel
theorem dX6_addProp_22 : decode cX6_addProp 22 = .ok (.iadd, 1) := by decide +kernel
theorem dX6_addProp_23 : decode cX6_addProp 23 = .ok (.aload_n 0, 1) := by decide +kernel
theorem dX6_addProp_24 : decode cX6_addProp 24 = .ok (.getfield 51, 3) := by decide +kernel
theorem dX6_addProp_27 : decode cX6_addProp 27 = .ok (.getfield 176, 3) := by decide +kernel
theorem dX6_addProp_30 : decode cX6_addProp 30 = .ok (.invokevirtual 79, 3) := by decide +kernel
theorem dX6_addProp_33 : decode cX6_addProp 33 = .ok (.aload_n 0, 1) := by decide +kernel
theorem dX6_addProp_34 : decode cX6_addProp 34 = .ok (.getfield 26, 3) := by decide +kernel
theorem dX6_addProp_37 : decode cX6_addProp 37 = .ok (.iload_n 1, 1) := by decide +kernel
theorem dX6_addProp_38 : decode cX6_addProp 38 = .ok (.iload_n 2, 1) := by decide +kernel
theorem dX6_addProp_39 : decode cX6_addProp 39 = .ok (.iconst 1, 1) := by decide +kernel
theorem dX6_addProp_40 : decode cX6_addProp 40 = .ok (.iadd, 1) := by decide +kernel
theorem dX6_addProp_41 : decode cX6_addProp 41 = .ok (.invokevirtual 79, 3) := by decide +kernel
theorem dX6_addProp_44 : decode cX6_addProp 44 = .ok (.return_, 1) := by decide +kernel
theorem dX6_feelAll_0 : decode cX6_feelAll 0 = .ok (.iconst 0, 1) := by decide +kernel
theorem dX6_feelAll_1 : decode cX6_feelAll 1 = .ok (.istore_n 1, 1) := by decide +kernel
theorem dX6_feelAll_2 : decode cX6_feelAll 2 = .ok (.iconst 0, 1) := by decide +kernel
theorem dX6_feelAll_3 : decode cX6_feelAll 3 = .ok (.istore_n 2, 1) := by decide +kernel
theorem dX6_feelAll_4 : decode cX6_feelAll 4 = .ok (.iload_n 2, 1) := by decide +kernel
theorem dX6_feelAll_5 : decode cX6_feelAll 5 = .ok (.aload_n 0, 1) := by decide +kernel
theorem dX6_feelAll_6 : decode cX6_feelAll 6 = .ok (.getfield 51, 3) := by decide +kernel
theorem dX6_feelAll_9 : decode cX6_feelAll 9 = .ok (.getfield 69, 3) := by decide +kernel
theorem dX6_feelAll_12 : decode cX6_feelAll 12 = .ok (.if_icmp .ge 36, 3) := by decide +kernel
theorem dX6_feelAll_15 : decode cX6_feelAll 15 = .ok (.aload_n 0, 1) := by decide +kernel
theorem dX6_feelAll_16 : decode cX6_feelAll 16 = .ok (.iload_n 2, 1) := by decide +kernel
theorem dX6_feelAll_17 : decode cX6_feelAll 17 = .ok (.invokevirtual 163, 3) := by decide +kernel
theorem dX6_feelAll_20 : decode cX6_feelAll 20 = .ok (.ifCond .eq 22, 3) := by decide +kernel
theorem dX6_feelAll_23 : decode cX6_feelAll 23 = .ok (.aload_n 0, 1) := by decide +kernel
theorem dX6_feelAll_24 : decode cX6_feelAll 24 = .ok (.iload_n 2, 1) := by decide +kernel
theorem dX6_feelAll_25 : decode cX6_feelAll 25 = .ok (.invokevirtual 179, 3) := by decide +kernel
theorem dX6_feelAll_28 : decode cX6_feelAll 28 = .ok (.ifCond .ne 14, 3) := by decide +kernel
theorem dX6_feelAll_31 : decode cX6_feelAll 31 = .ok (.aload_n 0, 1) := by decide +kernel
theorem dX6_feelAll_32 : decode cX6_feelAll 32 = .ok (.iload_n 2, 1) := by decide +kernel
theorem dX6_feelAll_33 : decode cX6_feelAll 33 = .ok (.invokevirtual 182, 3) := by decide +kernel
theorem dX6_feelAll_36 : decode cX6_feelAll 36 = .ok (.iload_n 1, 1) := by decide +kernel
theorem dX6_feelAll_37 : decode cX6_feelAll 37 = .ok (.iconst 1, 1) := by decide +kernel
theorem dX6_feelAll_38 : decode cX6_feelAll 38 = .ok (.iload_n 2, 1) := by decide +kernel
theorem dX6_feelAll_39 : decode cX6_feelAll 39 = .ok (.ishl, 1) := by decide +kernel
theorem dX6_feelAll_40 : decode cX6_feelAll 40 = .ok (.ior, 1) := by decide +kernel
theorem dX6_feelAll_41 : decode cX6_feelAll 41 = .ok (.istore_n 1, 1) := by decide +kernel
theorem dX6_feelAll_42 : decode cX6_feelAll 42 = .ok (.iinc 2 1, 3) := by decide +kernel
theorem dX6_feelAll_45 : decode cX6_feelAll 45 = .ok (.goto (-41), 3) := by decide +kernel
theorem dX6_feelAll_48 : decode cX6_feelAll 48 = .ok (.iload_n 1, 1) := by decide +kernel
theorem dX6_feelAll_49 : decode cX6_feelAll 49 = .ok (.ireturn, 1) := by decide +kernel
theorem dX6_feel_0 : decode cX6_feel 0 = .ok (.aload_n 0, 1) := by decide +kernel
theorem dX6_feel_1 : decode cX6_feel 1 = .ok (.iload_n 1, 1) := by decide +kernel
theorem dX6_feel_2 : decode cX6_feel 2 = .ok (.aload_n 0, 1) := by decide +kernel
theorem dX6_feel_3 : decode cX6_feel 3 = .ok (.iload_n 1, 1) := by decide +kernel
theorem dX6_feel_4 : decode cX6_feel 4 = .ok (.invokevirtual 145, 3) := by decide +kernel
theorem dX6_feel_7 : decode cX6_feel 7 = .ok (.invokevirtual 185, 3) := by decide +kernel
theorem dX6_feel_10 : decode cX6_feel 10 = .ok (.istore_n 2, 1) := by decide +kernel
theorem dX6_feel_11 : decode cX6_feel 11 = .ok (.aload_n 0, 1) := by decide +kernel
theorem dX6_feel_12 : decode cX6_feel 12 = .ok (.getfield 51, 3) := by decide +kernel
theorem dX6_feel_15 : decode cX6_feel 15 = .ok (.iload_n 1, 1) := by decide +kernel
theorem dX6_feel_16 : decode cX6_feel 16 = .ok (.iload_n 2, 1) := by decide +kernel
theorem dX6_feel_17 : decode cX6_feel 17 = .ok (.invokevirtual 111, 3) := by decide +kernel
theorem dX6_feel_20 : decode cX6_feel 20 = .ok (.ifCond .ne 5, 3) := by decide +kernel
theorem dX6_feel_23 : decode cX6_feel 23 = .ok (.iconst 0, 1) := by decide +kernel
theorem dX6_feel_24 : decode cX6_feel 24 = .ok (.ireturn, 1) := by decide +kernel
theorem dX6_feel_25 : decode cX6_feel 25 = .ok (.aload_n 0, 1) := by decide +kernel
theorem dX6_feel_26 : decode cX6_feel 26 = .ok (.getfield 20, 3) := by decide +kernel
theorem dX6_feel_29 : decode cX6_feel 29 = .ok (.iload_n 1, 1) := by decide +kernel
theorem dX6_feel_30 : decode cX6_feel 30 = .ok (.iload_n 2, 1) := by decide +kernel
theorem dX6_feel_31 : decode cX6_feel 31 = .ok (.invokevirtual 79, 3) := by decide +kernel
theorem dX6_feel_34 : decode cX6_feel 34 = .ok (.aload_n 0, 1) := by decide +kernel
theorem dX6_feel_35 : decode cX6_feel 35 = .ok (.getfield 23, 3) := by decide +kernel
theorem dX6_feel_38 : decode cX6_feel 38 = .ok (.iload_n 1, 1) := by decide +kernel
theorem dX6_feel_39 : decode cX6_feel 39 = .ok (.aload_n 0, 1) := by decide +kernel
theorem dX6_feel_40 : decode cX6_feel 40 = .ok (.getfield 23, 3) := by decide +kernel
theorem dX6_feel_43 : decode cX6_feel 43 = .ok (.iload_n 1, 1) := by decide +kernel
theorem dX6_feel_44 : decode cX6_feel 44 = .ok (.invokevirtual 90, 3) := by decide +kernel
theorem dX6_feel_47 : decode cX6_feel 47 = .ok (.aload_n 0, 1) := by decide +kernel
theorem dX6_feel_48 : decode cX6_feel 48 = .ok (.iload_n 1, 1) := by decide +kernel
theorem dX6_feel_49 : decode cX6_feel 49 = .ok (.iconst 0, 1) := by decide +kernel
theorem dX6_feel_50 : decode cX6_feel 50 = .ok (.iconst 0, 1) := by decide +kernel
theorem dX6_feel_51 : decode cX6_feel 51 = .ok (.invokevirtual 104, 3) := by decide +kernel
theorem dX6_feel_54 : decode cX6_feel 54 = .ok (.invokestatic 148, 3) := by decide +kernel
theorem dX6_feel_57 : decode cX6_feel 57 = .ok (.invokevirtual 79, 3) := by decide +kernel
theorem dX6_feel_60 : decode cX6_feel 60 = .ok (.iconst 1, 1) := by decide +kernel
theorem dX6_feel_61 : decode cX6_feel 61 = .ok (.ireturn, 1) := by decide +kernel
theorem dX6_drop_0 : decode cX6_drop 0 = .ok (.aload_n 0, 1) := by decide +kernel
theorem dX6_drop_1 : decode cX6_drop 1 = .ok (.dup, 1) := by decide +kernel
theorem dX6_drop_2 : decode cX6_drop 2 = .ok (.getfield 35, 3) := by decide +kernel
theorem dX6_drop_5 : decode cX6_drop 5 = .ok (.iconst 1, 1) := by decide +kernel
theorem dX6_drop_6 : decode cX6_drop 6 = .ok (.iload_n 1, 1) := by decide +kernel
theorem dX6_drop_7 : decode cX6_drop 7 = .ok (.ishl, 1) := by decide +kernel
theorem dX6_drop_8 : decode cX6_drop 8 = .ok (.iconst (-1), 1) := by decide +kernel
theorem dX6_drop_9 : decode cX6_drop 9 = .ok (.ixor, 1) := by decide +kernel
theorem dX6_drop_10 : decode cX6_drop 10 = .ok (.iand, 1) := by decide +kernel
theorem dX6_drop_11 : decode cX6_drop 11 = .ok (.putfield 35, 3) := by decide +kernel
theorem dX6_drop_14 : decode cX6_drop 14 = .ok (.aload_n 0, 1) := by decide +kernel
theorem dX6_drop_15 : decode cX6_drop 15 = .ok (.getfield 14, 3) := by decide +kernel
theorem dX6_drop_18 : decode cX6_drop 18 = .ok (.iconst 2, 1) := by decide +kernel
theorem dX6_drop_19 : decode cX6_drop 19 = .ok (.iload_n 1, 1) := by decide +kernel
theorem dX6_drop_20 : decode cX6_drop 20 = .ok (.imul, 1) := by decide +kernel
theorem dX6_drop_21 : decode cX6_drop 21 = .ok (.iconst 0, 1) := by decide +kernel
theorem dX6_drop_22 : decode cX6_drop 22 = .ok (.invokevirtual 79, 3) := by decide +kernel
theorem dX6_drop_25 : decode cX6_drop 25 = .ok (.aload_n 0, 1) := by decide +kernel
theorem dX6_drop_26 : decode cX6_drop 26 = .ok (.getfield 14, 3) := by decide +kernel
theorem dX6_drop_29 : decode cX6_drop 29 = .ok (.iconst 2, 1) := by decide +kernel
theorem dX6_drop_30 : decode cX6_drop 30 = .ok (.iload_n 1, 1) := by decide +kernel
theorem dX6_drop_31 : decode cX6_drop 31 = .ok (.imul, 1) := by decide +kernel
theorem dX6_drop_32 : decode cX6_drop 32 = .ok (.iconst 1, 1) := by decide +kernel
theorem dX6_drop_33 : decode cX6_drop 33 = .ok (.iadd, 1) := by decide +kernel
theorem dX6_drop_34 : decode cX6_drop 34 = .ok (.iconst 0, 1) := by decide +kernel
theorem dX6_drop_35 : decode cX6_drop 35 = .ok (.invokevirtual 79, 3) := by decide +kernel
theorem dX6_drop_38 : decode cX6_drop 38 = .ok (.return_, 1) := by decide +kernel
theorem dX6_chancesGone_0 : decode cX6_chancesGone 0 = .ok (.aload_n 0, 1) := by decide +kernel
theorem dX6_chancesGone_1 : decode cX6_chancesGone 1 = .ok (.iload_n 1, 1) := by decide +kernel
theorem dX6_chancesGone_2 : decode cX6_chancesGone 2 = .ok (.aload_n 0, 1) := by decide +kernel
theorem dX6_chancesGone_3 : decode cX6_chancesGone 3 = .ok (.getfield 32, 3) := by decide +kernel
theorem dX6_chancesGone_6 : decode cX6_chancesGone 6 = .ok (.iload_n 1, 1) := by decide +kernel
theorem dX6_chancesGone_7 : decode cX6_chancesGone 7 = .ok (.invokevirtual 90, 3) := by decide +kernel
theorem dX6_chancesGone_10 : decode cX6_chancesGone 10 = .ok (.invokevirtual 188, 3) := by decide +kernel
theorem dX6_chancesGone_13 : decode cX6_chancesGone 13 = .ok (.ireturn, 1) := by decide +kernel
theorem dX6_lossSoFar_0 : decode cX6_lossSoFar 0 = .ok (.lconst 0, 1) := by decide +kernel
theorem dX6_lossSoFar_1 : decode cX6_lossSoFar 1 = .ok (.lstore_n 1, 1) := by decide +kernel
theorem dX6_lossSoFar_2 : decode cX6_lossSoFar 2 = .ok (.iconst 0, 1) := by decide +kernel
theorem dX6_lossSoFar_3 : decode cX6_lossSoFar 3 = .ok (.istore_n 3, 1) := by decide +kernel
theorem dX6_lossSoFar_4 : decode cX6_lossSoFar 4 = .ok (.iload_n 3, 1) := by decide +kernel
theorem dX6_lossSoFar_5 : decode cX6_lossSoFar 5 = .ok (.aload_n 0, 1) := by decide +kernel
theorem dX6_lossSoFar_6 : decode cX6_lossSoFar 6 = .ok (.getfield 51, 3) := by decide +kernel
theorem dX6_lossSoFar_9 : decode cX6_lossSoFar 9 = .ok (.getfield 69, 3) := by decide +kernel
theorem dX6_lossSoFar_12 : decode cX6_lossSoFar 12 = .ok (.if_icmp .ge 56, 3) := by decide +kernel
theorem dX6_lossSoFar_15 : decode cX6_lossSoFar 15 = .ok (.aload_n 0, 1) := by decide +kernel
theorem dX6_lossSoFar_16 : decode cX6_lossSoFar 16 = .ok (.iload_n 3, 1) := by decide +kernel
theorem dX6_lossSoFar_17 : decode cX6_lossSoFar 17 = .ok (.invokevirtual 191, 3) := by decide +kernel
theorem dX6_lossSoFar_20 : decode cX6_lossSoFar 20 = .ok (.istore 4, 2) := by decide +kernel
theorem dX6_lossSoFar_22 : decode cX6_lossSoFar 22 = .ok (.aload_n 0, 1) := by decide +kernel
theorem dX6_lossSoFar_23 : decode cX6_lossSoFar 23 = .ok (.iload_n 3, 1) := by decide +kernel
theorem dX6_lossSoFar_24 : decode cX6_lossSoFar 24 = .ok (.invokevirtual 163, 3) := by decide +kernel
theorem dX6_lossSoFar_27 : decode cX6_lossSoFar 27 = .ok (.ifCond .eq 35, 3) := by decide +kernel
theorem dX6_lossSoFar_30 : decode cX6_lossSoFar 30 = .ok (.iload 4, 2) := by decide +kernel
theorem dX6_lossSoFar_32 : decode cX6_lossSoFar 32 = .ok (.ifCond .le 30, 3) := by decide +kernel
theorem dX6_lossSoFar_35 : decode cX6_lossSoFar 35 = .ok (.lload_n 1, 1) := by decide +kernel
theorem dX6_lossSoFar_36 : decode cX6_lossSoFar 36 = .ok (.aload_n 0, 1) := by decide +kernel
theorem dX6_lossSoFar_37 : decode cX6_lossSoFar 37 = .ok (.getfield 51, 3) := by decide +kernel
theorem dX6_lossSoFar_40 : decode cX6_lossSoFar 40 = .ok (.iload_n 3, 1) := by decide +kernel
theorem dX6_lossSoFar_41 : decode cX6_lossSoFar 41 = .ok (.invokevirtual 194, 3) := by decide +kernel
theorem dX6_lossSoFar_44 : decode cX6_lossSoFar 44 = .ok (.i2l, 1) := by decide +kernel
theorem dX6_lossSoFar_45 : decode cX6_lossSoFar 45 = .ok (.ldc2_w 197, 3) := by decide +kernel
theorem dX6_lossSoFar_48 : decode cX6_lossSoFar 48 = .ok (.lmul, 1) := by decide +kernel
theorem dX6_lossSoFar_49 : decode cX6_lossSoFar 49 = .ok (.aload_n 0, 1) := by decide +kernel
theorem dX6_lossSoFar_50 : decode cX6_lossSoFar 50 = .ok (.iload_n 3, 1) := by decide +kernel
theorem dX6_lossSoFar_51 : decode cX6_lossSoFar 51 = .ok (.invokevirtual 199, 3) := by decide +kernel
theorem dX6_lossSoFar_54 : decode cX6_lossSoFar 54 = .ok (.i2l, 1) := by decide +kernel
theorem dX6_lossSoFar_55 : decode cX6_lossSoFar 55 = .ok (.lmul, 1) := by decide +kernel
theorem dX6_lossSoFar_56 : decode cX6_lossSoFar 56 = .ok (.iload 4, 2) := by decide +kernel
theorem dX6_lossSoFar_58 : decode cX6_lossSoFar 58 = .ok (.i2l, 1) := by decide +kernel
theorem dX6_lossSoFar_59 : decode cX6_lossSoFar 59 = .ok (.ldiv, 1) := by decide +kernel
theorem dX6_lossSoFar_60 : decode cX6_lossSoFar 60 = .ok (.ladd, 1) := by decide +kernel
theorem dX6_lossSoFar_61 : decode cX6_lossSoFar 61 = .ok (.lstore_n 1, 1) := by decide +kernel
theorem dX6_lossSoFar_62 : decode cX6_lossSoFar 62 = .ok (.iinc 3 1, 3) := by decide +kernel
theorem dX6_lossSoFar_65 : decode cX6_lossSoFar 65 = .ok (.goto (-61), 3) := by decide +kernel
theorem dX6_lossSoFar_68 : decode cX6_lossSoFar 68 = .ok (.lload_n 1, 1) := by decide +kernel
theorem dX6_lossSoFar_69 : decode cX6_lossSoFar 69 = .ok (.lreturn, 1) := by decide +kernel
theorem dX6_dropAbove_0 : decode cX6_dropAbove 0 = .ok (.iconst 0, 1) := by decide +kernel
theorem dX6_dropAbove_1 : decode cX6_dropAbove 1 = .ok (.istore_n 2, 1) := by decide +kernel
theorem dX6_dropAbove_2 : decode cX6_dropAbove 2 = .ok (.iconst 0, 1) := by decide +kernel
theorem dX6_dropAbove_3 : decode cX6_dropAbove 3 = .ok (.istore_n 3, 1) := by decide +kernel
theorem dX6_dropAbove_4 : decode cX6_dropAbove 4 = .ok (.iload_n 3, 1) := by decide +kernel
theorem dX6_dropAbove_5 : decode cX6_dropAbove 5 = .ok (.aload_n 0, 1) := by decide +kernel
theorem dX6_dropAbove_6 : decode cX6_dropAbove 6 = .ok (.getfield 51, 3) := by decide +kernel
theorem dX6_dropAbove_9 : decode cX6_dropAbove 9 = .ok (.getfield 69, 3) := by decide +kernel
theorem dX6_dropAbove_12 : decode cX6_dropAbove 12 = .ok (.if_icmp .ge 41, 3) := by decide +kernel
theorem dX6_dropAbove_15 : decode cX6_dropAbove 15 = .ok (.aload_n 0, 1) := by decide +kernel
theorem dX6_dropAbove_16 : decode cX6_dropAbove 16 = .ok (.iload_n 3, 1) := by decide +kernel
theorem dX6_dropAbove_17 : decode cX6_dropAbove 17 = .ok (.invokevirtual 163, 3) := by decide +kernel
theorem dX6_dropAbove_20 : decode cX6_dropAbove 20 = .ok (.ifCond .eq 27, 3) := by decide +kernel
theorem dX6_dropAbove_23 : decode cX6_dropAbove 23 = .ok (.aload_n 0, 1) := by decide +kernel
theorem dX6_dropAbove_24 : decode cX6_dropAbove 24 = .ok (.iload_n 3, 1) := by decide +kernel
theorem dX6_dropAbove_25 : decode cX6_dropAbove 25 = .ok (.invokevirtual 145, 3) := by decide +kernel
theorem dX6_dropAbove_28 : decode cX6_dropAbove 28 = .ok (.aload_n 1, 1) := by decide +kernel
theorem dX6_dropAbove_29 : decode cX6_dropAbove 29 = .ok (.iload_n 3, 1) := by decide +kernel
theorem dX6_dropAbove_30 : decode cX6_dropAbove 30 = .ok (.invokevirtual 90, 3) := by decide +kernel
theorem dX6_dropAbove_33 : decode cX6_dropAbove 33 = .ok (.if_icmp .le 14, 3) := by decide +kernel
theorem dX6_dropAbove_36 : decode cX6_dropAbove 36 = .ok (.aload_n 0, 1) := by decide +kernel
theorem dX6_dropAbove_37 : decode cX6_dropAbove 37 = .ok (.iload_n 3, 1) := by decide +kernel
theorem dX6_dropAbove_38 : decode cX6_dropAbove 38 = .ok (.invokevirtual 182, 3) := by decide +kernel
theorem dX6_dropAbove_41 : decode cX6_dropAbove 41 = .ok (.iload_n 2, 1) := by decide +kernel
theorem dX6_dropAbove_42 : decode cX6_dropAbove 42 = .ok (.iconst 1, 1) := by decide +kernel
theorem dX6_dropAbove_43 : decode cX6_dropAbove 43 = .ok (.iload_n 3, 1) := by decide +kernel
theorem dX6_dropAbove_44 : decode cX6_dropAbove 44 = .ok (.ishl, 1) := by decide +kernel
theorem dX6_dropAbove_45 : decode cX6_dropAbove 45 = .ok (.ior, 1) := by decide +kernel
theorem dX6_dropAbove_46 : decode cX6_dropAbove 46 = .ok (.istore_n 2, 1) := by decide +kernel
theorem dX6_dropAbove_47 : decode cX6_dropAbove 47 = .ok (.iinc 3 1, 3) := by decide +kernel
theorem dX6_dropAbove_50 : decode cX6_dropAbove 50 = .ok (.goto (-46), 3) := by decide +kernel
theorem dX6_dropAbove_53 : decode cX6_dropAbove 53 = .ok (.iload_n 2, 1) := by decide +kernel
theorem dX6_dropAbove_54 : decode cX6_dropAbove 54 = .ok (.ireturn, 1) := by decide +kernel
