theorem dX7_init_0 : decode cX7_init 0 = .ok (.aload_n 0, 1) := by decide +kernel
theorem dX7_init_1 : decode cX7_init 1 = .ok (.invokespecial 1, 3) := by decide +kernel
theorem dX7_init_4 : decode cX7_init 4 = .ok (.aload_n 0, 1) := by decide +kernel
theorem dX7_init_5 : decode cX7_init 5 = .ok (.new 7, 3) := by decide +kernel
theorem dX7_init_8 : decode cX7_init 8 = .ok (.dup, 1) := by decide +kernel
theorem dX7_init_9 : decode cX7_init 9 = .ok (.invokespecial 9, 3) := by decide +kernel
theorem dX7_init_12 : decode cX7_init 12 = .ok (.putfield 10, 3) := by decide +kernel
theorem dX7_init_15 : decode cX7_init 15 = .ok (.aload_n 0, 1) := by decide +kernel
theorem dX7_init_16 : decode cX7_init 16 = .ok (.new 16, 3) := by decide +kernel
theorem dX7_init_19 : decode cX7_init 19 = .ok (.dup, 1) := by decide +kernel
theorem dX7_init_20 : decode cX7_init 20 = .ok (.aload_n 0, 1) := by decide +kernel
theorem dX7_init_21 : decode cX7_init 21 = .ok (.getfield 10, 3) := by decide +kernel
theorem dX7_init_24 : decode cX7_init 24 = .ok (.invokespecial 18, 3) := by decide +kernel
theorem dX7_init_27 : decode cX7_init 27 = .ok (.putfield 21, 3) := by decide +kernel
theorem dX7_init_30 : decode cX7_init 30 = .ok (.aload_n 0, 1) := by decide +kernel
theorem dX7_init_31 : decode cX7_init 31 = .ok (.new 25, 3) := by decide +kernel
theorem dX7_init_34 : decode cX7_init 34 = .ok (.dup, 1) := by decide +kernel
theorem dX7_init_35 : decode cX7_init 35 = .ok (.invokespecial 27, 3) := by decide +kernel
theorem dX7_init_38 : decode cX7_init 38 = .ok (.putfield 28, 3) := by decide +kernel
theorem dX7_init_41 : decode cX7_init 41 = .ok (.aload_n 0, 1) := by decide +kernel
theorem dX7_init_42 : decode cX7_init 42 = .ok (.new 25, 3) := by decide +kernel
theorem dX7_init_45 : decode cX7_init 45 = .ok (.dup, 1) := by decide +kernel
theorem dX7_init_46 : decode cX7_init 46 = .ok (.invokespecial 27, 3) := by decide +kernel
theorem dX7_init_49 : decode cX7_init 49 = .ok (.putfield 32, 3) := by decide +kernel
theorem dX7_init_52 : decode cX7_init 52 = .ok (.aload_n 0, 1) := by decide +kernel
theorem dX7_init_53 : decode cX7_init 53 = .ok (.new 35, 3) := by decide +kernel
theorem dX7_init_56 : decode cX7_init 56 = .ok (.dup, 1) := by decide +kernel
theorem dX7_init_57 : decode cX7_init 57 = .ok (.aload_n 0, 1) := by decide +kernel
theorem dX7_init_58 : decode cX7_init 58 = .ok (.getfield 28, 3) := by decide +kernel
theorem dX7_init_61 : decode cX7_init 61 = .ok (.aconst_null, 1) := by decide +kernel
theorem dX7_init_62 : decode cX7_init 62 = .ok (.invokespecial 37, 3) := by decide +kernel
theorem dX7_init_65 : decode cX7_init 65 = .ok (.putfield 40, 3) := by decide +kernel
theorem dX7_init_68 : decode cX7_init 68 = .ok (.aload_n 0, 1) := by decide +kernel
theorem dX7_init_69 : decode cX7_init 69 = .ok (.new 35, 3) := by decide +kernel
theorem dX7_init_72 : decode cX7_init 72 = .ok (.dup, 1) := by decide +kernel
theorem dX7_init_73 : decode cX7_init 73 = .ok (.aload_n 0, 1) := by decide +kernel
theorem dX7_init_74 : decode cX7_init 74 = .ok (.getfield 28, 3) := by decide +kernel
theorem dX7_init_77 : decode cX7_init 77 = .ok (.aconst_null, 1) := by decide +kernel
theorem dX7_init_78 : decode cX7_init 78 = .ok (.invokespecial 37, 3) := by decide +kernel
theorem dX7_init_81 : decode cX7_init 81 = .ok (.putfield 44, 3) := by decide +kernel
theorem dX7_init_84 : decode cX7_init 84 = .ok (.aload_n 0, 1) := by decide +kernel
theorem dX7_init_85 : decode cX7_init 85 = .ok (.new 35, 3) := by decide +kernel
theorem dX7_init_88 : decode cX7_init 88 = .ok (.dup, 1) := by decide +kernel
theorem dX7_init_89 : decode cX7_init 89 = .ok (.aload_n 0, 1) := by decide +kernel
theorem dX7_init_90 : decode cX7_init 90 = .ok (.getfield 28, 3) := by decide +kernel
theorem dX7_init_93 : decode cX7_init 93 = .ok (.aconst_null, 1) := by decide +kernel
theorem dX7_init_94 : decode cX7_init 94 = .ok (.invokespecial 37, 3) := by decide +kernel
theorem dX7_init_97 : decode cX7_init 97 = .ok (.putfield 47, 3) := by decide +kernel
theorem dX7_init_100 : decode cX7_init 100 = .ok (.aload_n 0, 1) := by decide +kernel
theorem dX7_init_101 : decode cX7_init 101 = .ok (.iconst 0, 1) := by decide +kernel
theorem dX7_init_102 : decode cX7_init 102 = .ok (.putfield 50, 3) := by decide +kernel
theorem dX7_init_105 : decode cX7_init 105 = .ok (.aload_n 0, 1) := by decide +kernel
theorem dX7_init_106 : decode cX7_init 106 = .ok (.new 54, 3) := by decide +kernel
theorem dX7_init_109 : decode cX7_init 109 = .ok (.dup, 1) := by decide +kernel
theorem dX7_init_110 : decode cX7_init 110 = .ok (.bipush 12, 2) := by decide +kernel
theorem dX7_init_112 : decode cX7_init 112 = .ok (.invokespecial 56, 3) := by decide +kernel
theorem dX7_init_115 : decode cX7_init 115 = .ok (.putfield 59, 3) := by decide +kernel
theorem dX7_init_118 : decode cX7_init 118 = .ok (.aload_n 0, 1) := by decide +kernel
theorem dX7_init_119 : decode cX7_init 119 = .ok (.iconst 0, 1) := by decide +kernel
theorem dX7_init_120 : decode cX7_init 120 = .ok (.putfield 63, 3) := by decide +kernel
theorem dX7_init_123 : decode cX7_init 123 = .ok (.aload_n 0, 1) := by decide +kernel
theorem dX7_init_124 : decode cX7_init 124 = .ok (.aload_n 0, 1) := by decide +kernel
theorem dX7_init_125 : decode cX7_init 125 = .ok (.getfield 28, 3) := by decide +kernel
theorem dX7_init_128 : decode cX7_init 128 = .ok (.iconst 5, 1) := by decide +kernel
theorem dX7_init_129 : decode cX7_init 129 = .ok (.invokestatic 66, 3) := by decide +kernel
theorem dX7_init_132 : decode cX7_init 132 = .ok (.putfield 70, 3) := by decide +kernel
theorem dX7_init_135 : decode cX7_init 135 = .ok (.aload_n 0, 1) := by decide +kernel
theorem dX7_init_136 : decode cX7_init 136 = .ok (.new 73, 3) := by decide +kernel
theorem dX7_init_139 : decode cX7_init 139 = .ok (.dup, 1) := by decide +kernel
theorem dX7_init_140 : decode cX7_init 140 = .ok (.aload_n 0, 1) := by decide +kernel
theorem dX7_init_141 : decode cX7_init 141 = .ok (.getfield 59, 3) := by decide +kernel
theorem dX7_init_144 : decode cX7_init 144 = .ok (.invokespecial 75, 3) := by decide +kernel
theorem dX7_init_147 : decode cX7_init 147 = .ok (.putfield 78, 3) := by decide +kernel
theorem dX7_init_150 : decode cX7_init 150 = .ok (.aload_n 0, 1) := by decide +kernel
theorem dX7_init_151 : decode cX7_init 151 = .ok (.new 54, 3) := by decide +kernel
theorem dX7_init_154 : decode cX7_init 154 = .ok (.dup, 1) := by decide +kernel
theorem dX7_init_155 : decode cX7_init 155 = .ok (.bipush 8, 2) := by decide +kernel
theorem dX7_init_157 : decode cX7_init 157 = .ok (.invokespecial 56, 3) := by decide +kernel
theorem dX7_init_160 : decode cX7_init 160 = .ok (.putfield 82, 3) := by decide +kernel
theorem dX7_init_163 : decode cX7_init 163 = .ok (.aload_n 0, 1) := by decide +kernel
theorem dX7_init_164 : decode cX7_init 164 = .ok (.getfield 28, 3) := by decide +kernel
theorem dX7_init_167 : decode cX7_init 167 = .ok (.invokevirtual 85, 3) := by decide +kernel
theorem dX7_init_170 : decode cX7_init 170 = .ok (.aload_n 0, 1) := by decide +kernel
theorem dX7_init_171 : decode cX7_init 171 = .ok (.getfield 40, 3) := by decide +kernel
theorem dX7_init_174 : decode cX7_init 174 = .ok (.invokevirtual 88, 3) := by decide +kernel
theorem dX7_init_177 : decode cX7_init 177 = .ok (.return_, 1) := by decide +kernel
theorem dX7_write_0 : decode cX7_write 0 = .ok (.iload_n 1, 1) := by decide +kernel
theorem dX7_write_1 : decode cX7_write 1 = .ok (.iconst 1, 1) := by decide +kernel
theorem dX7_write_2 : decode cX7_write 2 = .ok (.if_icmp .lt 9, 3) := by decide +kernel
theorem dX7_write_5 : decode cX7_write 5 = .ok (.iload_n 1, 1) := by decide +kernel
theorem dX7_write_6 : decode cX7_write 6 = .ok (.bipush 8, 2) := by decide +kernel
theorem dX7_write_8 : decode cX7_write 8 = .ok (.if_icmp .le 5, 3) := by decide +kernel
theorem dX7_write_11 : decode cX7_write 11 = .ok (.iconst (-1), 1) := by decide +kernel
theorem dX7_write_12 : decode cX7_write 12 = .ok (.ireturn, 1) := by decide +kernel
theorem dX7_write_13 : decode cX7_write 13 = .ok (.aload_n 0, 1) := by decide +kernel
theorem dX7_write_14 : decode cX7_write 14 = .ok (.getfield 10, 3) := by decide +kernel
theorem dX7_write_17 : decode cX7_write 17 = .ok (.invokevirtual 91, 3) := by decide +kernel
theorem dX7_write_20 : decode cX7_write 20 = .ok (.iload_n 1, 1) := by decide +kernel
theorem dX7_write_21 : decode cX7_write 21 = .ok (.iadd, 1) := by decide +kernel
theorem dX7_write_22 : decode cX7_write 22 = .ok (.sipush 500, 3) := by decide +kernel
theorem dX7_write_25 : decode cX7_write 25 = .ok (.if_icmp .le 6, 3) := by decide +kernel
theorem dX7_write_28 : decode cX7_write 28 = .ok (.bipush (-3), 2) := by decide +kernel
theorem dX7_write_30 : decode cX7_write 30 = .ok (.ireturn, 1) := by decide +kernel
theorem dX7_write_31 : decode cX7_write 31 = .ok (.iload_n 1, 1) := by decide +kernel
theorem dX7_write_32 : decode cX7_write 32 = .ok (.iconst 1, 1) := by decide +kernel
theorem dX7_write_33 : decode cX7_write 33 = .ok (.isub, 1) := by decide +kernel
theorem dX7_write_34 : decode cX7_write 34 = .ok (.istore 4, 2) := by decide +kernel
theorem dX7_write_36 : decode cX7_write 36 = .ok (.iload 4, 2) := by decide +kernel
theorem dX7_write_38 : decode cX7_write 38 = .ok (.ifCond .lt 28, 3) := by decide +kernel
theorem dX7_write_41 : decode cX7_write 41 = .ok (.aload_n 0, 1) := by decide +kernel
theorem dX7_write_42 : decode cX7_write 42 = .ok (.getfield 10, 3) := by decide +kernel
theorem dX7_write_45 : decode cX7_write 45 = .ok (.lload_n 2, 1) := by decide +kernel
theorem dX7_write_46 : decode cX7_write 46 = .ok (.bipush 8, 2) := by decide +kernel
theorem dX7_write_48 : decode cX7_write 48 = .ok (.iload 4, 2) := by decide +kernel
theorem dX7_write_50 : decode cX7_write 50 = .ok (.imul, 1) := by decide +kernel
theorem dX7_write_51 : decode cX7_write 51 = .ok (.lushr, 1) := by decide +kernel
theorem dX7_write_52 : decode cX7_write 52 = .ok (.ldc2_w 95, 3) := by decide +kernel
theorem dX7_write_55 : decode cX7_write 55 = .ok (.land, 1) := by decide +kernel
theorem dX7_write_56 : decode cX7_write 56 = .ok (.l2i, 1) := by decide +kernel
theorem dX7_write_57 : decode cX7_write 57 = .ok (.invokevirtual 97, 3) := by decide +kernel
theorem dX7_write_60 : decode cX7_write 60 = .ok (.iinc 4 (-1), 3) := by decide +kernel
theorem dX7_write_63 : decode cX7_write 63 = .ok (.goto (-27), 3) := by decide +kernel
theorem dX7_write_66 : decode cX7_write 66 = .ok (.aload_n 0, 1) := by decide +kernel
theorem dX7_write_67 : decode cX7_write 67 = .ok (.getfield 10, 3) := by decide +kernel
theorem dX7_write_70 : decode cX7_write 70 = .ok (.invokevirtual 91, 3) := by decide +kernel
theorem dX7_write_73 : decode cX7_write 73 = .ok (.ireturn, 1) := by decide +kernel
theorem dX7_wipe_0 : decode cX7_wipe 0 = .ok (.aload_n 0, 1) := by decide +kernel
theorem dX7_wipe_1 : decode cX7_wipe 1 = .ok (.getfield 10, 3) := by decide +kernel
theorem dX7_wipe_4 : decode cX7_wipe 4 = .ok (.invokevirtual 91, 3) := by decide +kernel
theorem dX7_wipe_7 : decode cX7_wipe 7 = .ok (.istore_n 1, 1) := by decide +kernel
theorem dX7_wipe_8 : decode cX7_wipe 8 = .ok (.aload_n 0, 1) := by decide +kernel
theorem dX7_wipe_9 : decode cX7_wipe 9 = .ok (.getfield 10, 3) := by decide +kernel
theorem dX7_wipe_12 : decode cX7_wipe 12 = .ok (.invokevirtual 100, 3) := by decide +kernel
theorem dX7_wipe_15 : decode cX7_wipe 15 = .ok (.iload_n 1, 1) := by decide +kernel
theorem dX7_wipe_16 : decode cX7_wipe 16 = .ok (.ireturn, 1) := by decide +kernel
theorem dX7_fault_0 : decode cX7_fault 0 = .ok (.aload_n 0, 1) := by decide +kernel
theorem dX7_fault_1 : decode cX7_fault 1 = .ok (.getfield 21, 3) := by decide +kernel
theorem dX7_fault_4 : decode cX7_fault 4 = .ok (.aload_n 0, 1) := by decide +kernel
theorem dX7_fault_5 : decode cX7_fault 5 = .ok (.getfield 32, 3) := by decide +kernel
theorem dX7_fault_8 : decode cX7_fault 8 = .ok (.invokevirtual 103, 3) := by decide +kernel
theorem dX7_fault_11 : decode cX7_fault 11 = .ok (.ireturn, 1) := by decide +kernel
theorem dX7_lay_0 : decode cX7_lay 0 = .ok (.aload_n 0, 1) := by decide +kernel
theorem dX7_lay_1 : decode cX7_lay 1 = .ok (.getfield 21, 3) := by decide +kernel
theorem dX7_lay_4 : decode cX7_lay 4 = .ok (.aload_n 0, 1) := by decide +kernel
theorem dX7_lay_5 : decode cX7_lay 5 = .ok (.getfield 32, 3) := by decide +kernel
theorem dX7_lay_8 : decode cX7_lay 8 = .ok (.invokevirtual 103, 3) := by decide +kernel
theorem dX7_lay_11 : decode cX7_lay 11 = .ok (.bipush (-4), 2) := by decide +kernel
theorem dX7_lay_13 : decode cX7_lay 13 = .ok (.if_icmp .ne 13, 3) := by decide +kernel
theorem dX7_lay_16 : decode cX7_lay 16 = .ok (.aload_n 0, 1) := by decide +kernel
theorem dX7_lay_17 : decode cX7_lay 17 = .ok (.getfield 32, 3) := by decide +kernel
theorem dX7_lay_20 : decode cX7_lay 20 = .ok (.invokevirtual 107, 3) := by decide +kernel
theorem dX7_lay_23 : decode cX7_lay 23 = .ok (.ifCond .ne 6, 3) := by decide +kernel
theorem dX7_lay_26 : decode cX7_lay 26 = .ok (.bipush (-2), 2) := by decide +kernel
theorem dX7_lay_28 : decode cX7_lay 28 = .ok (.ireturn, 1) := by decide +kernel
theorem dX7_lay_29 : decode cX7_lay 29 = .ok (.aload_n 0, 1) := by decide +kernel
theorem dX7_lay_30 : decode cX7_lay 30 = .ok (.getfield 21, 3) := by decide +kernel
theorem dX7_lay_33 : decode cX7_lay 33 = .ok (.aload_n 0, 1) := by decide +kernel
theorem dX7_lay_34 : decode cX7_lay 34 = .ok (.getfield 28, 3) := by decide +kernel
theorem dX7_lay_37 : decode cX7_lay 37 = .ok (.invokevirtual 103, 3) := by decide +kernel
theorem dX7_lay_40 : decode cX7_lay 40 = .ok (.pop, 1) := by decide +kernel
theorem dX7_lay_41 : decode cX7_lay 41 = .ok (.aload_n 0, 1) := by decide +kernel
theorem dX7_lay_42 : decode cX7_lay 42 = .ok (.getfield 28, 3) := by decide +kernel
theorem dX7_lay_45 : decode cX7_lay 45 = .ok (.invokevirtual 111, 3) := by decide +kernel
theorem dX7_lay_48 : decode cX7_lay 48 = .ok (.aload_n 0, 1) := by decide +kernel
theorem dX7_lay_49 : decode cX7_lay 49 = .ok (.getfield 40, 3) := by decide +kernel
theorem dX7_lay_52 : decode cX7_lay 52 = .ok (.invokevirtual 88, 3) := by decide +kernel
theorem dX7_lay_55 : decode cX7_lay 55 = .ok (.aload_n 0, 1) := by decide +kernel
theorem dX7_lay_56 : decode cX7_lay 56 = .ok (.iconst 0, 1) := by decide +kernel
theorem dX7_lay_57 : decode cX7_lay 57 = .ok (.putfield 63, 3) := by decide +kernel
theorem dX7_lay_60 : decode cX7_lay 60 = .ok (.aload_n 0, 1) := by decide +kernel
theorem dX7_lay_61 : decode cX7_lay 61 = .ok (.iconst 0, 1) := by decide +kernel
theorem dX7_lay_62 : decode cX7_lay 62 = .ok (.putfield 50, 3) := by decide +kernel
theorem dX7_lay_65 : decode cX7_lay 65 = .ok (.aload_n 0, 1) := by decide +kernel
theorem dX7_lay_66 : decode cX7_lay 66 = .ok (.getfield 28, 3) := by decide +kernel
theorem dX7_lay_69 : decode cX7_lay 69 = .ok (.getfield 114, 3) := by decide +kernel
theorem dX7_lay_72 : decode cX7_lay 72 = .ok (.ireturn, 1) := by decide +kernel
theorem dX7_roof_0 : decode cX7_roof 0 = .ok (.aload_n 0, 1) := by decide +kernel
theorem dX7_roof_1 : decode cX7_roof 1 = .ok (.iload_n 1, 1) := by decide +kernel
theorem dX7_roof_2 : decode cX7_roof 2 = .ok (.invokevirtual 117, 3) := by decide +kernel
theorem dX7_roof_5 : decode cX7_roof 5 = .ok (.ifCond .ne 5, 3) := by decide +kernel
theorem dX7_roof_8 : decode cX7_roof 8 = .ok (.iconst (-1), 1) := by decide +kernel
theorem dX7_roof_9 : decode cX7_roof 9 = .ok (.ireturn, 1) := by decide +kernel
theorem dX7_roof_10 : decode cX7_roof 10 = .ok (.iload_n 2, 1) := by decide +kernel
theorem dX7_roof_11 : decode cX7_roof 11 = .ok (.tableswitch 148 0 7 #[45, 59, 75, 86, 95, 107, 124, 136], 45) := by decide +kernel
theorem dX7_roof_56 : decode cX7_roof 56 = .ok (.aload_n 0, 1) := by decide +kernel
theorem dX7_roof_57 : decode cX7_roof 57 = .ok (.getfield 40, 3) := by decide +kernel
theorem dX7_roof_60 : decode cX7_roof 60 = .ok (.getfield 121, 3) := by decide +kernel
theorem dX7_roof_63 : decode cX7_roof 63 = .ok (.iconst 2, 1) := by decide +kernel
theorem dX7_roof_64 : decode cX7_roof 64 = .ok (.iload_n 1, 1) := by decide +kernel
theorem dX7_roof_65 : decode cX7_roof 65 = .ok (.imul, 1) := by decide +kernel
theorem dX7_roof_66 : decode cX7_roof 66 = .ok (.invokevirtual 124, 3) := by decide +kernel
theorem dX7_roof_69 : decode cX7_roof 69 = .ok (.ireturn, 1) := by decide +kernel
theorem dX7_roof_70 : decode cX7_roof 70 = .ok (.aload_n 0, 1) := by decide +kernel
theorem dX7_roof_71 : decode cX7_roof 71 = .ok (.getfield 40, 3) := by decide +kernel
theorem dX7_roof_74 : decode cX7_roof 74 = .ok (.getfield 121, 3) := by decide +kernel
theorem dX7_roof_77 : decode cX7_roof 77 = .ok (.iconst 2, 1) := by decide +kernel
theorem dX7_roof_78 : decode cX7_roof 78 = .ok (.iload_n 1, 1) := by decide +kernel
theorem dX7_roof_79 : decode cX7_roof 79 = .ok (.imul, 1) := by decide +kernel
theorem dX7_roof_80 : decode cX7_roof 80 = .ok (.iconst 1, 1) := by decide +kernel
theorem dX7_roof_81 : decode cX7_roof 81 = .ok (.iadd, 1) := by decide +kernel
theorem dX7_roof_82 : decode cX7_roof 82 = .ok (.invokevirtual 124, 3) := by decide +kernel
theorem dX7_roof_85 : decode cX7_roof 85 = .ok (.ireturn, 1) := by decide +kernel
theorem dX7_roof_86 : decode cX7_roof 86 = .ok (.aload_n 0, 1) := by decide +kernel
theorem dX7_roof_87 : decode cX7_roof 87 = .ok (.getfield 40, 3) := by decide +kernel
theorem dX7_roof_90 : decode cX7_roof 90 = .ok (.iload_n 1, 1) := by decide +kernel
theorem dX7_roof_91 : decode cX7_roof 91 = .ok (.iconst 0, 1) := by decide +kernel
theorem dX7_roof_92 : decode cX7_roof 92 = .ok (.iconst 0, 1) := by decide +kernel
theorem dX7_roof_93 : decode cX7_roof 93 = .ok (.invokevirtual 128, 3) := by decide +kernel
theorem dX7_roof_96 : decode cX7_roof 96 = .ok (.ireturn, 1) := by decide +kernel
theorem dX7_roof_97 : decode cX7_roof 97 = .ok (.aload_n 0, 1) := by decide +kernel
theorem dX7_roof_98 : decode cX7_roof 98 = .ok (.getfield 40, 3) := by decide +kernel
theorem dX7_roof_101 : decode cX7_roof 101 = .ok (.iload_n 1, 1) := by decide +kernel
theorem dX7_roof_102 : decode cX7_roof 102 = .ok (.invokevirtual 132, 3) := by decide +kernel
theorem dX7_roof_105 : decode cX7_roof 105 = .ok (.ireturn, 1) := by decide +kernel
theorem dX7_roof_106 : decode cX7_roof 106 = .ok (.aload_n 0, 1) := by decide +kernel
theorem dX7_roof_107 : decode cX7_roof 107 = .ok (.getfield 40, 3) := by decide +kernel
theorem dX7_roof_110 : decode cX7_roof 110 = .ok (.getfield 135, 3) := by decide +kernel
theorem dX7_roof_113 : decode cX7_roof 113 = .ok (.iload_n 1, 1) := by decide +kernel
theorem dX7_roof_114 : decode cX7_roof 114 = .ok (.invokevirtual 124, 3) := by decide +kernel
theorem dX7_roof_117 : decode cX7_roof 117 = .ok (.ireturn, 1) := by decide +kernel
theorem dX7_roof_118 : decode cX7_roof 118 = .ok (.aload_n 0, 1) := by decide +kernel
theorem dX7_roof_119 : decode cX7_roof 119 = .ok (.getfield 40, 3) := by decide +kernel
theorem dX7_roof_122 : decode cX7_roof 122 = .ok (.iload_n 1, 1) := by decide +kernel
theorem dX7_roof_123 : decode cX7_roof 123 = .ok (.invokevirtual 138, 3) := by decide +kernel
theorem dX7_roof_126 : decode cX7_roof 126 = .ok (.ifCond .eq 7, 3) := by decide +kernel
theorem dX7_roof_129 : decode cX7_roof 129 = .ok (.iconst 1, 1) := by decide +kernel
theorem dX7_roof_130 : decode cX7_roof 130 = .ok (.goto 4, 3) := by decide +kernel
theorem dX7_roof_133 : decode cX7_roof 133 = .ok (.iconst 0, 1) := by decide +kernel
theorem dX7_roof_134 : decode cX7_roof 134 = .ok (.ireturn, 1) := by decide +kernel
theorem dX7_roof_135 : decode cX7_roof 135 = .ok (.aload_n 0, 1) := by decide +kernel
theorem dX7_roof_136 : decode cX7_roof 136 = .ok (.getfield 40, 3) := by decide +kernel
theorem dX7_roof_139 : decode cX7_roof 139 = .ok (.getfield 141, 3) := by decide +kernel
theorem dX7_roof_142 : decode cX7_roof 142 = .ok (.iload_n 1, 1) := by decide +kernel
theorem dX7_roof_143 : decode cX7_roof 143 = .ok (.invokevirtual 124, 3) := by decide +kernel
theorem dX7_roof_146 : decode cX7_roof 146 = .ok (.ireturn, 1) := by decide +kernel
theorem dX7_roof_147 : decode cX7_roof 147 = .ok (.aload_n 0, 1) := by decide +kernel
theorem dX7_roof_148 : decode cX7_roof 148 = .ok (.getfield 28, 3) := by decide +kernel
theorem dX7_roof_151 : decode cX7_roof 151 = .ok (.getfield 144, 3) := by decide +kernel
theorem dX7_roof_154 : decode cX7_roof 154 = .ok (.iload_n 1, 1) := by decide +kernel
theorem dX7_roof_155 : decode cX7_roof 155 = .ok (.invokevirtual 124, 3) := by decide +kernel
theorem dX7_roof_158 : decode cX7_roof 158 = .ok (.ireturn, 1) := by decide +kernel
theorem dX7_roof_159 : decode cX7_roof 159 = .ok (.iconst (-1), 1) := by decide +kernel
theorem dX7_roof_160 : decode cX7_roof 160 = .ok (.ireturn, 1) := by decide +kernel
theorem dX7_thought_0 : decode cX7_thought 0 = .ok (.aload_n 0, 1) := by decide +kernel
theorem dX7_thought_1 : decode cX7_thought 1 = .ok (.iload_n 1, 1) := by decide +kernel
theorem dX7_thought_2 : decode cX7_thought 2 = .ok (.invokevirtual 117, 3) := by decide +kernel
theorem dX7_thought_5 : decode cX7_thought 5 = .ok (.ifCond .eq 13, 3) := by decide +kernel
theorem dX7_thought_8 : decode cX7_thought 8 = .ok (.iload_n 2, 1) := by decide +kernel
theorem dX7_thought_9 : decode cX7_thought 9 = .ok (.iconst (-1), 1) := by decide +kernel
theorem dX7_thought_10 : decode cX7_thought 10 = .ok (.if_icmp .lt 8, 3) := by decide +kernel
theorem dX7_thought_13 : decode cX7_thought 13 = .ok (.iload_n 2, 1) := by decide +kernel
theorem dX7_thought_14 : decode cX7_thought 14 = .ok (.iconst 4, 1) := by decide +kernel
theorem dX7_thought_15 : decode cX7_thought 15 = .ok (.if_icmp .lt 5, 3) := by decide +kernel
theorem dX7_thought_18 : decode cX7_thought 18 = .ok (.iconst (-1), 1) := by decide +kernel
theorem dX7_thought_19 : decode cX7_thought 19 = .ok (.ireturn, 1) := by decide +kernel
theorem dX7_thought_20 : decode cX7_thought 20 = .ok (.aload_n 0, 1) := by decide +kernel
theorem dX7_thought_21 : decode cX7_thought 21 = .ok (.getfield 40, 3) := by decide +kernel
theorem dX7_thought_24 : decode cX7_thought 24 = .ok (.iload_n 1, 1) := by decide +kernel
theorem dX7_thought_25 : decode cX7_thought 25 = .ok (.invokevirtual 138, 3) := by decide +kernel
theorem dX7_thought_28 : decode cX7_thought 28 = .ok (.ifCond .ne 6, 3) := by decide +kernel
theorem dX7_thought_31 : decode cX7_thought 31 = .ok (.bipush (-2), 2) := by decide +kernel
theorem dX7_thought_33 : decode cX7_thought 33 = .ok (.ireturn, 1) := by decide +kernel
theorem dX7_thought_34 : decode cX7_thought 34 = .ok (.iload_n 2, 1) := by decide +kernel
theorem dX7_thought_35 : decode cX7_thought 35 = .ok (.iconst (-1), 1) := by decide +kernel
theorem dX7_thought_36 : decode cX7_thought 36 = .ok (.if_icmp .ne 14, 3) := by decide +kernel
theorem dX7_thought_39 : decode cX7_thought 39 = .ok (.aload_n 0, 1) := by decide +kernel
theorem dX7_thought_40 : decode cX7_thought 40 = .ok (.getfield 40, 3) := by decide +kernel
theorem dX7_thought_43 : decode cX7_thought 43 = .ok (.iload_n 1, 1) := by decide +kernel
theorem dX7_thought_44 : decode cX7_thought 44 = .ok (.invokevirtual 147, 3) := by decide +kernel
theorem dX7_thought_47 : decode cX7_thought 47 = .ok (.goto 12, 3) := by decide +kernel
theorem dX7_thought_50 : decode cX7_thought 50 = .ok (.aload_n 0, 1) := by decide +kernel
theorem dX7_thought_51 : decode cX7_thought 51 = .ok (.getfield 40, 3) := by decide +kernel
theorem dX7_thought_54 : decode cX7_thought 54 = .ok (.iload_n 1, 1) := by decide +kernel
theorem dX7_thought_55 : decode cX7_thought 55 = .ok (.iload_n 2, 1) := by decide +kernel
theorem dX7_thought_56 : decode cX7_thought 56 = .ok (.invokevirtual 150, 3) := by decide +kernel
theorem dX7_thought_59 : decode cX7_thought 59 = .ok (.ireturn, 1) := by decide +kernel
theorem dX7_now_0 : decode cX7_now 0 = .ok (.iload_n 1, 1) := by decide +kernel
theorem dX7_now_1 : decode cX7_now 1 = .ok (.tableswitch 63 0 3 #[31, 39, 47, 55], 31) := by decide +kernel
theorem dX7_now_32 : decode cX7_now 32 = .ok (.aload_n 0, 1) := by decide +kernel
theorem dX7_now_33 : decode cX7_now 33 = .ok (.getfield 40, 3) := by decide +kernel
theorem dX7_now_36 : decode cX7_now 36 = .ok (.getfield 154, 3) := by decide +kernel
theorem dX7_now_39 : decode cX7_now 39 = .ok (.ireturn, 1) := by decide +kernel
theorem dX7_now_40 : decode cX7_now 40 = .ok (.aload_n 0, 1) := by decide +kernel
theorem dX7_now_41 : decode cX7_now 41 = .ok (.getfield 40, 3) := by decide +kernel
theorem dX7_now_44 : decode cX7_now 44 = .ok (.getfield 157, 3) := by decide +kernel
theorem dX7_now_47 : decode cX7_now 47 = .ok (.ireturn, 1) := by decide +kernel
theorem dX7_now_48 : decode cX7_now 48 = .ok (.aload_n 0, 1) := by decide +kernel
theorem dX7_now_49 : decode cX7_now 49 = .ok (.getfield 28, 3) := by decide +kernel
theorem dX7_now_52 : decode cX7_now 52 = .ok (.getfield 160, 3) := by decide +kernel
theorem dX7_now_55 : decode cX7_now 55 = .ok (.ireturn, 1) := by decide +kernel
theorem dX7_now_56 : decode cX7_now 56 = .ok (.aload_n 0, 1) := by decide +kernel
theorem dX7_now_57 : decode cX7_now 57 = .ok (.getfield 40, 3) := by decide +kernel
theorem dX7_now_60 : decode cX7_now 60 = .ok (.getfield 163, 3) := by decide +kernel
theorem dX7_now_63 : decode cX7_now 63 = .ok (.ireturn, 1) := by decide +kernel
theorem dX7_now_64 : decode cX7_now 64 = .ok (.iconst (-1), 1) := by decide +kernel
theorem dX7_now_65 : decode cX7_now 65 = .ok (.ireturn, 1) := by decide +kernel
theorem dX7_creak_0 : decode cX7_creak 0 = .ok (.aload_n 0, 1) := by decide +kernel
theorem dX7_creak_1 : decode cX7_creak 1 = .ok (.iload_n 1, 1) := by decide +kernel
theorem dX7_creak_2 : decode cX7_creak 2 = .ok (.invokevirtual 117, 3) := by decide +kernel
theorem dX7_creak_5 : decode cX7_creak 5 = .ok (.ifCond .ne 5, 3) := by decide +kernel
theorem dX7_creak_8 : decode cX7_creak 8 = .ok (.iconst (-1), 1) := by decide +kernel
theorem dX7_creak_9 : decode cX7_creak 9 = .ok (.ireturn, 1) := by decide +kernel
theorem dX7_creak_10 : decode cX7_creak 10 = .ok (.aload_n 0, 1) := by decide +kernel
theorem dX7_creak_11 : decode cX7_creak 11 = .ok (.getfield 40, 3) := by decide +kernel
theorem dX7_creak_14 : decode cX7_creak 14 = .ok (.iload_n 1, 1) := by decide +kernel
theorem dX7_creak_15 : decode cX7_creak 15 = .ok (.invokevirtual 138, 3) := by decide +kernel
theorem dX7_creak_18 : decode cX7_creak 18 = .ok (.ifCond .ne 6, 3) := by decide +kernel
theorem dX7_creak_21 : decode cX7_creak 21 = .ok (.bipush (-2), 2) := by decide +kernel
theorem dX7_creak_23 : decode cX7_creak 23 = .ok (.ireturn, 1) := by decide +kernel
theorem dX7_creak_24 : decode cX7_creak 24 = .ok (.aload_n 0, 1) := by decide +kernel
theorem dX7_creak_25 : decode cX7_creak 25 = .ok (.getfield 40, 3) := by decide +kernel
theorem dX7_creak_28 : decode cX7_creak 28 = .ok (.iload_n 1, 1) := by decide +kernel
theorem dX7_creak_29 : decode cX7_creak 29 = .ok (.invokevirtual 166, 3) := by decide +kernel
theorem dX7_creak_32 : decode cX7_creak 32 = .ok (.aload_n 0, 1) := by decide +kernel
theorem dX7_creak_33 : decode cX7_creak 33 = .ok (.getfield 28, 3) := by decide +kernel
theorem dX7_creak_36 : decode cX7_creak 36 = .ok (.getfield 169, 3) := by decide +kernel
theorem dX7_creak_39 : decode cX7_creak 39 = .ok (.iadd, 1) := by decide +kernel
theorem dX7_creak_40 : decode cX7_creak 40 = .ok (.istore_n 3, 1) := by decide +kernel
theorem dX7_creak_41 : decode cX7_creak 41 = .ok (.iload_n 2, 1) := by decide +kernel
theorem dX7_creak_42 : decode cX7_creak 42 = .ok (.ifCond .eq 15, 3) := by decide +kernel
theorem dX7_creak_45 : decode cX7_creak 45 = .ok (.aload_n 0, 1) := by decide +kernel
theorem dX7_creak_46 : decode cX7_creak 46 = .ok (.getfield 40, 3) := by decide +kernel
theorem dX7_creak_49 : decode cX7_creak 49 = .ok (.iload_n 1, 1) := by decide +kernel
theorem dX7_creak_50 : decode cX7_creak 50 = .ok (.iload_n 3, 1) := by decide +kernel
theorem dX7_creak_51 : decode cX7_creak 51 = .ok (.invokevirtual 172, 3) := by decide +kernel
theorem dX7_creak_54 : decode cX7_creak 54 = .ok (.goto 12, 3) := by decide +kernel
theorem dX7_creak_57 : decode cX7_creak 57 = .ok (.aload_n 0, 1) := by decide +kernel
theorem dX7_creak_58 : decode cX7_creak 58 = .ok (.getfield 40, 3) := by decide +kernel
theorem dX7_creak_61 : decode cX7_creak 61 = .ok (.iload_n 1, 1) := by decide +kernel
theorem dX7_creak_62 : decode cX7_creak 62 = .ok (.iload_n 3, 1) := by decide +kernel
theorem dX7_creak_63 : decode cX7_creak 63 = .ok (.invokevirtual 175, 3) := by decide +kernel
theorem dX7_creak_66 : decode cX7_creak 66 = .ok (.istore 4, 2) := by decide +kernel
theorem dX7_creak_68 : decode cX7_creak 68 = .ok (.aload_n 0, 1) := by decide +kernel
theorem dX7_creak_69 : decode cX7_creak 69 = .ok (.getfield 28, 3) := by decide +kernel
theorem dX7_creak_72 : decode cX7_creak 72 = .ok (.iload_n 1, 1) := by decide +kernel
theorem dX7_creak_73 : decode cX7_creak 73 = .ok (.iload 4, 2) := by decide +kernel
theorem dX7_creak_75 : decode cX7_creak 75 = .ok (.invokevirtual 178, 3) := by decide +kernel
theorem dX7_creak_78 : decode cX7_creak 78 = .ok (.istore 5, 2) := by decide +kernel
theorem dX7_creak_80 : decode cX7_creak 80 = .ok (.iload 5, 2) := by decide +kernel
theorem dX7_creak_82 : decode cX7_creak 82 = .ok (.ifCond .ne 6, 3) := by decide +kernel
theorem dX7_creak_85 : decode cX7_creak 85 = .ok (.bipush (-2), 2) := by decide +kernel
theorem dX7_creak_87 : decode cX7_creak 87 = .ok (.ireturn, 1) := by decide +kernel
theorem dX7_creak_88 : decode cX7_creak 88 = .ok (.aload_n 0, 1) := by decide +kernel
theorem dX7_creak_89 : decode cX7_creak 89 = .ok (.getfield 40, 3) := by decide +kernel
theorem dX7_creak_92 : decode cX7_creak 92 = .ok (.getfield 181, 3) := by decide +kernel
theorem dX7_creak_95 : decode cX7_creak 95 = .ok (.bipush 20, 2) := by decide +kernel
theorem dX7_creak_97 : decode cX7_creak 97 = .ok (.if_icmp .lt 6, 3) := by decide +kernel
theorem dX7_creak_100 : decode cX7_creak 100 = .ok (.bipush (-3), 2) := by decide +kernel
theorem dX7_creak_102 : decode cX7_creak 102 = .ok (.ireturn, 1) := by decide +kernel
theorem dX7_creak_103 : decode cX7_creak 103 = .ok (.aload_n 0, 1) := by decide +kernel
theorem dX7_creak_104 : decode cX7_creak 104 = .ok (.getfield 40, 3) := by decide +kernel
theorem dX7_creak_107 : decode cX7_creak 107 = .ok (.getfield 184, 3) := by decide +kernel
theorem dX7_creak_110 : decode cX7_creak 110 = .ok (.iload_n 1, 1) := by decide +kernel
theorem dX7_creak_111 : decode cX7_creak 111 = .ok (.iload 4, 2) := by decide +kernel
theorem dX7_creak_113 : decode cX7_creak 113 = .ok (.invokevirtual 187, 3) := by decide +kernel
theorem dX7_creak_116 : decode cX7_creak 116 = .ok (.aload_n 0, 1) := by decide +kernel
theorem dX7_creak_117 : decode cX7_creak 117 = .ok (.getfield 40, 3) := by decide +kernel
theorem dX7_creak_120 : decode cX7_creak 120 = .ok (.dup, 1) := by decide +kernel
theorem dX7_creak_121 : decode cX7_creak 121 = .ok (.getfield 181, 3) := by decide +kernel
theorem dX7_creak_124 : decode cX7_creak 124 = .ok (.iconst 1, 1) := by decide +kernel
theorem dX7_creak_125 : decode cX7_creak 125 = .ok (.iadd, 1) := by decide +kernel
theorem dX7_creak_126 : decode cX7_creak 126 = .ok (.putfield 181, 3) := by decide +kernel
theorem dX7_creak_129 : decode cX7_creak 129 = .ok (.iload 5, 2) := by decide +kernel
theorem dX7_creak_131 : decode cX7_creak 131 = .ok (.ireturn, 1) := by decide +kernel
theorem dX7_goes_0 : decode cX7_goes 0 = .ok (.aload_n 0, 1) := by decide +kernel
theorem dX7_goes_1 : decode cX7_goes 1 = .ok (.iload_n 1, 1) := by decide +kernel
theorem dX7_goes_2 : decode cX7_goes 2 = .ok (.invokevirtual 117, 3) := by decide +kernel
theorem dX7_goes_5 : decode cX7_goes 5 = .ok (.ifCond .eq 23, 3) := by decide +kernel
theorem dX7_goes_8 : decode cX7_goes 8 = .ok (.iload_n 2, 1) := by decide +kernel
theorem dX7_goes_9 : decode cX7_goes 9 = .ok (.ifCond .lt 19, 3) := by decide +kernel
theorem dX7_goes_12 : decode cX7_goes 12 = .ok (.iload_n 2, 1) := by decide +kernel
theorem dX7_goes_13 : decode cX7_goes 13 = .ok (.sipush 200, 3) := by decide +kernel
theorem dX7_goes_16 : decode cX7_goes 16 = .ok (.if_icmp .gt 12, 3) := by decide +kernel
theorem dX7_goes_19 : decode cX7_goes 19 = .ok (.iload_n 3, 1) := by decide +kernel
theorem dX7_goes_20 : decode cX7_goes 20 = .ok (.ifCond .lt 8, 3) := by decide +kernel
theorem dX7_goes_23 : decode cX7_goes 23 = .ok (.iload_n 3, 1) := by decide +kernel
theorem dX7_goes_24 : decode cX7_goes 24 = .ok (.iconst 1, 1) := by decide +kernel
theorem dX7_goes_25 : decode cX7_goes 25 = .ok (.if_icmp .le 5, 3) := by decide +kernel
theorem dX7_goes_28 : decode cX7_goes 28 = .ok (.iconst (-1), 1) := by decide +kernel
theorem dX7_goes_29 : decode cX7_goes 29 = .ok (.ireturn, 1) := by decide +kernel
theorem dX7_goes_30 : decode cX7_goes 30 = .ok (.aload_n 0, 1) := by decide +kernel
theorem dX7_goes_31 : decode cX7_goes 31 = .ok (.getfield 40, 3) := by decide +kernel
theorem dX7_goes_34 : decode cX7_goes 34 = .ok (.iload_n 1, 1) := by decide +kernel
theorem dX7_goes_35 : decode cX7_goes 35 = .ok (.invokevirtual 138, 3) := by decide +kernel
theorem dX7_goes_38 : decode cX7_goes 38 = .ok (.ifCond .ne 6, 3) := by decide +kernel
theorem dX7_goes_41 : decode cX7_goes 41 = .ok (.bipush (-2), 2) := by decide +kernel
theorem dX7_goes_43 : decode cX7_goes 43 = .ok (.ireturn, 1) := by decide +kernel
theorem dX7_goes_44 : decode cX7_goes 44 = .ok (.aload_n 0, 1) := by decide +kernel
theorem dX7_goes_45 : decode cX7_goes 45 = .ok (.getfield 40, 3) := by decide +kernel
theorem dX7_goes_48 : decode cX7_goes 48 = .ok (.iload_n 1, 1) := by decide +kernel
theorem dX7_goes_49 : decode cX7_goes 49 = .ok (.aload_n 0, 1) := by decide +kernel
theorem dX7_goes_50 : decode cX7_goes 50 = .ok (.getfield 40, 3) := by decide +kernel
theorem dX7_goes_53 : decode cX7_goes 53 = .ok (.iload_n 1, 1) := by decide +kernel
theorem dX7_goes_54 : decode cX7_goes 54 = .ok (.iload_n 2, 1) := by decide +kernel
theorem dX7_goes_55 : decode cX7_goes 55 = .ok (.iload_n 2, 1) := by decide +kernel
theorem dX7_goes_56 : decode cX7_goes 56 = .ok (.invokevirtual 191, 3) := by decide +kernel
theorem dX7_goes_59 : decode cX7_goes 59 = .ok (.invokevirtual 194, 3) := by decide +kernel
theorem dX7_goes_62 : decode cX7_goes 62 = .ok (.istore 4, 2) := by decide +kernel
theorem dX7_goes_64 : decode cX7_goes 64 = .ok (.aload_n 0, 1) := by decide +kernel
theorem dX7_goes_65 : decode cX7_goes 65 = .ok (.getfield 40, 3) := by decide +kernel
theorem dX7_goes_68 : decode cX7_goes 68 = .ok (.iload_n 1, 1) := by decide +kernel
theorem dX7_goes_69 : decode cX7_goes 69 = .ok (.invokevirtual 147, 3) := by decide +kernel
theorem dX7_goes_72 : decode cX7_goes 72 = .ok (.istore 5, 2) := by decide +kernel
theorem dX7_goes_74 : decode cX7_goes 74 = .ok (.iload 4, 2) := by decide +kernel
theorem dX7_goes_76 : decode cX7_goes 76 = .ok (.iload 5, 2) := by decide +kernel
theorem dX7_goes_78 : decode cX7_goes 78 = .ok (.invokestatic 197, 3) := by decide +kernel
theorem dX7_goes_81 : decode cX7_goes 81 = .ok (.istore 6, 2) := by decide +kernel
theorem dX7_goes_83 : decode cX7_goes 83 = .ok (.iload 6, 2) := by decide +kernel
theorem dX7_goes_85 : decode cX7_goes 85 = .ok (.ifCond .ne 6, 3) := by decide +kernel
theorem dX7_goes_88 : decode cX7_goes 88 = .ok (.bipush (-2), 2) := by decide +kernel
theorem dX7_goes_90 : decode cX7_goes 90 = .ok (.ireturn, 1) := by decide +kernel
theorem dX7_goes_91 : decode cX7_goes 91 = .ok (.iload_n 3, 1) := by decide +kernel
theorem dX7_goes_92 : decode cX7_goes 92 = .ok (.ifCond .ne 8, 3) := by decide +kernel
theorem dX7_goes_95 : decode cX7_goes 95 = .ok (.iload 4, 2) := by decide +kernel
theorem dX7_goes_97 : decode cX7_goes 97 = .ok (.goto 5, 3) := by decide +kernel
theorem dX7_goes_100 : decode cX7_goes 100 = .ok (.iload 5, 2) := by decide +kernel
theorem dX7_goes_102 : decode cX7_goes 102 = .ok (.iload 6, 2) := by decide +kernel
theorem dX7_goes_104 : decode cX7_goes 104 = .ok (.idiv, 1) := by decide +kernel
theorem dX7_goes_105 : decode cX7_goes 105 = .ok (.ireturn, 1) := by decide +kernel
theorem dX7_tell_0 : decode cX7_tell 0 = .ok (.aload_n 0, 1) := by decide +kernel
theorem dX7_tell_1 : decode cX7_tell 1 = .ok (.iload_n 1, 1) := by decide +kernel
theorem dX7_tell_2 : decode cX7_tell 2 = .ok (.invokevirtual 117, 3) := by decide +kernel
theorem dX7_tell_5 : decode cX7_tell 5 = .ok (.ifCond .eq 12, 3) := by decide +kernel
theorem dX7_tell_8 : decode cX7_tell 8 = .ok (.iload_n 2, 1) := by decide +kernel
theorem dX7_tell_9 : decode cX7_tell 9 = .ok (.ifCond .lt 8, 3) := by decide +kernel
theorem dX7_tell_12 : decode cX7_tell 12 = .ok (.iload_n 2, 1) := by decide +kernel
theorem dX7_tell_13 : decode cX7_tell 13 = .ok (.iconst 1, 1) := by decide +kernel
theorem dX7_tell_14 : decode cX7_tell 14 = .ok (.if_icmp .le 5, 3) := by decide +kernel
theorem dX7_tell_17 : decode cX7_tell 17 = .ok (.iconst (-1), 1) := by decide +kernel
theorem dX7_tell_18 : decode cX7_tell 18 = .ok (.ireturn, 1) := by decide +kernel
theorem dX7_tell_19 : decode cX7_tell 19 = .ok (.aload_n 0, 1) := by decide +kernel
theorem dX7_tell_20 : decode cX7_tell 20 = .ok (.getfield 40, 3) := by decide +kernel
theorem dX7_tell_23 : decode cX7_tell 23 = .ok (.getfield 200, 3) := by decide +kernel
theorem dX7_tell_26 : decode cX7_tell 26 = .ok (.istore_n 3, 1) := by decide +kernel
theorem dX7_tell_27 : decode cX7_tell 27 = .ok (.aload_n 0, 1) := by decide +kernel
theorem dX7_tell_28 : decode cX7_tell 28 = .ok (.getfield 40, 3) := by decide +kernel
theorem dX7_tell_31 : decode cX7_tell 31 = .ok (.iconst 2, 1) := by decide +kernel
theorem dX7_tell_32 : decode cX7_tell 32 = .ok (.iload_n 1, 1) := by decide +kernel
theorem dX7_tell_33 : decode cX7_tell 33 = .ok (.imul, 1) := by decide +kernel
theorem dX7_tell_34 : decode cX7_tell 34 = .ok (.iload_n 2, 1) := by decide +kernel
theorem dX7_tell_35 : decode cX7_tell 35 = .ok (.iadd, 1) := by decide +kernel
theorem dX7_tell_36 : decode cX7_tell 36 = .ok (.putfield 200, 3) := by decide +kernel
theorem dX7_tell_39 : decode cX7_tell 39 = .ok (.iload_n 3, 1) := by decide +kernel
theorem dX7_tell_40 : decode cX7_tell 40 = .ok (.ireturn, 1) := by decide +kernel
theorem dX7_on_0 : decode cX7_on 0 = .ok (.iload_n 1, 1) := by decide +kernel
theorem dX7_on_1 : decode cX7_on 1 = .ok (.invokestatic 203, 3) := by decide +kernel
theorem dX7_on_4 : decode cX7_on 4 = .ok (.ifCond .eq 10, 3) := by decide +kernel
theorem dX7_on_7 : decode cX7_on 7 = .ok (.iload_n 2, 1) := by decide +kernel
theorem dX7_on_8 : decode cX7_on 8 = .ok (.invokestatic 206, 3) := by decide +kernel
theorem dX7_on_11 : decode cX7_on 11 = .ok (.ifCond .ne 5, 3) := by decide +kernel
theorem dX7_on_14 : decode cX7_on 14 = .ok (.iconst (-1), 1) := by decide +kernel
theorem dX7_on_15 : decode cX7_on 15 = .ok (.ireturn, 1) := by decide +kernel
theorem dX7_on_16 : decode cX7_on 16 = .ok (.aload_n 0, 1) := by decide +kernel
theorem dX7_on_17 : decode cX7_on 17 = .ok (.getfield 40, 3) := by decide +kernel
theorem dX7_on_20 : decode cX7_on 20 = .ok (.iload_n 1, 1) := by decide +kernel
theorem dX7_on_21 : decode cX7_on 21 = .ok (.iload_n 2, 1) := by decide +kernel
theorem dX7_on_22 : decode cX7_on 22 = .ok (.aload_n 0, 1) := by decide +kernel
theorem dX7_on_23 : decode cX7_on 23 = .ok (.getfield 28, 3) := by decide +kernel
theorem dX7_on_26 : decode cX7_on 26 = .ok (.getfield 160, 3) := by decide +kernel
theorem dX7_on_29 : decode cX7_on 29 = .ok (.invokevirtual 209, 3) := by decide +kernel
theorem dX7_on_32 : decode cX7_on 32 = .ok (.aload_n 0, 1) := by decide +kernel
theorem dX7_on_33 : decode cX7_on 33 = .ok (.getfield 40, 3) := by decide +kernel
theorem dX7_on_36 : decode cX7_on 36 = .ok (.invokevirtual 213, 3) := by decide +kernel
theorem dX7_on_39 : decode cX7_on 39 = .ok (.ireturn, 1) := by decide +kernel
theorem dX7_sky_0 : decode cX7_sky 0 = .ok (.iload_n 1, 1) := by decide +kernel
theorem dX7_sky_1 : decode cX7_sky 1 = .ok (.invokestatic 206, 3) := by decide +kernel
theorem dX7_sky_4 : decode cX7_sky 4 = .ok (.ifCond .ne 5, 3) := by decide +kernel
theorem dX7_sky_7 : decode cX7_sky 7 = .ok (.iconst (-1), 1) := by decide +kernel
theorem dX7_sky_8 : decode cX7_sky 8 = .ok (.ireturn, 1) := by decide +kernel
theorem dX7_sky_9 : decode cX7_sky 9 = .ok (.aload_n 0, 1) := by decide +kernel
theorem dX7_sky_10 : decode cX7_sky 10 = .ok (.getfield 63, 3) := by decide +kernel
theorem dX7_sky_13 : decode cX7_sky 13 = .ok (.bipush 12, 2) := by decide +kernel
theorem dX7_sky_15 : decode cX7_sky 15 = .ok (.if_icmp .lt 6, 3) := by decide +kernel
theorem dX7_sky_18 : decode cX7_sky 18 = .ok (.bipush (-3), 2) := by decide +kernel
theorem dX7_sky_20 : decode cX7_sky 20 = .ok (.ireturn, 1) := by decide +kernel
theorem dX7_sky_21 : decode cX7_sky 21 = .ok (.aload_n 0, 1) := by decide +kernel
theorem dX7_sky_22 : decode cX7_sky 22 = .ok (.getfield 59, 3) := by decide +kernel
theorem dX7_sky_25 : decode cX7_sky 25 = .ok (.aload_n 0, 1) := by decide +kernel
theorem dX7_sky_26 : decode cX7_sky 26 = .ok (.getfield 63, 3) := by decide +kernel
theorem dX7_sky_29 : decode cX7_sky 29 = .ok (.iload_n 1, 1) := by decide +kernel
theorem dX7_sky_30 : decode cX7_sky 30 = .ok (.invokevirtual 187, 3) := by decide +kernel
theorem dX7_sky_33 : decode cX7_sky 33 = .ok (.aload_n 0, 1) := by decide +kernel
theorem dX7_sky_34 : decode cX7_sky 34 = .ok (.dup, 1) := by decide +kernel
theorem dX7_sky_35 : decode cX7_sky 35 = .ok (.getfield 63, 3) := by decide +kernel
theorem dX7_sky_38 : decode cX7_sky 38 = .ok (.iconst 1, 1) := by decide +kernel
theorem dX7_sky_39 : decode cX7_sky 39 = .ok (.iadd, 1) := by decide +kernel
theorem dX7_sky_40 : decode cX7_sky 40 = .ok (.putfield 63, 3) := by decide +kernel
theorem dX7_sky_43 : decode cX7_sky 43 = .ok (.aload_n 0, 1) := by decide +kernel
theorem dX7_sky_44 : decode cX7_sky 44 = .ok (.getfield 63, 3) := by decide +kernel
theorem dX7_sky_47 : decode cX7_sky 47 = .ok (.ireturn, 1) := by decide +kernel
theorem dX7_noSkies_0 : decode cX7_noSkies 0 = .ok (.aload_n 0, 1) := by decide +kernel
theorem dX7_noSkies_1 : decode cX7_noSkies 1 = .ok (.getfield 63, 3) := by decide +kernel
theorem dX7_noSkies_4 : decode cX7_noSkies 4 = .ok (.istore_n 1, 1) := by decide +kernel
theorem dX7_noSkies_5 : decode cX7_noSkies 5 = .ok (.aload_n 0, 1) := by decide +kernel
theorem dX7_noSkies_6 : decode cX7_noSkies 6 = .ok (.iconst 0, 1) := by decide +kernel
theorem dX7_noSkies_7 : decode cX7_noSkies 7 = .ok (.putfield 63, 3) := by decide +kernel
theorem dX7_noSkies_10 : decode cX7_noSkies 10 = .ok (.iload_n 1, 1) := by decide +kernel
theorem dX7_noSkies_11 : decode cX7_noSkies 11 = .ok (.ireturn, 1) := by decide +kernel
theorem dX7_loss_0 : decode cX7_loss 0 = .ok (.iload_n 1, 1) := by decide +kernel
theorem dX7_loss_1 : decode cX7_loss 1 = .ok (.invokestatic 203, 3) := by decide +kernel
theorem dX7_loss_4 : decode cX7_loss 4 = .ok (.ifCond .ne 7, 3) := by decide +kernel
theorem dX7_loss_7 : decode cX7_loss 7 = .ok (.ldc2_w 216, 3) := by decide +kernel
theorem dX7_loss_10 : decode cX7_loss 10 = .ok (.lreturn, 1) := by decide +kernel
theorem dX7_loss_11 : decode cX7_loss 11 = .ok (.aload_n 0, 1) := by decide +kernel
theorem dX7_loss_12 : decode cX7_loss 12 = .ok (.getfield 70, 3) := by decide +kernel
theorem dX7_loss_15 : decode cX7_loss 15 = .ok (.aload_n 0, 1) := by decide +kernel
theorem dX7_loss_16 : decode cX7_loss 16 = .ok (.getfield 40, 3) := by decide +kernel
theorem dX7_loss_19 : decode cX7_loss 19 = .ok (.invokevirtual 218, 3) := by decide +kernel
theorem dX7_loss_22 : decode cX7_loss 22 = .ok (.aload_n 0, 1) := by decide +kernel
theorem dX7_loss_23 : decode cX7_loss 23 = .ok (.iload_n 1, 1) := by decide +kernel
theorem dX7_loss_24 : decode cX7_loss 24 = .ok (.iload_n 1, 1) := by decide +kernel
theorem dX7_loss_25 : decode cX7_loss 25 = .ok (.aload_n 0, 1) := by decide +kernel
theorem dX7_loss_26 : decode cX7_loss 26 = .ok (.getfield 28, 3) := by decide +kernel
theorem dX7_loss_29 : decode cX7_loss 29 = .ok (.getfield 160, 3) := by decide +kernel
theorem dX7_loss_32 : decode cX7_loss 32 = .ok (.aload_n 0, 1) := by decide +kernel
theorem dX7_loss_33 : decode cX7_loss 33 = .ok (.getfield 28, 3) := by decide +kernel
theorem dX7_loss_36 : decode cX7_loss 36 = .ok (.getfield 160, 3) := by decide +kernel
theorem dX7_loss_39 : decode cX7_loss 39 = .ok (.invokevirtual 222, 3) := by decide +kernel
theorem dX7_loss_42 : decode cX7_loss 42 = .ok (.lreturn, 1) := by decide +kernel
theorem dX7_over_0 : decode cX7_over 0 = .ok (.iload_n 1, 1) := by decide +kernel
theorem dX7_over_1 : decode cX7_over 1 = .ok (.invokestatic 203, 3) := by decide +kernel
theorem dX7_over_4 : decode cX7_over 4 = .ok (.ifCond .eq 13, 3) := by decide +kernel
theorem dX7_over_7 : decode cX7_over 7 = .ok (.iload_n 2, 1) := by decide +kernel
theorem dX7_over_8 : decode cX7_over 8 = .ok (.iconst 1, 1) := by decide +kernel
theorem dX7_over_9 : decode cX7_over 9 = .ok (.if_icmp .lt 8, 3) := by decide +kernel
theorem dX7_over_12 : decode cX7_over 12 = .ok (.iload_n 2, 1) := by decide +kernel
theorem dX7_over_13 : decode cX7_over 13 = .ok (.iconst 5, 1) := by decide +kernel
theorem dX7_over_14 : decode cX7_over 14 = .ok (.if_icmp .le 7, 3) := by decide +kernel
theorem dX7_over_17 : decode cX7_over 17 = .ok (.ldc2_w 216, 3) := by decide +kernel
theorem dX7_over_20 : decode cX7_over 20 = .ok (.lreturn, 1) := by decide +kernel
theorem dX7_over_21 : decode cX7_over 21 = .ok (.aload_n 0, 1) := by decide +kernel
theorem dX7_over_22 : decode cX7_over 22 = .ok (.getfield 70, 3) := by decide +kernel
theorem dX7_over_25 : decode cX7_over 25 = .ok (.aload_n 0, 1) := by decide +kernel
theorem dX7_over_26 : decode cX7_over 26 = .ok (.getfield 40, 3) := by decide +kernel
theorem dX7_over_29 : decode cX7_over 29 = .ok (.invokevirtual 218, 3) := by decide +kernel
theorem dX7_over_32 : decode cX7_over 32 = .ok (.aload_n 0, 1) := by decide +kernel
theorem dX7_over_33 : decode cX7_over 33 = .ok (.getfield 70, 3) := by decide +kernel
theorem dX7_over_36 : decode cX7_over 36 = .ok (.iload_n 1, 1) := by decide +kernel
theorem dX7_over_37 : decode cX7_over 37 = .ok (.iload_n 2, 1) := by decide +kernel
theorem dX7_over_38 : decode cX7_over 38 = .ok (.invokestatic 226, 3) := by decide +kernel
theorem dX7_over_41 : decode cX7_over 41 = .ok (.lstore_n 3, 1) := by decide +kernel
theorem dX7_over_42 : decode cX7_over 42 = .ok (.iconst 0, 1) := by decide +kernel
theorem dX7_over_43 : decode cX7_over 43 = .ok (.istore 5, 2) := by decide +kernel
theorem dX7_over_45 : decode cX7_over 45 = .ok (.iload 5, 2) := by decide +kernel
theorem dX7_over_47 : decode cX7_over 47 = .ok (.iload_n 2, 1) := by decide +kernel
theorem dX7_over_48 : decode cX7_over 48 = .ok (.if_icmp .ge 15, 3) := by decide +kernel
theorem dX7_over_51 : decode cX7_over 51 = .ok (.lload_n 3, 1) := by decide +kernel
theorem dX7_over_52 : decode cX7_over 52 = .ok (.ldc2_w 230, 3) := by decide +kernel
theorem dX7_over_55 : decode cX7_over 55 = .ok (.ldiv, 1) := by decide +kernel
theorem dX7_over_56 : decode cX7_over 56 = .ok (.lstore_n 3, 1) := by decide +kernel
theorem dX7_over_57 : decode cX7_over 57 = .ok (.iinc 5 1, 3) := by decide +kernel
theorem dX7_over_60 : decode cX7_over 60 = .ok (.goto (-15), 3) := by decide +kernel
theorem dX7_over_63 : decode cX7_over 63 = .ok (.lload_n 3, 1) := by decide +kernel
theorem dX7_over_64 : decode cX7_over 64 = .ok (.lreturn, 1) := by decide +kernel
theorem dX7_best_0 : decode cX7_best 0 = .ok (.iload_n 1, 1) := by decide +kernel
theorem dX7_best_1 : decode cX7_best 1 = .ok (.iconst 1, 1) := by decide +kernel
theorem dX7_best_2 : decode cX7_best 2 = .ok (.if_icmp .lt 18, 3) := by decide +kernel
theorem dX7_best_5 : decode cX7_best 5 = .ok (.iload_n 1, 1) := by decide +kernel
theorem dX7_best_6 : decode cX7_best 6 = .ok (.iconst 3, 1) := by decide +kernel
theorem dX7_best_7 : decode cX7_best 7 = .ok (.if_icmp .gt 13, 3) := by decide +kernel
theorem dX7_best_10 : decode cX7_best 10 = .ok (.iload_n 2, 1) := by decide +kernel
theorem dX7_best_11 : decode cX7_best 11 = .ok (.iconst (-1), 1) := by decide +kernel
theorem dX7_best_12 : decode cX7_best 12 = .ok (.if_icmp .lt 8, 3) := by decide +kernel
theorem dX7_best_15 : decode cX7_best 15 = .ok (.iload_n 2, 1) := by decide +kernel
theorem dX7_best_16 : decode cX7_best 16 = .ok (.iload_n 1, 1) := by decide +kernel
theorem dX7_best_17 : decode cX7_best 17 = .ok (.if_icmp .lt 7, 3) := by decide +kernel
theorem dX7_best_20 : decode cX7_best 20 = .ok (.ldc2_w 216, 3) := by decide +kernel
theorem dX7_best_23 : decode cX7_best 23 = .ok (.lreturn, 1) := by decide +kernel
theorem dX7_best_24 : decode cX7_best 24 = .ok (.aload_n 0, 1) := by decide +kernel
theorem dX7_best_25 : decode cX7_best 25 = .ok (.getfield 63, 3) := by decide +kernel
theorem dX7_best_28 : decode cX7_best 28 = .ok (.iload_n 1, 1) := by decide +kernel
theorem dX7_best_29 : decode cX7_best 29 = .ok (.if_icmp .ge 7, 3) := by decide +kernel
theorem dX7_best_32 : decode cX7_best 32 = .ok (.ldc2_w 232, 3) := by decide +kernel
theorem dX7_best_35 : decode cX7_best 35 = .ok (.lreturn, 1) := by decide +kernel
theorem dX7_best_36 : decode cX7_best 36 = .ok (.aload_n 0, 1) := by decide +kernel
theorem dX7_best_37 : decode cX7_best 37 = .ok (.getfield 70, 3) := by decide +kernel
theorem dX7_best_40 : decode cX7_best 40 = .ok (.aload_n 0, 1) := by decide +kernel
theorem dX7_best_41 : decode cX7_best 41 = .ok (.getfield 40, 3) := by decide +kernel
theorem dX7_best_44 : decode cX7_best 44 = .ok (.invokevirtual 218, 3) := by decide +kernel
theorem dX7_best_47 : decode cX7_best 47 = .ok (.aload_n 0, 1) := by decide +kernel
theorem dX7_best_48 : decode cX7_best 48 = .ok (.getfield 78, 3) := by decide +kernel
theorem dX7_best_51 : decode cX7_best 51 = .ok (.aload_n 0, 1) := by decide +kernel
theorem dX7_best_52 : decode cX7_best 52 = .ok (.getfield 70, 3) := by decide +kernel
theorem dX7_best_55 : decode cX7_best 55 = .ok (.iload_n 1, 1) := by decide +kernel
theorem dX7_best_56 : decode cX7_best 56 = .ok (.invokevirtual 234, 3) := by decide +kernel
theorem dX7_best_59 : decode cX7_best 59 = .ok (.iload_n 2, 1) := by decide +kernel
theorem dX7_best_60 : decode cX7_best 60 = .ok (.iconst (-1), 1) := by decide +kernel
theorem dX7_best_61 : decode cX7_best 61 = .ok (.if_icmp .ne 13, 3) := by decide +kernel
theorem dX7_best_64 : decode cX7_best 64 = .ok (.aload_n 0, 1) := by decide +kernel
theorem dX7_best_65 : decode cX7_best 65 = .ok (.getfield 78, 3) := by decide +kernel
theorem dX7_best_68 : decode cX7_best 68 = .ok (.getfield 238, 3) := by decide +kernel
theorem dX7_best_71 : decode cX7_best 71 = .ok (.goto 15, 3) := by decide +kernel
theorem dX7_best_74 : decode cX7_best 74 = .ok (.aload_n 0, 1) := by decide +kernel
theorem dX7_best_75 : decode cX7_best 75 = .ok (.getfield 78, 3) := by decide +kernel
theorem dX7_best_78 : decode cX7_best 78 = .ok (.getfield 242, 3) := by decide +kernel
theorem dX7_best_81 : decode cX7_best 81 = .ok (.iload_n 2, 1) := by decide +kernel
theorem dX7_best_82 : decode cX7_best 82 = .ok (.invokevirtual 124, 3) := by decide +kernel
theorem dX7_best_85 : decode cX7_best 85 = .ok (.i2l, 1) := by decide +kernel
theorem dX7_best_86 : decode cX7_best 86 = .ok (.lreturn, 1) := by decide +kernel
theorem dX7_first_0 : decode cX7_first 0 = .ok (.aload_n 0, 1) := by decide +kernel
theorem dX7_first_1 : decode cX7_first 1 = .ok (.iload_n 1, 1) := by decide +kernel
theorem dX7_first_2 : decode cX7_first 2 = .ok (.invokevirtual 117, 3) := by decide +kernel
theorem dX7_first_5 : decode cX7_first 5 = .ok (.ifCond .ne 5, 3) := by decide +kernel
theorem dX7_first_8 : decode cX7_first 8 = .ok (.iconst (-1), 1) := by decide +kernel
theorem dX7_first_9 : decode cX7_first 9 = .ok (.ireturn, 1) := by decide +kernel
theorem dX7_first_10 : decode cX7_first 10 = .ok (.aload_n 0, 1) := by decide +kernel
theorem dX7_first_11 : decode cX7_first 11 = .ok (.getfield 40, 3) := by decide +kernel
theorem dX7_first_14 : decode cX7_first 14 = .ok (.iload_n 1, 1) := by decide +kernel
theorem dX7_first_15 : decode cX7_first 15 = .ok (.invokevirtual 138, 3) := by decide +kernel
theorem dX7_first_18 : decode cX7_first 18 = .ok (.ifCond .eq 10, 3) := by decide +kernel
theorem dX7_first_21 : decode cX7_first 21 = .ok (.aload_n 0, 1) := by decide +kernel
theorem dX7_first_22 : decode cX7_first 22 = .ok (.getfield 63, 3) := by decide +kernel
theorem dX7_first_25 : decode cX7_first 25 = .ok (.ifCond .ne 6, 3) := by decide +kernel
theorem dX7_first_28 : decode cX7_first 28 = .ok (.bipush (-2), 2) := by decide +kernel
theorem dX7_first_30 : decode cX7_first 30 = .ok (.ireturn, 1) := by decide +kernel
theorem dX7_first_31 : decode cX7_first 31 = .ok (.aload_n 0, 1) := by decide +kernel
theorem dX7_first_32 : decode cX7_first 32 = .ok (.getfield 70, 3) := by decide +kernel
theorem dX7_first_35 : decode cX7_first 35 = .ok (.aload_n 0, 1) := by decide +kernel
theorem dX7_first_36 : decode cX7_first 36 = .ok (.getfield 40, 3) := by decide +kernel
theorem dX7_first_39 : decode cX7_first 39 = .ok (.invokevirtual 218, 3) := by decide +kernel
theorem dX7_first_42 : decode cX7_first 42 = .ok (.aload_n 0, 1) := by decide +kernel
theorem dX7_first_43 : decode cX7_first 43 = .ok (.getfield 70, 3) := by decide +kernel
theorem dX7_first_46 : decode cX7_first 46 = .ok (.iconst 2, 1) := by decide +kernel
theorem dX7_first_47 : decode cX7_first 47 = .ok (.iload_n 1, 1) := by decide +kernel
theorem dX7_first_48 : decode cX7_first 48 = .ok (.imul, 1) := by decide +kernel
theorem dX7_first_49 : decode cX7_first 49 = .ok (.putfield 200, 3) := by decide +kernel
theorem dX7_first_52 : decode cX7_first 52 = .ok (.aload_n 0, 1) := by decide +kernel
theorem dX7_first_53 : decode cX7_first 53 = .ok (.iconst 3, 1) := by decide +kernel
theorem dX7_first_54 : decode cX7_first 54 = .ok (.iconst 0, 1) := by decide +kernel
theorem dX7_first_55 : decode cX7_first 55 = .ok (.aload_n 0, 1) := by decide +kernel
theorem dX7_first_56 : decode cX7_first 56 = .ok (.getfield 28, 3) := by decide +kernel
theorem dX7_first_59 : decode cX7_first 59 = .ok (.getfield 160, 3) := by decide +kernel
theorem dX7_first_62 : decode cX7_first 62 = .ok (.aload_n 0, 1) := by decide +kernel
theorem dX7_first_63 : decode cX7_first 63 = .ok (.getfield 28, 3) := by decide +kernel
theorem dX7_first_66 : decode cX7_first 66 = .ok (.getfield 160, 3) := by decide +kernel
theorem dX7_first_69 : decode cX7_first 69 = .ok (.invokevirtual 222, 3) := by decide +kernel
theorem dX7_first_72 : decode cX7_first 72 = .ok (.lstore_n 2, 1) := by decide +kernel
theorem dX7_first_73 : decode cX7_first 73 = .ok (.aload_n 0, 1) := by decide +kernel
theorem dX7_first_74 : decode cX7_first 74 = .ok (.getfield 70, 3) := by decide +kernel
theorem dX7_first_77 : decode cX7_first 77 = .ok (.aload_n 0, 1) := by decide +kernel
theorem dX7_first_78 : decode cX7_first 78 = .ok (.getfield 40, 3) := by decide +kernel
theorem dX7_first_81 : decode cX7_first 81 = .ok (.invokevirtual 218, 3) := by decide +kernel
theorem dX7_first_84 : decode cX7_first 84 = .ok (.aload_n 0, 1) := by decide +kernel
theorem dX7_first_85 : decode cX7_first 85 = .ok (.getfield 70, 3) := by decide +kernel
theorem dX7_first_88 : decode cX7_first 88 = .ok (.iconst 2, 1) := by decide +kernel
theorem dX7_first_89 : decode cX7_first 89 = .ok (.iload_n 1, 1) := by decide +kernel
theorem dX7_first_90 : decode cX7_first 90 = .ok (.imul, 1) := by decide +kernel
theorem dX7_first_91 : decode cX7_first 91 = .ok (.iconst 1, 1) := by decide +kernel
theorem dX7_first_92 : decode cX7_first 92 = .ok (.iadd, 1) := by decide +kernel
theorem dX7_first_93 : decode cX7_first 93 = .ok (.putfield 200, 3) := by decide +kernel
theorem dX7_first_96 : decode cX7_first 96 = .ok (.aload_n 0, 1) := by decide +kernel
theorem dX7_first_97 : decode cX7_first 97 = .ok (.iconst 3, 1) := by decide +kernel
theorem dX7_first_98 : decode cX7_first 98 = .ok (.iconst 0, 1) := by decide +kernel
theorem dX7_first_99 : decode cX7_first 99 = .ok (.aload_n 0, 1) := by decide +kernel
theorem dX7_first_100 : decode cX7_first 100 = .ok (.getfield 28, 3) := by decide +kernel
theorem dX7_first_103 : decode cX7_first 103 = .ok (.getfield 160, 3) := by decide +kernel
theorem dX7_first_106 : decode cX7_first 106 = .ok (.aload_n 0, 1) := by decide +kernel
theorem dX7_first_107 : decode cX7_first 107 = .ok (.getfield 28, 3) := by decide +kernel
theorem dX7_first_110 : decode cX7_first 110 = .ok (.getfield 160, 3) := by decide +kernel
theorem dX7_first_113 : decode cX7_first 113 = .ok (.invokevirtual 222, 3) := by decide +kernel
theorem dX7_first_116 : decode cX7_first 116 = .ok (.lstore 4, 2) := by decide +kernel
theorem dX7_first_118 : decode cX7_first 118 = .ok (.lload 4, 2) := by decide +kernel
theorem dX7_first_120 : decode cX7_first 120 = .ok (.lload_n 2, 1) := by decide +kernel
theorem dX7_first_121 : decode cX7_first 121 = .ok (.lcmp, 1) := by decide +kernel
theorem dX7_first_122 : decode cX7_first 122 = .ok (.ifCond .ge 7, 3) := by decide +kernel
theorem dX7_first_125 : decode cX7_first 125 = .ok (.iconst 1, 1) := by decide +kernel
theorem dX7_first_126 : decode cX7_first 126 = .ok (.goto 4, 3) := by decide +kernel
theorem dX7_first_129 : decode cX7_first 129 = .ok (.iconst 0, 1) := by decide +kernel
theorem dX7_first_130 : decode cX7_first 130 = .ok (.ireturn, 1) := by decide +kernel
theorem dX7_more_0 : decode cX7_more 0 = .ok (.iload_n 1, 1) := by decide +kernel
theorem dX7_more_1 : decode cX7_more 1 = .ok (.invokestatic 203, 3) := by decide +kernel
theorem dX7_more_4 : decode cX7_more 4 = .ok (.ifCond .eq 13, 3) := by decide +kernel
theorem dX7_more_7 : decode cX7_more 7 = .ok (.iload_n 2, 1) := by decide +kernel
theorem dX7_more_8 : decode cX7_more 8 = .ok (.ifCond .lt 9, 3) := by decide +kernel
theorem dX7_more_11 : decode cX7_more 11 = .ok (.iload_n 2, 1) := by decide +kernel
theorem dX7_more_12 : decode cX7_more 12 = .ok (.bipush 9, 2) := by decide +kernel
theorem dX7_more_14 : decode cX7_more 14 = .ok (.if_icmp .le 7, 3) := by decide +kernel
theorem dX7_more_17 : decode cX7_more 17 = .ok (.ldc2_w 216, 3) := by decide +kernel
theorem dX7_more_20 : decode cX7_more 20 = .ok (.lreturn, 1) := by decide +kernel
theorem dX7_more_21 : decode cX7_more 21 = .ok (.aload_n 0, 1) := by decide +kernel
theorem dX7_more_22 : decode cX7_more 22 = .ok (.getfield 70, 3) := by decide +kernel
theorem dX7_more_25 : decode cX7_more 25 = .ok (.aload_n 0, 1) := by decide +kernel
theorem dX7_more_26 : decode cX7_more 26 = .ok (.getfield 40, 3) := by decide +kernel
theorem dX7_more_29 : decode cX7_more 29 = .ok (.invokevirtual 218, 3) := by decide +kernel
theorem dX7_more_32 : decode cX7_more 32 = .ok (.aload_n 0, 1) := by decide +kernel
theorem dX7_more_33 : decode cX7_more 33 = .ok (.iload_n 1, 1) := by decide +kernel
theorem dX7_more_34 : decode cX7_more 34 = .ok (.iload_n 1, 1) := by decide +kernel
theorem dX7_more_35 : decode cX7_more 35 = .ok (.aload_n 0, 1) := by decide +kernel
theorem dX7_more_36 : decode cX7_more 36 = .ok (.getfield 28, 3) := by decide +kernel
theorem dX7_more_39 : decode cX7_more 39 = .ok (.getfield 160, 3) := by decide +kernel
theorem dX7_more_42 : decode cX7_more 42 = .ok (.iload_n 2, 1) := by decide +kernel
theorem dX7_more_43 : decode cX7_more 43 = .ok (.iadd, 1) := by decide +kernel
theorem dX7_more_44 : decode cX7_more 44 = .ok (.aload_n 0, 1) := by decide +kernel
theorem dX7_more_45 : decode cX7_more 45 = .ok (.getfield 28, 3) := by decide +kernel
theorem dX7_more_48 : decode cX7_more 48 = .ok (.getfield 160, 3) := by decide +kernel
theorem dX7_more_51 : decode cX7_more 51 = .ok (.iload_n 2, 1) := by decide +kernel
theorem dX7_more_52 : decode cX7_more 52 = .ok (.iadd, 1) := by decide +kernel
theorem dX7_more_53 : decode cX7_more 53 = .ok (.invokevirtual 222, 3) := by decide +kernel
theorem dX7_more_56 : decode cX7_more 56 = .ok (.lreturn, 1) := by decide +kernel
theorem dX7_prop_0 : decode cX7_prop 0 = .ok (.aload_n 0, 1) := by decide +kernel
theorem dX7_prop_1 : decode cX7_prop 1 = .ok (.iload_n 1, 1) := by decide +kernel
theorem dX7_prop_2 : decode cX7_prop 2 = .ok (.invokevirtual 245, 3) := by decide +kernel
theorem dX7_prop_5 : decode cX7_prop 5 = .ok (.istore_n 2, 1) := by decide +kernel
theorem dX7_prop_6 : decode cX7_prop 6 = .ok (.iload_n 2, 1) := by decide +kernel
theorem dX7_prop_7 : decode cX7_prop 7 = .ok (.ifCond .eq 5, 3) := by decide +kernel
theorem dX7_prop_10 : decode cX7_prop 10 = .ok (.iload_n 2, 1) := by decide +kernel
theorem dX7_prop_11 : decode cX7_prop 11 = .ok (.ireturn, 1) := by decide +kernel
theorem dX7_prop_12 : decode cX7_prop 12 = .ok (.aload_n 0, 1) := by decide +kernel
theorem dX7_prop_13 : decode cX7_prop 13 = .ok (.getfield 40, 3) := by decide +kernel
theorem dX7_prop_16 : decode cX7_prop 16 = .ok (.iload_n 1, 1) := by decide +kernel
theorem dX7_prop_17 : decode cX7_prop 17 = .ok (.invokevirtual 248, 3) := by decide +kernel
theorem dX7_prop_20 : decode cX7_prop 20 = .ok (.aload_n 0, 1) := by decide +kernel
theorem dX7_prop_21 : decode cX7_prop 21 = .ok (.getfield 40, 3) := by decide +kernel
theorem dX7_prop_24 : decode cX7_prop 24 = .ok (.getfield 135, 3) := by decide +kernel
theorem dX7_prop_27 : decode cX7_prop 27 = .ok (.iload_n 1, 1) := by decide +kernel
theorem dX7_prop_28 : decode cX7_prop 28 = .ok (.invokevirtual 124, 3) := by decide +kernel
theorem dX7_prop_31 : decode cX7_prop 31 = .ok (.ireturn, 1) := by decide +kernel
theorem dX7_instead_0 : decode cX7_instead 0 = .ok (.iload_n 1, 1) := by decide +kernel
theorem dX7_instead_1 : decode cX7_instead 1 = .ok (.invokestatic 203, 3) := by decide +kernel
theorem dX7_instead_4 : decode cX7_instead 4 = .ok (.ifCond .ne 7, 3) := by decide +kernel
theorem dX7_instead_7 : decode cX7_instead 7 = .ok (.ldc2_w 216, 3) := by decide +kernel
theorem dX7_instead_10 : decode cX7_instead 10 = .ok (.lreturn, 1) := by decide +kernel
theorem dX7_instead_11 : decode cX7_instead 11 = .ok (.aload_n 0, 1) := by decide +kernel
theorem dX7_instead_12 : decode cX7_instead 12 = .ok (.iload_n 2, 1) := by decide +kernel
theorem dX7_instead_13 : decode cX7_instead 13 = .ok (.invokevirtual 245, 3) := by decide +kernel
theorem dX7_instead_16 : decode cX7_instead 16 = .ok (.istore_n 3, 1) := by decide +kernel
theorem dX7_instead_17 : decode cX7_instead 17 = .ok (.iload_n 3, 1) := by decide +kernel
theorem dX7_instead_18 : decode cX7_instead 18 = .ok (.ifCond .eq 6, 3) := by decide +kernel
theorem dX7_instead_21 : decode cX7_instead 21 = .ok (.iload_n 3, 1) := by decide +kernel
theorem dX7_instead_22 : decode cX7_instead 22 = .ok (.i2l, 1) := by decide +kernel
theorem dX7_instead_23 : decode cX7_instead 23 = .ok (.lreturn, 1) := by decide +kernel
theorem dX7_instead_24 : decode cX7_instead 24 = .ok (.aload_n 0, 1) := by decide +kernel
theorem dX7_instead_25 : decode cX7_instead 25 = .ok (.getfield 70, 3) := by decide +kernel
theorem dX7_instead_28 : decode cX7_instead 28 = .ok (.aload_n 0, 1) := by decide +kernel
theorem dX7_instead_29 : decode cX7_instead 29 = .ok (.getfield 40, 3) := by decide +kernel
theorem dX7_instead_32 : decode cX7_instead 32 = .ok (.invokevirtual 218, 3) := by decide +kernel
theorem dX7_instead_35 : decode cX7_instead 35 = .ok (.aload_n 0, 1) := by decide +kernel
theorem dX7_instead_36 : decode cX7_instead 36 = .ok (.getfield 70, 3) := by decide +kernel
theorem dX7_instead_39 : decode cX7_instead 39 = .ok (.iload_n 2, 1) := by decide +kernel
theorem dX7_instead_40 : decode cX7_instead 40 = .ok (.invokevirtual 248, 3) := by decide +kernel
theorem dX7_instead_43 : decode cX7_instead 43 = .ok (.aload_n 0, 1) := by decide +kernel
theorem dX7_instead_44 : decode cX7_instead 44 = .ok (.iload_n 1, 1) := by decide +kernel
theorem dX7_instead_45 : decode cX7_instead 45 = .ok (.iload_n 1, 1) := by decide +kernel
theorem dX7_instead_46 : decode cX7_instead 46 = .ok (.aload_n 0, 1) := by decide +kernel
theorem dX7_instead_47 : decode cX7_instead 47 = .ok (.getfield 28, 3) := by decide +kernel
theorem dX7_instead_50 : decode cX7_instead 50 = .ok (.getfield 160, 3) := by decide +kernel
theorem dX7_instead_53 : decode cX7_instead 53 = .ok (.iconst 1, 1) := by decide +kernel
theorem dX7_instead_54 : decode cX7_instead 54 = .ok (.isub, 1) := by decide +kernel
theorem dX7_instead_55 : decode cX7_instead 55 = .ok (.iconst 0, 1) := by decide +kernel
theorem dX7_instead_56 : decode cX7_instead 56 = .ok (.invokestatic 251, 3) := by decide +kernel
theorem dX7_instead_59 : decode cX7_instead 59 = .ok (.aload_n 0, 1) := by decide +kernel
theorem dX7_instead_60 : decode cX7_instead 60 = .ok (.getfield 28, 3) := by decide +kernel
theorem dX7_instead_63 : decode cX7_instead 63 = .ok (.getfield 160, 3) := by decide +kernel
theorem dX7_instead_66 : decode cX7_instead 66 = .ok (.invokevirtual 222, 3) := by decide +kernel
theorem dX7_instead_69 : decode cX7_instead 69 = .ok (.lreturn, 1) := by decide +kernel
theorem dX7_look_0 : decode cX7_look 0 = .ok (.aload_n 0, 1) := by decide +kernel
theorem dX7_look_1 : decode cX7_look 1 = .ok (.iload_n 1, 1) := by decide +kernel
theorem dX7_look_2 : decode cX7_look 2 = .ok (.invokevirtual 117, 3) := by decide +kernel
theorem dX7_look_5 : decode cX7_look 5 = .ok (.ifCond .ne 7, 3) := by decide +kernel
theorem dX7_look_8 : decode cX7_look 8 = .ok (.ldc2_w 216, 3) := by decide +kernel
theorem dX7_look_11 : decode cX7_look 11 = .ok (.lreturn, 1) := by decide +kernel
theorem dX7_look_12 : decode cX7_look 12 = .ok (.aload_n 0, 1) := by decide +kernel
theorem dX7_look_13 : decode cX7_look 13 = .ok (.getfield 40, 3) := by decide +kernel
theorem dX7_look_16 : decode cX7_look 16 = .ok (.iload_n 1, 1) := by decide +kernel
theorem dX7_look_17 : decode cX7_look 17 = .ok (.invokevirtual 147, 3) := by decide +kernel
theorem dX7_look_20 : decode cX7_look 20 = .ok (.istore_n 2, 1) := by decide +kernel
theorem dX7_look_21 : decode cX7_look 21 = .ok (.aload_n 0, 1) := by decide +kernel
theorem dX7_look_22 : decode cX7_look 22 = .ok (.getfield 40, 3) := by decide +kernel
theorem dX7_look_25 : decode cX7_look 25 = .ok (.iload_n 1, 1) := by decide +kernel
theorem dX7_look_26 : decode cX7_look 26 = .ok (.invokevirtual 138, 3) := by decide +kernel
theorem dX7_look_29 : decode cX7_look 29 = .ok (.ifCond .eq 14, 3) := by decide +kernel
theorem dX7_look_32 : decode cX7_look 32 = .ok (.aload_n 0, 1) := by decide +kernel
theorem dX7_look_33 : decode cX7_look 33 = .ok (.getfield 63, 3) := by decide +kernel
theorem dX7_look_36 : decode cX7_look 36 = .ok (.ifCond .eq 7, 3) := by decide +kernel
theorem dX7_look_39 : decode cX7_look 39 = .ok (.iload_n 2, 1) := by decide +kernel
theorem dX7_look_40 : decode cX7_look 40 = .ok (.ifCond .ne 7, 3) := by decide +kernel
theorem dX7_look_43 : decode cX7_look 43 = .ok (.ldc2_w 232, 3) := by decide +kernel
theorem dX7_look_46 : decode cX7_look 46 = .ok (.lreturn, 1) := by decide +kernel
theorem dX7_look_47 : decode cX7_look 47 = .ok (.aload_n 0, 1) := by decide +kernel
theorem dX7_look_48 : decode cX7_look 48 = .ok (.getfield 70, 3) := by decide +kernel
theorem dX7_look_51 : decode cX7_look 51 = .ok (.aload_n 0, 1) := by decide +kernel
theorem dX7_look_52 : decode cX7_look 52 = .ok (.getfield 40, 3) := by decide +kernel
theorem dX7_look_55 : decode cX7_look 55 = .ok (.invokevirtual 218, 3) := by decide +kernel
theorem dX7_look_58 : decode cX7_look 58 = .ok (.aload_n 0, 1) := by decide +kernel
theorem dX7_look_59 : decode cX7_look 59 = .ok (.getfield 78, 3) := by decide +kernel
theorem dX7_look_62 : decode cX7_look 62 = .ok (.aload_n 0, 1) := by decide +kernel
theorem dX7_look_63 : decode cX7_look 63 = .ok (.getfield 70, 3) := by decide +kernel
theorem dX7_look_66 : decode cX7_look 66 = .ok (.iconst 1, 1) := by decide +kernel
theorem dX7_look_67 : decode cX7_look 67 = .ok (.invokevirtual 234, 3) := by decide +kernel
theorem dX7_look_70 : decode cX7_look 70 = .ok (.iload_n 2, 1) := by decide +kernel
theorem dX7_look_71 : decode cX7_look 71 = .ok (.i2l, 1) := by decide +kernel
theorem dX7_look_72 : decode cX7_look 72 = .ok (.aload_n 0, 1) := by decide +kernel
theorem dX7_look_73 : decode cX7_look 73 = .ok (.getfield 78, 3) := by decide +kernel
theorem dX7_look_76 : decode cX7_look 76 = .ok (.getfield 238, 3) := by decide +kernel
theorem dX7_look_79 : decode cX7_look 79 = .ok (.lmul, 1) := by decide +kernel
theorem dX7_look_80 : decode cX7_look 80 = .ok (.lstore_n 3, 1) := by decide +kernel
theorem dX7_look_81 : decode cX7_look 81 = .ok (.iconst 0, 1) := by decide +kernel
theorem dX7_look_82 : decode cX7_look 82 = .ok (.istore 5, 2) := by decide +kernel
theorem dX7_look_84 : decode cX7_look 84 = .ok (.iload 5, 2) := by decide +kernel
theorem dX7_look_86 : decode cX7_look 86 = .ok (.iconst 4, 1) := by decide +kernel
theorem dX7_look_87 : decode cX7_look 87 = .ok (.if_icmp .ge 67, 3) := by decide +kernel
theorem dX7_look_90 : decode cX7_look 90 = .ok (.aload_n 0, 1) := by decide +kernel
theorem dX7_look_91 : decode cX7_look 91 = .ok (.getfield 40, 3) := by decide +kernel
theorem dX7_look_94 : decode cX7_look 94 = .ok (.iload_n 1, 1) := by decide +kernel
theorem dX7_look_95 : decode cX7_look 95 = .ok (.iload 5, 2) := by decide +kernel
theorem dX7_look_97 : decode cX7_look 97 = .ok (.invokevirtual 150, 3) := by decide +kernel
theorem dX7_look_100 : decode cX7_look 100 = .ok (.istore 6, 2) := by decide +kernel
theorem dX7_look_102 : decode cX7_look 102 = .ok (.iload 6, 2) := by decide +kernel
theorem dX7_look_104 : decode cX7_look 104 = .ok (.ifCond .le 44, 3) := by decide +kernel
theorem dX7_look_107 : decode cX7_look 107 = .ok (.aload_n 0, 1) := by decide +kernel
theorem dX7_look_108 : decode cX7_look 108 = .ok (.getfield 70, 3) := by decide +kernel
theorem dX7_look_111 : decode cX7_look 111 = .ok (.getfield 184, 3) := by decide +kernel
theorem dX7_look_114 : decode cX7_look 114 = .ok (.iload_n 1, 1) := by decide +kernel
theorem dX7_look_115 : decode cX7_look 115 = .ok (.iconst 1, 1) := by decide +kernel
theorem dX7_look_116 : decode cX7_look 116 = .ok (.iload 5, 2) := by decide +kernel
theorem dX7_look_118 : decode cX7_look 118 = .ok (.ishl, 1) := by decide +kernel
theorem dX7_look_119 : decode cX7_look 119 = .ok (.invokevirtual 187, 3) := by decide +kernel
theorem dX7_look_122 : decode cX7_look 122 = .ok (.aload_n 0, 1) := by decide +kernel
theorem dX7_look_123 : decode cX7_look 123 = .ok (.getfield 78, 3) := by decide +kernel
theorem dX7_look_126 : decode cX7_look 126 = .ok (.aload_n 0, 1) := by decide +kernel
theorem dX7_look_127 : decode cX7_look 127 = .ok (.getfield 70, 3) := by decide +kernel
theorem dX7_look_130 : decode cX7_look 130 = .ok (.iconst 1, 1) := by decide +kernel
theorem dX7_look_131 : decode cX7_look 131 = .ok (.invokevirtual 234, 3) := by decide +kernel
theorem dX7_look_134 : decode cX7_look 134 = .ok (.lload_n 3, 1) := by decide +kernel
theorem dX7_look_135 : decode cX7_look 135 = .ok (.iload 6, 2) := by decide +kernel
theorem dX7_look_137 : decode cX7_look 137 = .ok (.i2l, 1) := by decide +kernel
theorem dX7_look_138 : decode cX7_look 138 = .ok (.aload_n 0, 1) := by decide +kernel
theorem dX7_look_139 : decode cX7_look 139 = .ok (.getfield 78, 3) := by decide +kernel
theorem dX7_look_142 : decode cX7_look 142 = .ok (.getfield 238, 3) := by decide +kernel
theorem dX7_look_145 : decode cX7_look 145 = .ok (.lmul, 1) := by decide +kernel
theorem dX7_look_146 : decode cX7_look 146 = .ok (.lsub, 1) := by decide +kernel
theorem dX7_look_147 : decode cX7_look 147 = .ok (.lstore_n 3, 1) := by decide +kernel
theorem dX7_look_148 : decode cX7_look 148 = .ok (.iinc 5 1, 3) := by decide +kernel
theorem dX7_look_151 : decode cX7_look 151 = .ok (.goto (-67), 3) := by decide +kernel
theorem dX7_look_154 : decode cX7_look 154 = .ok (.lload_n 3, 1) := by decide +kernel
theorem dX7_look_155 : decode cX7_look 155 = .ok (.iload_n 2, 1) := by decide +kernel
theorem dX7_look_156 : decode cX7_look 156 = .ok (.i2l, 1) := by decide +kernel
theorem dX7_look_157 : decode cX7_look 157 = .ok (.ldiv, 1) := by decide +kernel
theorem dX7_look_158 : decode cX7_look 158 = .ok (.lreturn, 1) := by decide +kernel
theorem dX7_rain_0 : decode cX7_rain 0 = .ok (.iload_n 1, 1) := by decide +kernel
theorem dX7_rain_1 : decode cX7_rain 1 = .ok (.iconst 1, 1) := by decide +kernel
theorem dX7_rain_2 : decode cX7_rain 2 = .ok (.if_icmp .lt 9, 3) := by decide +kernel
theorem dX7_rain_5 : decode cX7_rain 5 = .ok (.iload_n 1, 1) := by decide +kernel
theorem dX7_rain_6 : decode cX7_rain 6 = .ok (.bipush 9, 2) := by decide +kernel
theorem dX7_rain_8 : decode cX7_rain 8 = .ok (.if_icmp .le 5, 3) := by decide +kernel
theorem dX7_rain_11 : decode cX7_rain 11 = .ok (.iconst (-1), 1) := by decide +kernel
theorem dX7_rain_12 : decode cX7_rain 12 = .ok (.ireturn, 1) := by decide +kernel
theorem dX7_rain_13 : decode cX7_rain 13 = .ok (.aload_n 0, 1) := by decide +kernel
theorem dX7_rain_14 : decode cX7_rain 14 = .ok (.getfield 70, 3) := by decide +kernel
theorem dX7_rain_17 : decode cX7_rain 17 = .ok (.aload_n 0, 1) := by decide +kernel
theorem dX7_rain_18 : decode cX7_rain 18 = .ok (.getfield 40, 3) := by decide +kernel
theorem dX7_rain_21 : decode cX7_rain 21 = .ok (.invokevirtual 218, 3) := by decide +kernel
theorem dX7_rain_24 : decode cX7_rain 24 = .ok (.iconst 0, 1) := by decide +kernel
theorem dX7_rain_25 : decode cX7_rain 25 = .ok (.istore_n 2, 1) := by decide +kernel
theorem dX7_rain_26 : decode cX7_rain 26 = .ok (.iload_n 2, 1) := by decide +kernel
theorem dX7_rain_27 : decode cX7_rain 27 = .ok (.iload_n 1, 1) := by decide +kernel
theorem dX7_rain_28 : decode cX7_rain 28 = .ok (.if_icmp .ge 19, 3) := by decide +kernel
theorem dX7_rain_31 : decode cX7_rain 31 = .ok (.aload_n 0, 1) := by decide +kernel
theorem dX7_rain_32 : decode cX7_rain 32 = .ok (.getfield 70, 3) := by decide +kernel
theorem dX7_rain_35 : decode cX7_rain 35 = .ok (.iconst 4, 1) := by decide +kernel
theorem dX7_rain_36 : decode cX7_rain 36 = .ok (.iconst 2, 1) := by decide +kernel
theorem dX7_rain_37 : decode cX7_rain 37 = .ok (.iconst 0, 1) := by decide +kernel
theorem dX7_rain_38 : decode cX7_rain 38 = .ok (.invokevirtual 209, 3) := by decide +kernel
theorem dX7_rain_41 : decode cX7_rain 41 = .ok (.iinc 2 1, 3) := by decide +kernel
theorem dX7_rain_44 : decode cX7_rain 44 = .ok (.goto (-18), 3) := by decide +kernel
theorem dX7_rain_47 : decode cX7_rain 47 = .ok (.iconst 0, 1) := by decide +kernel
theorem dX7_rain_48 : decode cX7_rain 48 = .ok (.istore_n 2, 1) := by decide +kernel
theorem dX7_rain_49 : decode cX7_rain 49 = .ok (.iconst 0, 1) := by decide +kernel
theorem dX7_rain_50 : decode cX7_rain 50 = .ok (.istore_n 3, 1) := by decide +kernel
theorem dX7_rain_51 : decode cX7_rain 51 = .ok (.iload_n 3, 1) := by decide +kernel
theorem dX7_rain_52 : decode cX7_rain 52 = .ok (.aload_n 0, 1) := by decide +kernel
theorem dX7_rain_53 : decode cX7_rain 53 = .ok (.getfield 28, 3) := by decide +kernel
theorem dX7_rain_56 : decode cX7_rain 56 = .ok (.getfield 114, 3) := by decide +kernel
theorem dX7_rain_59 : decode cX7_rain 59 = .ok (.if_icmp .ge 37, 3) := by decide +kernel
theorem dX7_rain_62 : decode cX7_rain 62 = .ok (.aload_n 0, 1) := by decide +kernel
theorem dX7_rain_63 : decode cX7_rain 63 = .ok (.getfield 40, 3) := by decide +kernel
theorem dX7_rain_66 : decode cX7_rain 66 = .ok (.iload_n 3, 1) := by decide +kernel
theorem dX7_rain_67 : decode cX7_rain 67 = .ok (.invokevirtual 138, 3) := by decide +kernel
theorem dX7_rain_70 : decode cX7_rain 70 = .ok (.ifCond .eq 20, 3) := by decide +kernel
theorem dX7_rain_73 : decode cX7_rain 73 = .ok (.aload_n 0, 1) := by decide +kernel
theorem dX7_rain_74 : decode cX7_rain 74 = .ok (.getfield 70, 3) := by decide +kernel
theorem dX7_rain_77 : decode cX7_rain 77 = .ok (.iload_n 3, 1) := by decide +kernel
theorem dX7_rain_78 : decode cX7_rain 78 = .ok (.invokevirtual 256, 3) := by decide +kernel
theorem dX7_rain_81 : decode cX7_rain 81 = .ok (.ifCond .ne 9, 3) := by decide +kernel
theorem dX7_rain_84 : decode cX7_rain 84 = .ok (.iload_n 2, 1) := by decide +kernel
theorem dX7_rain_85 : decode cX7_rain 85 = .ok (.iconst 1, 1) := by decide +kernel
theorem dX7_rain_86 : decode cX7_rain 86 = .ok (.iload_n 3, 1) := by decide +kernel
theorem dX7_rain_87 : decode cX7_rain 87 = .ok (.ishl, 1) := by decide +kernel
theorem dX7_rain_88 : decode cX7_rain 88 = .ok (.ior, 1) := by decide +kernel
theorem dX7_rain_89 : decode cX7_rain 89 = .ok (.istore_n 2, 1) := by decide +kernel
theorem dX7_rain_90 : decode cX7_rain 90 = .ok (.iinc 3 1, 3) := by decide +kernel
theorem dX7_rain_93 : decode cX7_rain 93 = .ok (.goto (-42), 3) := by decide +kernel
theorem dX7_rain_96 : decode cX7_rain 96 = .ok (.iload_n 2, 1) := by decide +kernel
theorem dX7_rain_97 : decode cX7_rain 97 = .ok (.ireturn, 1) := by decide +kernel
theorem dX7_out_0 : decode cX7_out 0 = .ok (.aload_n 0, 1) := by decide +kernel
theorem dX7_out_1 : decode cX7_out 1 = .ok (.iload_n 1, 1) := by decide +kernel
theorem dX7_out_2 : decode cX7_out 2 = .ok (.invokevirtual 117, 3) := by decide +kernel
theorem dX7_out_5 : decode cX7_out 5 = .ok (.ifCond .eq 40, 3) := by decide +kernel
theorem dX7_out_8 : decode cX7_out 8 = .ok (.iload_n 2, 1) := by decide +kernel
theorem dX7_out_9 : decode cX7_out 9 = .ok (.invokestatic 203, 3) := by decide +kernel
theorem dX7_out_12 : decode cX7_out 12 = .ok (.ifCond .eq 33, 3) := by decide +kernel
theorem dX7_out_15 : decode cX7_out 15 = .ok (.iload_n 3, 1) := by decide +kernel
theorem dX7_out_16 : decode cX7_out 16 = .ok (.iconst 1, 1) := by decide +kernel
theorem dX7_out_17 : decode cX7_out 17 = .ok (.if_icmp .lt 28, 3) := by decide +kernel
theorem dX7_out_20 : decode cX7_out 20 = .ok (.iload 4, 2) := by decide +kernel
theorem dX7_out_22 : decode cX7_out 22 = .ok (.bipush 100, 2) := by decide +kernel
theorem dX7_out_24 : decode cX7_out 24 = .ok (.if_icmp .gt 21, 3) := by decide +kernel
theorem dX7_out_27 : decode cX7_out 27 = .ok (.iload_n 3, 1) := by decide +kernel
theorem dX7_out_28 : decode cX7_out 28 = .ok (.iload 4, 2) := by decide +kernel
theorem dX7_out_30 : decode cX7_out 30 = .ok (.if_icmp .gt 15, 3) := by decide +kernel
theorem dX7_out_33 : decode cX7_out 33 = .ok (.iload 5, 2) := by decide +kernel
theorem dX7_out_35 : decode cX7_out 35 = .ok (.ifCond .lt 10, 3) := by decide +kernel
theorem dX7_out_38 : decode cX7_out 38 = .ok (.iload 5, 2) := by decide +kernel
theorem dX7_out_40 : decode cX7_out 40 = .ok (.bipush 9, 2) := by decide +kernel
theorem dX7_out_42 : decode cX7_out 42 = .ok (.if_icmp .le 5, 3) := by decide +kernel
theorem dX7_out_45 : decode cX7_out 45 = .ok (.iconst (-1), 1) := by decide +kernel
theorem dX7_out_46 : decode cX7_out 46 = .ok (.ireturn, 1) := by decide +kernel
theorem dX7_out_47 : decode cX7_out 47 = .ok (.aload_n 0, 1) := by decide +kernel
theorem dX7_out_48 : decode cX7_out 48 = .ok (.getfield 40, 3) := by decide +kernel
theorem dX7_out_51 : decode cX7_out 51 = .ok (.iload_n 1, 1) := by decide +kernel
theorem dX7_out_52 : decode cX7_out 52 = .ok (.invokevirtual 138, 3) := by decide +kernel
theorem dX7_out_55 : decode cX7_out 55 = .ok (.ifCond .ne 6, 3) := by decide +kernel
theorem dX7_out_58 : decode cX7_out 58 = .ok (.bipush (-2), 2) := by decide +kernel
theorem dX7_out_60 : decode cX7_out 60 = .ok (.ireturn, 1) := by decide +kernel
theorem dX7_out_61 : decode cX7_out 61 = .ok (.aload_n 0, 1) := by decide +kernel
theorem dX7_out_62 : decode cX7_out 62 = .ok (.getfield 70, 3) := by decide +kernel
theorem dX7_out_65 : decode cX7_out 65 = .ok (.aload_n 0, 1) := by decide +kernel
theorem dX7_out_66 : decode cX7_out 66 = .ok (.getfield 40, 3) := by decide +kernel
theorem dX7_out_69 : decode cX7_out 69 = .ok (.invokevirtual 218, 3) := by decide +kernel
theorem dX7_out_72 : decode cX7_out 72 = .ok (.iconst 1, 1) := by decide +kernel
theorem dX7_out_73 : decode cX7_out 73 = .ok (.istore 6, 2) := by decide +kernel
theorem dX7_out_75 : decode cX7_out 75 = .ok (.iload 6, 2) := by decide +kernel
theorem dX7_out_77 : decode cX7_out 77 = .ok (.aload_n 0, 1) := by decide +kernel
theorem dX7_out_78 : decode cX7_out 78 = .ok (.getfield 63, 3) := by decide +kernel
theorem dX7_out_81 : decode cX7_out 81 = .ok (.if_icmp .gt 77, 3) := by decide +kernel
theorem dX7_out_84 : decode cX7_out 84 = .ok (.aload_n 0, 1) := by decide +kernel
theorem dX7_out_85 : decode cX7_out 85 = .ok (.getfield 70, 3) := by decide +kernel
theorem dX7_out_88 : decode cX7_out 88 = .ok (.iload_n 2, 1) := by decide +kernel
theorem dX7_out_89 : decode cX7_out 89 = .ok (.aload_n 0, 1) := by decide +kernel
theorem dX7_out_90 : decode cX7_out 90 = .ok (.getfield 59, 3) := by decide +kernel
theorem dX7_out_93 : decode cX7_out 93 = .ok (.iload 6, 2) := by decide +kernel
theorem dX7_out_95 : decode cX7_out 95 = .ok (.iconst 1, 1) := by decide +kernel
theorem dX7_out_96 : decode cX7_out 96 = .ok (.isub, 1) := by decide +kernel
theorem dX7_out_97 : decode cX7_out 97 = .ok (.invokevirtual 124, 3) := by decide +kernel
theorem dX7_out_100 : decode cX7_out 100 = .ok (.aload_n 0, 1) := by decide +kernel
theorem dX7_out_101 : decode cX7_out 101 = .ok (.getfield 28, 3) := by decide +kernel
theorem dX7_out_104 : decode cX7_out 104 = .ok (.getfield 160, 3) := by decide +kernel
theorem dX7_out_107 : decode cX7_out 107 = .ok (.invokevirtual 209, 3) := by decide +kernel
theorem dX7_out_110 : decode cX7_out 110 = .ok (.aload_n 0, 1) := by decide +kernel
theorem dX7_out_111 : decode cX7_out 111 = .ok (.getfield 70, 3) := by decide +kernel
theorem dX7_out_114 : decode cX7_out 114 = .ok (.iload_n 1, 1) := by decide +kernel
theorem dX7_out_115 : decode cX7_out 115 = .ok (.invokevirtual 256, 3) := by decide +kernel
theorem dX7_out_118 : decode cX7_out 118 = .ok (.iload 4, 2) := by decide +kernel
theorem dX7_out_120 : decode cX7_out 120 = .ok (.imul, 1) := by decide +kernel
theorem dX7_out_121 : decode cX7_out 121 = .ok (.iload_n 3, 1) := by decide +kernel
theorem dX7_out_122 : decode cX7_out 122 = .ok (.aload_n 0, 1) := by decide +kernel
theorem dX7_out_123 : decode cX7_out 123 = .ok (.getfield 40, 3) := by decide +kernel
theorem dX7_out_126 : decode cX7_out 126 = .ok (.iload_n 1, 1) := by decide +kernel
theorem dX7_out_127 : decode cX7_out 127 = .ok (.invokevirtual 147, 3) := by decide +kernel
theorem dX7_out_130 : decode cX7_out 130 = .ok (.imul, 1) := by decide +kernel
theorem dX7_out_131 : decode cX7_out 131 = .ok (.if_icmp .lt 21, 3) := by decide +kernel
theorem dX7_out_134 : decode cX7_out 134 = .ok (.iload 6, 2) := by decide +kernel
theorem dX7_out_136 : decode cX7_out 136 = .ok (.iload 5, 2) := by decide +kernel
theorem dX7_out_138 : decode cX7_out 138 = .ok (.if_icmp .ge 8, 3) := by decide +kernel
theorem dX7_out_141 : decode cX7_out 141 = .ok (.bipush (-4), 2) := by decide +kernel
theorem dX7_out_143 : decode cX7_out 143 = .ok (.goto 8, 3) := by decide +kernel
theorem dX7_out_146 : decode cX7_out 146 = .ok (.iload 6, 2) := by decide +kernel
theorem dX7_out_148 : decode cX7_out 148 = .ok (.iload 5, 2) := by decide +kernel
theorem dX7_out_150 : decode cX7_out 150 = .ok (.isub, 1) := by decide +kernel
theorem dX7_out_151 : decode cX7_out 151 = .ok (.ireturn, 1) := by decide +kernel
theorem dX7_out_152 : decode cX7_out 152 = .ok (.iinc 6 1, 3) := by decide +kernel
theorem dX7_out_155 : decode cX7_out 155 = .ok (.goto (-80), 3) := by decide +kernel
theorem dX7_out_158 : decode cX7_out 158 = .ok (.bipush (-4), 2) := by decide +kernel
theorem dX7_out_160 : decode cX7_out 160 = .ok (.ireturn, 1) := by decide +kernel
theorem dX7_night_0 : decode cX7_night 0 = .ok (.iload_n 1, 1) := by decide +kernel
theorem dX7_night_1 : decode cX7_night 1 = .ok (.ifCond .lt 39, 3) := by decide +kernel
theorem dX7_night_4 : decode cX7_night 4 = .ok (.iload_n 1, 1) := by decide +kernel
theorem dX7_night_5 : decode cX7_night 5 = .ok (.sipush 9999, 3) := by decide +kernel
theorem dX7_night_8 : decode cX7_night 8 = .ok (.if_icmp .gt 32, 3) := by decide +kernel
theorem dX7_night_11 : decode cX7_night 11 = .ok (.iload_n 2, 1) := by decide +kernel
theorem dX7_night_12 : decode cX7_night 12 = .ok (.invokestatic 203, 3) := by decide +kernel
theorem dX7_night_15 : decode cX7_night 15 = .ok (.ifCond .eq 25, 3) := by decide +kernel
theorem dX7_night_18 : decode cX7_night 18 = .ok (.iload_n 3, 1) := by decide +kernel
theorem dX7_night_19 : decode cX7_night 19 = .ok (.iconst 1, 1) := by decide +kernel
theorem dX7_night_20 : decode cX7_night 20 = .ok (.if_icmp .lt 20, 3) := by decide +kernel
theorem dX7_night_23 : decode cX7_night 23 = .ok (.iload_n 3, 1) := by decide +kernel
theorem dX7_night_24 : decode cX7_night 24 = .ok (.bipush 24, 2) := by decide +kernel
theorem dX7_night_26 : decode cX7_night 26 = .ok (.if_icmp .gt 14, 3) := by decide +kernel
theorem dX7_night_29 : decode cX7_night 29 = .ok (.iload 4, 2) := by decide +kernel
theorem dX7_night_31 : decode cX7_night 31 = .ok (.ifCond .lt 9, 3) := by decide +kernel
theorem dX7_night_34 : decode cX7_night 34 = .ok (.iload 4, 2) := by decide +kernel
theorem dX7_night_36 : decode cX7_night 36 = .ok (.iconst 1, 1) := by decide +kernel
theorem dX7_night_37 : decode cX7_night 37 = .ok (.if_icmp .le 5, 3) := by decide +kernel
theorem dX7_night_40 : decode cX7_night 40 = .ok (.iconst (-1), 1) := by decide +kernel
theorem dX7_night_41 : decode cX7_night 41 = .ok (.ireturn, 1) := by decide +kernel
theorem dX7_night_42 : decode cX7_night 42 = .ok (.aload_n 0, 1) := by decide +kernel
theorem dX7_night_43 : decode cX7_night 43 = .ok (.getfield 70, 3) := by decide +kernel
theorem dX7_night_46 : decode cX7_night 46 = .ok (.aload_n 0, 1) := by decide +kernel
theorem dX7_night_47 : decode cX7_night 47 = .ok (.getfield 40, 3) := by decide +kernel
theorem dX7_night_50 : decode cX7_night 50 = .ok (.invokevirtual 218, 3) := by decide +kernel
theorem dX7_night_53 : decode cX7_night 53 = .ok (.aload_n 0, 1) := by decide +kernel
theorem dX7_night_54 : decode cX7_night 54 = .ok (.iload_n 1, 1) := by decide +kernel
theorem dX7_night_55 : decode cX7_night 55 = .ok (.invokevirtual 259, 3) := by decide +kernel
theorem dX7_night_58 : decode cX7_night 58 = .ok (.iconst 0, 1) := by decide +kernel
theorem dX7_night_59 : decode cX7_night 59 = .ok (.istore 5, 2) := by decide +kernel
theorem dX7_night_61 : decode cX7_night 61 = .ok (.iconst 0, 1) := by decide +kernel
theorem dX7_night_62 : decode cX7_night 62 = .ok (.istore 6, 2) := by decide +kernel
theorem dX7_night_64 : decode cX7_night 64 = .ok (.iload 6, 2) := by decide +kernel
theorem dX7_night_66 : decode cX7_night 66 = .ok (.iload_n 3, 1) := by decide +kernel
theorem dX7_night_67 : decode cX7_night 67 = .ok (.if_icmp .ge 53, 3) := by decide +kernel
theorem dX7_night_70 : decode cX7_night 70 = .ok (.aload_n 0, 1) := by decide +kernel
theorem dX7_night_71 : decode cX7_night 71 = .ok (.iload_n 1, 1) := by decide +kernel
theorem dX7_night_72 : decode cX7_night 72 = .ok (.aload_n 0, 1) := by decide +kernel
theorem dX7_night_73 : decode cX7_night 73 = .ok (.getfield 70, 3) := by decide +kernel
theorem dX7_night_76 : decode cX7_night 76 = .ok (.invokevirtual 262, 3) := by decide +kernel
theorem dX7_night_79 : decode cX7_night 79 = .ok (.istore 7, 2) := by decide +kernel
theorem dX7_night_81 : decode cX7_night 81 = .ok (.aload_n 0, 1) := by decide +kernel
theorem dX7_night_82 : decode cX7_night 82 = .ok (.getfield 70, 3) := by decide +kernel
theorem dX7_night_85 : decode cX7_night 85 = .ok (.iload_n 2, 1) := by decide +kernel
theorem dX7_night_86 : decode cX7_night 86 = .ok (.iload 7, 2) := by decide +kernel
theorem dX7_night_88 : decode cX7_night 88 = .ok (.aload_n 0, 1) := by decide +kernel
theorem dX7_night_89 : decode cX7_night 89 = .ok (.getfield 28, 3) := by decide +kernel
theorem dX7_night_92 : decode cX7_night 92 = .ok (.getfield 160, 3) := by decide +kernel
theorem dX7_night_95 : decode cX7_night 95 = .ok (.invokevirtual 209, 3) := by decide +kernel
theorem dX7_night_98 : decode cX7_night 98 = .ok (.iload 5, 2) := by decide +kernel
theorem dX7_night_100 : decode cX7_night 100 = .ok (.aload_n 0, 1) := by decide +kernel
theorem dX7_night_101 : decode cX7_night 101 = .ok (.getfield 70, 3) := by decide +kernel
theorem dX7_night_104 : decode cX7_night 104 = .ok (.aload_n 0, 1) := by decide +kernel
theorem dX7_night_105 : decode cX7_night 105 = .ok (.getfield 82, 3) := by decide +kernel
theorem dX7_night_108 : decode cX7_night 108 = .ok (.invokevirtual 266, 3) := by decide +kernel
theorem dX7_night_111 : decode cX7_night 111 = .ok (.ior, 1) := by decide +kernel
theorem dX7_night_112 : decode cX7_night 112 = .ok (.istore 5, 2) := by decide +kernel
theorem dX7_night_114 : decode cX7_night 114 = .ok (.iinc 6 1, 3) := by decide +kernel
theorem dX7_night_117 : decode cX7_night 117 = .ok (.goto (-53), 3) := by decide +kernel
theorem dX7_night_120 : decode cX7_night 120 = .ok (.iload 4, 2) := by decide +kernel
theorem dX7_night_122 : decode cX7_night 122 = .ok (.ifCond .ne 8, 3) := by decide +kernel
theorem dX7_night_125 : decode cX7_night 125 = .ok (.iload 5, 2) := by decide +kernel
theorem dX7_night_127 : decode cX7_night 127 = .ok (.goto 9, 3) := by decide +kernel
theorem dX7_night_130 : decode cX7_night 130 = .ok (.aload_n 0, 1) := by decide +kernel
theorem dX7_night_131 : decode cX7_night 131 = .ok (.iload 5, 2) := by decide +kernel
theorem dX7_night_133 : decode cX7_night 133 = .ok (.invokevirtual 270, 3) := by decide +kernel
theorem dX7_night_136 : decode cX7_night 136 = .ok (.ireturn, 1) := by decide +kernel
theorem dX7_keep_0 : decode cX7_keep 0 = .ok (.aload_n 0, 1) := by decide +kernel
theorem dX7_keep_1 : decode cX7_keep 1 = .ok (.getfield 50, 3) := by decide +kernel
theorem dX7_keep_4 : decode cX7_keep 4 = .ok (.iconst 2, 1) := by decide +kernel
theorem dX7_keep_5 : decode cX7_keep 5 = .ok (.if_icmp .lt 6, 3) := by decide +kernel
theorem dX7_keep_8 : decode cX7_keep 8 = .ok (.bipush (-3), 2) := by decide +kernel
theorem dX7_keep_10 : decode cX7_keep 10 = .ok (.ireturn, 1) := by decide +kernel
theorem dX7_keep_11 : decode cX7_keep 11 = .ok (.aload_n 0, 1) := by decide +kernel
theorem dX7_keep_12 : decode cX7_keep 12 = .ok (.aload_n 0, 1) := by decide +kernel
theorem dX7_keep_13 : decode cX7_keep 13 = .ok (.getfield 50, 3) := by decide +kernel
theorem dX7_keep_16 : decode cX7_keep 16 = .ok (.invokevirtual 273, 3) := by decide +kernel
theorem dX7_keep_19 : decode cX7_keep 19 = .ok (.aload_n 0, 1) := by decide +kernel
theorem dX7_keep_20 : decode cX7_keep 20 = .ok (.getfield 40, 3) := by decide +kernel
theorem dX7_keep_23 : decode cX7_keep 23 = .ok (.invokevirtual 277, 3) := by decide +kernel
theorem dX7_keep_26 : decode cX7_keep 26 = .ok (.aload_n 0, 1) := by decide +kernel
theorem dX7_keep_27 : decode cX7_keep 27 = .ok (.dup, 1) := by decide +kernel
theorem dX7_keep_28 : decode cX7_keep 28 = .ok (.getfield 50, 3) := by decide +kernel
theorem dX7_keep_31 : decode cX7_keep 31 = .ok (.iconst 1, 1) := by decide +kernel
theorem dX7_keep_32 : decode cX7_keep 32 = .ok (.iadd, 1) := by decide +kernel
theorem dX7_keep_33 : decode cX7_keep 33 = .ok (.putfield 50, 3) := by decide +kernel
theorem dX7_keep_36 : decode cX7_keep 36 = .ok (.aload_n 0, 1) := by decide +kernel
theorem dX7_keep_37 : decode cX7_keep 37 = .ok (.getfield 50, 3) := by decide +kernel
theorem dX7_keep_40 : decode cX7_keep 40 = .ok (.ireturn, 1) := by decide +kernel
theorem dX7_back_0 : decode cX7_back 0 = .ok (.aload_n 0, 1) := by decide +kernel
theorem dX7_back_1 : decode cX7_back 1 = .ok (.getfield 50, 3) := by decide +kernel
theorem dX7_back_4 : decode cX7_back 4 = .ok (.ifCond .gt 6, 3) := by decide +kernel
theorem dX7_back_7 : decode cX7_back 7 = .ok (.bipush (-2), 2) := by decide +kernel
theorem dX7_back_9 : decode cX7_back 9 = .ok (.ireturn, 1) := by decide +kernel
theorem dX7_back_10 : decode cX7_back 10 = .ok (.aload_n 0, 1) := by decide +kernel
theorem dX7_back_11 : decode cX7_back 11 = .ok (.dup, 1) := by decide +kernel
theorem dX7_back_12 : decode cX7_back 12 = .ok (.getfield 50, 3) := by decide +kernel
theorem dX7_back_15 : decode cX7_back 15 = .ok (.iconst 1, 1) := by decide +kernel
theorem dX7_back_16 : decode cX7_back 16 = .ok (.isub, 1) := by decide +kernel
theorem dX7_back_17 : decode cX7_back 17 = .ok (.putfield 50, 3) := by decide +kernel
theorem dX7_back_20 : decode cX7_back 20 = .ok (.aload_n 0, 1) := by decide +kernel
theorem dX7_back_21 : decode cX7_back 21 = .ok (.getfield 40, 3) := by decide +kernel
theorem dX7_back_24 : decode cX7_back 24 = .ok (.aload_n 0, 1) := by decide +kernel
theorem dX7_back_25 : decode cX7_back 25 = .ok (.aload_n 0, 1) := by decide +kernel
theorem dX7_back_26 : decode cX7_back 26 = .ok (.getfield 50, 3) := by decide +kernel
theorem dX7_back_29 : decode cX7_back 29 = .ok (.invokevirtual 273, 3) := by decide +kernel
theorem dX7_back_32 : decode cX7_back 32 = .ok (.invokevirtual 277, 3) := by decide +kernel
theorem dX7_back_35 : decode cX7_back 35 = .ok (.aload_n 0, 1) := by decide +kernel
theorem dX7_back_36 : decode cX7_back 36 = .ok (.getfield 50, 3) := by decide +kernel
theorem dX7_back_39 : decode cX7_back 39 = .ok (.ireturn, 1) := by decide +kernel
theorem dX7_count_0 : decode cX7_count 0 = .ok (.iload_n 1, 1) := by decide +kernel
theorem dX7_count_1 : decode cX7_count 1 = .ok (.tableswitch 69 0 4 #[35, 43, 51, 56, 64], 35) := by decide +kernel
theorem dX7_count_36 : decode cX7_count 36 = .ok (.aload_n 0, 1) := by decide +kernel
theorem dX7_count_37 : decode cX7_count 37 = .ok (.getfield 28, 3) := by decide +kernel
theorem dX7_count_40 : decode cX7_count 40 = .ok (.getfield 114, 3) := by decide +kernel
theorem dX7_count_43 : decode cX7_count 43 = .ok (.ireturn, 1) := by decide +kernel
theorem dX7_count_44 : decode cX7_count 44 = .ok (.aload_n 0, 1) := by decide +kernel
theorem dX7_count_45 : decode cX7_count 45 = .ok (.getfield 10, 3) := by decide +kernel
theorem dX7_count_48 : decode cX7_count 48 = .ok (.invokevirtual 91, 3) := by decide +kernel
theorem dX7_count_51 : decode cX7_count 51 = .ok (.ireturn, 1) := by decide +kernel
theorem dX7_count_52 : decode cX7_count 52 = .ok (.aload_n 0, 1) := by decide +kernel
theorem dX7_count_53 : decode cX7_count 53 = .ok (.getfield 63, 3) := by decide +kernel
theorem dX7_count_56 : decode cX7_count 56 = .ok (.ireturn, 1) := by decide +kernel
theorem dX7_count_57 : decode cX7_count 57 = .ok (.aload_n 0, 1) := by decide +kernel
theorem dX7_count_58 : decode cX7_count 58 = .ok (.getfield 40, 3) := by decide +kernel
theorem dX7_count_61 : decode cX7_count 61 = .ok (.getfield 181, 3) := by decide +kernel
theorem dX7_count_64 : decode cX7_count 64 = .ok (.ireturn, 1) := by decide +kernel
theorem dX7_count_65 : decode cX7_count 65 = .ok (.aload_n 0, 1) := by decide +kernel
theorem dX7_count_66 : decode cX7_count 66 = .ok (.getfield 50, 3) := by decide +kernel
theorem dX7_count_69 : decode cX7_count 69 = .ok (.ireturn, 1) := by decide +kernel
theorem dX7_count_70 : decode cX7_count 70 = .ok (.iconst (-1), 1) := by decide +kernel
theorem dX7_count_71 : decode cX7_count 71 = .ok (.ireturn, 1) := by decide +kernel
theorem dX7_isRoof_0 : decode cX7_isRoof 0 = .ok (.iload_n 1, 1) := by decide +kernel
theorem dX7_isRoof_1 : decode cX7_isRoof 1 = .ok (.ifCond .lt 18, 3) := by decide +kernel
theorem dX7_isRoof_4 : decode cX7_isRoof 4 = .ok (.iload_n 1, 1) := by decide +kernel
theorem dX7_isRoof_5 : decode cX7_isRoof 5 = .ok (.aload_n 0, 1) := by decide +kernel
theorem dX7_isRoof_6 : decode cX7_isRoof 6 = .ok (.getfield 28, 3) := by decide +kernel
theorem dX7_isRoof_9 : decode cX7_isRoof 9 = .ok (.getfield 114, 3) := by decide +kernel
theorem dX7_isRoof_12 : decode cX7_isRoof 12 = .ok (.if_icmp .ge 7, 3) := by decide +kernel
theorem dX7_isRoof_15 : decode cX7_isRoof 15 = .ok (.iconst 1, 1) := by decide +kernel
theorem dX7_isRoof_16 : decode cX7_isRoof 16 = .ok (.goto 4, 3) := by decide +kernel
theorem dX7_isRoof_19 : decode cX7_isRoof 19 = .ok (.iconst 0, 1) := by decide +kernel
theorem dX7_isRoof_20 : decode cX7_isRoof 20 = .ok (.ireturn, 1) := by decide +kernel
theorem dX7_isRule_0 : decode cX7_isRule 0 = .ok (.iload_n 0, 1) := by decide +kernel
theorem dX7_isRule_1 : decode cX7_isRule 1 = .ok (.ifCond .lt 12, 3) := by decide +kernel
theorem dX7_isRule_4 : decode cX7_isRule 4 = .ok (.iload_n 0, 1) := by decide +kernel
theorem dX7_isRule_5 : decode cX7_isRule 5 = .ok (.iconst 4, 1) := by decide +kernel
theorem dX7_isRule_6 : decode cX7_isRule 6 = .ok (.if_icmp .gt 7, 3) := by decide +kernel
theorem dX7_isRule_9 : decode cX7_isRule 9 = .ok (.iconst 1, 1) := by decide +kernel
theorem dX7_isRule_10 : decode cX7_isRule 10 = .ok (.goto 4, 3) := by decide +kernel
theorem dX7_isRule_13 : decode cX7_isRule 13 = .ok (.iconst 0, 1) := by decide +kernel
theorem dX7_isRule_14 : decode cX7_isRule 14 = .ok (.ireturn, 1) := by decide +kernel
theorem dX7_isSky_0 : decode cX7_isSky 0 = .ok (.iload_n 0, 1) := by decide +kernel
theorem dX7_isSky_1 : decode cX7_isSky 1 = .ok (.ifCond .lt 12, 3) := by decide +kernel
theorem dX7_isSky_4 : decode cX7_isSky 4 = .ok (.iload_n 0, 1) := by decide +kernel
theorem dX7_isSky_5 : decode cX7_isSky 5 = .ok (.iconst 3, 1) := by decide +kernel
theorem dX7_isSky_6 : decode cX7_isSky 6 = .ok (.if_icmp .ge 7, 3) := by decide +kernel
theorem dX7_isSky_9 : decode cX7_isSky 9 = .ok (.iconst 1, 1) := by decide +kernel
theorem dX7_isSky_10 : decode cX7_isSky 10 = .ok (.goto 4, 3) := by decide +kernel
theorem dX7_isSky_13 : decode cX7_isSky 13 = .ok (.iconst 0, 1) := by decide +kernel
theorem dX7_isSky_14 : decode cX7_isSky 14 = .ok (.ireturn, 1) := by decide +kernel
theorem dX7_refusalOfProp_0 : decode cX7_refusalOfProp 0 = .ok (.aload_n 0, 1) := by decide +kernel
theorem dX7_refusalOfProp_1 : decode cX7_refusalOfProp 1 = .ok (.iload_n 1, 1) := by decide +kernel
theorem dX7_refusalOfProp_2 : decode cX7_refusalOfProp 2 = .ok (.invokevirtual 117, 3) := by decide +kernel
theorem dX7_refusalOfProp_5 : decode cX7_refusalOfProp 5 = .ok (.ifCond .ne 5, 3) := by decide +kernel
theorem dX7_refusalOfProp_8 : decode cX7_refusalOfProp 8 = .ok (.iconst (-1), 1) := by decide +kernel
theorem dX7_refusalOfProp_9 : decode cX7_refusalOfProp 9 = .ok (.ireturn, 1) := by decide +kernel
theorem dX7_refusalOfProp_10 : decode cX7_refusalOfProp 10 = .ok (.aload_n 0, 1) := by decide +kernel
theorem dX7_refusalOfProp_11 : decode cX7_refusalOfProp 11 = .ok (.getfield 40, 3) := by decide +kernel
theorem dX7_refusalOfProp_14 : decode cX7_refusalOfProp 14 = .ok (.iload_n 1, 1) := by decide +kernel
theorem dX7_refusalOfProp_15 : decode cX7_refusalOfProp 15 = .ok (.invokevirtual 138, 3) := by decide +kernel
theorem dX7_refusalOfProp_18 : decode cX7_refusalOfProp 18 = .ok (.ifCond .ne 6, 3) := by decide +kernel
theorem dX7_refusalOfProp_21 : decode cX7_refusalOfProp 21 = .ok (.bipush (-2), 2) := by decide +kernel
theorem dX7_refusalOfProp_23 : decode cX7_refusalOfProp 23 = .ok (.ireturn, 1) := by decide +kernel
theorem dX7_refusalOfProp_24 : decode cX7_refusalOfProp 24 = .ok (.aload_n 0, 1) := by decide +kernel
theorem dX7_refusalOfProp_25 : decode cX7_refusalOfProp 25 = .ok (.getfield 40, 3) := by decide +kernel
theorem dX7_refusalOfProp_28 : decode cX7_refusalOfProp 28 = .ok (.getfield 135, 3) := by decide +kernel
theorem dX7_refusalOfProp_31 : decode cX7_refusalOfProp 31 = .ok (.iload_n 1, 1) := by decide +kernel
theorem dX7_refusalOfProp_32 : decode cX7_refusalOfProp 32 = .ok (.invokevirtual 124, 3) := by decide +kernel
theorem dX7_refusalOfProp_35 : decode cX7_refusalOfProp 35 = .ok (.iconst 3, 1) := by decide +kernel
theorem dX7_refusalOfProp_36 : decode cX7_refusalOfProp 36 = .ok (.if_icmp .lt 8, 3) := by decide +kernel
theorem dX7_refusalOfProp_39 : decode cX7_refusalOfProp 39 = .ok (.bipush (-3), 2) := by decide +kernel
theorem dX7_refusalOfProp_41 : decode cX7_refusalOfProp 41 = .ok (.goto 4, 3) := by decide +kernel
theorem dX7_refusalOfProp_44 : decode cX7_refusalOfProp 44 = .ok (.iconst 0, 1) := by decide +kernel
theorem dX7_refusalOfProp_45 : decode cX7_refusalOfProp 45 = .ok (.ireturn, 1) := by decide +kernel
theorem dX7_keptAt_0 : decode cX7_keptAt 0 = .ok (.iload_n 1, 1) := by decide +kernel
theorem dX7_keptAt_1 : decode cX7_keptAt 1 = .ok (.ifCond .ne 10, 3) := by decide +kernel
theorem dX7_keptAt_4 : decode cX7_keptAt 4 = .ok (.aload_n 0, 1) := by decide +kernel
theorem dX7_keptAt_5 : decode cX7_keptAt 5 = .ok (.getfield 44, 3) := by decide +kernel
theorem dX7_keptAt_8 : decode cX7_keptAt 8 = .ok (.goto 7, 3) := by decide +kernel
theorem dX7_keptAt_11 : decode cX7_keptAt 11 = .ok (.aload_n 0, 1) := by decide +kernel
theorem dX7_keptAt_12 : decode cX7_keptAt 12 = .ok (.getfield 47, 3) := by decide +kernel
theorem dX7_keptAt_15 : decode cX7_keptAt 15 = .ok (.areturn, 1) := by decide +kernel
theorem dX7_lossOverAll_0 : decode cX7_lossOverAll 0 = .ok (.aload_n 0, 1) := by decide +kernel
theorem dX7_lossOverAll_1 : decode cX7_lossOverAll 1 = .ok (.getfield 280, 3) := by decide +kernel
theorem dX7_lossOverAll_4 : decode cX7_lossOverAll 4 = .ok (.astore_n 3, 1) := by decide +kernel
theorem dX7_lossOverAll_5 : decode cX7_lossOverAll 5 = .ok (.iload_n 2, 1) := by decide +kernel
theorem dX7_lossOverAll_6 : decode cX7_lossOverAll 6 = .ok (.ifCond .le 7, 3) := by decide +kernel
theorem dX7_lossOverAll_9 : decode cX7_lossOverAll 9 = .ok (.aload_n 3, 1) := by decide +kernel
theorem dX7_lossOverAll_10 : decode cX7_lossOverAll 10 = .ok (.ifnonnull 8, 3) := by decide +kernel
theorem dX7_lossOverAll_13 : decode cX7_lossOverAll 13 = .ok (.aload_n 0, 1) := by decide +kernel
theorem dX7_lossOverAll_14 : decode cX7_lossOverAll 14 = .ok (.invokevirtual 283, 3) := by decide +kernel
theorem dX7_lossOverAll_17 : decode cX7_lossOverAll 17 = .ok (.lreturn, 1) := by decide +kernel
theorem dX7_lossOverAll_18 : decode cX7_lossOverAll 18 = .ok (.lconst 0, 1) := by decide +kernel
theorem dX7_lossOverAll_19 : decode cX7_lossOverAll 19 = .ok (.lstore 4, 2) := by decide +kernel
theorem dX7_lossOverAll_21 : decode cX7_lossOverAll 21 = .ok (.iconst 0, 1) := by decide +kernel
theorem dX7_lossOverAll_22 : decode cX7_lossOverAll 22 = .ok (.istore 6, 2) := by decide +kernel
theorem dX7_lossOverAll_24 : decode cX7_lossOverAll 24 = .ok (.iload 6, 2) := by decide +kernel
theorem dX7_lossOverAll_26 : decode cX7_lossOverAll 26 = .ok (.iconst 3, 1) := by decide +kernel
theorem dX7_lossOverAll_27 : decode cX7_lossOverAll 27 = .ok (.if_icmp .ge 65, 3) := by decide +kernel
theorem dX7_lossOverAll_30 : decode cX7_lossOverAll 30 = .ok (.aload_n 0, 1) := by decide +kernel
theorem dX7_lossOverAll_31 : decode cX7_lossOverAll 31 = .ok (.getfield 287, 3) := by decide +kernel
theorem dX7_lossOverAll_34 : decode cX7_lossOverAll 34 = .ok (.aload_n 0, 1) := by decide +kernel
theorem dX7_lossOverAll_35 : decode cX7_lossOverAll 35 = .ok (.getfield 157, 3) := by decide +kernel
theorem dX7_lossOverAll_38 : decode cX7_lossOverAll 38 = .ok (.iload 6, 2) := by decide +kernel
theorem dX7_lossOverAll_40 : decode cX7_lossOverAll 40 = .ok (.invokevirtual 288, 3) := by decide +kernel
theorem dX7_lossOverAll_43 : decode cX7_lossOverAll 43 = .ok (.istore 7, 2) := by decide +kernel
theorem dX7_lossOverAll_45 : decode cX7_lossOverAll 45 = .ok (.iload 7, 2) := by decide +kernel
theorem dX7_lossOverAll_47 : decode cX7_lossOverAll 47 = .ok (.ifCond .le 39, 3) := by decide +kernel
theorem dX7_lossOverAll_50 : decode cX7_lossOverAll 50 = .ok (.aload_n 3, 1) := by decide +kernel
theorem dX7_lossOverAll_51 : decode cX7_lossOverAll 51 = .ok (.aload_n 0, 1) := by decide +kernel
theorem dX7_lossOverAll_52 : decode cX7_lossOverAll 52 = .ok (.invokevirtual 277, 3) := by decide +kernel
theorem dX7_lossOverAll_55 : decode cX7_lossOverAll 55 = .ok (.aload_n 3, 1) := by decide +kernel
theorem dX7_lossOverAll_56 : decode cX7_lossOverAll 56 = .ok (.iload_n 1, 1) := by decide +kernel
theorem dX7_lossOverAll_57 : decode cX7_lossOverAll 57 = .ok (.iload 6, 2) := by decide +kernel
theorem dX7_lossOverAll_59 : decode cX7_lossOverAll 59 = .ok (.aload_n 0, 1) := by decide +kernel
theorem dX7_lossOverAll_60 : decode cX7_lossOverAll 60 = .ok (.getfield 287, 3) := by decide +kernel
theorem dX7_lossOverAll_63 : decode cX7_lossOverAll 63 = .ok (.getfield 160, 3) := by decide +kernel
theorem dX7_lossOverAll_66 : decode cX7_lossOverAll 66 = .ok (.invokevirtual 209, 3) := by decide +kernel
theorem dX7_lossOverAll_69 : decode cX7_lossOverAll 69 = .ok (.lload 4, 2) := by decide +kernel
theorem dX7_lossOverAll_71 : decode cX7_lossOverAll 71 = .ok (.iload 7, 2) := by decide +kernel
theorem dX7_lossOverAll_73 : decode cX7_lossOverAll 73 = .ok (.i2l, 1) := by decide +kernel
theorem dX7_lossOverAll_74 : decode cX7_lossOverAll 74 = .ok (.aload_n 3, 1) := by decide +kernel
theorem dX7_lossOverAll_75 : decode cX7_lossOverAll 75 = .ok (.iload_n 1, 1) := by decide +kernel
theorem dX7_lossOverAll_76 : decode cX7_lossOverAll 76 = .ok (.iload_n 2, 1) := by decide +kernel
theorem dX7_lossOverAll_77 : decode cX7_lossOverAll 77 = .ok (.iconst 1, 1) := by decide +kernel
theorem dX7_lossOverAll_78 : decode cX7_lossOverAll 78 = .ok (.isub, 1) := by decide +kernel
theorem dX7_lossOverAll_79 : decode cX7_lossOverAll 79 = .ok (.invokestatic 226, 3) := by decide +kernel
theorem dX7_lossOverAll_82 : decode cX7_lossOverAll 82 = .ok (.lmul, 1) := by decide +kernel
theorem dX7_lossOverAll_83 : decode cX7_lossOverAll 83 = .ok (.ladd, 1) := by decide +kernel
theorem dX7_lossOverAll_84 : decode cX7_lossOverAll 84 = .ok (.lstore 4, 2) := by decide +kernel
theorem dX7_lossOverAll_86 : decode cX7_lossOverAll 86 = .ok (.iinc 6 1, 3) := by decide +kernel
theorem dX7_lossOverAll_89 : decode cX7_lossOverAll 89 = .ok (.goto (-65), 3) := by decide +kernel
theorem dX7_lossOverAll_92 : decode cX7_lossOverAll 92 = .ok (.lload 4, 2) := by decide +kernel
theorem dX7_lossOverAll_94 : decode cX7_lossOverAll 94 = .ok (.lreturn, 1) := by decide +kernel
theorem dX7_lossByRow_0 : decode cX7_lossByRow 0 = .ok (.iconst 0, 1) := by decide +kernel
theorem dX7_lossByRow_1 : decode cX7_lossByRow 1 = .ok (.istore 5, 2) := by decide +kernel
theorem dX7_lossByRow_3 : decode cX7_lossByRow 3 = .ok (.iload 5, 2) := by decide +kernel
theorem dX7_lossByRow_5 : decode cX7_lossByRow 5 = .ok (.aload_n 0, 1) := by decide +kernel
theorem dX7_lossByRow_6 : decode cX7_lossByRow 6 = .ok (.getfield 63, 3) := by decide +kernel
theorem dX7_lossByRow_9 : decode cX7_lossByRow 9 = .ok (.if_icmp .ge 46, 3) := by decide +kernel
theorem dX7_lossByRow_12 : decode cX7_lossByRow 12 = .ok (.aload_n 0, 1) := by decide +kernel
theorem dX7_lossByRow_13 : decode cX7_lossByRow 13 = .ok (.getfield 70, 3) := by decide +kernel
theorem dX7_lossByRow_16 : decode cX7_lossByRow 16 = .ok (.iload 5, 2) := by decide +kernel
theorem dX7_lossByRow_18 : decode cX7_lossByRow 18 = .ok (.ifCond .ne 7, 3) := by decide +kernel
theorem dX7_lossByRow_21 : decode cX7_lossByRow 21 = .ok (.iload_n 1, 1) := by decide +kernel
theorem dX7_lossByRow_22 : decode cX7_lossByRow 22 = .ok (.goto 4, 3) := by decide +kernel
theorem dX7_lossByRow_25 : decode cX7_lossByRow 25 = .ok (.iload_n 2, 1) := by decide +kernel
theorem dX7_lossByRow_26 : decode cX7_lossByRow 26 = .ok (.aload_n 0, 1) := by decide +kernel
theorem dX7_lossByRow_27 : decode cX7_lossByRow 27 = .ok (.getfield 59, 3) := by decide +kernel
theorem dX7_lossByRow_30 : decode cX7_lossByRow 30 = .ok (.iload 5, 2) := by decide +kernel
theorem dX7_lossByRow_32 : decode cX7_lossByRow 32 = .ok (.invokevirtual 124, 3) := by decide +kernel
theorem dX7_lossByRow_35 : decode cX7_lossByRow 35 = .ok (.iload 5, 2) := by decide +kernel
theorem dX7_lossByRow_37 : decode cX7_lossByRow 37 = .ok (.ifCond .ne 7, 3) := by decide +kernel
theorem dX7_lossByRow_40 : decode cX7_lossByRow 40 = .ok (.iload_n 3, 1) := by decide +kernel
theorem dX7_lossByRow_41 : decode cX7_lossByRow 41 = .ok (.goto 5, 3) := by decide +kernel
theorem dX7_lossByRow_44 : decode cX7_lossByRow 44 = .ok (.iload 4, 2) := by decide +kernel
theorem dX7_lossByRow_46 : decode cX7_lossByRow 46 = .ok (.invokevirtual 209, 3) := by decide +kernel
theorem dX7_lossByRow_49 : decode cX7_lossByRow 49 = .ok (.iinc 5 1, 3) := by decide +kernel
theorem dX7_lossByRow_52 : decode cX7_lossByRow 52 = .ok (.goto (-49), 3) := by decide +kernel
theorem dX7_lossByRow_55 : decode cX7_lossByRow 55 = .ok (.aload_n 0, 1) := by decide +kernel
theorem dX7_lossByRow_56 : decode cX7_lossByRow 56 = .ok (.getfield 70, 3) := by decide +kernel
theorem dX7_lossByRow_59 : decode cX7_lossByRow 59 = .ok (.invokevirtual 283, 3) := by decide +kernel
theorem dX7_lossByRow_62 : decode cX7_lossByRow 62 = .ok (.lreturn, 1) := by decide +kernel
theorem dX7_drawBearings_0 : decode cX7_drawBearings 0 = .ok (.iconst 0, 1) := by decide +kernel
theorem dX7_drawBearings_1 : decode cX7_drawBearings 1 = .ok (.istore_n 2, 1) := by decide +kernel
theorem dX7_drawBearings_2 : decode cX7_drawBearings 2 = .ok (.iload_n 2, 1) := by decide +kernel
theorem dX7_drawBearings_3 : decode cX7_drawBearings 3 = .ok (.aload_n 0, 1) := by decide +kernel
theorem dX7_drawBearings_4 : decode cX7_drawBearings 4 = .ok (.getfield 28, 3) := by decide +kernel
theorem dX7_drawBearings_7 : decode cX7_drawBearings 7 = .ok (.getfield 114, 3) := by decide +kernel
theorem dX7_drawBearings_10 : decode cX7_drawBearings 10 = .ok (.if_icmp .ge 55, 3) := by decide +kernel
theorem dX7_drawBearings_13 : decode cX7_drawBearings 13 = .ok (.aload_n 0, 1) := by decide +kernel
theorem dX7_drawBearings_14 : decode cX7_drawBearings 14 = .ok (.getfield 40, 3) := by decide +kernel
theorem dX7_drawBearings_17 : decode cX7_drawBearings 17 = .ok (.iload_n 2, 1) := by decide +kernel
theorem dX7_drawBearings_18 : decode cX7_drawBearings 18 = .ok (.invokevirtual 147, 3) := by decide +kernel
theorem dX7_drawBearings_21 : decode cX7_drawBearings 21 = .ok (.istore_n 3, 1) := by decide +kernel
theorem dX7_drawBearings_22 : decode cX7_drawBearings 22 = .ok (.iload_n 3, 1) := by decide +kernel
theorem dX7_drawBearings_23 : decode cX7_drawBearings 23 = .ok (.ifCond .ne 7, 3) := by decide +kernel
theorem dX7_drawBearings_26 : decode cX7_drawBearings 26 = .ok (.iconst 0, 1) := by decide +kernel
theorem dX7_drawBearings_27 : decode cX7_drawBearings 27 = .ok (.goto 12, 3) := by decide +kernel
theorem dX7_drawBearings_30 : decode cX7_drawBearings 30 = .ok (.iload_n 1, 1) := by decide +kernel
theorem dX7_drawBearings_31 : decode cX7_drawBearings 31 = .ok (.iload_n 2, 1) := by decide +kernel
theorem dX7_drawBearings_32 : decode cX7_drawBearings 32 = .ok (.bipush 99, 2) := by decide +kernel
theorem dX7_drawBearings_34 : decode cX7_drawBearings 34 = .ok (.invokestatic 291, 3) := by decide +kernel
theorem dX7_drawBearings_37 : decode cX7_drawBearings 37 = .ok (.iload_n 3, 1) := by decide +kernel
theorem dX7_drawBearings_38 : decode cX7_drawBearings 38 = .ok (.irem, 1) := by decide +kernel
theorem dX7_drawBearings_39 : decode cX7_drawBearings 39 = .ok (.istore 4, 2) := by decide +kernel
theorem dX7_drawBearings_41 : decode cX7_drawBearings 41 = .ok (.aload_n 0, 1) := by decide +kernel
theorem dX7_drawBearings_42 : decode cX7_drawBearings 42 = .ok (.getfield 82, 3) := by decide +kernel
theorem dX7_drawBearings_45 : decode cX7_drawBearings 45 = .ok (.iload_n 2, 1) := by decide +kernel
theorem dX7_drawBearings_46 : decode cX7_drawBearings 46 = .ok (.aload_n 0, 1) := by decide +kernel
theorem dX7_drawBearings_47 : decode cX7_drawBearings 47 = .ok (.getfield 40, 3) := by decide +kernel
theorem dX7_drawBearings_50 : decode cX7_drawBearings 50 = .ok (.iload_n 2, 1) := by decide +kernel
theorem dX7_drawBearings_51 : decode cX7_drawBearings 51 = .ok (.iload 4, 2) := by decide +kernel
theorem dX7_drawBearings_53 : decode cX7_drawBearings 53 = .ok (.invokevirtual 294, 3) := by decide +kernel
theorem dX7_drawBearings_56 : decode cX7_drawBearings 56 = .ok (.invokevirtual 187, 3) := by decide +kernel
theorem dX7_drawBearings_59 : decode cX7_drawBearings 59 = .ok (.iinc 2 1, 3) := by decide +kernel
theorem dX7_drawBearings_62 : decode cX7_drawBearings 62 = .ok (.goto (-60), 3) := by decide +kernel
theorem dX7_drawBearings_65 : decode cX7_drawBearings 65 = .ok (.return_, 1) := by decide +kernel
theorem dX7_drawSky_0 : decode cX7_drawSky 0 = .ok (.iload_n 1, 1) := by decide +kernel
theorem dX7_drawSky_1 : decode cX7_drawSky 1 = .ok (.aload_n 2, 1) := by decide +kernel
theorem dX7_drawSky_2 : decode cX7_drawSky 2 = .ok (.getfield 154, 3) := by decide +kernel
theorem dX7_drawSky_5 : decode cX7_drawSky 5 = .ok (.bipush 98, 2) := by decide +kernel
theorem dX7_drawSky_7 : decode cX7_drawSky 7 = .ok (.invokestatic 291, 3) := by decide +kernel
theorem dX7_drawSky_10 : decode cX7_drawSky 10 = .ok (.bipush 10, 2) := by decide +kernel
theorem dX7_drawSky_12 : decode cX7_drawSky 12 = .ok (.irem, 1) := by decide +kernel
theorem dX7_drawSky_13 : decode cX7_drawSky 13 = .ok (.istore_n 3, 1) := by decide +kernel
theorem dX7_drawSky_14 : decode cX7_drawSky 14 = .ok (.iconst 0, 1) := by decide +kernel
theorem dX7_drawSky_15 : decode cX7_drawSky 15 = .ok (.istore 4, 2) := by decide +kernel
theorem dX7_drawSky_17 : decode cX7_drawSky 17 = .ok (.iconst 0, 1) := by decide +kernel
theorem dX7_drawSky_18 : decode cX7_drawSky 18 = .ok (.istore 5, 2) := by decide +kernel
theorem dX7_drawSky_20 : decode cX7_drawSky 20 = .ok (.iload 5, 2) := by decide +kernel
theorem dX7_drawSky_22 : decode cX7_drawSky 22 = .ok (.iconst 3, 1) := by decide +kernel
theorem dX7_drawSky_23 : decode cX7_drawSky 23 = .ok (.if_icmp .ge 36, 3) := by decide +kernel
theorem dX7_drawSky_26 : decode cX7_drawSky 26 = .ok (.iload 4, 2) := by decide +kernel
theorem dX7_drawSky_28 : decode cX7_drawSky 28 = .ok (.aload_n 0, 1) := by decide +kernel
theorem dX7_drawSky_29 : decode cX7_drawSky 29 = .ok (.getfield 28, 3) := by decide +kernel
theorem dX7_drawSky_32 : decode cX7_drawSky 32 = .ok (.aload_n 2, 1) := by decide +kernel
theorem dX7_drawSky_33 : decode cX7_drawSky 33 = .ok (.getfield 157, 3) := by decide +kernel
theorem dX7_drawSky_36 : decode cX7_drawSky 36 = .ok (.iload 5, 2) := by decide +kernel
theorem dX7_drawSky_38 : decode cX7_drawSky 38 = .ok (.invokevirtual 288, 3) := by decide +kernel
theorem dX7_drawSky_41 : decode cX7_drawSky 41 = .ok (.iadd, 1) := by decide +kernel
theorem dX7_drawSky_42 : decode cX7_drawSky 42 = .ok (.istore 4, 2) := by decide +kernel
theorem dX7_drawSky_44 : decode cX7_drawSky 44 = .ok (.iload_n 3, 1) := by decide +kernel
theorem dX7_drawSky_45 : decode cX7_drawSky 45 = .ok (.iload 4, 2) := by decide +kernel
theorem dX7_drawSky_47 : decode cX7_drawSky 47 = .ok (.if_icmp .ge 6, 3) := by decide +kernel
theorem dX7_drawSky_50 : decode cX7_drawSky 50 = .ok (.iload 5, 2) := by decide +kernel
theorem dX7_drawSky_52 : decode cX7_drawSky 52 = .ok (.ireturn, 1) := by decide +kernel
theorem dX7_drawSky_53 : decode cX7_drawSky 53 = .ok (.iinc 5 1, 3) := by decide +kernel
theorem dX7_drawSky_56 : decode cX7_drawSky 56 = .ok (.goto (-36), 3) := by decide +kernel
theorem dX7_drawSky_59 : decode cX7_drawSky 59 = .ok (.iconst 2, 1) := by decide +kernel
theorem dX7_drawSky_60 : decode cX7_drawSky 60 = .ok (.ireturn, 1) := by decide +kernel
theorem dX7_draw_0 : decode cX7_draw 0 = .ok (.ldc2_w 297, 3) := by decide +kernel
theorem dX7_draw_3 : decode cX7_draw 3 = .ok (.iload_n 0, 1) := by decide +kernel
theorem dX7_draw_4 : decode cX7_draw 4 = .ok (.i2l, 1) := by decide +kernel
theorem dX7_draw_5 : decode cX7_draw 5 = .ok (.lmul, 1) := by decide +kernel
theorem dX7_draw_6 : decode cX7_draw 6 = .ok (.ldc2_w 299, 3) := by decide +kernel
theorem dX7_draw_9 : decode cX7_draw 9 = .ok (.iload_n 1, 1) := by decide +kernel
theorem dX7_draw_10 : decode cX7_draw 10 = .ok (.i2l, 1) := by decide +kernel
theorem dX7_draw_11 : decode cX7_draw 11 = .ok (.lmul, 1) := by decide +kernel
theorem dX7_draw_12 : decode cX7_draw 12 = .ok (.ladd, 1) := by decide +kernel
theorem dX7_draw_13 : decode cX7_draw 13 = .ok (.ldc2_w 301, 3) := by decide +kernel
theorem dX7_draw_16 : decode cX7_draw 16 = .ok (.iload_n 2, 1) := by decide +kernel
theorem dX7_draw_17 : decode cX7_draw 17 = .ok (.i2l, 1) := by decide +kernel
theorem dX7_draw_18 : decode cX7_draw 18 = .ok (.lmul, 1) := by decide +kernel
theorem dX7_draw_19 : decode cX7_draw 19 = .ok (.ladd, 1) := by decide +kernel
theorem dX7_draw_20 : decode cX7_draw 20 = .ok (.lconst 1, 1) := by decide +kernel
theorem dX7_draw_21 : decode cX7_draw 21 = .ok (.ladd, 1) := by decide +kernel
theorem dX7_draw_22 : decode cX7_draw 22 = .ok (.lstore_n 3, 1) := by decide +kernel
theorem dX7_draw_23 : decode cX7_draw 23 = .ok (.lload_n 3, 1) := by decide +kernel
theorem dX7_draw_24 : decode cX7_draw 24 = .ok (.lload_n 3, 1) := by decide +kernel
theorem dX7_draw_25 : decode cX7_draw 25 = .ok (.lmul, 1) := by decide +kernel
theorem dX7_draw_26 : decode cX7_draw 26 = .ok (.ldc2_w 303, 3) := by decide +kernel
theorem dX7_draw_29 : decode cX7_draw 29 = .ok (.lrem, 1) := by decide +kernel
theorem dX7_draw_30 : decode cX7_draw 30 = .ok (.ldc2_w 305, 3) := by decide +kernel
theorem dX7_draw_33 : decode cX7_draw 33 = .ok (.lrem, 1) := by decide +kernel
theorem dX7_draw_34 : decode cX7_draw 34 = .ok (.l2i, 1) := by decide +kernel
theorem dX7_draw_35 : decode cX7_draw 35 = .ok (.ireturn, 1) := by decide +kernel
theorem dX7_worthOf_0 : decode cX7_worthOf 0 = .ok (.iconst 0, 1) := by decide +kernel
theorem dX7_worthOf_1 : decode cX7_worthOf 1 = .ok (.istore_n 2, 1) := by decide +kernel
theorem dX7_worthOf_2 : decode cX7_worthOf 2 = .ok (.iconst 0, 1) := by decide +kernel
theorem dX7_worthOf_3 : decode cX7_worthOf 3 = .ok (.istore_n 3, 1) := by decide +kernel
theorem dX7_worthOf_4 : decode cX7_worthOf 4 = .ok (.iload_n 3, 1) := by decide +kernel
theorem dX7_worthOf_5 : decode cX7_worthOf 5 = .ok (.aload_n 0, 1) := by decide +kernel
theorem dX7_worthOf_6 : decode cX7_worthOf 6 = .ok (.getfield 28, 3) := by decide +kernel
theorem dX7_worthOf_9 : decode cX7_worthOf 9 = .ok (.getfield 114, 3) := by decide +kernel
theorem dX7_worthOf_12 : decode cX7_worthOf 12 = .ok (.if_icmp .ge 29, 3) := by decide +kernel
theorem dX7_worthOf_15 : decode cX7_worthOf 15 = .ok (.iload_n 1, 1) := by decide +kernel
theorem dX7_worthOf_16 : decode cX7_worthOf 16 = .ok (.iload_n 3, 1) := by decide +kernel
theorem dX7_worthOf_17 : decode cX7_worthOf 17 = .ok (.ishr, 1) := by decide +kernel
theorem dX7_worthOf_18 : decode cX7_worthOf 18 = .ok (.iconst 1, 1) := by decide +kernel
theorem dX7_worthOf_19 : decode cX7_worthOf 19 = .ok (.iand, 1) := by decide +kernel
theorem dX7_worthOf_20 : decode cX7_worthOf 20 = .ok (.iconst 1, 1) := by decide +kernel
theorem dX7_worthOf_21 : decode cX7_worthOf 21 = .ok (.if_icmp .ne 14, 3) := by decide +kernel
theorem dX7_worthOf_24 : decode cX7_worthOf 24 = .ok (.iload_n 2, 1) := by decide +kernel
theorem dX7_worthOf_25 : decode cX7_worthOf 25 = .ok (.aload_n 0, 1) := by decide +kernel
theorem dX7_worthOf_26 : decode cX7_worthOf 26 = .ok (.getfield 28, 3) := by decide +kernel
theorem dX7_worthOf_29 : decode cX7_worthOf 29 = .ok (.iload_n 3, 1) := by decide +kernel
theorem dX7_worthOf_30 : decode cX7_worthOf 30 = .ok (.invokevirtual 307, 3) := by decide +kernel
theorem dX7_worthOf_33 : decode cX7_worthOf 33 = .ok (.iadd, 1) := by decide +kernel
theorem dX7_worthOf_34 : decode cX7_worthOf 34 = .ok (.istore_n 2, 1) := by decide +kernel
theorem dX7_worthOf_35 : decode cX7_worthOf 35 = .ok (.iinc 3 1, 3) := by decide +kernel
theorem dX7_worthOf_38 : decode cX7_worthOf 38 = .ok (.goto (-34), 3) := by decide +kernel
theorem dX7_worthOf_41 : decode cX7_worthOf 41 = .ok (.iload_n 2, 1) := by decide +kernel
theorem dX7_worthOf_42 : decode cX7_worthOf 42 = .ok (.ireturn, 1) := by decide +kernel
theorem dX7_chainOf_0 : decode cX7_chainOf 0 = .ok (.aconst_null, 1) := by decide +kernel
theorem dX7_chainOf_1 : decode cX7_chainOf 1 = .ok (.astore_n 2, 1) := by decide +kernel
theorem dX7_chainOf_2 : decode cX7_chainOf 2 = .ok (.iconst 0, 1) := by decide +kernel
theorem dX7_chainOf_3 : decode cX7_chainOf 3 = .ok (.istore_n 3, 1) := by decide +kernel
theorem dX7_chainOf_4 : decode cX7_chainOf 4 = .ok (.iload_n 3, 1) := by decide +kernel
theorem dX7_chainOf_5 : decode cX7_chainOf 5 = .ok (.iload_n 1, 1) := by decide +kernel
theorem dX7_chainOf_6 : decode cX7_chainOf 6 = .ok (.if_icmp .gt 19, 3) := by decide +kernel
theorem dX7_chainOf_9 : decode cX7_chainOf 9 = .ok (.new 35, 3) := by decide +kernel
theorem dX7_chainOf_12 : decode cX7_chainOf 12 = .ok (.dup, 1) := by decide +kernel
theorem dX7_chainOf_13 : decode cX7_chainOf 13 = .ok (.aload_n 0, 1) := by decide +kernel
theorem dX7_chainOf_14 : decode cX7_chainOf 14 = .ok (.aload_n 2, 1) := by decide +kernel
theorem dX7_chainOf_15 : decode cX7_chainOf 15 = .ok (.invokespecial 37, 3) := by decide +kernel
theorem dX7_chainOf_18 : decode cX7_chainOf 18 = .ok (.astore_n 2, 1) := by decide +kernel
theorem dX7_chainOf_19 : decode cX7_chainOf 19 = .ok (.iinc 3 1, 3) := by decide +kernel
theorem dX7_chainOf_22 : decode cX7_chainOf 22 = .ok (.goto (-18), 3) := by decide +kernel
theorem dX7_chainOf_25 : decode cX7_chainOf 25 = .ok (.aload_n 2, 1) := by decide +kernel
theorem dX7_chainOf_26 : decode cX7_chainOf 26 = .ok (.areturn, 1) := by decide +kernel
theorem dX7_greatestCommon_0 : decode cX7_greatestCommon 0 = .ok (.iload_n 0, 1) := by decide +kernel
theorem dX7_greatestCommon_1 : decode cX7_greatestCommon 1 = .ok (.iload_n 1, 1) := by decide +kernel
theorem dX7_greatestCommon_2 : decode cX7_greatestCommon 2 = .ok (.invokestatic 251, 3) := by decide +kernel
theorem dX7_greatestCommon_5 : decode cX7_greatestCommon 5 = .ok (.istore_n 2, 1) := by decide +kernel
theorem dX7_greatestCommon_6 : decode cX7_greatestCommon 6 = .ok (.iload_n 0, 1) := by decide +kernel
theorem dX7_greatestCommon_7 : decode cX7_greatestCommon 7 = .ok (.iload_n 1, 1) := by decide +kernel
theorem dX7_greatestCommon_8 : decode cX7_greatestCommon 8 = .ok (.invokestatic 310, 3) := by decide +kernel
theorem dX7_greatestCommon_11 : decode cX7_greatestCommon 11 = .ok (.istore_n 3, 1) := by decide +kernel
theorem dX7_greatestCommon_12 : decode cX7_greatestCommon 12 = .ok (.iconst 0, 1) := by decide +kernel
theorem dX7_greatestCommon_13 : decode cX7_greatestCommon 13 = .ok (.istore 4, 2) := by decide +kernel
theorem dX7_greatestCommon_15 : decode cX7_greatestCommon 15 = .ok (.iload 4, 2) := by decide +kernel
theorem dX7_greatestCommon_17 : decode cX7_greatestCommon 17 = .ok (.bipush 100, 2) := by decide +kernel
theorem dX7_greatestCommon_19 : decode cX7_greatestCommon 19 = .ok (.if_icmp .ge 23, 3) := by decide +kernel
theorem dX7_greatestCommon_22 : decode cX7_greatestCommon 22 = .ok (.iload_n 3, 1) := by decide +kernel
theorem dX7_greatestCommon_23 : decode cX7_greatestCommon 23 = .ok (.ifCond .le 19, 3) := by decide +kernel
theorem dX7_greatestCommon_26 : decode cX7_greatestCommon 26 = .ok (.iload_n 2, 1) := by decide +kernel
theorem dX7_greatestCommon_27 : decode cX7_greatestCommon 27 = .ok (.iload_n 3, 1) := by decide +kernel
theorem dX7_greatestCommon_28 : decode cX7_greatestCommon 28 = .ok (.irem, 1) := by decide +kernel
theorem dX7_greatestCommon_29 : decode cX7_greatestCommon 29 = .ok (.istore 5, 2) := by decide +kernel
theorem dX7_greatestCommon_31 : decode cX7_greatestCommon 31 = .ok (.iload_n 3, 1) := by decide +kernel
theorem dX7_greatestCommon_32 : decode cX7_greatestCommon 32 = .ok (.istore_n 2, 1) := by decide +kernel
theorem dX7_greatestCommon_33 : decode cX7_greatestCommon 33 = .ok (.iload 5, 2) := by decide +kernel
theorem dX7_greatestCommon_35 : decode cX7_greatestCommon 35 = .ok (.istore_n 3, 1) := by decide +kernel
theorem dX7_greatestCommon_36 : decode cX7_greatestCommon 36 = .ok (.iinc 4 1, 3) := by decide +kernel
theorem dX7_greatestCommon_39 : decode cX7_greatestCommon 39 = .ok (.goto (-24), 3) := by decide +kernel
theorem dX7_greatestCommon_42 : decode cX7_greatestCommon 42 = .ok (.iload_n 2, 1) := by decide +kernel
theorem dX7_greatestCommon_43 : decode cX7_greatestCommon 43 = .ok (.ireturn, 1) := by decide +kernel
theorem dJ11_isValidCodePoint_9a6ad_0 : decode cJ11_isValidCodePoint_9a6ad 0 = .ok (.iload_n 0, 1) := by decide +kernel
theorem dJ11_isValidCodePoint_9a6ad_1 : decode cJ11_isValidCodePoint_9a6ad 1 = .ok (.bipush 16, 2) := by decide +kernel
theorem dJ11_isValidCodePoint_9a6ad_3 : decode cJ11_isValidCodePoint_9a6ad 3 = .ok (.iushr, 1) := by decide +kernel
theorem dJ11_isValidCodePoint_9a6ad_4 : decode cJ11_isValidCodePoint_9a6ad 4 = .ok (.istore_n 1, 1) := by decide +kernel
theorem dJ11_isValidCodePoint_9a6ad_5 : decode cJ11_isValidCodePoint_9a6ad 5 = .ok (.iload_n 1, 1) := by decide +kernel
theorem dJ11_isValidCodePoint_9a6ad_6 : decode cJ11_isValidCodePoint_9a6ad 6 = .ok (.bipush 17, 2) := by decide +kernel
theorem dJ11_isValidCodePoint_9a6ad_8 : decode cJ11_isValidCodePoint_9a6ad 8 = .ok (.if_icmp .ge 7, 3) := by decide +kernel
theorem dJ11_isValidCodePoint_9a6ad_11 : decode cJ11_isValidCodePoint_9a6ad 11 = .ok (.iconst 1, 1) := by decide +kernel
theorem dJ11_isValidCodePoint_9a6ad_12 : decode cJ11_isValidCodePoint_9a6ad 12 = .ok (.goto 4, 3) := by decide +kernel
theorem dJ11_isValidCodePoint_9a6ad_15 : decode cJ11_isValidCodePoint_9a6ad 15 = .ok (.iconst 0, 1) := by decide +kernel
theorem dJ11_isValidCodePoint_9a6ad_16 : decode cJ11_isValidCodePoint_9a6ad 16 = .ok (.ireturn, 1) := by decide +kernel
theorem dJ11_highSurrogate_5068e_0 : decode cJ11_highSurrogate_5068e 0 = .ok (.iload_n 0, 1) := by decide +kernel
theorem dJ11_highSurrogate_5068e_1 : decode cJ11_highSurrogate_5068e 1 = .ok (.bipush 10, 2) := by decide +kernel
theorem dJ11_highSurrogate_5068e_3 : decode cJ11_highSurrogate_5068e 3 = .ok (.iushr, 1) := by decide +kernel
theorem dJ11_highSurrogate_5068e_4 : decode cJ11_highSurrogate_5068e 4 = .ok (.ldc 110, 2) := by decide +kernel
theorem dJ11_highSurrogate_5068e_6 : decode cJ11_highSurrogate_5068e 6 = .ok (.iadd, 1) := by decide +kernel
theorem dJ11_highSurrogate_5068e_7 : decode cJ11_highSurrogate_5068e 7 = .ok (.i2c, 1) := by decide +kernel
theorem dJ11_highSurrogate_5068e_8 : decode cJ11_highSurrogate_5068e 8 = .ok (.ireturn, 1) := by decide +kernel
theorem dJ11_lowSurrogate_5068e_0 : decode cJ11_lowSurrogate_5068e 0 = .ok (.iload_n 0, 1) := by decide +kernel
theorem dJ11_lowSurrogate_5068e_1 : decode cJ11_lowSurrogate_5068e 1 = .ok (.sipush 1023, 3) := by decide +kernel
theorem dJ11_lowSurrogate_5068e_4 : decode cJ11_lowSurrogate_5068e 4 = .ok (.iand, 1) := by decide +kernel
theorem dJ11_lowSurrogate_5068e_5 : decode cJ11_lowSurrogate_5068e 5 = .ok (.ldc 76, 2) := by decide +kernel
theorem dJ11_lowSurrogate_5068e_7 : decode cJ11_lowSurrogate_5068e 7 = .ok (.iadd, 1) := by decide +kernel
theorem dJ11_lowSurrogate_5068e_8 : decode cJ11_lowSurrogate_5068e 8 = .ok (.i2c, 1) := by decide +kernel
theorem dJ11_lowSurrogate_5068e_9 : decode cJ11_lowSurrogate_5068e 9 = .ok (.ireturn, 1) := by decide +kernel
theorem dJ9_abs_0f7a4_0 : decode cJ9_abs_0f7a4 0 = .ok (.iload_n 0, 1) := by decide +kernel
theorem dJ9_abs_0f7a4_1 : decode cJ9_abs_0f7a4 1 = .ok (.ifCond .ge 8, 3) := by decide +kernel
theorem dJ9_abs_0f7a4_4 : decode cJ9_abs_0f7a4 4 = .ok (.iload_n 0, 1) := by decide +kernel
theorem dJ9_abs_0f7a4_5 : decode cJ9_abs_0f7a4 5 = .ok (.ineg, 1) := by decide +kernel
theorem dJ9_abs_0f7a4_6 : decode cJ9_abs_0f7a4 6 = .ok (.goto 4, 3) := by decide +kernel
theorem dJ9_abs_0f7a4_9 : decode cJ9_abs_0f7a4 9 = .ok (.iload_n 0, 1) := by decide +kernel
theorem dJ9_abs_0f7a4_10 : decode cJ9_abs_0f7a4 10 = .ok (.ireturn, 1) := by decide +kernel
theorem dJ9_max_7cf53_0 : decode cJ9_max_7cf53 0 = .ok (.iload_n 0, 1) := by decide +kernel
theorem dJ9_max_7cf53_1 : decode cJ9_max_7cf53 1 = .ok (.iload_n 1, 1) := by decide +kernel
theorem dJ9_max_7cf53_2 : decode cJ9_max_7cf53 2 = .ok (.if_icmp .lt 7, 3) := by decide +kernel
theorem dJ9_max_7cf53_5 : decode cJ9_max_7cf53 5 = .ok (.iload_n 0, 1) := by decide +kernel
theorem dJ9_max_7cf53_6 : decode cJ9_max_7cf53 6 = .ok (.goto 4, 3) := by decide +kernel
theorem dJ9_max_7cf53_9 : decode cJ9_max_7cf53 9 = .ok (.iload_n 1, 1) := by decide +kernel
theorem dJ9_max_7cf53_10 : decode cJ9_max_7cf53 10 = .ok (.ireturn, 1) := by decide +kernel
theorem dJ9_min_7cf53_0 : decode cJ9_min_7cf53 0 = .ok (.iload_n 0, 1) := by decide +kernel
theorem dJ9_min_7cf53_1 : decode cJ9_min_7cf53 1 = .ok (.iload_n 1, 1) := by decide +kernel
theorem dJ9_min_7cf53_2 : decode cJ9_min_7cf53 2 = .ok (.if_icmp .gt 7, 3) := by decide +kernel
theorem dJ9_min_7cf53_5 : decode cJ9_min_7cf53 5 = .ok (.iload_n 0, 1) := by decide +kernel
theorem dJ9_min_7cf53_6 : decode cJ9_min_7cf53 6 = .ok (.goto 4, 3) := by decide +kernel
theorem dJ9_min_7cf53_9 : decode cJ9_min_7cf53 9 = .ok (.iload_n 1, 1) := by decide +kernel
theorem dJ9_min_7cf53_10 : decode cJ9_min_7cf53 10 = .ok (.ireturn, 1) := by decide +kernel
theorem dJ0_length_8abf5_0 : decode cJ0_length_8abf5 0 = .ok (.aload_n 0, 1) := by decide +kernel
theorem dJ0_length_8abf5_1 : decode cJ0_length_8abf5 1 = .ok (.getfield 9, 3) := by decide +kernel
theorem dJ0_length_8abf5_4 : decode cJ0_length_8abf5 4 = .ok (.arraylength, 1) := by decide +kernel
theorem dJ0_length_8abf5_5 : decode cJ0_length_8abf5 5 = .ok (.aload_n 0, 1) := by decide +kernel
theorem dJ0_length_8abf5_6 : decode cJ0_length_8abf5 6 = .ok (.invokevirtual 335, 3) := by decide +kernel
theorem dJ0_length_8abf5_9 : decode cJ0_length_8abf5 9 = .ok (.ishr, 1) := by decide +kernel
theorem dJ0_length_8abf5_10 : decode cJ0_length_8abf5 10 = .ok (.ireturn, 1) := by decide +kernel
theorem dJ0_indexOf_0f7a4_0 : decode cJ0_indexOf_0f7a4 0 = .ok (.aload_n 0, 1) := by decide +kernel
theorem dJ0_indexOf_0f7a4_1 : decode cJ0_indexOf_0f7a4 1 = .ok (.iload_n 1, 1) := by decide +kernel
theorem dJ0_indexOf_0f7a4_2 : decode cJ0_indexOf_0f7a4 2 = .ok (.iconst 0, 1) := by decide +kernel
theorem dJ0_indexOf_0f7a4_3 : decode cJ0_indexOf_0f7a4 3 = .ok (.invokevirtual 633, 3) := by decide +kernel
theorem dJ0_indexOf_0f7a4_6 : decode cJ0_indexOf_0f7a4 6 = .ok (.ireturn, 1) := by decide +kernel
theorem dJ0_indexOf_7cf53_0 : decode cJ0_indexOf_7cf53 0 = .ok (.aload_n 0, 1) := by decide +kernel
theorem dJ0_indexOf_7cf53_1 : decode cJ0_indexOf_7cf53 1 = .ok (.invokevirtual 492, 3) := by decide +kernel
theorem dJ0_indexOf_7cf53_4 : decode cJ0_indexOf_7cf53 4 = .ok (.ifCond .eq 19, 3) := by decide +kernel
theorem dJ0_indexOf_7cf53_7 : decode cJ0_indexOf_7cf53 7 = .ok (.aload_n 0, 1) := by decide +kernel
theorem dJ0_indexOf_7cf53_8 : decode cJ0_indexOf_7cf53 8 = .ok (.getfield 9, 3) := by decide +kernel
theorem dJ0_indexOf_7cf53_11 : decode cJ0_indexOf_7cf53 11 = .ok (.iload_n 1, 1) := by decide +kernel
theorem dJ0_indexOf_7cf53_12 : decode cJ0_indexOf_7cf53 12 = .ok (.iload_n 2, 1) := by decide +kernel
theorem dJ0_indexOf_7cf53_13 : decode cJ0_indexOf_7cf53 13 = .ok (.aload_n 0, 1) := by decide +kernel
theorem dJ0_indexOf_7cf53_14 : decode cJ0_indexOf_7cf53 14 = .ok (.invokevirtual 505, 3) := by decide +kernel
theorem dJ0_indexOf_7cf53_17 : decode cJ0_indexOf_7cf53 17 = .ok (.invokestatic 637, 3) := by decide +kernel
theorem dJ0_indexOf_7cf53_20 : decode cJ0_indexOf_7cf53 20 = .ok (.goto 16, 3) := by decide +kernel
theorem dJ0_indexOf_7cf53_23 : decode cJ0_indexOf_7cf53 23 = .ok (.aload_n 0, 1) := by decide +kernel
theorem dJ0_indexOf_7cf53_24 : decode cJ0_indexOf_7cf53 24 = .ok (.getfield 9, 3) := by decide +kernel
theorem dJ0_indexOf_7cf53_27 : decode cJ0_indexOf_7cf53 27 = .ok (.iload_n 1, 1) := by decide +kernel
theorem dJ0_indexOf_7cf53_28 : decode cJ0_indexOf_7cf53 28 = .ok (.iload_n 2, 1) := by decide +kernel
theorem dJ0_indexOf_7cf53_29 : decode cJ0_indexOf_7cf53 29 = .ok (.aload_n 0, 1) := by decide +kernel
theorem dJ0_indexOf_7cf53_30 : decode cJ0_indexOf_7cf53 30 = .ok (.invokevirtual 505, 3) := by decide +kernel
theorem dJ0_indexOf_7cf53_33 : decode cJ0_indexOf_7cf53 33 = .ok (.invokestatic 640, 3) := by decide +kernel
theorem dJ0_indexOf_7cf53_36 : decode cJ0_indexOf_7cf53 36 = .ok (.ireturn, 1) := by decide +kernel
theorem dJ0_coder_7d493_0 : decode cJ0_coder_7d493 0 = .ok (.getstatic 38, 3) := by decide +kernel
theorem dJ0_coder_7d493_3 : decode cJ0_coder_7d493 3 = .ok (.ifCond .eq 10, 3) := by decide +kernel
theorem dJ0_coder_7d493_6 : decode cJ0_coder_7d493 6 = .ok (.aload_n 0, 1) := by decide +kernel
theorem dJ0_coder_7d493_7 : decode cJ0_coder_7d493 7 = .ok (.getfield 15, 3) := by decide +kernel
theorem dJ0_coder_7d493_10 : decode cJ0_coder_7d493 10 = .ok (.goto 4, 3) := by decide +kernel
theorem dJ0_coder_7d493_13 : decode cJ0_coder_7d493 13 = .ok (.iconst 1, 1) := by decide +kernel
theorem dJ0_coder_7d493_14 : decode cJ0_coder_7d493 14 = .ok (.ireturn, 1) := by decide +kernel
theorem dJ0_isLatin1_aae02_0 : decode cJ0_isLatin1_aae02 0 = .ok (.getstatic 38, 3) := by decide +kernel
theorem dJ0_isLatin1_aae02_3 : decode cJ0_isLatin1_aae02 3 = .ok (.ifCond .eq 14, 3) := by decide +kernel
theorem dJ0_isLatin1_aae02_6 : decode cJ0_isLatin1_aae02 6 = .ok (.aload_n 0, 1) := by decide +kernel
theorem dJ0_isLatin1_aae02_7 : decode cJ0_isLatin1_aae02 7 = .ok (.getfield 15, 3) := by decide +kernel
theorem dJ0_isLatin1_aae02_10 : decode cJ0_isLatin1_aae02 10 = .ok (.ifCond .ne 7, 3) := by decide +kernel
theorem dJ0_isLatin1_aae02_13 : decode cJ0_isLatin1_aae02 13 = .ok (.iconst 1, 1) := by decide +kernel
theorem dJ0_isLatin1_aae02_14 : decode cJ0_isLatin1_aae02 14 = .ok (.goto 4, 3) := by decide +kernel
theorem dJ0_isLatin1_aae02_17 : decode cJ0_isLatin1_aae02 17 = .ok (.iconst 0, 1) := by decide +kernel
theorem dJ0_isLatin1_aae02_18 : decode cJ0_isLatin1_aae02 18 = .ok (.ireturn, 1) := by decide +kernel
theorem dJ0_checkBoundsBeginEnd_23922_0 : decode cJ0_checkBoundsBeginEnd_23922 0 = .ok (.iload_n 0, 1) := by decide +kernel
theorem dJ0_checkBoundsBeginEnd_23922_1 : decode cJ0_checkBoundsBeginEnd_23922 1 = .ok (.iload_n 1, 1) := by decide +kernel
theorem dJ0_checkBoundsBeginEnd_23922_2 : decode cJ0_checkBoundsBeginEnd_23922 2 = .ok (.iload_n 2, 1) := by decide +kernel
theorem dJ0_checkBoundsBeginEnd_23922_3 : decode cJ0_checkBoundsBeginEnd_23922 3 = .ok (.getstatic 1053, 3) := by decide +kernel
theorem dJ0_checkBoundsBeginEnd_23922_6 : decode cJ0_checkBoundsBeginEnd_23922 6 = .ok (.invokestatic 1062, 3) := by decide +kernel
theorem dJ0_checkBoundsBeginEnd_23922_9 : decode cJ0_checkBoundsBeginEnd_23922 9 = .ok (.pop, 1) := by decide +kernel
theorem dJ0_checkBoundsBeginEnd_23922_10 : decode cJ0_checkBoundsBeginEnd_23922 10 = .ok (.return_, 1) := by decide +kernel
theorem dJ1_canEncode_9a6ad_0 : decode cJ1_canEncode_9a6ad 0 = .ok (.iload_n 0, 1) := by decide +kernel
theorem dJ1_canEncode_9a6ad_1 : decode cJ1_canEncode_9a6ad 1 = .ok (.ifCond .lt 14, 3) := by decide +kernel
theorem dJ1_canEncode_9a6ad_4 : decode cJ1_canEncode_9a6ad 4 = .ok (.iload_n 0, 1) := by decide +kernel
theorem dJ1_canEncode_9a6ad_5 : decode cJ1_canEncode_9a6ad 5 = .ok (.sipush 255, 3) := by decide +kernel
theorem dJ1_canEncode_9a6ad_8 : decode cJ1_canEncode_9a6ad 8 = .ok (.if_icmp .gt 7, 3) := by decide +kernel
theorem dJ1_canEncode_9a6ad_11 : decode cJ1_canEncode_9a6ad 11 = .ok (.iconst 1, 1) := by decide +kernel
theorem dJ1_canEncode_9a6ad_12 : decode cJ1_canEncode_9a6ad 12 = .ok (.goto 4, 3) := by decide +kernel
theorem dJ1_canEncode_9a6ad_15 : decode cJ1_canEncode_9a6ad 15 = .ok (.iconst 0, 1) := by decide +kernel
theorem dJ1_canEncode_9a6ad_16 : decode cJ1_canEncode_9a6ad 16 = .ok (.ireturn, 1) := by decide +kernel
theorem dJ1_indexOf_4cfef_0 : decode cJ1_indexOf_4cfef 0 = .ok (.iload_n 1, 1) := by decide +kernel
theorem dJ1_indexOf_4cfef_1 : decode cJ1_indexOf_4cfef 1 = .ok (.invokestatic 88, 3) := by decide +kernel
theorem dJ1_indexOf_4cfef_4 : decode cJ1_indexOf_4cfef 4 = .ok (.ifCond .ne 5, 3) := by decide +kernel
theorem dJ1_indexOf_4cfef_7 : decode cJ1_indexOf_4cfef 7 = .ok (.iconst (-1), 1) := by decide +kernel
theorem dJ1_indexOf_4cfef_8 : decode cJ1_indexOf_4cfef 8 = .ok (.ireturn, 1) := by decide +kernel
theorem dJ1_indexOf_4cfef_9 : decode cJ1_indexOf_4cfef 9 = .ok (.iload_n 2, 1) := by decide +kernel
theorem dJ1_indexOf_4cfef_10 : decode cJ1_indexOf_4cfef 10 = .ok (.iconst 0, 1) := by decide +kernel
theorem dJ1_indexOf_4cfef_11 : decode cJ1_indexOf_4cfef 11 = .ok (.invokestatic 92, 3) := by decide +kernel
theorem dJ1_indexOf_4cfef_14 : decode cJ1_indexOf_4cfef 14 = .ok (.istore_n 2, 1) := by decide +kernel
theorem dJ1_indexOf_4cfef_15 : decode cJ1_indexOf_4cfef 15 = .ok (.iload_n 3, 1) := by decide +kernel
theorem dJ1_indexOf_4cfef_16 : decode cJ1_indexOf_4cfef 16 = .ok (.aload_n 0, 1) := by decide +kernel
theorem dJ1_indexOf_4cfef_17 : decode cJ1_indexOf_4cfef 17 = .ok (.arraylength, 1) := by decide +kernel
theorem dJ1_indexOf_4cfef_18 : decode cJ1_indexOf_4cfef 18 = .ok (.invokestatic 38, 3) := by decide +kernel
theorem dJ1_indexOf_4cfef_21 : decode cJ1_indexOf_4cfef 21 = .ok (.istore_n 3, 1) := by decide +kernel
theorem dJ1_indexOf_4cfef_22 : decode cJ1_indexOf_4cfef 22 = .ok (.iload_n 2, 1) := by decide +kernel
theorem dJ1_indexOf_4cfef_23 : decode cJ1_indexOf_4cfef 23 = .ok (.iload_n 3, 1) := by decide +kernel
theorem dJ1_indexOf_4cfef_24 : decode cJ1_indexOf_4cfef 24 = .ok (.if_icmp .lt 5, 3) := by decide +kernel
theorem dJ1_indexOf_4cfef_27 : decode cJ1_indexOf_4cfef 27 = .ok (.iconst (-1), 1) := by decide +kernel
theorem dJ1_indexOf_4cfef_28 : decode cJ1_indexOf_4cfef 28 = .ok (.ireturn, 1) := by decide +kernel
theorem dJ1_indexOf_4cfef_29 : decode cJ1_indexOf_4cfef 29 = .ok (.aload_n 0, 1) := by decide +kernel
theorem dJ1_indexOf_4cfef_30 : decode cJ1_indexOf_4cfef 30 = .ok (.iload_n 1, 1) := by decide +kernel
theorem dJ1_indexOf_4cfef_31 : decode cJ1_indexOf_4cfef 31 = .ok (.iload_n 2, 1) := by decide +kernel
theorem dJ1_indexOf_4cfef_32 : decode cJ1_indexOf_4cfef 32 = .ok (.iload_n 3, 1) := by decide +kernel
theorem dJ1_indexOf_4cfef_33 : decode cJ1_indexOf_4cfef 33 = .ok (.invokestatic 95, 3) := by decide +kernel
theorem dJ1_indexOf_4cfef_36 : decode cJ1_indexOf_4cfef 36 = .ok (.ireturn, 1) := by decide +kernel
theorem dJ1_indexOfChar_4cfef_0 : decode cJ1_indexOfChar_4cfef 0 = .ok (.iload_n 1, 1) := by decide +kernel
theorem dJ1_indexOfChar_4cfef_1 : decode cJ1_indexOfChar_4cfef 1 = .ok (.i2b, 1) := by decide +kernel
theorem dJ1_indexOfChar_4cfef_2 : decode cJ1_indexOfChar_4cfef 2 = .ok (.istore 4, 2) := by decide +kernel
theorem dJ1_indexOfChar_4cfef_4 : decode cJ1_indexOfChar_4cfef 4 = .ok (.iload_n 2, 1) := by decide +kernel
theorem dJ1_indexOfChar_4cfef_5 : decode cJ1_indexOfChar_4cfef 5 = .ok (.istore 5, 2) := by decide +kernel
theorem dJ1_indexOfChar_4cfef_7 : decode cJ1_indexOfChar_4cfef 7 = .ok (.iload 5, 2) := by decide +kernel
theorem dJ1_indexOfChar_4cfef_9 : decode cJ1_indexOfChar_4cfef 9 = .ok (.iload_n 3, 1) := by decide +kernel
theorem dJ1_indexOfChar_4cfef_10 : decode cJ1_indexOfChar_4cfef 10 = .ok (.if_icmp .ge 21, 3) := by decide +kernel
theorem dJ1_indexOfChar_4cfef_13 : decode cJ1_indexOfChar_4cfef 13 = .ok (.aload_n 0, 1) := by decide +kernel
theorem dJ1_indexOfChar_4cfef_14 : decode cJ1_indexOfChar_4cfef 14 = .ok (.iload 5, 2) := by decide +kernel
theorem dJ1_indexOfChar_4cfef_16 : decode cJ1_indexOfChar_4cfef 16 = .ok (.baload, 1) := by decide +kernel
theorem dJ1_indexOfChar_4cfef_17 : decode cJ1_indexOfChar_4cfef 17 = .ok (.iload 4, 2) := by decide +kernel
theorem dJ1_indexOfChar_4cfef_19 : decode cJ1_indexOfChar_4cfef 19 = .ok (.if_icmp .ne 6, 3) := by decide +kernel
theorem dJ1_indexOfChar_4cfef_22 : decode cJ1_indexOfChar_4cfef 22 = .ok (.iload 5, 2) := by decide +kernel
theorem dJ1_indexOfChar_4cfef_24 : decode cJ1_indexOfChar_4cfef 24 = .ok (.ireturn, 1) := by decide +kernel
theorem dJ1_indexOfChar_4cfef_25 : decode cJ1_indexOfChar_4cfef 25 = .ok (.iinc 5 1, 3) := by decide +kernel
theorem dJ1_indexOfChar_4cfef_28 : decode cJ1_indexOfChar_4cfef 28 = .ok (.goto (-21), 3) := by decide +kernel
theorem dJ1_indexOfChar_4cfef_31 : decode cJ1_indexOfChar_4cfef 31 = .ok (.iconst (-1), 1) := by decide +kernel
theorem dJ1_indexOfChar_4cfef_32 : decode cJ1_indexOfChar_4cfef 32 = .ok (.ireturn, 1) := by decide +kernel
theorem dJ2_getChar_3b067_0 : decode cJ2_getChar_3b067 0 = .ok (.getstatic 44, 3) := by decide +kernel
theorem dJ2_getChar_3b067_3 : decode cJ2_getChar_3b067 3 = .ok (.ifCond .ne 25, 3) := by decide +kernel
theorem dJ2_getChar_3b067_6 : decode cJ2_getChar_3b067 6 = .ok (.iload_n 1, 1) := by decide +kernel
theorem dJ2_getChar_3b067_7 : decode cJ2_getChar_3b067 7 = .ok (.ifCond .lt 11, 3) := by decide +kernel
theorem dJ2_getChar_3b067_10 : decode cJ2_getChar_3b067 10 = .ok (.iload_n 1, 1) := by decide +kernel
theorem dJ2_getChar_3b067_11 : decode cJ2_getChar_3b067 11 = .ok (.aload_n 0, 1) := by decide +kernel
theorem dJ2_getChar_3b067_12 : decode cJ2_getChar_3b067 12 = .ok (.invokestatic 48, 3) := by decide +kernel
theorem dJ2_getChar_3b067_15 : decode cJ2_getChar_3b067 15 = .ok (.if_icmp .lt 13, 3) := by decide +kernel
theorem dJ2_getChar_3b067_18 : decode cJ2_getChar_3b067 18 = .ok (.new 52, 3) := by decide +kernel
theorem dJ2_getChar_3b067_21 : decode cJ2_getChar_3b067 21 = .ok (.dup, 1) := by decide +kernel
theorem dJ2_getChar_3b067_22 : decode cJ2_getChar_3b067 22 = .ok (.ldc 54, 2) := by decide +kernel
theorem dJ2_getChar_3b067_24 : decode cJ2_getChar_3b067 24 = .ok (.invokespecial 56, 3) := by decide +kernel
theorem dJ2_getChar_3b067_27 : decode cJ2_getChar_3b067 27 = .ok (.athrow, 1) := by decide +kernel
theorem dJ2_getChar_3b067_28 : decode cJ2_getChar_3b067 28 = .ok (.iload_n 1, 1) := by decide +kernel
theorem dJ2_getChar_3b067_29 : decode cJ2_getChar_3b067 29 = .ok (.iconst 1, 1) := by decide +kernel
theorem dJ2_getChar_3b067_30 : decode cJ2_getChar_3b067 30 = .ok (.ishl, 1) := by decide +kernel
theorem dJ2_getChar_3b067_31 : decode cJ2_getChar_3b067 31 = .ok (.istore_n 1, 1) := by decide +kernel
theorem dJ2_getChar_3b067_32 : decode cJ2_getChar_3b067 32 = .ok (.aload_n 0, 1) := by decide +kernel
theorem dJ2_getChar_3b067_33 : decode cJ2_getChar_3b067 33 = .ok (.iload_n 1, 1) := by decide +kernel
theorem dJ2_getChar_3b067_34 : decode cJ2_getChar_3b067 34 = .ok (.iinc 1 1, 3) := by decide +kernel
theorem dJ2_getChar_3b067_37 : decode cJ2_getChar_3b067 37 = .ok (.baload, 1) := by decide +kernel
theorem dJ2_getChar_3b067_38 : decode cJ2_getChar_3b067 38 = .ok (.sipush 255, 3) := by decide +kernel
theorem dJ2_getChar_3b067_41 : decode cJ2_getChar_3b067 41 = .ok (.iand, 1) := by decide +kernel
theorem dJ2_getChar_3b067_42 : decode cJ2_getChar_3b067 42 = .ok (.getstatic 59, 3) := by decide +kernel
theorem dJ2_getChar_3b067_45 : decode cJ2_getChar_3b067 45 = .ok (.ishl, 1) := by decide +kernel
theorem dJ2_getChar_3b067_46 : decode cJ2_getChar_3b067 46 = .ok (.aload_n 0, 1) := by decide +kernel
theorem dJ2_getChar_3b067_47 : decode cJ2_getChar_3b067 47 = .ok (.iload_n 1, 1) := by decide +kernel
theorem dJ2_getChar_3b067_48 : decode cJ2_getChar_3b067 48 = .ok (.baload, 1) := by decide +kernel
theorem dJ2_getChar_3b067_49 : decode cJ2_getChar_3b067 49 = .ok (.sipush 255, 3) := by decide +kernel
theorem dJ2_getChar_3b067_52 : decode cJ2_getChar_3b067 52 = .ok (.iand, 1) := by decide +kernel
theorem dJ2_getChar_3b067_53 : decode cJ2_getChar_3b067 53 = .ok (.getstatic 63, 3) := by decide +kernel
theorem dJ2_getChar_3b067_56 : decode cJ2_getChar_3b067 56 = .ok (.ishl, 1) := by decide +kernel
theorem dJ2_getChar_3b067_57 : decode cJ2_getChar_3b067 57 = .ok (.ior, 1) := by decide +kernel
theorem dJ2_getChar_3b067_58 : decode cJ2_getChar_3b067 58 = .ok (.i2c, 1) := by decide +kernel
theorem dJ2_getChar_3b067_59 : decode cJ2_getChar_3b067 59 = .ok (.ireturn, 1) := by decide +kernel
theorem dJ2_length_9d52b_0 : decode cJ2_length_9d52b 0 = .ok (.aload_n 0, 1) := by decide +kernel
theorem dJ2_length_9d52b_1 : decode cJ2_length_9d52b 1 = .ok (.arraylength, 1) := by decide +kernel
theorem dJ2_length_9d52b_2 : decode cJ2_length_9d52b 2 = .ok (.iconst 1, 1) := by decide +kernel
theorem dJ2_length_9d52b_3 : decode cJ2_length_9d52b 3 = .ok (.ishr, 1) := by decide +kernel
theorem dJ2_length_9d52b_4 : decode cJ2_length_9d52b 4 = .ok (.ireturn, 1) := by decide +kernel
theorem dJ2_indexOf_4cfef_0 : decode cJ2_indexOf_4cfef 0 = .ok (.iload_n 2, 1) := by decide +kernel
theorem dJ2_indexOf_4cfef_1 : decode cJ2_indexOf_4cfef 1 = .ok (.iconst 0, 1) := by decide +kernel
theorem dJ2_indexOf_4cfef_2 : decode cJ2_indexOf_4cfef 2 = .ok (.invokestatic 224, 3) := by decide +kernel
theorem dJ2_indexOf_4cfef_5 : decode cJ2_indexOf_4cfef 5 = .ok (.istore_n 2, 1) := by decide +kernel
theorem dJ2_indexOf_4cfef_6 : decode cJ2_indexOf_4cfef 6 = .ok (.iload_n 3, 1) := by decide +kernel
theorem dJ2_indexOf_4cfef_7 : decode cJ2_indexOf_4cfef 7 = .ok (.aload_n 0, 1) := by decide +kernel
theorem dJ2_indexOf_4cfef_8 : decode cJ2_indexOf_4cfef 8 = .ok (.arraylength, 1) := by decide +kernel
theorem dJ2_indexOf_4cfef_9 : decode cJ2_indexOf_4cfef 9 = .ok (.iconst 1, 1) := by decide +kernel
theorem dJ2_indexOf_4cfef_10 : decode cJ2_indexOf_4cfef 10 = .ok (.ishr, 1) := by decide +kernel
theorem dJ2_indexOf_4cfef_11 : decode cJ2_indexOf_4cfef 11 = .ok (.invokestatic 183, 3) := by decide +kernel
theorem dJ2_indexOf_4cfef_14 : decode cJ2_indexOf_4cfef 14 = .ok (.istore_n 3, 1) := by decide +kernel
theorem dJ2_indexOf_4cfef_15 : decode cJ2_indexOf_4cfef 15 = .ok (.iload_n 2, 1) := by decide +kernel
theorem dJ2_indexOf_4cfef_16 : decode cJ2_indexOf_4cfef 16 = .ok (.iload_n 3, 1) := by decide +kernel
theorem dJ2_indexOf_4cfef_17 : decode cJ2_indexOf_4cfef 17 = .ok (.if_icmp .lt 5, 3) := by decide +kernel
theorem dJ2_indexOf_4cfef_20 : decode cJ2_indexOf_4cfef 20 = .ok (.iconst (-1), 1) := by decide +kernel
theorem dJ2_indexOf_4cfef_21 : decode cJ2_indexOf_4cfef 21 = .ok (.ireturn, 1) := by decide +kernel
theorem dJ2_indexOf_4cfef_22 : decode cJ2_indexOf_4cfef 22 = .ok (.iload_n 1, 1) := by decide +kernel
theorem dJ2_indexOf_4cfef_23 : decode cJ2_indexOf_4cfef 23 = .ok (.ldc 227, 2) := by decide +kernel
theorem dJ2_indexOf_4cfef_25 : decode cJ2_indexOf_4cfef 25 = .ok (.if_icmp .ge 11, 3) := by decide +kernel
theorem dJ2_indexOf_4cfef_28 : decode cJ2_indexOf_4cfef 28 = .ok (.aload_n 0, 1) := by decide +kernel
theorem dJ2_indexOf_4cfef_29 : decode cJ2_indexOf_4cfef 29 = .ok (.iload_n 1, 1) := by decide +kernel
theorem dJ2_indexOf_4cfef_30 : decode cJ2_indexOf_4cfef 30 = .ok (.iload_n 2, 1) := by decide +kernel
theorem dJ2_indexOf_4cfef_31 : decode cJ2_indexOf_4cfef 31 = .ok (.iload_n 3, 1) := by decide +kernel
theorem dJ2_indexOf_4cfef_32 : decode cJ2_indexOf_4cfef 32 = .ok (.invokestatic 228, 3) := by decide +kernel
theorem dJ2_indexOf_4cfef_35 : decode cJ2_indexOf_4cfef 35 = .ok (.ireturn, 1) := by decide +kernel
theorem dJ2_indexOf_4cfef_36 : decode cJ2_indexOf_4cfef 36 = .ok (.aload_n 0, 1) := by decide +kernel
theorem dJ2_indexOf_4cfef_37 : decode cJ2_indexOf_4cfef 37 = .ok (.iload_n 1, 1) := by decide +kernel
theorem dJ2_indexOf_4cfef_38 : decode cJ2_indexOf_4cfef 38 = .ok (.iload_n 2, 1) := by decide +kernel
theorem dJ2_indexOf_4cfef_39 : decode cJ2_indexOf_4cfef 39 = .ok (.iload_n 3, 1) := by decide +kernel
theorem dJ2_indexOf_4cfef_40 : decode cJ2_indexOf_4cfef 40 = .ok (.invokestatic 232, 3) := by decide +kernel
theorem dJ2_indexOf_4cfef_43 : decode cJ2_indexOf_4cfef 43 = .ok (.ireturn, 1) := by decide +kernel
theorem dJ2_indexOfChar_4cfef_0 : decode cJ2_indexOfChar_4cfef 0 = .ok (.iload_n 2, 1) := by decide +kernel
theorem dJ2_indexOfChar_4cfef_1 : decode cJ2_indexOfChar_4cfef 1 = .ok (.iload_n 3, 1) := by decide +kernel
theorem dJ2_indexOfChar_4cfef_2 : decode cJ2_indexOfChar_4cfef 2 = .ok (.aload_n 0, 1) := by decide +kernel
theorem dJ2_indexOfChar_4cfef_3 : decode cJ2_indexOfChar_4cfef 3 = .ok (.invokestatic 96, 3) := by decide +kernel
theorem dJ2_indexOfChar_4cfef_6 : decode cJ2_indexOfChar_4cfef 6 = .ok (.aload_n 0, 1) := by decide +kernel
theorem dJ2_indexOfChar_4cfef_7 : decode cJ2_indexOfChar_4cfef 7 = .ok (.iload_n 1, 1) := by decide +kernel
theorem dJ2_indexOfChar_4cfef_8 : decode cJ2_indexOfChar_4cfef 8 = .ok (.iload_n 2, 1) := by decide +kernel
theorem dJ2_indexOfChar_4cfef_9 : decode cJ2_indexOfChar_4cfef 9 = .ok (.iload_n 3, 1) := by decide +kernel
theorem dJ2_indexOfChar_4cfef_10 : decode cJ2_indexOfChar_4cfef 10 = .ok (.invokestatic 244, 3) := by decide +kernel
theorem dJ2_indexOfChar_4cfef_13 : decode cJ2_indexOfChar_4cfef 13 = .ok (.ireturn, 1) := by decide +kernel
theorem dJ2_indexOfCharUnsafe_4cfef_0 : decode cJ2_indexOfCharUnsafe_4cfef 0 = .ok (.iload_n 2, 1) := by decide +kernel
theorem dJ2_indexOfCharUnsafe_4cfef_1 : decode cJ2_indexOfCharUnsafe_4cfef 1 = .ok (.istore 4, 2) := by decide +kernel
theorem dJ2_indexOfCharUnsafe_4cfef_3 : decode cJ2_indexOfCharUnsafe_4cfef 3 = .ok (.iload 4, 2) := by decide +kernel
theorem dJ2_indexOfCharUnsafe_4cfef_5 : decode cJ2_indexOfCharUnsafe_4cfef 5 = .ok (.iload_n 3, 1) := by decide +kernel
theorem dJ2_indexOfCharUnsafe_4cfef_6 : decode cJ2_indexOfCharUnsafe_4cfef 6 = .ok (.if_icmp .ge 22, 3) := by decide +kernel
theorem dJ2_indexOfCharUnsafe_4cfef_9 : decode cJ2_indexOfCharUnsafe_4cfef 9 = .ok (.aload_n 0, 1) := by decide +kernel
theorem dJ2_indexOfCharUnsafe_4cfef_10 : decode cJ2_indexOfCharUnsafe_4cfef 10 = .ok (.iload 4, 2) := by decide +kernel
theorem dJ2_indexOfCharUnsafe_4cfef_12 : decode cJ2_indexOfCharUnsafe_4cfef 12 = .ok (.invokestatic 71, 3) := by decide +kernel
theorem dJ2_indexOfCharUnsafe_4cfef_15 : decode cJ2_indexOfCharUnsafe_4cfef 15 = .ok (.iload_n 1, 1) := by decide +kernel
theorem dJ2_indexOfCharUnsafe_4cfef_16 : decode cJ2_indexOfCharUnsafe_4cfef 16 = .ok (.if_icmp .ne 6, 3) := by decide +kernel
theorem dJ2_indexOfCharUnsafe_4cfef_19 : decode cJ2_indexOfCharUnsafe_4cfef 19 = .ok (.iload 4, 2) := by decide +kernel
theorem dJ2_indexOfCharUnsafe_4cfef_21 : decode cJ2_indexOfCharUnsafe_4cfef 21 = .ok (.ireturn, 1) := by decide +kernel
theorem dJ2_indexOfCharUnsafe_4cfef_22 : decode cJ2_indexOfCharUnsafe_4cfef 22 = .ok (.iinc 4 1, 3) := by decide +kernel
theorem dJ2_indexOfCharUnsafe_4cfef_25 : decode cJ2_indexOfCharUnsafe_4cfef 25 = .ok (.goto (-22), 3) := by decide +kernel
theorem dJ2_indexOfCharUnsafe_4cfef_28 : decode cJ2_indexOfCharUnsafe_4cfef 28 = .ok (.iconst (-1), 1) := by decide +kernel
theorem dJ2_indexOfCharUnsafe_4cfef_29 : decode cJ2_indexOfCharUnsafe_4cfef 29 = .ok (.ireturn, 1) := by decide +kernel
theorem dJ2_indexOfSupplementary_4cfef_0 : decode cJ2_indexOfSupplementary_4cfef 0 = .ok (.iload_n 1, 1) := by decide +kernel
theorem dJ2_indexOfSupplementary_4cfef_1 : decode cJ2_indexOfSupplementary_4cfef 1 = .ok (.invokestatic 164, 3) := by decide +kernel
theorem dJ2_indexOfSupplementary_4cfef_4 : decode cJ2_indexOfSupplementary_4cfef 4 = .ok (.ifCond .eq 65, 3) := by decide +kernel
theorem dJ2_indexOfSupplementary_4cfef_7 : decode cJ2_indexOfSupplementary_4cfef 7 = .ok (.iload_n 1, 1) := by decide +kernel
theorem dJ2_indexOfSupplementary_4cfef_8 : decode cJ2_indexOfSupplementary_4cfef 8 = .ok (.invokestatic 157, 3) := by decide +kernel
theorem dJ2_indexOfSupplementary_4cfef_11 : decode cJ2_indexOfSupplementary_4cfef 11 = .ok (.istore 4, 2) := by decide +kernel
theorem dJ2_indexOfSupplementary_4cfef_13 : decode cJ2_indexOfSupplementary_4cfef 13 = .ok (.iload_n 1, 1) := by decide +kernel
theorem dJ2_indexOfSupplementary_4cfef_14 : decode cJ2_indexOfSupplementary_4cfef 14 = .ok (.invokestatic 161, 3) := by decide +kernel
theorem dJ2_indexOfSupplementary_4cfef_17 : decode cJ2_indexOfSupplementary_4cfef 17 = .ok (.istore 5, 2) := by decide +kernel
theorem dJ2_indexOfSupplementary_4cfef_19 : decode cJ2_indexOfSupplementary_4cfef 19 = .ok (.iload_n 2, 1) := by decide +kernel
theorem dJ2_indexOfSupplementary_4cfef_20 : decode cJ2_indexOfSupplementary_4cfef 20 = .ok (.iload_n 3, 1) := by decide +kernel
theorem dJ2_indexOfSupplementary_4cfef_21 : decode cJ2_indexOfSupplementary_4cfef 21 = .ok (.aload_n 0, 1) := by decide +kernel
theorem dJ2_indexOfSupplementary_4cfef_22 : decode cJ2_indexOfSupplementary_4cfef 22 = .ok (.invokestatic 96, 3) := by decide +kernel
theorem dJ2_indexOfSupplementary_4cfef_25 : decode cJ2_indexOfSupplementary_4cfef 25 = .ok (.iload_n 2, 1) := by decide +kernel
theorem dJ2_indexOfSupplementary_4cfef_26 : decode cJ2_indexOfSupplementary_4cfef 26 = .ok (.istore 6, 2) := by decide +kernel
theorem dJ2_indexOfSupplementary_4cfef_28 : decode cJ2_indexOfSupplementary_4cfef 28 = .ok (.iload 6, 2) := by decide +kernel
theorem dJ2_indexOfSupplementary_4cfef_30 : decode cJ2_indexOfSupplementary_4cfef 30 = .ok (.iload_n 3, 1) := by decide +kernel
theorem dJ2_indexOfSupplementary_4cfef_31 : decode cJ2_indexOfSupplementary_4cfef 31 = .ok (.iconst 1, 1) := by decide +kernel
theorem dJ2_indexOfSupplementary_4cfef_32 : decode cJ2_indexOfSupplementary_4cfef 32 = .ok (.isub, 1) := by decide +kernel
theorem dJ2_indexOfSupplementary_4cfef_33 : decode cJ2_indexOfSupplementary_4cfef 33 = .ok (.if_icmp .ge 36, 3) := by decide +kernel
theorem dJ2_indexOfSupplementary_4cfef_36 : decode cJ2_indexOfSupplementary_4cfef 36 = .ok (.aload_n 0, 1) := by decide +kernel
theorem dJ2_indexOfSupplementary_4cfef_37 : decode cJ2_indexOfSupplementary_4cfef 37 = .ok (.iload 6, 2) := by decide +kernel
theorem dJ2_indexOfSupplementary_4cfef_39 : decode cJ2_indexOfSupplementary_4cfef 39 = .ok (.invokestatic 71, 3) := by decide +kernel
theorem dJ2_indexOfSupplementary_4cfef_42 : decode cJ2_indexOfSupplementary_4cfef 42 = .ok (.iload 4, 2) := by decide +kernel
theorem dJ2_indexOfSupplementary_4cfef_44 : decode cJ2_indexOfSupplementary_4cfef 44 = .ok (.if_icmp .ne 19, 3) := by decide +kernel
theorem dJ2_indexOfSupplementary_4cfef_47 : decode cJ2_indexOfSupplementary_4cfef 47 = .ok (.aload_n 0, 1) := by decide +kernel
theorem dJ2_indexOfSupplementary_4cfef_48 : decode cJ2_indexOfSupplementary_4cfef 48 = .ok (.iload 6, 2) := by decide +kernel
theorem dJ2_indexOfSupplementary_4cfef_50 : decode cJ2_indexOfSupplementary_4cfef 50 = .ok (.iconst 1, 1) := by decide +kernel
theorem dJ2_indexOfSupplementary_4cfef_51 : decode cJ2_indexOfSupplementary_4cfef 51 = .ok (.iadd, 1) := by decide +kernel
theorem dJ2_indexOfSupplementary_4cfef_52 : decode cJ2_indexOfSupplementary_4cfef 52 = .ok (.invokestatic 71, 3) := by decide +kernel
theorem dJ2_indexOfSupplementary_4cfef_55 : decode cJ2_indexOfSupplementary_4cfef 55 = .ok (.iload 5, 2) := by decide +kernel
theorem dJ2_indexOfSupplementary_4cfef_57 : decode cJ2_indexOfSupplementary_4cfef 57 = .ok (.if_icmp .ne 6, 3) := by decide +kernel
theorem dJ2_indexOfSupplementary_4cfef_60 : decode cJ2_indexOfSupplementary_4cfef 60 = .ok (.iload 6, 2) := by decide +kernel
theorem dJ2_indexOfSupplementary_4cfef_62 : decode cJ2_indexOfSupplementary_4cfef 62 = .ok (.ireturn, 1) := by decide +kernel
theorem dJ2_indexOfSupplementary_4cfef_63 : decode cJ2_indexOfSupplementary_4cfef 63 = .ok (.iinc 6 1, 3) := by decide +kernel
theorem dJ2_indexOfSupplementary_4cfef_66 : decode cJ2_indexOfSupplementary_4cfef 66 = .ok (.goto (-38), 3) := by decide +kernel
theorem dJ2_indexOfSupplementary_4cfef_69 : decode cJ2_indexOfSupplementary_4cfef 69 = .ok (.iconst (-1), 1) := by decide +kernel
theorem dJ2_indexOfSupplementary_4cfef_70 : decode cJ2_indexOfSupplementary_4cfef 70 = .ok (.ireturn, 1) := by decide +kernel
theorem dJ2_checkBoundsBeginEnd_d044e_0 : decode cJ2_checkBoundsBeginEnd_d044e 0 = .ok (.iload_n 0, 1) := by decide +kernel
theorem dJ2_checkBoundsBeginEnd_d044e_1 : decode cJ2_checkBoundsBeginEnd_d044e 1 = .ok (.iload_n 1, 1) := by decide +kernel
theorem dJ2_checkBoundsBeginEnd_d044e_2 : decode cJ2_checkBoundsBeginEnd_d044e 2 = .ok (.aload_n 2, 1) := by decide +kernel
theorem dJ2_checkBoundsBeginEnd_d044e_3 : decode cJ2_checkBoundsBeginEnd_d044e 3 = .ok (.invokestatic 48, 3) := by decide +kernel
theorem dJ2_checkBoundsBeginEnd_d044e_6 : decode cJ2_checkBoundsBeginEnd_d044e 6 = .ok (.invokestatic 241, 3) := by decide +kernel
theorem dJ2_checkBoundsBeginEnd_d044e_9 : decode cJ2_checkBoundsBeginEnd_d044e 9 = .ok (.return_, 1) := by decide +kernel
theorem dJ3_checkFromToIndex_8c36e_0 : decode cJ3_checkFromToIndex_8c36e 0 = .ok (.iload_n 0, 1) := by decide +kernel
theorem dJ3_checkFromToIndex_8c36e_1 : decode cJ3_checkFromToIndex_8c36e 1 = .ok (.ifCond .lt 13, 3) := by decide +kernel
theorem dJ3_checkFromToIndex_8c36e_4 : decode cJ3_checkFromToIndex_8c36e 4 = .ok (.iload_n 0, 1) := by decide +kernel
theorem dJ3_checkFromToIndex_8c36e_5 : decode cJ3_checkFromToIndex_8c36e 5 = .ok (.iload_n 1, 1) := by decide +kernel
theorem dJ3_checkFromToIndex_8c36e_6 : decode cJ3_checkFromToIndex_8c36e 6 = .ok (.if_icmp .gt 8, 3) := by decide +kernel
theorem dJ3_checkFromToIndex_8c36e_9 : decode cJ3_checkFromToIndex_8c36e 9 = .ok (.iload_n 1, 1) := by decide +kernel
theorem dJ3_checkFromToIndex_8c36e_10 : decode cJ3_checkFromToIndex_8c36e 10 = .ok (.iload_n 2, 1) := by decide +kernel
theorem dJ3_checkFromToIndex_8c36e_11 : decode cJ3_checkFromToIndex_8c36e 11 = .ok (.if_icmp .le 11, 3) := by decide +kernel
theorem dJ3_checkFromToIndex_8c36e_14 : decode cJ3_checkFromToIndex_8c36e 14 = .ok (.aload_n 3, 1) := by decide +kernel
theorem dJ3_checkFromToIndex_8c36e_15 : decode cJ3_checkFromToIndex_8c36e 15 = .ok (.iload_n 0, 1) := by decide +kernel
theorem dJ3_checkFromToIndex_8c36e_16 : decode cJ3_checkFromToIndex_8c36e 16 = .ok (.iload_n 1, 1) := by decide +kernel
theorem dJ3_checkFromToIndex_8c36e_17 : decode cJ3_checkFromToIndex_8c36e 17 = .ok (.iload_n 2, 1) := by decide +kernel
theorem dJ3_checkFromToIndex_8c36e_18 : decode cJ3_checkFromToIndex_8c36e 18 = .ok (.invokestatic 99, 3) := by decide +kernel
theorem dJ3_checkFromToIndex_8c36e_21 : decode cJ3_checkFromToIndex_8c36e 21 = .ok (.athrow, 1) := by decide +kernel
theorem dJ3_checkFromToIndex_8c36e_22 : decode cJ3_checkFromToIndex_8c36e 22 = .ok (.iload_n 0, 1) := by decide +kernel
theorem dJ3_checkFromToIndex_8c36e_23 : decode cJ3_checkFromToIndex_8c36e 23 = .ok (.ireturn, 1) := by decide +kernel
theorem dL_law_0 : decode cL_law 0 = .ok (.new 7, 3) := by decide +kernel
theorem dL_law_3 : decode cL_law 3 = .ok (.dup, 1) := by decide +kernel
theorem dL_law_4 : decode cL_law 4 = .ok (.invokespecial 9, 3) := by decide +kernel
theorem dL_law_7 : decode cL_law 7 = .ok (.astore_n 1, 1) := by decide +kernel
theorem dL_law_8 : decode cL_law 8 = .ok (.new 10, 3) := by decide +kernel
theorem dL_law_11 : decode cL_law 11 = .ok (.dup, 1) := by decide +kernel
theorem dL_law_12 : decode cL_law 12 = .ok (.invokespecial 12, 3) := by decide +kernel
theorem dL_law_15 : decode cL_law 15 = .ok (.astore_n 2, 1) := by decide +kernel
theorem dL_law_16 : decode cL_law 16 = .ok (.iconst 0, 1) := by decide +kernel
theorem dL_law_17 : decode cL_law 17 = .ok (.istore_n 3, 1) := by decide +kernel
theorem dL_law_18 : decode cL_law 18 = .ok (.iload_n 3, 1) := by decide +kernel
theorem dL_law_19 : decode cL_law 19 = .ok (.aload_n 0, 1) := by decide +kernel
theorem dL_law_20 : decode cL_law 20 = .ok (.arraylength, 1) := by decide +kernel
theorem dL_law_21 : decode cL_law 21 = .ok (.bipush 6, 2) := by decide +kernel
theorem dL_law_23 : decode cL_law 23 = .ok (.isub, 1) := by decide +kernel
theorem dL_law_24 : decode cL_law 24 = .ok (.if_icmp .gt 941, 3) := by decide +kernel
theorem dL_law_27 : decode cL_law 27 = .ok (.aload_n 0, 1) := by decide +kernel
theorem dL_law_28 : decode cL_law 28 = .ok (.iload_n 3, 1) := by decide +kernel
theorem dL_law_29 : decode cL_law 29 = .ok (.iaload, 1) := by decide +kernel
theorem dL_law_30 : decode cL_law 30 = .ok (.bipush 31, 2) := by decide +kernel
theorem dL_law_32 : decode cL_law 32 = .ok (.iand, 1) := by decide +kernel
theorem dL_law_33 : decode cL_law 33 = .ok (.tableswitch 926 0 26 #[123, 186, 199, 212, 225, 258, 291, 314, 363, 406, 439, 472, 495, 508, 532, 566, 600, 623, 657, 680, 714, 738, 761, 824, 877, 890, 903], 123) := by decide +kernel
theorem dL_law_156 : decode cL_law 156 = .ok (.aload_n 1, 1) := by decide +kernel
theorem dL_law_157 : decode cL_law 157 = .ok (.aload_n 0, 1) := by decide +kernel
theorem dL_law_158 : decode cL_law 158 = .ok (.iload_n 3, 1) := by decide +kernel
theorem dL_law_159 : decode cL_law 159 = .ok (.iconst 1, 1) := by decide +kernel
theorem dL_law_160 : decode cL_law 160 = .ok (.iadd, 1) := by decide +kernel
theorem dL_law_161 : decode cL_law 161 = .ok (.iaload, 1) := by decide +kernel
theorem dL_law_162 : decode cL_law 162 = .ok (.aload_n 0, 1) := by decide +kernel
theorem dL_law_163 : decode cL_law 163 = .ok (.iload_n 3, 1) := by decide +kernel
theorem dL_law_164 : decode cL_law 164 = .ok (.iconst 2, 1) := by decide +kernel
theorem dL_law_165 : decode cL_law 165 = .ok (.iadd, 1) := by decide +kernel
theorem dL_law_166 : decode cL_law 166 = .ok (.iaload, 1) := by decide +kernel
theorem dL_law_167 : decode cL_law 167 = .ok (.i2l, 1) := by decide +kernel
theorem dL_law_168 : decode cL_law 168 = .ok (.bipush 32, 2) := by decide +kernel
theorem dL_law_170 : decode cL_law 170 = .ok (.lshl, 1) := by decide +kernel
theorem dL_law_171 : decode cL_law 171 = .ok (.aload_n 0, 1) := by decide +kernel
theorem dL_law_172 : decode cL_law 172 = .ok (.iload_n 3, 1) := by decide +kernel
theorem dL_law_173 : decode cL_law 173 = .ok (.iconst 3, 1) := by decide +kernel
theorem dL_law_174 : decode cL_law 174 = .ok (.iadd, 1) := by decide +kernel
theorem dL_law_175 : decode cL_law 175 = .ok (.iaload, 1) := by decide +kernel
theorem dL_law_176 : decode cL_law 176 = .ok (.i2l, 1) := by decide +kernel
theorem dL_law_177 : decode cL_law 177 = .ok (.ldc2_w 13, 3) := by decide +kernel
theorem dL_law_180 : decode cL_law 180 = .ok (.land, 1) := by decide +kernel
theorem dL_law_181 : decode cL_law 181 = .ok (.lor, 1) := by decide +kernel
theorem dL_law_182 : decode cL_law 182 = .ok (.invokevirtual 15, 3) := by decide +kernel
theorem dL_law_185 : decode cL_law 185 = .ok (.aload_n 2, 1) := by decide +kernel
theorem dL_law_186 : decode cL_law 186 = .ok (.aload_n 0, 1) := by decide +kernel
theorem dL_law_187 : decode cL_law 187 = .ok (.iload_n 3, 1) := by decide +kernel
theorem dL_law_188 : decode cL_law 188 = .ok (.iconst 1, 1) := by decide +kernel
theorem dL_law_189 : decode cL_law 189 = .ok (.iadd, 1) := by decide +kernel
theorem dL_law_190 : decode cL_law 190 = .ok (.iaload, 1) := by decide +kernel
theorem dL_law_191 : decode cL_law 191 = .ok (.aload_n 0, 1) := by decide +kernel
theorem dL_law_192 : decode cL_law 192 = .ok (.iload_n 3, 1) := by decide +kernel
theorem dL_law_193 : decode cL_law 193 = .ok (.iconst 2, 1) := by decide +kernel
theorem dL_law_194 : decode cL_law 194 = .ok (.iadd, 1) := by decide +kernel
theorem dL_law_195 : decode cL_law 195 = .ok (.iaload, 1) := by decide +kernel
theorem dL_law_196 : decode cL_law 196 = .ok (.i2l, 1) := by decide +kernel
theorem dL_law_197 : decode cL_law 197 = .ok (.bipush 32, 2) := by decide +kernel
theorem dL_law_199 : decode cL_law 199 = .ok (.lshl, 1) := by decide +kernel
theorem dL_law_200 : decode cL_law 200 = .ok (.aload_n 0, 1) := by decide +kernel
theorem dL_law_201 : decode cL_law 201 = .ok (.iload_n 3, 1) := by decide +kernel
theorem dL_law_202 : decode cL_law 202 = .ok (.iconst 3, 1) := by decide +kernel
theorem dL_law_203 : decode cL_law 203 = .ok (.iadd, 1) := by decide +kernel
theorem dL_law_204 : decode cL_law 204 = .ok (.iaload, 1) := by decide +kernel
theorem dL_law_205 : decode cL_law 205 = .ok (.i2l, 1) := by decide +kernel
theorem dL_law_206 : decode cL_law 206 = .ok (.ldc2_w 13, 3) := by decide +kernel
theorem dL_law_209 : decode cL_law 209 = .ok (.land, 1) := by decide +kernel
theorem dL_law_210 : decode cL_law 210 = .ok (.lor, 1) := by decide +kernel
theorem dL_law_211 : decode cL_law 211 = .ok (.invokevirtual 19, 3) := by decide +kernel
theorem dL_law_214 : decode cL_law 214 = .ok (.if_icmp .eq 745, 3) := by decide +kernel
theorem dL_law_217 : decode cL_law 217 = .ok (.iconst 0, 1) := by decide +kernel
theorem dL_law_218 : decode cL_law 218 = .ok (.ireturn, 1) := by decide +kernel
theorem dL_law_219 : decode cL_law 219 = .ok (.aload_n 1, 1) := by decide +kernel
theorem dL_law_220 : decode cL_law 220 = .ok (.invokevirtual 20, 3) := by decide +kernel
theorem dL_law_223 : decode cL_law 223 = .ok (.aload_n 2, 1) := by decide +kernel
theorem dL_law_224 : decode cL_law 224 = .ok (.invokevirtual 24, 3) := by decide +kernel
theorem dL_law_227 : decode cL_law 227 = .ok (.if_icmp .eq 732, 3) := by decide +kernel
theorem dL_law_230 : decode cL_law 230 = .ok (.iconst 0, 1) := by decide +kernel
theorem dL_law_231 : decode cL_law 231 = .ok (.ireturn, 1) := by decide +kernel
theorem dL_law_232 : decode cL_law 232 = .ok (.aload_n 1, 1) := by decide +kernel
theorem dL_law_233 : decode cL_law 233 = .ok (.invokevirtual 25, 3) := by decide +kernel
theorem dL_law_236 : decode cL_law 236 = .ok (.aload_n 2, 1) := by decide +kernel
theorem dL_law_237 : decode cL_law 237 = .ok (.invokevirtual 28, 3) := by decide +kernel
theorem dL_law_240 : decode cL_law 240 = .ok (.if_icmp .eq 719, 3) := by decide +kernel
theorem dL_law_243 : decode cL_law 243 = .ok (.iconst 0, 1) := by decide +kernel
theorem dL_law_244 : decode cL_law 244 = .ok (.ireturn, 1) := by decide +kernel
theorem dL_law_245 : decode cL_law 245 = .ok (.aload_n 1, 1) := by decide +kernel
theorem dL_law_246 : decode cL_law 246 = .ok (.invokevirtual 29, 3) := by decide +kernel
theorem dL_law_249 : decode cL_law 249 = .ok (.aload_n 2, 1) := by decide +kernel
theorem dL_law_250 : decode cL_law 250 = .ok (.invokevirtual 32, 3) := by decide +kernel
theorem dL_law_253 : decode cL_law 253 = .ok (.if_icmp .eq 706, 3) := by decide +kernel
theorem dL_law_256 : decode cL_law 256 = .ok (.iconst 0, 1) := by decide +kernel
theorem dL_law_257 : decode cL_law 257 = .ok (.ireturn, 1) := by decide +kernel
theorem dL_law_258 : decode cL_law 258 = .ok (.aload_n 1, 1) := by decide +kernel
theorem dL_law_259 : decode cL_law 259 = .ok (.aload_n 0, 1) := by decide +kernel
theorem dL_law_260 : decode cL_law 260 = .ok (.iload_n 3, 1) := by decide +kernel
theorem dL_law_261 : decode cL_law 261 = .ok (.iconst 1, 1) := by decide +kernel
theorem dL_law_262 : decode cL_law 262 = .ok (.iadd, 1) := by decide +kernel
theorem dL_law_263 : decode cL_law 263 = .ok (.iaload, 1) := by decide +kernel
theorem dL_law_264 : decode cL_law 264 = .ok (.aload_n 0, 1) := by decide +kernel
theorem dL_law_265 : decode cL_law 265 = .ok (.iload_n 3, 1) := by decide +kernel
theorem dL_law_266 : decode cL_law 266 = .ok (.iconst 2, 1) := by decide +kernel
theorem dL_law_267 : decode cL_law 267 = .ok (.iadd, 1) := by decide +kernel
theorem dL_law_268 : decode cL_law 268 = .ok (.iaload, 1) := by decide +kernel
theorem dL_law_269 : decode cL_law 269 = .ok (.invokevirtual 33, 3) := by decide +kernel
theorem dL_law_272 : decode cL_law 272 = .ok (.aload_n 2, 1) := by decide +kernel
theorem dL_law_273 : decode cL_law 273 = .ok (.aload_n 0, 1) := by decide +kernel
theorem dL_law_274 : decode cL_law 274 = .ok (.iload_n 3, 1) := by decide +kernel
theorem dL_law_275 : decode cL_law 275 = .ok (.iconst 1, 1) := by decide +kernel
theorem dL_law_276 : decode cL_law 276 = .ok (.iadd, 1) := by decide +kernel
theorem dL_law_277 : decode cL_law 277 = .ok (.iaload, 1) := by decide +kernel
theorem dL_law_278 : decode cL_law 278 = .ok (.aload_n 0, 1) := by decide +kernel
theorem dL_law_279 : decode cL_law 279 = .ok (.iload_n 3, 1) := by decide +kernel
theorem dL_law_280 : decode cL_law 280 = .ok (.iconst 2, 1) := by decide +kernel
theorem dL_law_281 : decode cL_law 281 = .ok (.iadd, 1) := by decide +kernel
theorem dL_law_282 : decode cL_law 282 = .ok (.iaload, 1) := by decide +kernel
theorem dL_law_283 : decode cL_law 283 = .ok (.invokevirtual 37, 3) := by decide +kernel
theorem dL_law_286 : decode cL_law 286 = .ok (.if_icmp .eq 673, 3) := by decide +kernel
theorem dL_law_289 : decode cL_law 289 = .ok (.iconst 0, 1) := by decide +kernel
theorem dL_law_290 : decode cL_law 290 = .ok (.ireturn, 1) := by decide +kernel
theorem dL_law_291 : decode cL_law 291 = .ok (.aload_n 1, 1) := by decide +kernel
theorem dL_law_292 : decode cL_law 292 = .ok (.aload_n 0, 1) := by decide +kernel
theorem dL_law_293 : decode cL_law 293 = .ok (.iload_n 3, 1) := by decide +kernel
theorem dL_law_294 : decode cL_law 294 = .ok (.iconst 1, 1) := by decide +kernel
theorem dL_law_295 : decode cL_law 295 = .ok (.iadd, 1) := by decide +kernel
theorem dL_law_296 : decode cL_law 296 = .ok (.iaload, 1) := by decide +kernel
theorem dL_law_297 : decode cL_law 297 = .ok (.aload_n 0, 1) := by decide +kernel
theorem dL_law_298 : decode cL_law 298 = .ok (.iload_n 3, 1) := by decide +kernel
theorem dL_law_299 : decode cL_law 299 = .ok (.iconst 2, 1) := by decide +kernel
theorem dL_law_300 : decode cL_law 300 = .ok (.iadd, 1) := by decide +kernel
theorem dL_law_301 : decode cL_law 301 = .ok (.iaload, 1) := by decide +kernel
theorem dL_law_302 : decode cL_law 302 = .ok (.invokevirtual 38, 3) := by decide +kernel
theorem dL_law_305 : decode cL_law 305 = .ok (.aload_n 2, 1) := by decide +kernel
theorem dL_law_306 : decode cL_law 306 = .ok (.aload_n 0, 1) := by decide +kernel
theorem dL_law_307 : decode cL_law 307 = .ok (.iload_n 3, 1) := by decide +kernel
theorem dL_law_308 : decode cL_law 308 = .ok (.iconst 1, 1) := by decide +kernel
theorem dL_law_309 : decode cL_law 309 = .ok (.iadd, 1) := by decide +kernel
theorem dL_law_310 : decode cL_law 310 = .ok (.iaload, 1) := by decide +kernel
theorem dL_law_311 : decode cL_law 311 = .ok (.aload_n 0, 1) := by decide +kernel
theorem dL_law_312 : decode cL_law 312 = .ok (.iload_n 3, 1) := by decide +kernel
theorem dL_law_313 : decode cL_law 313 = .ok (.iconst 2, 1) := by decide +kernel
theorem dL_law_314 : decode cL_law 314 = .ok (.iadd, 1) := by decide +kernel
theorem dL_law_315 : decode cL_law 315 = .ok (.iaload, 1) := by decide +kernel
theorem dL_law_316 : decode cL_law 316 = .ok (.invokevirtual 41, 3) := by decide +kernel
theorem dL_law_319 : decode cL_law 319 = .ok (.if_icmp .eq 640, 3) := by decide +kernel
theorem dL_law_322 : decode cL_law 322 = .ok (.iconst 0, 1) := by decide +kernel
theorem dL_law_323 : decode cL_law 323 = .ok (.ireturn, 1) := by decide +kernel
theorem dL_law_324 : decode cL_law 324 = .ok (.aload_n 1, 1) := by decide +kernel
theorem dL_law_325 : decode cL_law 325 = .ok (.aload_n 0, 1) := by decide +kernel
theorem dL_law_326 : decode cL_law 326 = .ok (.iload_n 3, 1) := by decide +kernel
theorem dL_law_327 : decode cL_law 327 = .ok (.iconst 1, 1) := by decide +kernel
theorem dL_law_328 : decode cL_law 328 = .ok (.iadd, 1) := by decide +kernel
theorem dL_law_329 : decode cL_law 329 = .ok (.iaload, 1) := by decide +kernel
theorem dL_law_330 : decode cL_law 330 = .ok (.invokevirtual 42, 3) := by decide +kernel
theorem dL_law_333 : decode cL_law 333 = .ok (.aload_n 2, 1) := by decide +kernel
theorem dL_law_334 : decode cL_law 334 = .ok (.aload_n 0, 1) := by decide +kernel
theorem dL_law_335 : decode cL_law 335 = .ok (.iload_n 3, 1) := by decide +kernel
theorem dL_law_336 : decode cL_law 336 = .ok (.iconst 1, 1) := by decide +kernel
theorem dL_law_337 : decode cL_law 337 = .ok (.iadd, 1) := by decide +kernel
theorem dL_law_338 : decode cL_law 338 = .ok (.iaload, 1) := by decide +kernel
theorem dL_law_339 : decode cL_law 339 = .ok (.invokevirtual 46, 3) := by decide +kernel
theorem dL_law_342 : decode cL_law 342 = .ok (.if_icmp .eq 617, 3) := by decide +kernel
theorem dL_law_345 : decode cL_law 345 = .ok (.iconst 0, 1) := by decide +kernel
theorem dL_law_346 : decode cL_law 346 = .ok (.ireturn, 1) := by decide +kernel
theorem dL_law_347 : decode cL_law 347 = .ok (.aload_n 1, 1) := by decide +kernel
theorem dL_law_348 : decode cL_law 348 = .ok (.aload_n 0, 1) := by decide +kernel
theorem dL_law_349 : decode cL_law 349 = .ok (.iload_n 3, 1) := by decide +kernel
theorem dL_law_350 : decode cL_law 350 = .ok (.iconst 1, 1) := by decide +kernel
theorem dL_law_351 : decode cL_law 351 = .ok (.iadd, 1) := by decide +kernel
theorem dL_law_352 : decode cL_law 352 = .ok (.iaload, 1) := by decide +kernel
theorem dL_law_353 : decode cL_law 353 = .ok (.aload_n 0, 1) := by decide +kernel
theorem dL_law_354 : decode cL_law 354 = .ok (.iload_n 3, 1) := by decide +kernel
theorem dL_law_355 : decode cL_law 355 = .ok (.iconst 2, 1) := by decide +kernel
theorem dL_law_356 : decode cL_law 356 = .ok (.iadd, 1) := by decide +kernel
theorem dL_law_357 : decode cL_law 357 = .ok (.iaload, 1) := by decide +kernel
theorem dL_law_358 : decode cL_law 358 = .ok (.ifCond .eq 7, 3) := by decide +kernel
theorem dL_law_361 : decode cL_law 361 = .ok (.iconst 1, 1) := by decide +kernel
theorem dL_law_362 : decode cL_law 362 = .ok (.goto 4, 3) := by decide +kernel
theorem dL_law_365 : decode cL_law 365 = .ok (.iconst 0, 1) := by decide +kernel
theorem dL_law_366 : decode cL_law 366 = .ok (.invokevirtual 47, 3) := by decide +kernel
theorem dL_law_369 : decode cL_law 369 = .ok (.aload_n 2, 1) := by decide +kernel
theorem dL_law_370 : decode cL_law 370 = .ok (.aload_n 0, 1) := by decide +kernel
theorem dL_law_371 : decode cL_law 371 = .ok (.iload_n 3, 1) := by decide +kernel
theorem dL_law_372 : decode cL_law 372 = .ok (.iconst 1, 1) := by decide +kernel
theorem dL_law_373 : decode cL_law 373 = .ok (.iadd, 1) := by decide +kernel
theorem dL_law_374 : decode cL_law 374 = .ok (.iaload, 1) := by decide +kernel
theorem dL_law_375 : decode cL_law 375 = .ok (.aload_n 0, 1) := by decide +kernel
theorem dL_law_376 : decode cL_law 376 = .ok (.iload_n 3, 1) := by decide +kernel
theorem dL_law_377 : decode cL_law 377 = .ok (.iconst 2, 1) := by decide +kernel
theorem dL_law_378 : decode cL_law 378 = .ok (.iadd, 1) := by decide +kernel
theorem dL_law_379 : decode cL_law 379 = .ok (.iaload, 1) := by decide +kernel
theorem dL_law_380 : decode cL_law 380 = .ok (.ifCond .eq 7, 3) := by decide +kernel
theorem dL_law_383 : decode cL_law 383 = .ok (.iconst 1, 1) := by decide +kernel
theorem dL_law_384 : decode cL_law 384 = .ok (.goto 4, 3) := by decide +kernel
theorem dL_law_387 : decode cL_law 387 = .ok (.iconst 0, 1) := by decide +kernel
theorem dL_law_388 : decode cL_law 388 = .ok (.invokevirtual 51, 3) := by decide +kernel
theorem dL_law_391 : decode cL_law 391 = .ok (.if_icmp .eq 568, 3) := by decide +kernel
theorem dL_law_394 : decode cL_law 394 = .ok (.iconst 0, 1) := by decide +kernel
theorem dL_law_395 : decode cL_law 395 = .ok (.ireturn, 1) := by decide +kernel
theorem dL_law_396 : decode cL_law 396 = .ok (.aload_n 1, 1) := by decide +kernel
theorem dL_law_397 : decode cL_law 397 = .ok (.aload_n 0, 1) := by decide +kernel
theorem dL_law_398 : decode cL_law 398 = .ok (.iload_n 3, 1) := by decide +kernel
theorem dL_law_399 : decode cL_law 399 = .ok (.iconst 1, 1) := by decide +kernel
theorem dL_law_400 : decode cL_law 400 = .ok (.iadd, 1) := by decide +kernel
theorem dL_law_401 : decode cL_law 401 = .ok (.iaload, 1) := by decide +kernel
theorem dL_law_402 : decode cL_law 402 = .ok (.aload_n 0, 1) := by decide +kernel
theorem dL_law_403 : decode cL_law 403 = .ok (.iload_n 3, 1) := by decide +kernel
theorem dL_law_404 : decode cL_law 404 = .ok (.iconst 2, 1) := by decide +kernel
theorem dL_law_405 : decode cL_law 405 = .ok (.iadd, 1) := by decide +kernel
theorem dL_law_406 : decode cL_law 406 = .ok (.iaload, 1) := by decide +kernel
theorem dL_law_407 : decode cL_law 407 = .ok (.aload_n 0, 1) := by decide +kernel
theorem dL_law_408 : decode cL_law 408 = .ok (.iload_n 3, 1) := by decide +kernel
theorem dL_law_409 : decode cL_law 409 = .ok (.iconst 3, 1) := by decide +kernel
theorem dL_law_410 : decode cL_law 410 = .ok (.iadd, 1) := by decide +kernel
theorem dL_law_411 : decode cL_law 411 = .ok (.iaload, 1) := by decide +kernel
theorem dL_law_412 : decode cL_law 412 = .ok (.invokevirtual 52, 3) := by decide +kernel
theorem dL_law_415 : decode cL_law 415 = .ok (.aload_n 2, 1) := by decide +kernel
theorem dL_law_416 : decode cL_law 416 = .ok (.aload_n 0, 1) := by decide +kernel
theorem dL_law_417 : decode cL_law 417 = .ok (.iload_n 3, 1) := by decide +kernel
theorem dL_law_418 : decode cL_law 418 = .ok (.iconst 1, 1) := by decide +kernel
theorem dL_law_419 : decode cL_law 419 = .ok (.iadd, 1) := by decide +kernel
theorem dL_law_420 : decode cL_law 420 = .ok (.iaload, 1) := by decide +kernel
theorem dL_law_421 : decode cL_law 421 = .ok (.aload_n 0, 1) := by decide +kernel
theorem dL_law_422 : decode cL_law 422 = .ok (.iload_n 3, 1) := by decide +kernel
theorem dL_law_423 : decode cL_law 423 = .ok (.iconst 2, 1) := by decide +kernel
theorem dL_law_424 : decode cL_law 424 = .ok (.iadd, 1) := by decide +kernel
theorem dL_law_425 : decode cL_law 425 = .ok (.iaload, 1) := by decide +kernel
theorem dL_law_426 : decode cL_law 426 = .ok (.aload_n 0, 1) := by decide +kernel
theorem dL_law_427 : decode cL_law 427 = .ok (.iload_n 3, 1) := by decide +kernel
theorem dL_law_428 : decode cL_law 428 = .ok (.iconst 3, 1) := by decide +kernel
theorem dL_law_429 : decode cL_law 429 = .ok (.iadd, 1) := by decide +kernel
theorem dL_law_430 : decode cL_law 430 = .ok (.iaload, 1) := by decide +kernel
theorem dL_law_431 : decode cL_law 431 = .ok (.invokevirtual 56, 3) := by decide +kernel
theorem dL_law_434 : decode cL_law 434 = .ok (.if_icmp .eq 525, 3) := by decide +kernel
theorem dL_law_437 : decode cL_law 437 = .ok (.iconst 0, 1) := by decide +kernel
theorem dL_law_438 : decode cL_law 438 = .ok (.ireturn, 1) := by decide +kernel
theorem dL_law_439 : decode cL_law 439 = .ok (.aload_n 1, 1) := by decide +kernel
theorem dL_law_440 : decode cL_law 440 = .ok (.aload_n 0, 1) := by decide +kernel
theorem dL_law_441 : decode cL_law 441 = .ok (.iload_n 3, 1) := by decide +kernel
theorem dL_law_442 : decode cL_law 442 = .ok (.iconst 1, 1) := by decide +kernel
theorem dL_law_443 : decode cL_law 443 = .ok (.iadd, 1) := by decide +kernel
theorem dL_law_444 : decode cL_law 444 = .ok (.iaload, 1) := by decide +kernel
theorem dL_law_445 : decode cL_law 445 = .ok (.aload_n 0, 1) := by decide +kernel
theorem dL_law_446 : decode cL_law 446 = .ok (.iload_n 3, 1) := by decide +kernel
theorem dL_law_447 : decode cL_law 447 = .ok (.iconst 2, 1) := by decide +kernel
theorem dL_law_448 : decode cL_law 448 = .ok (.iadd, 1) := by decide +kernel
theorem dL_law_449 : decode cL_law 449 = .ok (.iaload, 1) := by decide +kernel
theorem dL_law_450 : decode cL_law 450 = .ok (.invokevirtual 57, 3) := by decide +kernel
theorem dL_law_453 : decode cL_law 453 = .ok (.aload_n 2, 1) := by decide +kernel
theorem dL_law_454 : decode cL_law 454 = .ok (.aload_n 0, 1) := by decide +kernel
theorem dL_law_455 : decode cL_law 455 = .ok (.iload_n 3, 1) := by decide +kernel
theorem dL_law_456 : decode cL_law 456 = .ok (.iconst 1, 1) := by decide +kernel
theorem dL_law_457 : decode cL_law 457 = .ok (.iadd, 1) := by decide +kernel
theorem dL_law_458 : decode cL_law 458 = .ok (.iaload, 1) := by decide +kernel
theorem dL_law_459 : decode cL_law 459 = .ok (.aload_n 0, 1) := by decide +kernel
theorem dL_law_460 : decode cL_law 460 = .ok (.iload_n 3, 1) := by decide +kernel
theorem dL_law_461 : decode cL_law 461 = .ok (.iconst 2, 1) := by decide +kernel
theorem dL_law_462 : decode cL_law 462 = .ok (.iadd, 1) := by decide +kernel
theorem dL_law_463 : decode cL_law 463 = .ok (.iaload, 1) := by decide +kernel
theorem dL_law_464 : decode cL_law 464 = .ok (.invokevirtual 60, 3) := by decide +kernel
theorem dL_law_467 : decode cL_law 467 = .ok (.if_icmp .eq 492, 3) := by decide +kernel
theorem dL_law_470 : decode cL_law 470 = .ok (.iconst 0, 1) := by decide +kernel
theorem dL_law_471 : decode cL_law 471 = .ok (.ireturn, 1) := by decide +kernel
theorem dL_law_472 : decode cL_law 472 = .ok (.aload_n 1, 1) := by decide +kernel
theorem dL_law_473 : decode cL_law 473 = .ok (.aload_n 0, 1) := by decide +kernel
theorem dL_law_474 : decode cL_law 474 = .ok (.iload_n 3, 1) := by decide +kernel
theorem dL_law_475 : decode cL_law 475 = .ok (.iconst 1, 1) := by decide +kernel
theorem dL_law_476 : decode cL_law 476 = .ok (.iadd, 1) := by decide +kernel
theorem dL_law_477 : decode cL_law 477 = .ok (.iaload, 1) := by decide +kernel
theorem dL_law_478 : decode cL_law 478 = .ok (.aload_n 0, 1) := by decide +kernel
theorem dL_law_479 : decode cL_law 479 = .ok (.iload_n 3, 1) := by decide +kernel
theorem dL_law_480 : decode cL_law 480 = .ok (.iconst 2, 1) := by decide +kernel
theorem dL_law_481 : decode cL_law 481 = .ok (.iadd, 1) := by decide +kernel
theorem dL_law_482 : decode cL_law 482 = .ok (.iaload, 1) := by decide +kernel
theorem dL_law_483 : decode cL_law 483 = .ok (.invokevirtual 61, 3) := by decide +kernel
theorem dL_law_486 : decode cL_law 486 = .ok (.aload_n 2, 1) := by decide +kernel
theorem dL_law_487 : decode cL_law 487 = .ok (.aload_n 0, 1) := by decide +kernel
theorem dL_law_488 : decode cL_law 488 = .ok (.iload_n 3, 1) := by decide +kernel
theorem dL_law_489 : decode cL_law 489 = .ok (.iconst 1, 1) := by decide +kernel
theorem dL_law_490 : decode cL_law 490 = .ok (.iadd, 1) := by decide +kernel
theorem dL_law_491 : decode cL_law 491 = .ok (.iaload, 1) := by decide +kernel
theorem dL_law_492 : decode cL_law 492 = .ok (.aload_n 0, 1) := by decide +kernel
theorem dL_law_493 : decode cL_law 493 = .ok (.iload_n 3, 1) := by decide +kernel
theorem dL_law_494 : decode cL_law 494 = .ok (.iconst 2, 1) := by decide +kernel
theorem dL_law_495 : decode cL_law 495 = .ok (.iadd, 1) := by decide +kernel
theorem dL_law_496 : decode cL_law 496 = .ok (.iaload, 1) := by decide +kernel
theorem dL_law_497 : decode cL_law 497 = .ok (.invokevirtual 64, 3) := by decide +kernel
theorem dL_law_500 : decode cL_law 500 = .ok (.if_icmp .eq 459, 3) := by decide +kernel
theorem dL_law_503 : decode cL_law 503 = .ok (.iconst 0, 1) := by decide +kernel
theorem dL_law_504 : decode cL_law 504 = .ok (.ireturn, 1) := by decide +kernel
theorem dL_law_505 : decode cL_law 505 = .ok (.aload_n 1, 1) := by decide +kernel
theorem dL_law_506 : decode cL_law 506 = .ok (.aload_n 0, 1) := by decide +kernel
theorem dL_law_507 : decode cL_law 507 = .ok (.iload_n 3, 1) := by decide +kernel
theorem dL_law_508 : decode cL_law 508 = .ok (.iconst 1, 1) := by decide +kernel
theorem dL_law_509 : decode cL_law 509 = .ok (.iadd, 1) := by decide +kernel
theorem dL_law_510 : decode cL_law 510 = .ok (.iaload, 1) := by decide +kernel
theorem dL_law_511 : decode cL_law 511 = .ok (.invokevirtual 65, 3) := by decide +kernel
theorem dL_law_514 : decode cL_law 514 = .ok (.aload_n 2, 1) := by decide +kernel
theorem dL_law_515 : decode cL_law 515 = .ok (.aload_n 0, 1) := by decide +kernel
theorem dL_law_516 : decode cL_law 516 = .ok (.iload_n 3, 1) := by decide +kernel
theorem dL_law_517 : decode cL_law 517 = .ok (.iconst 1, 1) := by decide +kernel
theorem dL_law_518 : decode cL_law 518 = .ok (.iadd, 1) := by decide +kernel
theorem dL_law_519 : decode cL_law 519 = .ok (.iaload, 1) := by decide +kernel
theorem dL_law_520 : decode cL_law 520 = .ok (.invokevirtual 68, 3) := by decide +kernel
theorem dL_law_523 : decode cL_law 523 = .ok (.if_icmp .eq 436, 3) := by decide +kernel
theorem dL_law_526 : decode cL_law 526 = .ok (.iconst 0, 1) := by decide +kernel
theorem dL_law_527 : decode cL_law 527 = .ok (.ireturn, 1) := by decide +kernel
theorem dL_law_528 : decode cL_law 528 = .ok (.aload_n 1, 1) := by decide +kernel
theorem dL_law_529 : decode cL_law 529 = .ok (.invokevirtual 69, 3) := by decide +kernel
theorem dL_law_532 : decode cL_law 532 = .ok (.aload_n 2, 1) := by decide +kernel
theorem dL_law_533 : decode cL_law 533 = .ok (.invokevirtual 72, 3) := by decide +kernel
theorem dL_law_536 : decode cL_law 536 = .ok (.if_icmp .eq 423, 3) := by decide +kernel
theorem dL_law_539 : decode cL_law 539 = .ok (.iconst 0, 1) := by decide +kernel
theorem dL_law_540 : decode cL_law 540 = .ok (.ireturn, 1) := by decide +kernel
theorem dL_law_541 : decode cL_law 541 = .ok (.aload_n 1, 1) := by decide +kernel
theorem dL_law_542 : decode cL_law 542 = .ok (.aload_n 0, 1) := by decide +kernel
theorem dL_law_543 : decode cL_law 543 = .ok (.iload_n 3, 1) := by decide +kernel
theorem dL_law_544 : decode cL_law 544 = .ok (.iconst 1, 1) := by decide +kernel
theorem dL_law_545 : decode cL_law 545 = .ok (.iadd, 1) := by decide +kernel
theorem dL_law_546 : decode cL_law 546 = .ok (.iaload, 1) := by decide +kernel
theorem dL_law_547 : decode cL_law 547 = .ok (.invokevirtual 73, 3) := by decide +kernel
theorem dL_law_550 : decode cL_law 550 = .ok (.aload_n 2, 1) := by decide +kernel
theorem dL_law_551 : decode cL_law 551 = .ok (.aload_n 0, 1) := by decide +kernel
theorem dL_law_552 : decode cL_law 552 = .ok (.iload_n 3, 1) := by decide +kernel
theorem dL_law_553 : decode cL_law 553 = .ok (.iconst 1, 1) := by decide +kernel
theorem dL_law_554 : decode cL_law 554 = .ok (.iadd, 1) := by decide +kernel
theorem dL_law_555 : decode cL_law 555 = .ok (.iaload, 1) := by decide +kernel
theorem dL_law_556 : decode cL_law 556 = .ok (.invokevirtual 77, 3) := by decide +kernel
theorem dL_law_559 : decode cL_law 559 = .ok (.lcmp, 1) := by decide +kernel
theorem dL_law_560 : decode cL_law 560 = .ok (.ifCond .eq 399, 3) := by decide +kernel
theorem dL_law_563 : decode cL_law 563 = .ok (.iconst 0, 1) := by decide +kernel
theorem dL_law_564 : decode cL_law 564 = .ok (.ireturn, 1) := by decide +kernel
theorem dL_law_565 : decode cL_law 565 = .ok (.aload_n 1, 1) := by decide +kernel
theorem dL_law_566 : decode cL_law 566 = .ok (.aload_n 0, 1) := by decide +kernel
theorem dL_law_567 : decode cL_law 567 = .ok (.iload_n 3, 1) := by decide +kernel
theorem dL_law_568 : decode cL_law 568 = .ok (.iconst 1, 1) := by decide +kernel
theorem dL_law_569 : decode cL_law 569 = .ok (.iadd, 1) := by decide +kernel
theorem dL_law_570 : decode cL_law 570 = .ok (.iaload, 1) := by decide +kernel
theorem dL_law_571 : decode cL_law 571 = .ok (.aload_n 0, 1) := by decide +kernel
theorem dL_law_572 : decode cL_law 572 = .ok (.iload_n 3, 1) := by decide +kernel
theorem dL_law_573 : decode cL_law 573 = .ok (.iconst 2, 1) := by decide +kernel
theorem dL_law_574 : decode cL_law 574 = .ok (.iadd, 1) := by decide +kernel
theorem dL_law_575 : decode cL_law 575 = .ok (.iaload, 1) := by decide +kernel
theorem dL_law_576 : decode cL_law 576 = .ok (.invokevirtual 78, 3) := by decide +kernel
theorem dL_law_579 : decode cL_law 579 = .ok (.aload_n 2, 1) := by decide +kernel
theorem dL_law_580 : decode cL_law 580 = .ok (.aload_n 0, 1) := by decide +kernel
theorem dL_law_581 : decode cL_law 581 = .ok (.iload_n 3, 1) := by decide +kernel
theorem dL_law_582 : decode cL_law 582 = .ok (.iconst 1, 1) := by decide +kernel
theorem dL_law_583 : decode cL_law 583 = .ok (.iadd, 1) := by decide +kernel
theorem dL_law_584 : decode cL_law 584 = .ok (.iaload, 1) := by decide +kernel
theorem dL_law_585 : decode cL_law 585 = .ok (.aload_n 0, 1) := by decide +kernel
theorem dL_law_586 : decode cL_law 586 = .ok (.iload_n 3, 1) := by decide +kernel
theorem dL_law_587 : decode cL_law 587 = .ok (.iconst 2, 1) := by decide +kernel
theorem dL_law_588 : decode cL_law 588 = .ok (.iadd, 1) := by decide +kernel
theorem dL_law_589 : decode cL_law 589 = .ok (.iaload, 1) := by decide +kernel
theorem dL_law_590 : decode cL_law 590 = .ok (.invokevirtual 82, 3) := by decide +kernel
theorem dL_law_593 : decode cL_law 593 = .ok (.lcmp, 1) := by decide +kernel
theorem dL_law_594 : decode cL_law 594 = .ok (.ifCond .eq 365, 3) := by decide +kernel
theorem dL_law_597 : decode cL_law 597 = .ok (.iconst 0, 1) := by decide +kernel
theorem dL_law_598 : decode cL_law 598 = .ok (.ireturn, 1) := by decide +kernel
theorem dL_law_599 : decode cL_law 599 = .ok (.aload_n 1, 1) := by decide +kernel
theorem dL_law_600 : decode cL_law 600 = .ok (.aload_n 0, 1) := by decide +kernel
theorem dL_law_601 : decode cL_law 601 = .ok (.iload_n 3, 1) := by decide +kernel
theorem dL_law_602 : decode cL_law 602 = .ok (.iconst 1, 1) := by decide +kernel
theorem dL_law_603 : decode cL_law 603 = .ok (.iadd, 1) := by decide +kernel
theorem dL_law_604 : decode cL_law 604 = .ok (.iaload, 1) := by decide +kernel
theorem dL_law_605 : decode cL_law 605 = .ok (.aload_n 0, 1) := by decide +kernel
theorem dL_law_606 : decode cL_law 606 = .ok (.iload_n 3, 1) := by decide +kernel
theorem dL_law_607 : decode cL_law 607 = .ok (.iconst 2, 1) := by decide +kernel
theorem dL_law_608 : decode cL_law 608 = .ok (.iadd, 1) := by decide +kernel
theorem dL_law_609 : decode cL_law 609 = .ok (.iaload, 1) := by decide +kernel
theorem dL_law_610 : decode cL_law 610 = .ok (.invokevirtual 83, 3) := by decide +kernel
theorem dL_law_613 : decode cL_law 613 = .ok (.aload_n 2, 1) := by decide +kernel
theorem dL_law_614 : decode cL_law 614 = .ok (.aload_n 0, 1) := by decide +kernel
theorem dL_law_615 : decode cL_law 615 = .ok (.iload_n 3, 1) := by decide +kernel
theorem dL_law_616 : decode cL_law 616 = .ok (.iconst 1, 1) := by decide +kernel
theorem dL_law_617 : decode cL_law 617 = .ok (.iadd, 1) := by decide +kernel
theorem dL_law_618 : decode cL_law 618 = .ok (.iaload, 1) := by decide +kernel
theorem dL_law_619 : decode cL_law 619 = .ok (.aload_n 0, 1) := by decide +kernel
theorem dL_law_620 : decode cL_law 620 = .ok (.iload_n 3, 1) := by decide +kernel
theorem dL_law_621 : decode cL_law 621 = .ok (.iconst 2, 1) := by decide +kernel
theorem dL_law_622 : decode cL_law 622 = .ok (.iadd, 1) := by decide +kernel
theorem dL_law_623 : decode cL_law 623 = .ok (.iaload, 1) := by decide +kernel
theorem dL_law_624 : decode cL_law 624 = .ok (.invokevirtual 86, 3) := by decide +kernel
theorem dL_law_627 : decode cL_law 627 = .ok (.lcmp, 1) := by decide +kernel
theorem dL_law_628 : decode cL_law 628 = .ok (.ifCond .eq 331, 3) := by decide +kernel
theorem dL_law_631 : decode cL_law 631 = .ok (.iconst 0, 1) := by decide +kernel
theorem dL_law_632 : decode cL_law 632 = .ok (.ireturn, 1) := by decide +kernel
theorem dL_law_633 : decode cL_law 633 = .ok (.aload_n 1, 1) := by decide +kernel
theorem dL_law_634 : decode cL_law 634 = .ok (.aload_n 0, 1) := by decide +kernel
theorem dL_law_635 : decode cL_law 635 = .ok (.iload_n 3, 1) := by decide +kernel
theorem dL_law_636 : decode cL_law 636 = .ok (.iconst 1, 1) := by decide +kernel
theorem dL_law_637 : decode cL_law 637 = .ok (.iadd, 1) := by decide +kernel
theorem dL_law_638 : decode cL_law 638 = .ok (.iaload, 1) := by decide +kernel
theorem dL_law_639 : decode cL_law 639 = .ok (.invokevirtual 87, 3) := by decide +kernel
theorem dL_law_642 : decode cL_law 642 = .ok (.aload_n 2, 1) := by decide +kernel
theorem dL_law_643 : decode cL_law 643 = .ok (.aload_n 0, 1) := by decide +kernel
theorem dL_law_644 : decode cL_law 644 = .ok (.iload_n 3, 1) := by decide +kernel
theorem dL_law_645 : decode cL_law 645 = .ok (.iconst 1, 1) := by decide +kernel
theorem dL_law_646 : decode cL_law 646 = .ok (.iadd, 1) := by decide +kernel
theorem dL_law_647 : decode cL_law 647 = .ok (.iaload, 1) := by decide +kernel
theorem dL_law_648 : decode cL_law 648 = .ok (.invokevirtual 90, 3) := by decide +kernel
theorem dL_law_651 : decode cL_law 651 = .ok (.if_icmp .eq 308, 3) := by decide +kernel
theorem dL_law_654 : decode cL_law 654 = .ok (.iconst 0, 1) := by decide +kernel
theorem dL_law_655 : decode cL_law 655 = .ok (.ireturn, 1) := by decide +kernel
theorem dL_law_656 : decode cL_law 656 = .ok (.aload_n 1, 1) := by decide +kernel
theorem dL_law_657 : decode cL_law 657 = .ok (.aload_n 0, 1) := by decide +kernel
theorem dL_law_658 : decode cL_law 658 = .ok (.iload_n 3, 1) := by decide +kernel
theorem dL_law_659 : decode cL_law 659 = .ok (.iconst 1, 1) := by decide +kernel
theorem dL_law_660 : decode cL_law 660 = .ok (.iadd, 1) := by decide +kernel
theorem dL_law_661 : decode cL_law 661 = .ok (.iaload, 1) := by decide +kernel
theorem dL_law_662 : decode cL_law 662 = .ok (.aload_n 0, 1) := by decide +kernel
theorem dL_law_663 : decode cL_law 663 = .ok (.iload_n 3, 1) := by decide +kernel
theorem dL_law_664 : decode cL_law 664 = .ok (.iconst 2, 1) := by decide +kernel
theorem dL_law_665 : decode cL_law 665 = .ok (.iadd, 1) := by decide +kernel
theorem dL_law_666 : decode cL_law 666 = .ok (.iaload, 1) := by decide +kernel
theorem dL_law_667 : decode cL_law 667 = .ok (.invokevirtual 91, 3) := by decide +kernel
theorem dL_law_670 : decode cL_law 670 = .ok (.aload_n 2, 1) := by decide +kernel
theorem dL_law_671 : decode cL_law 671 = .ok (.aload_n 0, 1) := by decide +kernel
theorem dL_law_672 : decode cL_law 672 = .ok (.iload_n 3, 1) := by decide +kernel
theorem dL_law_673 : decode cL_law 673 = .ok (.iconst 1, 1) := by decide +kernel
theorem dL_law_674 : decode cL_law 674 = .ok (.iadd, 1) := by decide +kernel
theorem dL_law_675 : decode cL_law 675 = .ok (.iaload, 1) := by decide +kernel
theorem dL_law_676 : decode cL_law 676 = .ok (.aload_n 0, 1) := by decide +kernel
theorem dL_law_677 : decode cL_law 677 = .ok (.iload_n 3, 1) := by decide +kernel
theorem dL_law_678 : decode cL_law 678 = .ok (.iconst 2, 1) := by decide +kernel
theorem dL_law_679 : decode cL_law 679 = .ok (.iadd, 1) := by decide +kernel
theorem dL_law_680 : decode cL_law 680 = .ok (.iaload, 1) := by decide +kernel
theorem dL_law_681 : decode cL_law 681 = .ok (.invokevirtual 94, 3) := by decide +kernel
theorem dL_law_684 : decode cL_law 684 = .ok (.lcmp, 1) := by decide +kernel
theorem dL_law_685 : decode cL_law 685 = .ok (.ifCond .eq 274, 3) := by decide +kernel
theorem dL_law_688 : decode cL_law 688 = .ok (.iconst 0, 1) := by decide +kernel
theorem dL_law_689 : decode cL_law 689 = .ok (.ireturn, 1) := by decide +kernel
theorem dL_law_690 : decode cL_law 690 = .ok (.aload_n 1, 1) := by decide +kernel
theorem dL_law_691 : decode cL_law 691 = .ok (.aload_n 0, 1) := by decide +kernel
theorem dL_law_692 : decode cL_law 692 = .ok (.iload_n 3, 1) := by decide +kernel
theorem dL_law_693 : decode cL_law 693 = .ok (.iconst 1, 1) := by decide +kernel
theorem dL_law_694 : decode cL_law 694 = .ok (.iadd, 1) := by decide +kernel
theorem dL_law_695 : decode cL_law 695 = .ok (.iaload, 1) := by decide +kernel
theorem dL_law_696 : decode cL_law 696 = .ok (.invokevirtual 95, 3) := by decide +kernel
theorem dL_law_699 : decode cL_law 699 = .ok (.aload_n 2, 1) := by decide +kernel
theorem dL_law_700 : decode cL_law 700 = .ok (.aload_n 0, 1) := by decide +kernel
theorem dL_law_701 : decode cL_law 701 = .ok (.iload_n 3, 1) := by decide +kernel
theorem dL_law_702 : decode cL_law 702 = .ok (.iconst 1, 1) := by decide +kernel
theorem dL_law_703 : decode cL_law 703 = .ok (.iadd, 1) := by decide +kernel
theorem dL_law_704 : decode cL_law 704 = .ok (.iaload, 1) := by decide +kernel
theorem dL_law_705 : decode cL_law 705 = .ok (.invokevirtual 98, 3) := by decide +kernel
theorem dL_law_708 : decode cL_law 708 = .ok (.if_icmp .eq 251, 3) := by decide +kernel
theorem dL_law_711 : decode cL_law 711 = .ok (.iconst 0, 1) := by decide +kernel
theorem dL_law_712 : decode cL_law 712 = .ok (.ireturn, 1) := by decide +kernel
theorem dL_law_713 : decode cL_law 713 = .ok (.aload_n 1, 1) := by decide +kernel
theorem dL_law_714 : decode cL_law 714 = .ok (.aload_n 0, 1) := by decide +kernel
theorem dL_law_715 : decode cL_law 715 = .ok (.iload_n 3, 1) := by decide +kernel
theorem dL_law_716 : decode cL_law 716 = .ok (.iconst 1, 1) := by decide +kernel
theorem dL_law_717 : decode cL_law 717 = .ok (.iadd, 1) := by decide +kernel
theorem dL_law_718 : decode cL_law 718 = .ok (.iaload, 1) := by decide +kernel
theorem dL_law_719 : decode cL_law 719 = .ok (.aload_n 0, 1) := by decide +kernel
theorem dL_law_720 : decode cL_law 720 = .ok (.iload_n 3, 1) := by decide +kernel
theorem dL_law_721 : decode cL_law 721 = .ok (.iconst 2, 1) := by decide +kernel
theorem dL_law_722 : decode cL_law 722 = .ok (.iadd, 1) := by decide +kernel
theorem dL_law_723 : decode cL_law 723 = .ok (.iaload, 1) := by decide +kernel
theorem dL_law_724 : decode cL_law 724 = .ok (.invokevirtual 99, 3) := by decide +kernel
theorem dL_law_727 : decode cL_law 727 = .ok (.aload_n 2, 1) := by decide +kernel
theorem dL_law_728 : decode cL_law 728 = .ok (.aload_n 0, 1) := by decide +kernel
theorem dL_law_729 : decode cL_law 729 = .ok (.iload_n 3, 1) := by decide +kernel
theorem dL_law_730 : decode cL_law 730 = .ok (.iconst 1, 1) := by decide +kernel
theorem dL_law_731 : decode cL_law 731 = .ok (.iadd, 1) := by decide +kernel
theorem dL_law_732 : decode cL_law 732 = .ok (.iaload, 1) := by decide +kernel
theorem dL_law_733 : decode cL_law 733 = .ok (.aload_n 0, 1) := by decide +kernel
theorem dL_law_734 : decode cL_law 734 = .ok (.iload_n 3, 1) := by decide +kernel
theorem dL_law_735 : decode cL_law 735 = .ok (.iconst 2, 1) := by decide +kernel
theorem dL_law_736 : decode cL_law 736 = .ok (.iadd, 1) := by decide +kernel
theorem dL_law_737 : decode cL_law 737 = .ok (.iaload, 1) := by decide +kernel
theorem dL_law_738 : decode cL_law 738 = .ok (.invokevirtual 102, 3) := by decide +kernel
theorem dL_law_741 : decode cL_law 741 = .ok (.lcmp, 1) := by decide +kernel
theorem dL_law_742 : decode cL_law 742 = .ok (.ifCond .eq 217, 3) := by decide +kernel
theorem dL_law_745 : decode cL_law 745 = .ok (.iconst 0, 1) := by decide +kernel
theorem dL_law_746 : decode cL_law 746 = .ok (.ireturn, 1) := by decide +kernel
theorem dL_law_747 : decode cL_law 747 = .ok (.aload_n 1, 1) := by decide +kernel
theorem dL_law_748 : decode cL_law 748 = .ok (.aload_n 0, 1) := by decide +kernel
theorem dL_law_749 : decode cL_law 749 = .ok (.iload_n 3, 1) := by decide +kernel
theorem dL_law_750 : decode cL_law 750 = .ok (.iconst 1, 1) := by decide +kernel
theorem dL_law_751 : decode cL_law 751 = .ok (.iadd, 1) := by decide +kernel
theorem dL_law_752 : decode cL_law 752 = .ok (.iaload, 1) := by decide +kernel
theorem dL_law_753 : decode cL_law 753 = .ok (.invokevirtual 103, 3) := by decide +kernel
theorem dL_law_756 : decode cL_law 756 = .ok (.aload_n 2, 1) := by decide +kernel
theorem dL_law_757 : decode cL_law 757 = .ok (.aload_n 0, 1) := by decide +kernel
theorem dL_law_758 : decode cL_law 758 = .ok (.iload_n 3, 1) := by decide +kernel
theorem dL_law_759 : decode cL_law 759 = .ok (.iconst 1, 1) := by decide +kernel
theorem dL_law_760 : decode cL_law 760 = .ok (.iadd, 1) := by decide +kernel
theorem dL_law_761 : decode cL_law 761 = .ok (.iaload, 1) := by decide +kernel
theorem dL_law_762 : decode cL_law 762 = .ok (.invokevirtual 106, 3) := by decide +kernel
theorem dL_law_765 : decode cL_law 765 = .ok (.lcmp, 1) := by decide +kernel
theorem dL_law_766 : decode cL_law 766 = .ok (.ifCond .eq 193, 3) := by decide +kernel
theorem dL_law_769 : decode cL_law 769 = .ok (.iconst 0, 1) := by decide +kernel
theorem dL_law_770 : decode cL_law 770 = .ok (.ireturn, 1) := by decide +kernel
theorem dL_law_771 : decode cL_law 771 = .ok (.aload_n 1, 1) := by decide +kernel
theorem dL_law_772 : decode cL_law 772 = .ok (.aload_n 0, 1) := by decide +kernel
theorem dL_law_773 : decode cL_law 773 = .ok (.iload_n 3, 1) := by decide +kernel
theorem dL_law_774 : decode cL_law 774 = .ok (.iconst 1, 1) := by decide +kernel
theorem dL_law_775 : decode cL_law 775 = .ok (.iadd, 1) := by decide +kernel
theorem dL_law_776 : decode cL_law 776 = .ok (.iaload, 1) := by decide +kernel
theorem dL_law_777 : decode cL_law 777 = .ok (.invokevirtual 107, 3) := by decide +kernel
theorem dL_law_780 : decode cL_law 780 = .ok (.aload_n 2, 1) := by decide +kernel
theorem dL_law_781 : decode cL_law 781 = .ok (.aload_n 0, 1) := by decide +kernel
theorem dL_law_782 : decode cL_law 782 = .ok (.iload_n 3, 1) := by decide +kernel
theorem dL_law_783 : decode cL_law 783 = .ok (.iconst 1, 1) := by decide +kernel
theorem dL_law_784 : decode cL_law 784 = .ok (.iadd, 1) := by decide +kernel
theorem dL_law_785 : decode cL_law 785 = .ok (.iaload, 1) := by decide +kernel
theorem dL_law_786 : decode cL_law 786 = .ok (.invokevirtual 110, 3) := by decide +kernel
theorem dL_law_789 : decode cL_law 789 = .ok (.if_icmp .eq 170, 3) := by decide +kernel
theorem dL_law_792 : decode cL_law 792 = .ok (.iconst 0, 1) := by decide +kernel
theorem dL_law_793 : decode cL_law 793 = .ok (.ireturn, 1) := by decide +kernel
theorem dL_law_794 : decode cL_law 794 = .ok (.aload_n 1, 1) := by decide +kernel
theorem dL_law_795 : decode cL_law 795 = .ok (.aload_n 0, 1) := by decide +kernel
theorem dL_law_796 : decode cL_law 796 = .ok (.iload_n 3, 1) := by decide +kernel
theorem dL_law_797 : decode cL_law 797 = .ok (.iconst 1, 1) := by decide +kernel
theorem dL_law_798 : decode cL_law 798 = .ok (.iadd, 1) := by decide +kernel
theorem dL_law_799 : decode cL_law 799 = .ok (.iaload, 1) := by decide +kernel
theorem dL_law_800 : decode cL_law 800 = .ok (.aload_n 0, 1) := by decide +kernel
theorem dL_law_801 : decode cL_law 801 = .ok (.iload_n 3, 1) := by decide +kernel
theorem dL_law_802 : decode cL_law 802 = .ok (.iconst 2, 1) := by decide +kernel
theorem dL_law_803 : decode cL_law 803 = .ok (.iadd, 1) := by decide +kernel
theorem dL_law_804 : decode cL_law 804 = .ok (.iaload, 1) := by decide +kernel
theorem dL_law_805 : decode cL_law 805 = .ok (.aload_n 0, 1) := by decide +kernel
theorem dL_law_806 : decode cL_law 806 = .ok (.iload_n 3, 1) := by decide +kernel
theorem dL_law_807 : decode cL_law 807 = .ok (.iconst 3, 1) := by decide +kernel
theorem dL_law_808 : decode cL_law 808 = .ok (.iadd, 1) := by decide +kernel
theorem dL_law_809 : decode cL_law 809 = .ok (.iaload, 1) := by decide +kernel
theorem dL_law_810 : decode cL_law 810 = .ok (.aload_n 0, 1) := by decide +kernel
theorem dL_law_811 : decode cL_law 811 = .ok (.iload_n 3, 1) := by decide +kernel
theorem dL_law_812 : decode cL_law 812 = .ok (.iconst 4, 1) := by decide +kernel
theorem dL_law_813 : decode cL_law 813 = .ok (.iadd, 1) := by decide +kernel
theorem dL_law_814 : decode cL_law 814 = .ok (.iaload, 1) := by decide +kernel
theorem dL_law_815 : decode cL_law 815 = .ok (.aload_n 0, 1) := by decide +kernel
theorem dL_law_816 : decode cL_law 816 = .ok (.iload_n 3, 1) := by decide +kernel
theorem dL_law_817 : decode cL_law 817 = .ok (.iconst 5, 1) := by decide +kernel
theorem dL_law_818 : decode cL_law 818 = .ok (.iadd, 1) := by decide +kernel
theorem dL_law_819 : decode cL_law 819 = .ok (.iaload, 1) := by decide +kernel
theorem dL_law_820 : decode cL_law 820 = .ok (.invokevirtual 111, 3) := by decide +kernel
theorem dL_law_823 : decode cL_law 823 = .ok (.aload_n 2, 1) := by decide +kernel
theorem dL_law_824 : decode cL_law 824 = .ok (.aload_n 0, 1) := by decide +kernel
theorem dL_law_825 : decode cL_law 825 = .ok (.iload_n 3, 1) := by decide +kernel
theorem dL_law_826 : decode cL_law 826 = .ok (.iconst 1, 1) := by decide +kernel
theorem dL_law_827 : decode cL_law 827 = .ok (.iadd, 1) := by decide +kernel
theorem dL_law_828 : decode cL_law 828 = .ok (.iaload, 1) := by decide +kernel
theorem dL_law_829 : decode cL_law 829 = .ok (.aload_n 0, 1) := by decide +kernel
theorem dL_law_830 : decode cL_law 830 = .ok (.iload_n 3, 1) := by decide +kernel
theorem dL_law_831 : decode cL_law 831 = .ok (.iconst 2, 1) := by decide +kernel
theorem dL_law_832 : decode cL_law 832 = .ok (.iadd, 1) := by decide +kernel
theorem dL_law_833 : decode cL_law 833 = .ok (.iaload, 1) := by decide +kernel
theorem dL_law_834 : decode cL_law 834 = .ok (.aload_n 0, 1) := by decide +kernel
theorem dL_law_835 : decode cL_law 835 = .ok (.iload_n 3, 1) := by decide +kernel
theorem dL_law_836 : decode cL_law 836 = .ok (.iconst 3, 1) := by decide +kernel
theorem dL_law_837 : decode cL_law 837 = .ok (.iadd, 1) := by decide +kernel
theorem dL_law_838 : decode cL_law 838 = .ok (.iaload, 1) := by decide +kernel
theorem dL_law_839 : decode cL_law 839 = .ok (.aload_n 0, 1) := by decide +kernel
theorem dL_law_840 : decode cL_law 840 = .ok (.iload_n 3, 1) := by decide +kernel
theorem dL_law_841 : decode cL_law 841 = .ok (.iconst 4, 1) := by decide +kernel
theorem dL_law_842 : decode cL_law 842 = .ok (.iadd, 1) := by decide +kernel
theorem dL_law_843 : decode cL_law 843 = .ok (.iaload, 1) := by decide +kernel
theorem dL_law_844 : decode cL_law 844 = .ok (.aload_n 0, 1) := by decide +kernel
theorem dL_law_845 : decode cL_law 845 = .ok (.iload_n 3, 1) := by decide +kernel
theorem dL_law_846 : decode cL_law 846 = .ok (.iconst 5, 1) := by decide +kernel
theorem dL_law_847 : decode cL_law 847 = .ok (.iadd, 1) := by decide +kernel
theorem dL_law_848 : decode cL_law 848 = .ok (.iaload, 1) := by decide +kernel
theorem dL_law_849 : decode cL_law 849 = .ok (.invokevirtual 115, 3) := by decide +kernel
theorem dL_law_852 : decode cL_law 852 = .ok (.if_icmp .eq 107, 3) := by decide +kernel
theorem dL_law_855 : decode cL_law 855 = .ok (.iconst 0, 1) := by decide +kernel
theorem dL_law_856 : decode cL_law 856 = .ok (.ireturn, 1) := by decide +kernel
theorem dL_law_857 : decode cL_law 857 = .ok (.aload_n 1, 1) := by decide +kernel
theorem dL_law_858 : decode cL_law 858 = .ok (.aload_n 0, 1) := by decide +kernel
theorem dL_law_859 : decode cL_law 859 = .ok (.iload_n 3, 1) := by decide +kernel
theorem dL_law_860 : decode cL_law 860 = .ok (.iconst 1, 1) := by decide +kernel
theorem dL_law_861 : decode cL_law 861 = .ok (.iadd, 1) := by decide +kernel
theorem dL_law_862 : decode cL_law 862 = .ok (.iaload, 1) := by decide +kernel
theorem dL_law_863 : decode cL_law 863 = .ok (.aload_n 0, 1) := by decide +kernel
theorem dL_law_864 : decode cL_law 864 = .ok (.iload_n 3, 1) := by decide +kernel
theorem dL_law_865 : decode cL_law 865 = .ok (.iconst 2, 1) := by decide +kernel
theorem dL_law_866 : decode cL_law 866 = .ok (.iadd, 1) := by decide +kernel
theorem dL_law_867 : decode cL_law 867 = .ok (.iaload, 1) := by decide +kernel
theorem dL_law_868 : decode cL_law 868 = .ok (.aload_n 0, 1) := by decide +kernel
theorem dL_law_869 : decode cL_law 869 = .ok (.iload_n 3, 1) := by decide +kernel
theorem dL_law_870 : decode cL_law 870 = .ok (.iconst 3, 1) := by decide +kernel
theorem dL_law_871 : decode cL_law 871 = .ok (.iadd, 1) := by decide +kernel
theorem dL_law_872 : decode cL_law 872 = .ok (.iaload, 1) := by decide +kernel
theorem dL_law_873 : decode cL_law 873 = .ok (.aload_n 0, 1) := by decide +kernel
theorem dL_law_874 : decode cL_law 874 = .ok (.iload_n 3, 1) := by decide +kernel
theorem dL_law_875 : decode cL_law 875 = .ok (.iconst 4, 1) := by decide +kernel
theorem dL_law_876 : decode cL_law 876 = .ok (.iadd, 1) := by decide +kernel
theorem dL_law_877 : decode cL_law 877 = .ok (.iaload, 1) := by decide +kernel
theorem dL_law_878 : decode cL_law 878 = .ok (.invokevirtual 116, 3) := by decide +kernel
theorem dL_law_881 : decode cL_law 881 = .ok (.aload_n 2, 1) := by decide +kernel
theorem dL_law_882 : decode cL_law 882 = .ok (.aload_n 0, 1) := by decide +kernel
theorem dL_law_883 : decode cL_law 883 = .ok (.iload_n 3, 1) := by decide +kernel
theorem dL_law_884 : decode cL_law 884 = .ok (.iconst 1, 1) := by decide +kernel
theorem dL_law_885 : decode cL_law 885 = .ok (.iadd, 1) := by decide +kernel
theorem dL_law_886 : decode cL_law 886 = .ok (.iaload, 1) := by decide +kernel
theorem dL_law_887 : decode cL_law 887 = .ok (.aload_n 0, 1) := by decide +kernel
theorem dL_law_888 : decode cL_law 888 = .ok (.iload_n 3, 1) := by decide +kernel
theorem dL_law_889 : decode cL_law 889 = .ok (.iconst 2, 1) := by decide +kernel
theorem dL_law_890 : decode cL_law 890 = .ok (.iadd, 1) := by decide +kernel
theorem dL_law_891 : decode cL_law 891 = .ok (.iaload, 1) := by decide +kernel
theorem dL_law_892 : decode cL_law 892 = .ok (.aload_n 0, 1) := by decide +kernel
theorem dL_law_893 : decode cL_law 893 = .ok (.iload_n 3, 1) := by decide +kernel
theorem dL_law_894 : decode cL_law 894 = .ok (.iconst 3, 1) := by decide +kernel
theorem dL_law_895 : decode cL_law 895 = .ok (.iadd, 1) := by decide +kernel
theorem dL_law_896 : decode cL_law 896 = .ok (.iaload, 1) := by decide +kernel
theorem dL_law_897 : decode cL_law 897 = .ok (.aload_n 0, 1) := by decide +kernel
theorem dL_law_898 : decode cL_law 898 = .ok (.iload_n 3, 1) := by decide +kernel
theorem dL_law_899 : decode cL_law 899 = .ok (.iconst 4, 1) := by decide +kernel
theorem dL_law_900 : decode cL_law 900 = .ok (.iadd, 1) := by decide +kernel
theorem dL_law_901 : decode cL_law 901 = .ok (.iaload, 1) := by decide +kernel
theorem dL_law_902 : decode cL_law 902 = .ok (.invokevirtual 120, 3) := by decide +kernel
theorem dL_law_905 : decode cL_law 905 = .ok (.if_icmp .eq 54, 3) := by decide +kernel
theorem dL_law_908 : decode cL_law 908 = .ok (.iconst 0, 1) := by decide +kernel
theorem dL_law_909 : decode cL_law 909 = .ok (.ireturn, 1) := by decide +kernel
theorem dL_law_910 : decode cL_law 910 = .ok (.aload_n 1, 1) := by decide +kernel
theorem dL_law_911 : decode cL_law 911 = .ok (.invokevirtual 121, 3) := by decide +kernel
theorem dL_law_914 : decode cL_law 914 = .ok (.aload_n 2, 1) := by decide +kernel
theorem dL_law_915 : decode cL_law 915 = .ok (.invokevirtual 124, 3) := by decide +kernel
theorem dL_law_918 : decode cL_law 918 = .ok (.if_icmp .eq 41, 3) := by decide +kernel
theorem dL_law_921 : decode cL_law 921 = .ok (.iconst 0, 1) := by decide +kernel
theorem dL_law_922 : decode cL_law 922 = .ok (.ireturn, 1) := by decide +kernel
theorem dL_law_923 : decode cL_law 923 = .ok (.aload_n 1, 1) := by decide +kernel
theorem dL_law_924 : decode cL_law 924 = .ok (.invokevirtual 125, 3) := by decide +kernel
theorem dL_law_927 : decode cL_law 927 = .ok (.aload_n 2, 1) := by decide +kernel
theorem dL_law_928 : decode cL_law 928 = .ok (.invokevirtual 128, 3) := by decide +kernel
theorem dL_law_931 : decode cL_law 931 = .ok (.if_icmp .eq 28, 3) := by decide +kernel
theorem dL_law_934 : decode cL_law 934 = .ok (.iconst 0, 1) := by decide +kernel
theorem dL_law_935 : decode cL_law 935 = .ok (.ireturn, 1) := by decide +kernel
theorem dL_law_936 : decode cL_law 936 = .ok (.aload_n 1, 1) := by decide +kernel
theorem dL_law_937 : decode cL_law 937 = .ok (.aload_n 0, 1) := by decide +kernel
theorem dL_law_938 : decode cL_law 938 = .ok (.iload_n 3, 1) := by decide +kernel
theorem dL_law_939 : decode cL_law 939 = .ok (.iconst 1, 1) := by decide +kernel
theorem dL_law_940 : decode cL_law 940 = .ok (.iadd, 1) := by decide +kernel
theorem dL_law_941 : decode cL_law 941 = .ok (.iaload, 1) := by decide +kernel
theorem dL_law_942 : decode cL_law 942 = .ok (.invokevirtual 129, 3) := by decide +kernel
theorem dL_law_945 : decode cL_law 945 = .ok (.aload_n 2, 1) := by decide +kernel
theorem dL_law_946 : decode cL_law 946 = .ok (.aload_n 0, 1) := by decide +kernel
theorem dL_law_947 : decode cL_law 947 = .ok (.iload_n 3, 1) := by decide +kernel
theorem dL_law_948 : decode cL_law 948 = .ok (.iconst 1, 1) := by decide +kernel
theorem dL_law_949 : decode cL_law 949 = .ok (.iadd, 1) := by decide +kernel
theorem dL_law_950 : decode cL_law 950 = .ok (.iaload, 1) := by decide +kernel
theorem dL_law_951 : decode cL_law 951 = .ok (.invokevirtual 132, 3) := by decide +kernel
theorem dL_law_954 : decode cL_law 954 = .ok (.if_icmp .eq 5, 3) := by decide +kernel
theorem dL_law_957 : decode cL_law 957 = .ok (.iconst 0, 1) := by decide +kernel
theorem dL_law_958 : decode cL_law 958 = .ok (.ireturn, 1) := by decide +kernel
theorem dL_law_959 : decode cL_law 959 = .ok (.iinc 3 6, 3) := by decide +kernel
theorem dL_law_962 : decode cL_law 962 = .ok (.goto (-944), 3) := by decide +kernel
theorem dL_law_965 : decode cL_law 965 = .ok (.iconst 1, 1) := by decide +kernel
theorem dL_law_966 : decode cL_law 966 = .ok (.ireturn, 1) := by decide +kernel
