theorem dX8_init_0 : decode cX8_init 0 = .ok (.aload_n 0, 1) := by decide +kernel
theorem dX8_init_1 : decode cX8_init 1 = .ok (.invokespecial 1, 3) := by decide +kernel
theorem dX8_init_4 : decode cX8_init 4 = .ok (.aload_n 0, 1) := by decide +kernel
theorem dX8_init_5 : decode cX8_init 5 = .ok (.sipush 500, 3) := by decide +kernel
theorem dX8_init_8 : decode cX8_init 8 = .ok (.newarray .int, 2) := by decide +kernel
theorem dX8_init_10 : decode cX8_init 10 = .ok (.putfield 7, 3) := by decide +kernel
theorem dX8_init_13 : decode cX8_init 13 = .ok (.aload_n 0, 1) := by decide +kernel
theorem dX8_init_14 : decode cX8_init 14 = .ok (.sipush 1200, 3) := by decide +kernel
theorem dX8_init_17 : decode cX8_init 17 = .ok (.newarray .int, 2) := by decide +kernel
theorem dX8_init_19 : decode cX8_init 19 = .ok (.putfield 13, 3) := by decide +kernel
theorem dX8_init_22 : decode cX8_init 22 = .ok (.aload_n 0, 1) := by decide +kernel
theorem dX8_init_23 : decode cX8_init 23 = .ok (.bipush 8, 2) := by decide +kernel
theorem dX8_init_25 : decode cX8_init 25 = .ok (.newarray .int, 2) := by decide +kernel
theorem dX8_init_27 : decode cX8_init 27 = .ok (.putfield 16, 3) := by decide +kernel
theorem dX8_init_30 : decode cX8_init 30 = .ok (.aload_n 0, 1) := by decide +kernel
theorem dX8_init_31 : decode cX8_init 31 = .ok (.bipush 8, 2) := by decide +kernel
theorem dX8_init_33 : decode cX8_init 33 = .ok (.newarray .int, 2) := by decide +kernel
theorem dX8_init_35 : decode cX8_init 35 = .ok (.putfield 19, 3) := by decide +kernel
theorem dX8_init_38 : decode cX8_init 38 = .ok (.aload_n 0, 1) := by decide +kernel
theorem dX8_init_39 : decode cX8_init 39 = .ok (.bipush 8, 2) := by decide +kernel
theorem dX8_init_41 : decode cX8_init 41 = .ok (.newarray .int, 2) := by decide +kernel
theorem dX8_init_43 : decode cX8_init 43 = .ok (.putfield 22, 3) := by decide +kernel
theorem dX8_init_46 : decode cX8_init 46 = .ok (.aload_n 0, 1) := by decide +kernel
theorem dX8_init_47 : decode cX8_init 47 = .ok (.bipush 8, 2) := by decide +kernel
theorem dX8_init_49 : decode cX8_init 49 = .ok (.newarray .int, 2) := by decide +kernel
theorem dX8_init_51 : decode cX8_init 51 = .ok (.putfield 25, 3) := by decide +kernel
theorem dX8_init_54 : decode cX8_init 54 = .ok (.aload_n 0, 1) := by decide +kernel
theorem dX8_init_55 : decode cX8_init 55 = .ok (.bipush 8, 2) := by decide +kernel
theorem dX8_init_57 : decode cX8_init 57 = .ok (.newarray .int, 2) := by decide +kernel
theorem dX8_init_59 : decode cX8_init 59 = .ok (.putfield 28, 3) := by decide +kernel
theorem dX8_init_62 : decode cX8_init 62 = .ok (.aload_n 0, 1) := by decide +kernel
theorem dX8_init_63 : decode cX8_init 63 = .ok (.bipush 32, 2) := by decide +kernel
theorem dX8_init_65 : decode cX8_init 65 = .ok (.newarray .int, 2) := by decide +kernel
theorem dX8_init_67 : decode cX8_init 67 = .ok (.putfield 31, 3) := by decide +kernel
theorem dX8_init_70 : decode cX8_init 70 = .ok (.aload_n 0, 1) := by decide +kernel
theorem dX8_init_71 : decode cX8_init 71 = .ok (.bipush 32, 2) := by decide +kernel
theorem dX8_init_73 : decode cX8_init 73 = .ok (.newarray .int, 2) := by decide +kernel
theorem dX8_init_75 : decode cX8_init 75 = .ok (.putfield 34, 3) := by decide +kernel
theorem dX8_init_78 : decode cX8_init 78 = .ok (.aload_n 0, 1) := by decide +kernel
theorem dX8_init_79 : decode cX8_init 79 = .ok (.bipush 8, 2) := by decide +kernel
theorem dX8_init_81 : decode cX8_init 81 = .ok (.newarray .int, 2) := by decide +kernel
theorem dX8_init_83 : decode cX8_init 83 = .ok (.putfield 37, 3) := by decide +kernel
theorem dX8_init_86 : decode cX8_init 86 = .ok (.aload_n 0, 1) := by decide +kernel
theorem dX8_init_87 : decode cX8_init 87 = .ok (.bipush 9, 2) := by decide +kernel
theorem dX8_init_89 : decode cX8_init 89 = .ok (.newarray .int, 2) := by decide +kernel
theorem dX8_init_91 : decode cX8_init 91 = .ok (.putfield 40, 3) := by decide +kernel
theorem dX8_init_94 : decode cX8_init 94 = .ok (.aload_n 0, 1) := by decide +kernel
theorem dX8_init_95 : decode cX8_init 95 = .ok (.bipush 9, 2) := by decide +kernel
theorem dX8_init_97 : decode cX8_init 97 = .ok (.newarray .int, 2) := by decide +kernel
theorem dX8_init_99 : decode cX8_init 99 = .ok (.putfield 43, 3) := by decide +kernel
theorem dX8_init_102 : decode cX8_init 102 = .ok (.aload_n 0, 1) := by decide +kernel
theorem dX8_init_103 : decode cX8_init 103 = .ok (.bipush 16, 2) := by decide +kernel
theorem dX8_init_105 : decode cX8_init 105 = .ok (.newarray .int, 2) := by decide +kernel
theorem dX8_init_107 : decode cX8_init 107 = .ok (.putfield 46, 3) := by decide +kernel
theorem dX8_init_110 : decode cX8_init 110 = .ok (.aload_n 0, 1) := by decide +kernel
theorem dX8_init_111 : decode cX8_init 111 = .ok (.bipush 8, 2) := by decide +kernel
theorem dX8_init_113 : decode cX8_init 113 = .ok (.newarray .int, 2) := by decide +kernel
theorem dX8_init_115 : decode cX8_init 115 = .ok (.putfield 49, 3) := by decide +kernel
theorem dX8_init_118 : decode cX8_init 118 = .ok (.aload_n 0, 1) := by decide +kernel
theorem dX8_init_119 : decode cX8_init 119 = .ok (.bipush 8, 2) := by decide +kernel
theorem dX8_init_121 : decode cX8_init 121 = .ok (.newarray .int, 2) := by decide +kernel
theorem dX8_init_123 : decode cX8_init 123 = .ok (.putfield 52, 3) := by decide +kernel
theorem dX8_init_126 : decode cX8_init 126 = .ok (.aload_n 0, 1) := by decide +kernel
theorem dX8_init_127 : decode cX8_init 127 = .ok (.bipush 24, 2) := by decide +kernel
theorem dX8_init_129 : decode cX8_init 129 = .ok (.newarray .int, 2) := by decide +kernel
theorem dX8_init_131 : decode cX8_init 131 = .ok (.putfield 55, 3) := by decide +kernel
theorem dX8_init_134 : decode cX8_init 134 = .ok (.aload_n 0, 1) := by decide +kernel
theorem dX8_init_135 : decode cX8_init 135 = .ok (.bipush 8, 2) := by decide +kernel
theorem dX8_init_137 : decode cX8_init 137 = .ok (.newarray .int, 2) := by decide +kernel
theorem dX8_init_139 : decode cX8_init 139 = .ok (.putfield 58, 3) := by decide +kernel
theorem dX8_init_142 : decode cX8_init 142 = .ok (.aload_n 0, 1) := by decide +kernel
theorem dX8_init_143 : decode cX8_init 143 = .ok (.bipush 12, 2) := by decide +kernel
theorem dX8_init_145 : decode cX8_init 145 = .ok (.newarray .int, 2) := by decide +kernel
theorem dX8_init_147 : decode cX8_init 147 = .ok (.putfield 61, 3) := by decide +kernel
theorem dX8_init_150 : decode cX8_init 150 = .ok (.aload_n 0, 1) := by decide +kernel
theorem dX8_init_151 : decode cX8_init 151 = .ok (.sipush 200, 3) := by decide +kernel
theorem dX8_init_154 : decode cX8_init 154 = .ok (.newarray .int, 2) := by decide +kernel
theorem dX8_init_156 : decode cX8_init 156 = .ok (.putfield 64, 3) := by decide +kernel
theorem dX8_init_159 : decode cX8_init 159 = .ok (.aload_n 0, 1) := by decide +kernel
theorem dX8_init_160 : decode cX8_init 160 = .ok (.bipush 16, 2) := by decide +kernel
theorem dX8_init_162 : decode cX8_init 162 = .ok (.newarray .int, 2) := by decide +kernel
theorem dX8_init_164 : decode cX8_init 164 = .ok (.putfield 67, 3) := by decide +kernel
theorem dX8_init_167 : decode cX8_init 167 = .ok (.aload_n 0, 1) := by decide +kernel
theorem dX8_init_168 : decode cX8_init 168 = .ok (.bipush 24, 2) := by decide +kernel
theorem dX8_init_170 : decode cX8_init 170 = .ok (.newarray .int, 2) := by decide +kernel
theorem dX8_init_172 : decode cX8_init 172 = .ok (.putfield 70, 3) := by decide +kernel
theorem dX8_init_175 : decode cX8_init 175 = .ok (.aload_n 0, 1) := by decide +kernel
theorem dX8_init_176 : decode cX8_init 176 = .ok (.bipush 8, 2) := by decide +kernel
theorem dX8_init_178 : decode cX8_init 178 = .ok (.newarray .int, 2) := by decide +kernel
theorem dX8_init_180 : decode cX8_init 180 = .ok (.putfield 73, 3) := by decide +kernel
theorem dX8_init_183 : decode cX8_init 183 = .ok (.aload_n 0, 1) := by decide +kernel
theorem dX8_init_184 : decode cX8_init 184 = .ok (.bipush 8, 2) := by decide +kernel
theorem dX8_init_186 : decode cX8_init 186 = .ok (.newarray .int, 2) := by decide +kernel
theorem dX8_init_188 : decode cX8_init 188 = .ok (.putfield 76, 3) := by decide +kernel
theorem dX8_init_191 : decode cX8_init 191 = .ok (.aload_n 0, 1) := by decide +kernel
theorem dX8_init_192 : decode cX8_init 192 = .ok (.invokevirtual 79, 3) := by decide +kernel
theorem dX8_init_195 : decode cX8_init 195 = .ok (.aload_n 0, 1) := by decide +kernel
theorem dX8_init_196 : decode cX8_init 196 = .ok (.iconst 1, 1) := by decide +kernel
theorem dX8_init_197 : decode cX8_init 197 = .ok (.putfield 82, 3) := by decide +kernel
theorem dX8_init_200 : decode cX8_init 200 = .ok (.aload_n 0, 1) := by decide +kernel
theorem dX8_init_201 : decode cX8_init 201 = .ok (.iconst 0, 1) := by decide +kernel
theorem dX8_init_202 : decode cX8_init 202 = .ok (.iconst 0, 1) := by decide +kernel
theorem dX8_init_203 : decode cX8_init 203 = .ok (.iconst 0, 1) := by decide +kernel
theorem dX8_init_204 : decode cX8_init 204 = .ok (.iconst 0, 1) := by decide +kernel
theorem dX8_init_205 : decode cX8_init 205 = .ok (.sipush 999, 3) := by decide +kernel
theorem dX8_init_208 : decode cX8_init 208 = .ok (.iconst 0, 1) := by decide +kernel
theorem dX8_init_209 : decode cX8_init 209 = .ok (.invokevirtual 86, 3) := by decide +kernel
theorem dX8_init_212 : decode cX8_init 212 = .ok (.aload_n 0, 1) := by decide +kernel
theorem dX8_init_213 : decode cX8_init 213 = .ok (.getfield 25, 3) := by decide +kernel
theorem dX8_init_216 : decode cX8_init 216 = .ok (.iconst 0, 1) := by decide +kernel
theorem dX8_init_217 : decode cX8_init 217 = .ok (.bipush 8, 2) := by decide +kernel
theorem dX8_init_219 : decode cX8_init 219 = .ok (.iastore, 1) := by decide +kernel
theorem dX8_init_220 : decode cX8_init 220 = .ok (.aload_n 0, 1) := by decide +kernel
theorem dX8_init_221 : decode cX8_init 221 = .ok (.iconst 0, 1) := by decide +kernel
theorem dX8_init_222 : decode cX8_init 222 = .ok (.invokevirtual 90, 3) := by decide +kernel
theorem dX8_init_225 : decode cX8_init 225 = .ok (.aload_n 0, 1) := by decide +kernel
theorem dX8_init_226 : decode cX8_init 226 = .ok (.invokevirtual 94, 3) := by decide +kernel
theorem dX8_init_229 : decode cX8_init 229 = .ok (.return_, 1) := by decide +kernel
theorem dX8_in_0 : decode cX8_in 0 = .ok (.lload_n 0, 1) := by decide +kernel
theorem dX8_in_1 : decode cX8_in 1 = .ok (.lload_n 2, 1) := by decide +kernel
theorem dX8_in_2 : decode cX8_in 2 = .ok (.lcmp, 1) := by decide +kernel
theorem dX8_in_3 : decode cX8_in 3 = .ok (.ifCond .lt 14, 3) := by decide +kernel
theorem dX8_in_6 : decode cX8_in 6 = .ok (.lload_n 0, 1) := by decide +kernel
theorem dX8_in_7 : decode cX8_in 7 = .ok (.lload 4, 2) := by decide +kernel
theorem dX8_in_9 : decode cX8_in 9 = .ok (.lcmp, 1) := by decide +kernel
theorem dX8_in_10 : decode cX8_in 10 = .ok (.ifCond .gt 7, 3) := by decide +kernel
theorem dX8_in_13 : decode cX8_in 13 = .ok (.iconst 1, 1) := by decide +kernel
theorem dX8_in_14 : decode cX8_in 14 = .ok (.goto 4, 3) := by decide +kernel
theorem dX8_in_17 : decode cX8_in 17 = .ok (.iconst 0, 1) := by decide +kernel
theorem dX8_in_18 : decode cX8_in 18 = .ok (.ireturn, 1) := by decide +kernel
theorem dX8_has_0 : decode cX8_has 0 = .ok (.iload_n 0, 1) := by decide +kernel
theorem dX8_has_1 : decode cX8_has 1 = .ok (.iload_n 1, 1) := by decide +kernel
theorem dX8_has_2 : decode cX8_has 2 = .ok (.ishr, 1) := by decide +kernel
theorem dX8_has_3 : decode cX8_has 3 = .ok (.iconst 1, 1) := by decide +kernel
theorem dX8_has_4 : decode cX8_has 4 = .ok (.iand, 1) := by decide +kernel
theorem dX8_has_5 : decode cX8_has 5 = .ok (.iconst 1, 1) := by decide +kernel
theorem dX8_has_6 : decode cX8_has 6 = .ok (.if_icmp .ne 7, 3) := by decide +kernel
theorem dX8_has_9 : decode cX8_has 9 = .ok (.iconst 1, 1) := by decide +kernel
theorem dX8_has_10 : decode cX8_has 10 = .ok (.goto 4, 3) := by decide +kernel
theorem dX8_has_13 : decode cX8_has 13 = .ok (.iconst 0, 1) := by decide +kernel
theorem dX8_has_14 : decode cX8_has 14 = .ok (.ireturn, 1) := by decide +kernel
theorem dX8_write_0 : decode cX8_write 0 = .ok (.iload_n 1, 1) := by decide +kernel
theorem dX8_write_1 : decode cX8_write 1 = .ok (.i2l, 1) := by decide +kernel
theorem dX8_write_2 : decode cX8_write 2 = .ok (.lconst 1, 1) := by decide +kernel
theorem dX8_write_3 : decode cX8_write 3 = .ok (.ldc2_w 97, 3) := by decide +kernel
theorem dX8_write_6 : decode cX8_write 6 = .ok (.invokestatic 99, 3) := by decide +kernel
theorem dX8_write_9 : decode cX8_write 9 = .ok (.ifCond .ne 5, 3) := by decide +kernel
theorem dX8_write_12 : decode cX8_write 12 = .ok (.iconst (-1), 1) := by decide +kernel
theorem dX8_write_13 : decode cX8_write 13 = .ok (.ireturn, 1) := by decide +kernel
theorem dX8_write_14 : decode cX8_write 14 = .ok (.aload_n 0, 1) := by decide +kernel
theorem dX8_write_15 : decode cX8_write 15 = .ok (.getfield 103, 3) := by decide +kernel
theorem dX8_write_18 : decode cX8_write 18 = .ok (.iload_n 1, 1) := by decide +kernel
theorem dX8_write_19 : decode cX8_write 19 = .ok (.iadd, 1) := by decide +kernel
theorem dX8_write_20 : decode cX8_write 20 = .ok (.sipush 500, 3) := by decide +kernel
theorem dX8_write_23 : decode cX8_write 23 = .ok (.if_icmp .le 6, 3) := by decide +kernel
theorem dX8_write_26 : decode cX8_write 26 = .ok (.bipush (-3), 2) := by decide +kernel
theorem dX8_write_28 : decode cX8_write 28 = .ok (.ireturn, 1) := by decide +kernel
theorem dX8_write_29 : decode cX8_write 29 = .ok (.iload_n 1, 1) := by decide +kernel
theorem dX8_write_30 : decode cX8_write 30 = .ok (.iconst 1, 1) := by decide +kernel
theorem dX8_write_31 : decode cX8_write 31 = .ok (.isub, 1) := by decide +kernel
theorem dX8_write_32 : decode cX8_write 32 = .ok (.istore 4, 2) := by decide +kernel
theorem dX8_write_34 : decode cX8_write 34 = .ok (.iload 4, 2) := by decide +kernel
theorem dX8_write_36 : decode cX8_write 36 = .ok (.ifCond .lt 40, 3) := by decide +kernel
theorem dX8_write_39 : decode cX8_write 39 = .ok (.aload_n 0, 1) := by decide +kernel
theorem dX8_write_40 : decode cX8_write 40 = .ok (.getfield 7, 3) := by decide +kernel
theorem dX8_write_43 : decode cX8_write 43 = .ok (.aload_n 0, 1) := by decide +kernel
theorem dX8_write_44 : decode cX8_write 44 = .ok (.getfield 103, 3) := by decide +kernel
theorem dX8_write_47 : decode cX8_write 47 = .ok (.lload_n 2, 1) := by decide +kernel
theorem dX8_write_48 : decode cX8_write 48 = .ok (.bipush 8, 2) := by decide +kernel
theorem dX8_write_50 : decode cX8_write 50 = .ok (.iload 4, 2) := by decide +kernel
theorem dX8_write_52 : decode cX8_write 52 = .ok (.imul, 1) := by decide +kernel
theorem dX8_write_53 : decode cX8_write 53 = .ok (.lshr, 1) := by decide +kernel
theorem dX8_write_54 : decode cX8_write 54 = .ok (.ldc2_w 106, 3) := by decide +kernel
theorem dX8_write_57 : decode cX8_write 57 = .ok (.land, 1) := by decide +kernel
theorem dX8_write_58 : decode cX8_write 58 = .ok (.l2i, 1) := by decide +kernel
theorem dX8_write_59 : decode cX8_write 59 = .ok (.iastore, 1) := by decide +kernel
theorem dX8_write_60 : decode cX8_write 60 = .ok (.aload_n 0, 1) := by decide +kernel
theorem dX8_write_61 : decode cX8_write 61 = .ok (.dup, 1) := by decide +kernel
theorem dX8_write_62 : decode cX8_write 62 = .ok (.getfield 103, 3) := by decide +kernel
theorem dX8_write_65 : decode cX8_write 65 = .ok (.iconst 1, 1) := by decide +kernel
theorem dX8_write_66 : decode cX8_write 66 = .ok (.iadd, 1) := by decide +kernel
theorem dX8_write_67 : decode cX8_write 67 = .ok (.putfield 103, 3) := by decide +kernel
theorem dX8_write_70 : decode cX8_write 70 = .ok (.iinc 4 (-1), 3) := by decide +kernel
theorem dX8_write_73 : decode cX8_write 73 = .ok (.goto (-39), 3) := by decide +kernel
theorem dX8_write_76 : decode cX8_write 76 = .ok (.aload_n 0, 1) := by decide +kernel
theorem dX8_write_77 : decode cX8_write 77 = .ok (.getfield 103, 3) := by decide +kernel
theorem dX8_write_80 : decode cX8_write 80 = .ok (.ireturn, 1) := by decide +kernel
theorem dX8_wipe_0 : decode cX8_wipe 0 = .ok (.aload_n 0, 1) := by decide +kernel
theorem dX8_wipe_1 : decode cX8_wipe 1 = .ok (.getfield 103, 3) := by decide +kernel
theorem dX8_wipe_4 : decode cX8_wipe 4 = .ok (.istore_n 1, 1) := by decide +kernel
theorem dX8_wipe_5 : decode cX8_wipe 5 = .ok (.aload_n 0, 1) := by decide +kernel
theorem dX8_wipe_6 : decode cX8_wipe 6 = .ok (.iconst 0, 1) := by decide +kernel
theorem dX8_wipe_7 : decode cX8_wipe 7 = .ok (.putfield 103, 3) := by decide +kernel
theorem dX8_wipe_10 : decode cX8_wipe 10 = .ok (.iload_n 1, 1) := by decide +kernel
theorem dX8_wipe_11 : decode cX8_wipe 11 = .ok (.ireturn, 1) := by decide +kernel
theorem dX8_numbersOf_0 : decode cX8_numbersOf 0 = .ok (.iload_n 0, 1) := by decide +kernel
theorem dX8_numbersOf_1 : decode cX8_numbersOf 1 = .ok (.tableswitch 98 98 115 #[90, 92, 98, 98, 98, 96, 94, 98, 98, 92, 96, 98, 98, 94, 94, 98, 87, 96], 87) := by decide +kernel
theorem dX8_numbersOf_88 : decode cX8_numbersOf 88 = .ok (.bipush 6, 2) := by decide +kernel
theorem dX8_numbersOf_90 : decode cX8_numbersOf 90 = .ok (.ireturn, 1) := by decide +kernel
theorem dX8_numbersOf_91 : decode cX8_numbersOf 91 = .ok (.iconst 3, 1) := by decide +kernel
theorem dX8_numbersOf_92 : decode cX8_numbersOf 92 = .ok (.ireturn, 1) := by decide +kernel
theorem dX8_numbersOf_93 : decode cX8_numbersOf 93 = .ok (.iconst 4, 1) := by decide +kernel
theorem dX8_numbersOf_94 : decode cX8_numbersOf 94 = .ok (.ireturn, 1) := by decide +kernel
theorem dX8_numbersOf_95 : decode cX8_numbersOf 95 = .ok (.iconst 2, 1) := by decide +kernel
theorem dX8_numbersOf_96 : decode cX8_numbersOf 96 = .ok (.ireturn, 1) := by decide +kernel
theorem dX8_numbersOf_97 : decode cX8_numbersOf 97 = .ok (.iconst 1, 1) := by decide +kernel
theorem dX8_numbersOf_98 : decode cX8_numbersOf 98 = .ok (.ireturn, 1) := by decide +kernel
theorem dX8_numbersOf_99 : decode cX8_numbersOf 99 = .ok (.iconst 0, 1) := by decide +kernel
theorem dX8_numbersOf_100 : decode cX8_numbersOf 100 = .ok (.ireturn, 1) := by decide +kernel
theorem dX8_leastOf_0 : decode cX8_leastOf 0 = .ok (.iload_n 0, 1) := by decide +kernel
theorem dX8_leastOf_1 : decode cX8_leastOf 1 = .ok (.bipush 114, 2) := by decide +kernel
theorem dX8_leastOf_3 : decode cX8_leastOf 3 = .ok (.if_icmp .ne 8, 3) := by decide +kernel
theorem dX8_leastOf_6 : decode cX8_leastOf 6 = .ok (.iload_n 1, 1) := by decide +kernel
theorem dX8_leastOf_7 : decode cX8_leastOf 7 = .ok (.iconst 3, 1) := by decide +kernel
theorem dX8_leastOf_8 : decode cX8_leastOf 8 = .ok (.if_icmp .eq 36, 3) := by decide +kernel
theorem dX8_leastOf_11 : decode cX8_leastOf 11 = .ok (.iload_n 0, 1) := by decide +kernel
theorem dX8_leastOf_12 : decode cX8_leastOf 12 = .ok (.bipush 98, 2) := by decide +kernel
theorem dX8_leastOf_14 : decode cX8_leastOf 14 = .ok (.if_icmp .ne 8, 3) := by decide +kernel
theorem dX8_leastOf_17 : decode cX8_leastOf 17 = .ok (.iload_n 1, 1) := by decide +kernel
theorem dX8_leastOf_18 : decode cX8_leastOf 18 = .ok (.iconst 1, 1) := by decide +kernel
theorem dX8_leastOf_19 : decode cX8_leastOf 19 = .ok (.if_icmp .eq 25, 3) := by decide +kernel
theorem dX8_leastOf_22 : decode cX8_leastOf 22 = .ok (.iload_n 0, 1) := by decide +kernel
theorem dX8_leastOf_23 : decode cX8_leastOf 23 = .ok (.bipush 104, 2) := by decide +kernel
theorem dX8_leastOf_25 : decode cX8_leastOf 25 = .ok (.if_icmp .ne 8, 3) := by decide +kernel
theorem dX8_leastOf_28 : decode cX8_leastOf 28 = .ok (.iload_n 1, 1) := by decide +kernel
theorem dX8_leastOf_29 : decode cX8_leastOf 29 = .ok (.iconst 1, 1) := by decide +kernel
theorem dX8_leastOf_30 : decode cX8_leastOf 30 = .ok (.if_icmp .eq 14, 3) := by decide +kernel
theorem dX8_leastOf_33 : decode cX8_leastOf 33 = .ok (.iload_n 0, 1) := by decide +kernel
theorem dX8_leastOf_34 : decode cX8_leastOf 34 = .ok (.bipush 111, 2) := by decide +kernel
theorem dX8_leastOf_36 : decode cX8_leastOf 36 = .ok (.if_icmp .ne 12, 3) := by decide +kernel
theorem dX8_leastOf_39 : decode cX8_leastOf 39 = .ok (.iload_n 1, 1) := by decide +kernel
theorem dX8_leastOf_40 : decode cX8_leastOf 40 = .ok (.iconst 1, 1) := by decide +kernel
theorem dX8_leastOf_41 : decode cX8_leastOf 41 = .ok (.if_icmp .ne 7, 3) := by decide +kernel
theorem dX8_leastOf_44 : decode cX8_leastOf 44 = .ok (.iconst 1, 1) := by decide +kernel
theorem dX8_leastOf_45 : decode cX8_leastOf 45 = .ok (.goto 4, 3) := by decide +kernel
theorem dX8_leastOf_48 : decode cX8_leastOf 48 = .ok (.iconst 0, 1) := by decide +kernel
theorem dX8_leastOf_49 : decode cX8_leastOf 49 = .ok (.ireturn, 1) := by decide +kernel
theorem dX8_mostOf_0 : decode cX8_mostOf 0 = .ok (.iload_n 0, 1) := by decide +kernel
theorem dX8_mostOf_1 : decode cX8_mostOf 1 = .ok (.tableswitch 219 98 115 #[122, 178, 219, 219, 219, 203, 191, 219, 219, 157, 219, 219, 219, 206, 145, 219, 87, 189], 87) := by decide +kernel
theorem dX8_mostOf_88 : decode cX8_mostOf 88 = .ok (.iload_n 1, 1) := by decide +kernel
theorem dX8_mostOf_89 : decode cX8_mostOf 89 = .ok (.iconst 2, 1) := by decide +kernel
theorem dX8_mostOf_90 : decode cX8_mostOf 90 = .ok (.if_icmp .ge 9, 3) := by decide +kernel
theorem dX8_mostOf_93 : decode cX8_mostOf 93 = .ok (.sipush 200, 3) := by decide +kernel
theorem dX8_mostOf_96 : decode cX8_mostOf 96 = .ok (.goto 26, 3) := by decide +kernel
theorem dX8_mostOf_99 : decode cX8_mostOf 99 = .ok (.iload_n 1, 1) := by decide +kernel
theorem dX8_mostOf_100 : decode cX8_mostOf 100 = .ok (.iconst 2, 1) := by decide +kernel
theorem dX8_mostOf_101 : decode cX8_mostOf 101 = .ok (.if_icmp .ne 8, 3) := by decide +kernel
theorem dX8_mostOf_104 : decode cX8_mostOf 104 = .ok (.bipush 20, 2) := by decide +kernel
theorem dX8_mostOf_106 : decode cX8_mostOf 106 = .ok (.goto 16, 3) := by decide +kernel
theorem dX8_mostOf_109 : decode cX8_mostOf 109 = .ok (.iload_n 1, 1) := by decide +kernel
theorem dX8_mostOf_110 : decode cX8_mostOf 110 = .ok (.iconst 5, 1) := by decide +kernel
theorem dX8_mostOf_111 : decode cX8_mostOf 111 = .ok (.if_icmp .ge 9, 3) := by decide +kernel
theorem dX8_mostOf_114 : decode cX8_mostOf 114 = .ok (.sipush 999, 3) := by decide +kernel
theorem dX8_mostOf_117 : decode cX8_mostOf 117 = .ok (.goto 5, 3) := by decide +kernel
theorem dX8_mostOf_120 : decode cX8_mostOf 120 = .ok (.bipush 8, 2) := by decide +kernel
theorem dX8_mostOf_122 : decode cX8_mostOf 122 = .ok (.ireturn, 1) := by decide +kernel
theorem dX8_mostOf_123 : decode cX8_mostOf 123 = .ok (.iload_n 1, 1) := by decide +kernel
theorem dX8_mostOf_124 : decode cX8_mostOf 124 = .ok (.ifCond .ne 8, 3) := by decide +kernel
theorem dX8_mostOf_127 : decode cX8_mostOf 127 = .ok (.bipush 7, 2) := by decide +kernel
theorem dX8_mostOf_129 : decode cX8_mostOf 129 = .ok (.goto 16, 3) := by decide +kernel
theorem dX8_mostOf_132 : decode cX8_mostOf 132 = .ok (.iload_n 1, 1) := by decide +kernel
theorem dX8_mostOf_133 : decode cX8_mostOf 133 = .ok (.iconst 1, 1) := by decide +kernel
theorem dX8_mostOf_134 : decode cX8_mostOf 134 = .ok (.if_icmp .ne 9, 3) := by decide +kernel
theorem dX8_mostOf_137 : decode cX8_mostOf 137 = .ok (.sipush 999, 3) := by decide +kernel
theorem dX8_mostOf_140 : decode cX8_mostOf 140 = .ok (.goto 5, 3) := by decide +kernel
theorem dX8_mostOf_143 : decode cX8_mostOf 143 = .ok (.bipush 10, 2) := by decide +kernel
theorem dX8_mostOf_145 : decode cX8_mostOf 145 = .ok (.ireturn, 1) := by decide +kernel
theorem dX8_mostOf_146 : decode cX8_mostOf 146 = .ok (.iload_n 1, 1) := by decide +kernel
theorem dX8_mostOf_147 : decode cX8_mostOf 147 = .ok (.ifCond .ne 8, 3) := by decide +kernel
theorem dX8_mostOf_150 : decode cX8_mostOf 150 = .ok (.bipush 7, 2) := by decide +kernel
theorem dX8_mostOf_152 : decode cX8_mostOf 152 = .ok (.goto 5, 3) := by decide +kernel
theorem dX8_mostOf_155 : decode cX8_mostOf 155 = .ok (.bipush 99, 2) := by decide +kernel
theorem dX8_mostOf_157 : decode cX8_mostOf 157 = .ok (.ireturn, 1) := by decide +kernel
theorem dX8_mostOf_158 : decode cX8_mostOf 158 = .ok (.iload_n 1, 1) := by decide +kernel
theorem dX8_mostOf_159 : decode cX8_mostOf 159 = .ok (.ifCond .ne 7, 3) := by decide +kernel
theorem dX8_mostOf_162 : decode cX8_mostOf 162 = .ok (.iconst 2, 1) := by decide +kernel
theorem dX8_mostOf_163 : decode cX8_mostOf 163 = .ok (.goto 15, 3) := by decide +kernel
theorem dX8_mostOf_166 : decode cX8_mostOf 166 = .ok (.iload_n 1, 1) := by decide +kernel
theorem dX8_mostOf_167 : decode cX8_mostOf 167 = .ok (.iconst 3, 1) := by decide +kernel
theorem dX8_mostOf_168 : decode cX8_mostOf 168 = .ok (.if_icmp .ge 8, 3) := by decide +kernel
theorem dX8_mostOf_171 : decode cX8_mostOf 171 = .ok (.bipush 60, 2) := by decide +kernel
theorem dX8_mostOf_173 : decode cX8_mostOf 173 = .ok (.goto 5, 3) := by decide +kernel
theorem dX8_mostOf_176 : decode cX8_mostOf 176 = .ok (.bipush 9, 2) := by decide +kernel
theorem dX8_mostOf_178 : decode cX8_mostOf 178 = .ok (.ireturn, 1) := by decide +kernel
theorem dX8_mostOf_179 : decode cX8_mostOf 179 = .ok (.iload_n 1, 1) := by decide +kernel
theorem dX8_mostOf_180 : decode cX8_mostOf 180 = .ok (.ifCond .ne 7, 3) := by decide +kernel
theorem dX8_mostOf_183 : decode cX8_mostOf 183 = .ok (.iconst 2, 1) := by decide +kernel
theorem dX8_mostOf_184 : decode cX8_mostOf 184 = .ok (.goto 5, 3) := by decide +kernel
theorem dX8_mostOf_187 : decode cX8_mostOf 187 = .ok (.bipush 10, 2) := by decide +kernel
theorem dX8_mostOf_189 : decode cX8_mostOf 189 = .ok (.ireturn, 1) := by decide +kernel
theorem dX8_mostOf_190 : decode cX8_mostOf 190 = .ok (.iconst 2, 1) := by decide +kernel
theorem dX8_mostOf_191 : decode cX8_mostOf 191 = .ok (.ireturn, 1) := by decide +kernel
theorem dX8_mostOf_192 : decode cX8_mostOf 192 = .ok (.iload_n 1, 1) := by decide +kernel
theorem dX8_mostOf_193 : decode cX8_mostOf 193 = .ok (.ifCond .ne 8, 3) := by decide +kernel
theorem dX8_mostOf_196 : decode cX8_mostOf 196 = .ok (.bipush 9, 2) := by decide +kernel
theorem dX8_mostOf_198 : decode cX8_mostOf 198 = .ok (.goto 5, 3) := by decide +kernel
theorem dX8_mostOf_201 : decode cX8_mostOf 201 = .ok (.bipush 50, 2) := by decide +kernel
theorem dX8_mostOf_203 : decode cX8_mostOf 203 = .ok (.ireturn, 1) := by decide +kernel
theorem dX8_mostOf_204 : decode cX8_mostOf 204 = .ok (.bipush 99, 2) := by decide +kernel
theorem dX8_mostOf_206 : decode cX8_mostOf 206 = .ok (.ireturn, 1) := by decide +kernel
theorem dX8_mostOf_207 : decode cX8_mostOf 207 = .ok (.iload_n 1, 1) := by decide +kernel
theorem dX8_mostOf_208 : decode cX8_mostOf 208 = .ok (.ifCond .ne 9, 3) := by decide +kernel
theorem dX8_mostOf_211 : decode cX8_mostOf 211 = .ok (.sipush 200, 3) := by decide +kernel
theorem dX8_mostOf_214 : decode cX8_mostOf 214 = .ok (.goto 5, 3) := by decide +kernel
theorem dX8_mostOf_217 : decode cX8_mostOf 217 = .ok (.bipush 20, 2) := by decide +kernel
theorem dX8_mostOf_219 : decode cX8_mostOf 219 = .ok (.ireturn, 1) := by decide +kernel
theorem dX8_mostOf_220 : decode cX8_mostOf 220 = .ok (.sipush 999, 3) := by decide +kernel
theorem dX8_mostOf_223 : decode cX8_mostOf 223 = .ok (.ireturn, 1) := by decide +kernel
theorem dX8_reads_0 : decode cX8_reads 0 = .ok (.aload_n 0, 1) := by decide +kernel
theorem dX8_reads_1 : decode cX8_reads 1 = .ok (.getfield 108, 3) := by decide +kernel
theorem dX8_reads_4 : decode cX8_reads 4 = .ok (.istore_n 2, 1) := by decide +kernel
theorem dX8_reads_5 : decode cX8_reads 5 = .ok (.iconst 0, 1) := by decide +kernel
theorem dX8_reads_6 : decode cX8_reads 6 = .ok (.istore_n 3, 1) := by decide +kernel
theorem dX8_reads_7 : decode cX8_reads 7 = .ok (.aload_n 0, 1) := by decide +kernel
theorem dX8_reads_8 : decode cX8_reads 8 = .ok (.getfield 108, 3) := by decide +kernel
theorem dX8_reads_11 : decode cX8_reads 11 = .ok (.aload_n 0, 1) := by decide +kernel
theorem dX8_reads_12 : decode cX8_reads 12 = .ok (.getfield 103, 3) := by decide +kernel
theorem dX8_reads_15 : decode cX8_reads 15 = .ok (.if_icmp .ge 72, 3) := by decide +kernel
theorem dX8_reads_18 : decode cX8_reads 18 = .ok (.aload_n 0, 1) := by decide +kernel
theorem dX8_reads_19 : decode cX8_reads 19 = .ok (.getfield 108, 3) := by decide +kernel
theorem dX8_reads_22 : decode cX8_reads 22 = .ok (.iload_n 2, 1) := by decide +kernel
theorem dX8_reads_23 : decode cX8_reads 23 = .ok (.iconst 3, 1) := by decide +kernel
theorem dX8_reads_24 : decode cX8_reads 24 = .ok (.iadd, 1) := by decide +kernel
theorem dX8_reads_25 : decode cX8_reads 25 = .ok (.if_icmp .ge 62, 3) := by decide +kernel
theorem dX8_reads_28 : decode cX8_reads 28 = .ok (.aload_n 0, 1) := by decide +kernel
theorem dX8_reads_29 : decode cX8_reads 29 = .ok (.getfield 7, 3) := by decide +kernel
theorem dX8_reads_32 : decode cX8_reads 32 = .ok (.aload_n 0, 1) := by decide +kernel
theorem dX8_reads_33 : decode cX8_reads 33 = .ok (.getfield 108, 3) := by decide +kernel
theorem dX8_reads_36 : decode cX8_reads 36 = .ok (.iaload, 1) := by decide +kernel
theorem dX8_reads_37 : decode cX8_reads 37 = .ok (.bipush 48, 2) := by decide +kernel
theorem dX8_reads_39 : decode cX8_reads 39 = .ok (.if_icmp .lt 48, 3) := by decide +kernel
theorem dX8_reads_42 : decode cX8_reads 42 = .ok (.aload_n 0, 1) := by decide +kernel
theorem dX8_reads_43 : decode cX8_reads 43 = .ok (.getfield 7, 3) := by decide +kernel
theorem dX8_reads_46 : decode cX8_reads 46 = .ok (.aload_n 0, 1) := by decide +kernel
theorem dX8_reads_47 : decode cX8_reads 47 = .ok (.getfield 108, 3) := by decide +kernel
theorem dX8_reads_50 : decode cX8_reads 50 = .ok (.iaload, 1) := by decide +kernel
theorem dX8_reads_51 : decode cX8_reads 51 = .ok (.bipush 57, 2) := by decide +kernel
theorem dX8_reads_53 : decode cX8_reads 53 = .ok (.if_icmp .gt 34, 3) := by decide +kernel
theorem dX8_reads_56 : decode cX8_reads 56 = .ok (.bipush 10, 2) := by decide +kernel
theorem dX8_reads_58 : decode cX8_reads 58 = .ok (.iload_n 3, 1) := by decide +kernel
theorem dX8_reads_59 : decode cX8_reads 59 = .ok (.imul, 1) := by decide +kernel
theorem dX8_reads_60 : decode cX8_reads 60 = .ok (.aload_n 0, 1) := by decide +kernel
theorem dX8_reads_61 : decode cX8_reads 61 = .ok (.getfield 7, 3) := by decide +kernel
theorem dX8_reads_64 : decode cX8_reads 64 = .ok (.aload_n 0, 1) := by decide +kernel
theorem dX8_reads_65 : decode cX8_reads 65 = .ok (.getfield 108, 3) := by decide +kernel
theorem dX8_reads_68 : decode cX8_reads 68 = .ok (.iaload, 1) := by decide +kernel
theorem dX8_reads_69 : decode cX8_reads 69 = .ok (.iadd, 1) := by decide +kernel
theorem dX8_reads_70 : decode cX8_reads 70 = .ok (.bipush 48, 2) := by decide +kernel
theorem dX8_reads_72 : decode cX8_reads 72 = .ok (.isub, 1) := by decide +kernel
theorem dX8_reads_73 : decode cX8_reads 73 = .ok (.istore_n 3, 1) := by decide +kernel
theorem dX8_reads_74 : decode cX8_reads 74 = .ok (.aload_n 0, 1) := by decide +kernel
theorem dX8_reads_75 : decode cX8_reads 75 = .ok (.dup, 1) := by decide +kernel
theorem dX8_reads_76 : decode cX8_reads 76 = .ok (.getfield 108, 3) := by decide +kernel
theorem dX8_reads_79 : decode cX8_reads 79 = .ok (.iconst 1, 1) := by decide +kernel
theorem dX8_reads_80 : decode cX8_reads 80 = .ok (.iadd, 1) := by decide +kernel
theorem dX8_reads_81 : decode cX8_reads 81 = .ok (.putfield 108, 3) := by decide +kernel
theorem dX8_reads_84 : decode cX8_reads 84 = .ok (.goto (-77), 3) := by decide +kernel
theorem dX8_reads_87 : decode cX8_reads 87 = .ok (.aload_n 0, 1) := by decide +kernel
theorem dX8_reads_88 : decode cX8_reads 88 = .ok (.getfield 13, 3) := by decide +kernel
theorem dX8_reads_91 : decode cX8_reads 91 = .ok (.bipush 7, 2) := by decide +kernel
theorem dX8_reads_93 : decode cX8_reads 93 = .ok (.aload_n 0, 1) := by decide +kernel
theorem dX8_reads_94 : decode cX8_reads 94 = .ok (.getfield 111, 3) := by decide +kernel
theorem dX8_reads_97 : decode cX8_reads 97 = .ok (.imul, 1) := by decide +kernel
theorem dX8_reads_98 : decode cX8_reads 98 = .ok (.iconst 1, 1) := by decide +kernel
theorem dX8_reads_99 : decode cX8_reads 99 = .ok (.iadd, 1) := by decide +kernel
theorem dX8_reads_100 : decode cX8_reads 100 = .ok (.iload_n 1, 1) := by decide +kernel
theorem dX8_reads_101 : decode cX8_reads 101 = .ok (.iadd, 1) := by decide +kernel
theorem dX8_reads_102 : decode cX8_reads 102 = .ok (.iload_n 3, 1) := by decide +kernel
theorem dX8_reads_103 : decode cX8_reads 103 = .ok (.iastore, 1) := by decide +kernel
theorem dX8_reads_104 : decode cX8_reads 104 = .ok (.aload_n 0, 1) := by decide +kernel
theorem dX8_reads_105 : decode cX8_reads 105 = .ok (.getfield 108, 3) := by decide +kernel
theorem dX8_reads_108 : decode cX8_reads 108 = .ok (.iload_n 2, 1) := by decide +kernel
theorem dX8_reads_109 : decode cX8_reads 109 = .ok (.if_icmp .le 7, 3) := by decide +kernel
theorem dX8_reads_112 : decode cX8_reads 112 = .ok (.iconst 1, 1) := by decide +kernel
theorem dX8_reads_113 : decode cX8_reads 113 = .ok (.goto 4, 3) := by decide +kernel
theorem dX8_reads_116 : decode cX8_reads 116 = .ok (.iconst 0, 1) := by decide +kernel
theorem dX8_reads_117 : decode cX8_reads 117 = .ok (.ireturn, 1) := by decide +kernel
theorem dX8_isSign_0 : decode cX8_isSign 0 = .ok (.aload_n 0, 1) := by decide +kernel
theorem dX8_isSign_1 : decode cX8_isSign 1 = .ok (.getfield 108, 3) := by decide +kernel
theorem dX8_isSign_4 : decode cX8_isSign 4 = .ok (.aload_n 0, 1) := by decide +kernel
theorem dX8_isSign_5 : decode cX8_isSign 5 = .ok (.getfield 103, 3) := by decide +kernel
theorem dX8_isSign_8 : decode cX8_isSign 8 = .ok (.if_icmp .ge 20, 3) := by decide +kernel
theorem dX8_isSign_11 : decode cX8_isSign 11 = .ok (.aload_n 0, 1) := by decide +kernel
theorem dX8_isSign_12 : decode cX8_isSign 12 = .ok (.getfield 7, 3) := by decide +kernel
theorem dX8_isSign_15 : decode cX8_isSign 15 = .ok (.aload_n 0, 1) := by decide +kernel
theorem dX8_isSign_16 : decode cX8_isSign 16 = .ok (.getfield 108, 3) := by decide +kernel
theorem dX8_isSign_19 : decode cX8_isSign 19 = .ok (.iaload, 1) := by decide +kernel
theorem dX8_isSign_20 : decode cX8_isSign 20 = .ok (.iload_n 1, 1) := by decide +kernel
theorem dX8_isSign_21 : decode cX8_isSign 21 = .ok (.if_icmp .ne 7, 3) := by decide +kernel
theorem dX8_isSign_24 : decode cX8_isSign 24 = .ok (.iconst 1, 1) := by decide +kernel
theorem dX8_isSign_25 : decode cX8_isSign 25 = .ok (.goto 4, 3) := by decide +kernel
theorem dX8_isSign_28 : decode cX8_isSign 28 = .ok (.iconst 0, 1) := by decide +kernel
theorem dX8_isSign_29 : decode cX8_isSign 29 = .ok (.istore_n 2, 1) := by decide +kernel
theorem dX8_isSign_30 : decode cX8_isSign 30 = .ok (.aload_n 0, 1) := by decide +kernel
theorem dX8_isSign_31 : decode cX8_isSign 31 = .ok (.dup, 1) := by decide +kernel
theorem dX8_isSign_32 : decode cX8_isSign 32 = .ok (.getfield 108, 3) := by decide +kernel
theorem dX8_isSign_35 : decode cX8_isSign 35 = .ok (.iload_n 2, 1) := by decide +kernel
theorem dX8_isSign_36 : decode cX8_isSign 36 = .ok (.ifCond .eq 7, 3) := by decide +kernel
theorem dX8_isSign_39 : decode cX8_isSign 39 = .ok (.iconst 1, 1) := by decide +kernel
theorem dX8_isSign_40 : decode cX8_isSign 40 = .ok (.goto 4, 3) := by decide +kernel
theorem dX8_isSign_43 : decode cX8_isSign 43 = .ok (.iconst 0, 1) := by decide +kernel
theorem dX8_isSign_44 : decode cX8_isSign 44 = .ok (.iadd, 1) := by decide +kernel
theorem dX8_isSign_45 : decode cX8_isSign 45 = .ok (.putfield 108, 3) := by decide +kernel
theorem dX8_isSign_48 : decode cX8_isSign 48 = .ok (.iload_n 2, 1) := by decide +kernel
theorem dX8_isSign_49 : decode cX8_isSign 49 = .ok (.ireturn, 1) := by decide +kernel
theorem dX8_readsItem_0 : decode cX8_readsItem 0 = .ok (.aload_n 0, 1) := by decide +kernel
theorem dX8_readsItem_1 : decode cX8_readsItem 1 = .ok (.getfield 7, 3) := by decide +kernel
theorem dX8_readsItem_4 : decode cX8_readsItem 4 = .ok (.aload_n 0, 1) := by decide +kernel
theorem dX8_readsItem_5 : decode cX8_readsItem 5 = .ok (.getfield 108, 3) := by decide +kernel
theorem dX8_readsItem_8 : decode cX8_readsItem 8 = .ok (.iaload, 1) := by decide +kernel
theorem dX8_readsItem_9 : decode cX8_readsItem 9 = .ok (.istore_n 1, 1) := by decide +kernel
theorem dX8_readsItem_10 : decode cX8_readsItem 10 = .ok (.iload_n 1, 1) := by decide +kernel
theorem dX8_readsItem_11 : decode cX8_readsItem 11 = .ok (.invokestatic 114, 3) := by decide +kernel
theorem dX8_readsItem_14 : decode cX8_readsItem 14 = .ok (.istore_n 2, 1) := by decide +kernel
theorem dX8_readsItem_15 : decode cX8_readsItem 15 = .ok (.aload_n 0, 1) := by decide +kernel
theorem dX8_readsItem_16 : decode cX8_readsItem 16 = .ok (.dup, 1) := by decide +kernel
theorem dX8_readsItem_17 : decode cX8_readsItem 17 = .ok (.getfield 108, 3) := by decide +kernel
theorem dX8_readsItem_20 : decode cX8_readsItem 20 = .ok (.iconst 1, 1) := by decide +kernel
theorem dX8_readsItem_21 : decode cX8_readsItem 21 = .ok (.iadd, 1) := by decide +kernel
theorem dX8_readsItem_22 : decode cX8_readsItem 22 = .ok (.putfield 108, 3) := by decide +kernel
theorem dX8_readsItem_25 : decode cX8_readsItem 25 = .ok (.aload_n 0, 1) := by decide +kernel
theorem dX8_readsItem_26 : decode cX8_readsItem 26 = .ok (.getfield 13, 3) := by decide +kernel
theorem dX8_readsItem_29 : decode cX8_readsItem 29 = .ok (.bipush 7, 2) := by decide +kernel
theorem dX8_readsItem_31 : decode cX8_readsItem 31 = .ok (.aload_n 0, 1) := by decide +kernel
theorem dX8_readsItem_32 : decode cX8_readsItem 32 = .ok (.getfield 111, 3) := by decide +kernel
theorem dX8_readsItem_35 : decode cX8_readsItem 35 = .ok (.imul, 1) := by decide +kernel
theorem dX8_readsItem_36 : decode cX8_readsItem 36 = .ok (.iload_n 1, 1) := by decide +kernel
theorem dX8_readsItem_37 : decode cX8_readsItem 37 = .ok (.iastore, 1) := by decide +kernel
theorem dX8_readsItem_38 : decode cX8_readsItem 38 = .ok (.iload_n 2, 1) := by decide +kernel
theorem dX8_readsItem_39 : decode cX8_readsItem 39 = .ok (.ifCond .le 7, 3) := by decide +kernel
theorem dX8_readsItem_42 : decode cX8_readsItem 42 = .ok (.iconst 1, 1) := by decide +kernel
theorem dX8_readsItem_43 : decode cX8_readsItem 43 = .ok (.goto 4, 3) := by decide +kernel
theorem dX8_readsItem_46 : decode cX8_readsItem 46 = .ok (.iconst 0, 1) := by decide +kernel
theorem dX8_readsItem_47 : decode cX8_readsItem 47 = .ok (.istore_n 3, 1) := by decide +kernel
theorem dX8_readsItem_48 : decode cX8_readsItem 48 = .ok (.iconst 0, 1) := by decide +kernel
theorem dX8_readsItem_49 : decode cX8_readsItem 49 = .ok (.istore 4, 2) := by decide +kernel
theorem dX8_readsItem_51 : decode cX8_readsItem 51 = .ok (.iload 4, 2) := by decide +kernel
theorem dX8_readsItem_53 : decode cX8_readsItem 53 = .ok (.iload_n 2, 1) := by decide +kernel
theorem dX8_readsItem_54 : decode cX8_readsItem 54 = .ok (.if_icmp .ge 80, 3) := by decide +kernel
theorem dX8_readsItem_57 : decode cX8_readsItem 57 = .ok (.iload_n 3, 1) := by decide +kernel
theorem dX8_readsItem_58 : decode cX8_readsItem 58 = .ok (.ifCond .eq 76, 3) := by decide +kernel
theorem dX8_readsItem_61 : decode cX8_readsItem 61 = .ok (.iload 4, 2) := by decide +kernel
theorem dX8_readsItem_63 : decode cX8_readsItem 63 = .ok (.ifCond .eq 12, 3) := by decide +kernel
theorem dX8_readsItem_66 : decode cX8_readsItem 66 = .ok (.aload_n 0, 1) := by decide +kernel
theorem dX8_readsItem_67 : decode cX8_readsItem 67 = .ok (.bipush 44, 2) := by decide +kernel
theorem dX8_readsItem_69 : decode cX8_readsItem 69 = .ok (.invokevirtual 118, 3) := by decide +kernel
theorem dX8_readsItem_72 : decode cX8_readsItem 72 = .ok (.ifCond .eq 54, 3) := by decide +kernel
theorem dX8_readsItem_75 : decode cX8_readsItem 75 = .ok (.aload_n 0, 1) := by decide +kernel
theorem dX8_readsItem_76 : decode cX8_readsItem 76 = .ok (.iload 4, 2) := by decide +kernel
theorem dX8_readsItem_78 : decode cX8_readsItem 78 = .ok (.invokevirtual 122, 3) := by decide +kernel
theorem dX8_readsItem_81 : decode cX8_readsItem 81 = .ok (.ifCond .eq 45, 3) := by decide +kernel
theorem dX8_readsItem_84 : decode cX8_readsItem 84 = .ok (.aload_n 0, 1) := by decide +kernel
theorem dX8_readsItem_85 : decode cX8_readsItem 85 = .ok (.getfield 13, 3) := by decide +kernel
theorem dX8_readsItem_88 : decode cX8_readsItem 88 = .ok (.bipush 7, 2) := by decide +kernel
theorem dX8_readsItem_90 : decode cX8_readsItem 90 = .ok (.aload_n 0, 1) := by decide +kernel
theorem dX8_readsItem_91 : decode cX8_readsItem 91 = .ok (.getfield 111, 3) := by decide +kernel
theorem dX8_readsItem_94 : decode cX8_readsItem 94 = .ok (.imul, 1) := by decide +kernel
theorem dX8_readsItem_95 : decode cX8_readsItem 95 = .ok (.iconst 1, 1) := by decide +kernel
theorem dX8_readsItem_96 : decode cX8_readsItem 96 = .ok (.iadd, 1) := by decide +kernel
theorem dX8_readsItem_97 : decode cX8_readsItem 97 = .ok (.iload 4, 2) := by decide +kernel
theorem dX8_readsItem_99 : decode cX8_readsItem 99 = .ok (.iadd, 1) := by decide +kernel
theorem dX8_readsItem_100 : decode cX8_readsItem 100 = .ok (.iaload, 1) := by decide +kernel
theorem dX8_readsItem_101 : decode cX8_readsItem 101 = .ok (.i2l, 1) := by decide +kernel
theorem dX8_readsItem_102 : decode cX8_readsItem 102 = .ok (.iload_n 1, 1) := by decide +kernel
theorem dX8_readsItem_103 : decode cX8_readsItem 103 = .ok (.iload 4, 2) := by decide +kernel
theorem dX8_readsItem_105 : decode cX8_readsItem 105 = .ok (.invokestatic 125, 3) := by decide +kernel
theorem dX8_readsItem_108 : decode cX8_readsItem 108 = .ok (.i2l, 1) := by decide +kernel
theorem dX8_readsItem_109 : decode cX8_readsItem 109 = .ok (.iload_n 1, 1) := by decide +kernel
theorem dX8_readsItem_110 : decode cX8_readsItem 110 = .ok (.iload 4, 2) := by decide +kernel
theorem dX8_readsItem_112 : decode cX8_readsItem 112 = .ok (.invokestatic 129, 3) := by decide +kernel
theorem dX8_readsItem_115 : decode cX8_readsItem 115 = .ok (.i2l, 1) := by decide +kernel
theorem dX8_readsItem_116 : decode cX8_readsItem 116 = .ok (.invokestatic 99, 3) := by decide +kernel
theorem dX8_readsItem_119 : decode cX8_readsItem 119 = .ok (.ifCond .eq 7, 3) := by decide +kernel
theorem dX8_readsItem_122 : decode cX8_readsItem 122 = .ok (.iconst 1, 1) := by decide +kernel
theorem dX8_readsItem_123 : decode cX8_readsItem 123 = .ok (.goto 4, 3) := by decide +kernel
theorem dX8_readsItem_126 : decode cX8_readsItem 126 = .ok (.iconst 0, 1) := by decide +kernel
theorem dX8_readsItem_127 : decode cX8_readsItem 127 = .ok (.istore_n 3, 1) := by decide +kernel
theorem dX8_readsItem_128 : decode cX8_readsItem 128 = .ok (.iinc 4 1, 3) := by decide +kernel
theorem dX8_readsItem_131 : decode cX8_readsItem 131 = .ok (.goto (-80), 3) := by decide +kernel
theorem dX8_readsItem_134 : decode cX8_readsItem 134 = .ok (.iload_n 3, 1) := by decide +kernel
theorem dX8_readsItem_135 : decode cX8_readsItem 135 = .ok (.ifCond .eq 16, 3) := by decide +kernel
theorem dX8_readsItem_138 : decode cX8_readsItem 138 = .ok (.aload_n 0, 1) := by decide +kernel
theorem dX8_readsItem_139 : decode cX8_readsItem 139 = .ok (.bipush 59, 2) := by decide +kernel
theorem dX8_readsItem_141 : decode cX8_readsItem 141 = .ok (.invokevirtual 118, 3) := by decide +kernel
theorem dX8_readsItem_144 : decode cX8_readsItem 144 = .ok (.ifCond .eq 7, 3) := by decide +kernel
theorem dX8_readsItem_147 : decode cX8_readsItem 147 = .ok (.iconst 1, 1) := by decide +kernel
theorem dX8_readsItem_148 : decode cX8_readsItem 148 = .ok (.goto 4, 3) := by decide +kernel
theorem dX8_readsItem_151 : decode cX8_readsItem 151 = .ok (.iconst 0, 1) := by decide +kernel
theorem dX8_readsItem_152 : decode cX8_readsItem 152 = .ok (.ireturn, 1) := by decide +kernel
theorem dX8_told_0 : decode cX8_told 0 = .ok (.iconst 0, 1) := by decide +kernel
theorem dX8_told_1 : decode cX8_told 1 = .ok (.istore_n 3, 1) := by decide +kernel
theorem dX8_told_2 : decode cX8_told 2 = .ok (.iconst 0, 1) := by decide +kernel
theorem dX8_told_3 : decode cX8_told 3 = .ok (.istore 4, 2) := by decide +kernel
theorem dX8_told_5 : decode cX8_told 5 = .ok (.iload 4, 2) := by decide +kernel
theorem dX8_told_7 : decode cX8_told 7 = .ok (.aload_n 0, 1) := by decide +kernel
theorem dX8_told_8 : decode cX8_told 8 = .ok (.getfield 111, 3) := by decide +kernel
theorem dX8_told_11 : decode cX8_told 11 = .ok (.if_icmp .ge 51, 3) := by decide +kernel
theorem dX8_told_14 : decode cX8_told 14 = .ok (.iload_n 3, 1) := by decide +kernel
theorem dX8_told_15 : decode cX8_told 15 = .ok (.aload_n 0, 1) := by decide +kernel
theorem dX8_told_16 : decode cX8_told 16 = .ok (.getfield 13, 3) := by decide +kernel
theorem dX8_told_19 : decode cX8_told 19 = .ok (.bipush 7, 2) := by decide +kernel
theorem dX8_told_21 : decode cX8_told 21 = .ok (.iload 4, 2) := by decide +kernel
theorem dX8_told_23 : decode cX8_told 23 = .ok (.imul, 1) := by decide +kernel
theorem dX8_told_24 : decode cX8_told 24 = .ok (.iaload, 1) := by decide +kernel
theorem dX8_told_25 : decode cX8_told 25 = .ok (.iload_n 1, 1) := by decide +kernel
theorem dX8_told_26 : decode cX8_told 26 = .ok (.if_icmp .ne 27, 3) := by decide +kernel
theorem dX8_told_29 : decode cX8_told 29 = .ok (.iload_n 2, 1) := by decide +kernel
theorem dX8_told_30 : decode cX8_told 30 = .ok (.ifCond .lt 19, 3) := by decide +kernel
theorem dX8_told_33 : decode cX8_told 33 = .ok (.aload_n 0, 1) := by decide +kernel
theorem dX8_told_34 : decode cX8_told 34 = .ok (.getfield 13, 3) := by decide +kernel
theorem dX8_told_37 : decode cX8_told 37 = .ok (.bipush 7, 2) := by decide +kernel
theorem dX8_told_39 : decode cX8_told 39 = .ok (.iload 4, 2) := by decide +kernel
theorem dX8_told_41 : decode cX8_told 41 = .ok (.imul, 1) := by decide +kernel
theorem dX8_told_42 : decode cX8_told 42 = .ok (.iconst 1, 1) := by decide +kernel
theorem dX8_told_43 : decode cX8_told 43 = .ok (.iadd, 1) := by decide +kernel
theorem dX8_told_44 : decode cX8_told 44 = .ok (.iaload, 1) := by decide +kernel
theorem dX8_told_45 : decode cX8_told 45 = .ok (.iload_n 2, 1) := by decide +kernel
theorem dX8_told_46 : decode cX8_told 46 = .ok (.if_icmp .ne 7, 3) := by decide +kernel
theorem dX8_told_49 : decode cX8_told 49 = .ok (.iconst 1, 1) := by decide +kernel
theorem dX8_told_50 : decode cX8_told 50 = .ok (.goto 4, 3) := by decide +kernel
theorem dX8_told_53 : decode cX8_told 53 = .ok (.iconst 0, 1) := by decide +kernel
theorem dX8_told_54 : decode cX8_told 54 = .ok (.iadd, 1) := by decide +kernel
theorem dX8_told_55 : decode cX8_told 55 = .ok (.istore_n 3, 1) := by decide +kernel
theorem dX8_told_56 : decode cX8_told 56 = .ok (.iinc 4 1, 3) := by decide +kernel
theorem dX8_told_59 : decode cX8_told 59 = .ok (.goto (-54), 3) := by decide +kernel
theorem dX8_told_62 : decode cX8_told 62 = .ok (.iload_n 3, 1) := by decide +kernel
theorem dX8_told_63 : decode cX8_told 63 = .ok (.ireturn, 1) := by decide +kernel
theorem dX8_fits_0 : decode cX8_fits 0 = .ok (.aload_n 0, 1) := by decide +kernel
theorem dX8_fits_1 : decode cX8_fits 1 = .ok (.getfield 13, 3) := by decide +kernel
theorem dX8_fits_4 : decode cX8_fits 4 = .ok (.bipush 7, 2) := by decide +kernel
theorem dX8_fits_6 : decode cX8_fits 6 = .ok (.aload_n 0, 1) := by decide +kernel
theorem dX8_fits_7 : decode cX8_fits 7 = .ok (.getfield 111, 3) := by decide +kernel
theorem dX8_fits_10 : decode cX8_fits 10 = .ok (.imul, 1) := by decide +kernel
theorem dX8_fits_11 : decode cX8_fits 11 = .ok (.iaload, 1) := by decide +kernel
theorem dX8_fits_12 : decode cX8_fits 12 = .ok (.istore_n 1, 1) := by decide +kernel
theorem dX8_fits_13 : decode cX8_fits 13 = .ok (.aload_n 0, 1) := by decide +kernel
theorem dX8_fits_14 : decode cX8_fits 14 = .ok (.getfield 13, 3) := by decide +kernel
theorem dX8_fits_17 : decode cX8_fits 17 = .ok (.bipush 7, 2) := by decide +kernel
theorem dX8_fits_19 : decode cX8_fits 19 = .ok (.aload_n 0, 1) := by decide +kernel
theorem dX8_fits_20 : decode cX8_fits 20 = .ok (.getfield 111, 3) := by decide +kernel
theorem dX8_fits_23 : decode cX8_fits 23 = .ok (.imul, 1) := by decide +kernel
theorem dX8_fits_24 : decode cX8_fits 24 = .ok (.iconst 1, 1) := by decide +kernel
theorem dX8_fits_25 : decode cX8_fits 25 = .ok (.iadd, 1) := by decide +kernel
theorem dX8_fits_26 : decode cX8_fits 26 = .ok (.iaload, 1) := by decide +kernel
theorem dX8_fits_27 : decode cX8_fits 27 = .ok (.istore_n 2, 1) := by decide +kernel
theorem dX8_fits_28 : decode cX8_fits 28 = .ok (.iload_n 1, 1) := by decide +kernel
theorem dX8_fits_29 : decode cX8_fits 29 = .ok (.bipush 98, 2) := by decide +kernel
theorem dX8_fits_31 : decode cX8_fits 31 = .ok (.if_icmp .eq 9, 3) := by decide +kernel
theorem dX8_fits_34 : decode cX8_fits 34 = .ok (.iload_n 1, 1) := by decide +kernel
theorem dX8_fits_35 : decode cX8_fits 35 = .ok (.bipush 112, 2) := by decide +kernel
theorem dX8_fits_37 : decode cX8_fits 37 = .ok (.if_icmp .ne 7, 3) := by decide +kernel
theorem dX8_fits_40 : decode cX8_fits 40 = .ok (.iconst 1, 1) := by decide +kernel
theorem dX8_fits_41 : decode cX8_fits 41 = .ok (.goto 4, 3) := by decide +kernel
theorem dX8_fits_44 : decode cX8_fits 44 = .ok (.iconst 0, 1) := by decide +kernel
theorem dX8_fits_45 : decode cX8_fits 45 = .ok (.istore_n 3, 1) := by decide +kernel
theorem dX8_fits_46 : decode cX8_fits 46 = .ok (.bipush 7, 2) := by decide +kernel
theorem dX8_fits_48 : decode cX8_fits 48 = .ok (.aload_n 0, 1) := by decide +kernel
theorem dX8_fits_49 : decode cX8_fits 49 = .ok (.getfield 111, 3) := by decide +kernel
theorem dX8_fits_52 : decode cX8_fits 52 = .ok (.imul, 1) := by decide +kernel
theorem dX8_fits_53 : decode cX8_fits 53 = .ok (.iconst 2, 1) := by decide +kernel
theorem dX8_fits_54 : decode cX8_fits 54 = .ok (.iadd, 1) := by decide +kernel
theorem dX8_fits_55 : decode cX8_fits 55 = .ok (.istore 4, 2) := by decide +kernel
theorem dX8_fits_57 : decode cX8_fits 57 = .ok (.iload_n 1, 1) := by decide +kernel
theorem dX8_fits_58 : decode cX8_fits 58 = .ok (.bipush 99, 2) := by decide +kernel
theorem dX8_fits_60 : decode cX8_fits 60 = .ok (.if_icmp .ne 35, 3) := by decide +kernel
theorem dX8_fits_63 : decode cX8_fits 63 = .ok (.aload_n 0, 1) := by decide +kernel
theorem dX8_fits_64 : decode cX8_fits 64 = .ok (.getfield 13, 3) := by decide +kernel
theorem dX8_fits_67 : decode cX8_fits 67 = .ok (.iload 4, 2) := by decide +kernel
theorem dX8_fits_69 : decode cX8_fits 69 = .ok (.iaload, 1) := by decide +kernel
theorem dX8_fits_70 : decode cX8_fits 70 = .ok (.aload_n 0, 1) := by decide +kernel
theorem dX8_fits_71 : decode cX8_fits 71 = .ok (.getfield 13, 3) := by decide +kernel
theorem dX8_fits_74 : decode cX8_fits 74 = .ok (.iload 4, 2) := by decide +kernel
theorem dX8_fits_76 : decode cX8_fits 76 = .ok (.iconst 1, 1) := by decide +kernel
theorem dX8_fits_77 : decode cX8_fits 77 = .ok (.iadd, 1) := by decide +kernel
theorem dX8_fits_78 : decode cX8_fits 78 = .ok (.iaload, 1) := by decide +kernel
theorem dX8_fits_79 : decode cX8_fits 79 = .ok (.iadd, 1) := by decide +kernel
theorem dX8_fits_80 : decode cX8_fits 80 = .ok (.aload_n 0, 1) := by decide +kernel
theorem dX8_fits_81 : decode cX8_fits 81 = .ok (.getfield 13, 3) := by decide +kernel
theorem dX8_fits_84 : decode cX8_fits 84 = .ok (.iload 4, 2) := by decide +kernel
theorem dX8_fits_86 : decode cX8_fits 86 = .ok (.iconst 2, 1) := by decide +kernel
theorem dX8_fits_87 : decode cX8_fits 87 = .ok (.iadd, 1) := by decide +kernel
theorem dX8_fits_88 : decode cX8_fits 88 = .ok (.iaload, 1) := by decide +kernel
theorem dX8_fits_89 : decode cX8_fits 89 = .ok (.iadd, 1) := by decide +kernel
theorem dX8_fits_90 : decode cX8_fits 90 = .ok (.bipush 10, 2) := by decide +kernel
theorem dX8_fits_92 : decode cX8_fits 92 = .ok (.if_icmp .ne 7, 3) := by decide +kernel
theorem dX8_fits_95 : decode cX8_fits 95 = .ok (.iconst 1, 1) := by decide +kernel
theorem dX8_fits_96 : decode cX8_fits 96 = .ok (.goto 4, 3) := by decide +kernel
theorem dX8_fits_99 : decode cX8_fits 99 = .ok (.iconst 0, 1) := by decide +kernel
theorem dX8_fits_100 : decode cX8_fits 100 = .ok (.istore 5, 2) := by decide +kernel
theorem dX8_fits_102 : decode cX8_fits 102 = .ok (.iload 5, 2) := by decide +kernel
theorem dX8_fits_104 : decode cX8_fits 104 = .ok (.ifCond .eq 59, 3) := by decide +kernel
theorem dX8_fits_107 : decode cX8_fits 107 = .ok (.iload_n 1, 1) := by decide +kernel
theorem dX8_fits_108 : decode cX8_fits 108 = .ok (.bipush 114, 2) := by decide +kernel
theorem dX8_fits_110 : decode cX8_fits 110 = .ok (.if_icmp .ne 16, 3) := by decide +kernel
theorem dX8_fits_113 : decode cX8_fits 113 = .ok (.aload_n 0, 1) := by decide +kernel
theorem dX8_fits_114 : decode cX8_fits 114 = .ok (.bipush 114, 2) := by decide +kernel
theorem dX8_fits_116 : decode cX8_fits 116 = .ok (.bipush (-4), 2) := by decide +kernel
theorem dX8_fits_118 : decode cX8_fits 118 = .ok (.invokevirtual 132, 3) := by decide +kernel
theorem dX8_fits_121 : decode cX8_fits 121 = .ok (.bipush 8, 2) := by decide +kernel
theorem dX8_fits_123 : decode cX8_fits 123 = .ok (.if_icmp .eq 40, 3) := by decide +kernel
theorem dX8_fits_126 : decode cX8_fits 126 = .ok (.iload_n 3, 1) := by decide +kernel
theorem dX8_fits_127 : decode cX8_fits 127 = .ok (.ifCond .eq 15, 3) := by decide +kernel
theorem dX8_fits_130 : decode cX8_fits 130 = .ok (.iload_n 2, 1) := by decide +kernel
theorem dX8_fits_131 : decode cX8_fits 131 = .ok (.aload_n 0, 1) := by decide +kernel
theorem dX8_fits_132 : decode cX8_fits 132 = .ok (.bipush 114, 2) := by decide +kernel
theorem dX8_fits_134 : decode cX8_fits 134 = .ok (.bipush (-4), 2) := by decide +kernel
theorem dX8_fits_136 : decode cX8_fits 136 = .ok (.invokevirtual 132, 3) := by decide +kernel
theorem dX8_fits_139 : decode cX8_fits 139 = .ok (.if_icmp .ge 24, 3) := by decide +kernel
theorem dX8_fits_142 : decode cX8_fits 142 = .ok (.iload_n 1, 1) := by decide +kernel
theorem dX8_fits_143 : decode cX8_fits 143 = .ok (.bipush 98, 2) := by decide +kernel
theorem dX8_fits_145 : decode cX8_fits 145 = .ok (.if_icmp .ne 14, 3) := by decide +kernel
theorem dX8_fits_148 : decode cX8_fits 148 = .ok (.aload_n 0, 1) := by decide +kernel
theorem dX8_fits_149 : decode cX8_fits 149 = .ok (.bipush 98, 2) := by decide +kernel
theorem dX8_fits_151 : decode cX8_fits 151 = .ok (.iload_n 2, 1) := by decide +kernel
theorem dX8_fits_152 : decode cX8_fits 152 = .ok (.invokevirtual 132, 3) := by decide +kernel
theorem dX8_fits_155 : decode cX8_fits 155 = .ok (.iconst 4, 1) := by decide +kernel
theorem dX8_fits_156 : decode cX8_fits 156 = .ok (.if_icmp .eq 7, 3) := by decide +kernel
theorem dX8_fits_159 : decode cX8_fits 159 = .ok (.iconst 1, 1) := by decide +kernel
theorem dX8_fits_160 : decode cX8_fits 160 = .ok (.goto 4, 3) := by decide +kernel
theorem dX8_fits_163 : decode cX8_fits 163 = .ok (.iconst 0, 1) := by decide +kernel
theorem dX8_fits_164 : decode cX8_fits 164 = .ok (.ireturn, 1) := by decide +kernel
theorem dX8_fault_0 : decode cX8_fault 0 = .ok (.aload_n 0, 1) := by decide +kernel
theorem dX8_fault_1 : decode cX8_fault 1 = .ok (.iconst 0, 1) := by decide +kernel
theorem dX8_fault_2 : decode cX8_fault 2 = .ok (.putfield 108, 3) := by decide +kernel
theorem dX8_fault_5 : decode cX8_fault 5 = .ok (.aload_n 0, 1) := by decide +kernel
theorem dX8_fault_6 : decode cX8_fault 6 = .ok (.iconst 0, 1) := by decide +kernel
theorem dX8_fault_7 : decode cX8_fault 7 = .ok (.putfield 111, 3) := by decide +kernel
theorem dX8_fault_10 : decode cX8_fault 10 = .ok (.aload_n 0, 1) := by decide +kernel
theorem dX8_fault_11 : decode cX8_fault 11 = .ok (.getfield 108, 3) := by decide +kernel
theorem dX8_fault_14 : decode cX8_fault 14 = .ok (.aload_n 0, 1) := by decide +kernel
theorem dX8_fault_15 : decode cX8_fault 15 = .ok (.getfield 103, 3) := by decide +kernel
theorem dX8_fault_18 : decode cX8_fault 18 = .ok (.if_icmp .ge 37, 3) := by decide +kernel
theorem dX8_fault_21 : decode cX8_fault 21 = .ok (.aload_n 0, 1) := by decide +kernel
theorem dX8_fault_22 : decode cX8_fault 22 = .ok (.getfield 108, 3) := by decide +kernel
theorem dX8_fault_25 : decode cX8_fault 25 = .ok (.istore_n 1, 1) := by decide +kernel
theorem dX8_fault_26 : decode cX8_fault 26 = .ok (.aload_n 0, 1) := by decide +kernel
theorem dX8_fault_27 : decode cX8_fault 27 = .ok (.invokevirtual 135, 3) := by decide +kernel
theorem dX8_fault_30 : decode cX8_fault 30 = .ok (.ifCond .eq 10, 3) := by decide +kernel
theorem dX8_fault_33 : decode cX8_fault 33 = .ok (.aload_n 0, 1) := by decide +kernel
theorem dX8_fault_34 : decode cX8_fault 34 = .ok (.invokevirtual 139, 3) := by decide +kernel
theorem dX8_fault_37 : decode cX8_fault 37 = .ok (.ifCond .ne 5, 3) := by decide +kernel
theorem dX8_fault_40 : decode cX8_fault 40 = .ok (.iload_n 1, 1) := by decide +kernel
theorem dX8_fault_41 : decode cX8_fault 41 = .ok (.ireturn, 1) := by decide +kernel
theorem dX8_fault_42 : decode cX8_fault 42 = .ok (.aload_n 0, 1) := by decide +kernel
theorem dX8_fault_43 : decode cX8_fault 43 = .ok (.dup, 1) := by decide +kernel
theorem dX8_fault_44 : decode cX8_fault 44 = .ok (.getfield 111, 3) := by decide +kernel
theorem dX8_fault_47 : decode cX8_fault 47 = .ok (.iconst 1, 1) := by decide +kernel
theorem dX8_fault_48 : decode cX8_fault 48 = .ok (.iadd, 1) := by decide +kernel
theorem dX8_fault_49 : decode cX8_fault 49 = .ok (.putfield 111, 3) := by decide +kernel
theorem dX8_fault_52 : decode cX8_fault 52 = .ok (.goto (-42), 3) := by decide +kernel
theorem dX8_fault_55 : decode cX8_fault 55 = .ok (.bipush (-4), 2) := by decide +kernel
theorem dX8_fault_57 : decode cX8_fault 57 = .ok (.ireturn, 1) := by decide +kernel
theorem dX8_roofBy_0 : decode cX8_roofBy 0 = .ok (.aload_n 0, 1) := by decide +kernel
theorem dX8_roofBy_1 : decode cX8_roofBy 1 = .ok (.getfield 46, 3) := by decide +kernel
theorem dX8_roofBy_4 : decode cX8_roofBy 4 = .ok (.iconst 2, 1) := by decide +kernel
theorem dX8_roofBy_5 : decode cX8_roofBy 5 = .ok (.iload_n 1, 1) := by decide +kernel
theorem dX8_roofBy_6 : decode cX8_roofBy 6 = .ok (.imul, 1) := by decide +kernel
theorem dX8_roofBy_7 : decode cX8_roofBy 7 = .ok (.iload_n 2, 1) := by decide +kernel
theorem dX8_roofBy_8 : decode cX8_roofBy 8 = .ok (.iastore, 1) := by decide +kernel
theorem dX8_roofBy_9 : decode cX8_roofBy 9 = .ok (.aload_n 0, 1) := by decide +kernel
theorem dX8_roofBy_10 : decode cX8_roofBy 10 = .ok (.getfield 46, 3) := by decide +kernel
theorem dX8_roofBy_13 : decode cX8_roofBy 13 = .ok (.iconst 2, 1) := by decide +kernel
theorem dX8_roofBy_14 : decode cX8_roofBy 14 = .ok (.iload_n 1, 1) := by decide +kernel
theorem dX8_roofBy_15 : decode cX8_roofBy 15 = .ok (.imul, 1) := by decide +kernel
theorem dX8_roofBy_16 : decode cX8_roofBy 16 = .ok (.iconst 1, 1) := by decide +kernel
theorem dX8_roofBy_17 : decode cX8_roofBy 17 = .ok (.iadd, 1) := by decide +kernel
theorem dX8_roofBy_18 : decode cX8_roofBy 18 = .ok (.iload_n 3, 1) := by decide +kernel
theorem dX8_roofBy_19 : decode cX8_roofBy 19 = .ok (.iastore, 1) := by decide +kernel
theorem dX8_roofBy_20 : decode cX8_roofBy 20 = .ok (.aload_n 0, 1) := by decide +kernel
theorem dX8_roofBy_21 : decode cX8_roofBy 21 = .ok (.getfield 16, 3) := by decide +kernel
theorem dX8_roofBy_24 : decode cX8_roofBy 24 = .ok (.iload_n 1, 1) := by decide +kernel
theorem dX8_roofBy_25 : decode cX8_roofBy 25 = .ok (.iload 4, 2) := by decide +kernel
theorem dX8_roofBy_27 : decode cX8_roofBy 27 = .ok (.iastore, 1) := by decide +kernel
theorem dX8_roofBy_28 : decode cX8_roofBy 28 = .ok (.aload_n 0, 1) := by decide +kernel
theorem dX8_roofBy_29 : decode cX8_roofBy 29 = .ok (.getfield 19, 3) := by decide +kernel
theorem dX8_roofBy_32 : decode cX8_roofBy 32 = .ok (.iload_n 1, 1) := by decide +kernel
theorem dX8_roofBy_33 : decode cX8_roofBy 33 = .ok (.iload 5, 2) := by decide +kernel
theorem dX8_roofBy_35 : decode cX8_roofBy 35 = .ok (.iastore, 1) := by decide +kernel
theorem dX8_roofBy_36 : decode cX8_roofBy 36 = .ok (.aload_n 0, 1) := by decide +kernel
theorem dX8_roofBy_37 : decode cX8_roofBy 37 = .ok (.getfield 22, 3) := by decide +kernel
theorem dX8_roofBy_40 : decode cX8_roofBy 40 = .ok (.iload_n 1, 1) := by decide +kernel
theorem dX8_roofBy_41 : decode cX8_roofBy 41 = .ok (.iload 6, 2) := by decide +kernel
theorem dX8_roofBy_43 : decode cX8_roofBy 43 = .ok (.iastore, 1) := by decide +kernel
theorem dX8_roofBy_44 : decode cX8_roofBy 44 = .ok (.return_, 1) := by decide +kernel
theorem dX8_reset_0 : decode cX8_reset 0 = .ok (.aload_n 0, 1) := by decide +kernel
theorem dX8_reset_1 : decode cX8_reset 1 = .ok (.iconst 0, 1) := by decide +kernel
theorem dX8_reset_2 : decode cX8_reset 2 = .ok (.putfield 82, 3) := by decide +kernel
theorem dX8_reset_5 : decode cX8_reset 5 = .ok (.aload_n 0, 1) := by decide +kernel
theorem dX8_reset_6 : decode cX8_reset 6 = .ok (.iconst 1, 1) := by decide +kernel
theorem dX8_reset_7 : decode cX8_reset 7 = .ok (.putfield 142, 3) := by decide +kernel
theorem dX8_reset_10 : decode cX8_reset 10 = .ok (.aload_n 0, 1) := by decide +kernel
theorem dX8_reset_11 : decode cX8_reset 11 = .ok (.bipush 10, 2) := by decide +kernel
theorem dX8_reset_13 : decode cX8_reset 13 = .ok (.putfield 145, 3) := by decide +kernel
theorem dX8_reset_16 : decode cX8_reset 16 = .ok (.aload_n 0, 1) := by decide +kernel
theorem dX8_reset_17 : decode cX8_reset 17 = .ok (.bipush 10, 2) := by decide +kernel
theorem dX8_reset_19 : decode cX8_reset 19 = .ok (.putfield 148, 3) := by decide +kernel
theorem dX8_reset_22 : decode cX8_reset 22 = .ok (.aload_n 0, 1) := by decide +kernel
theorem dX8_reset_23 : decode cX8_reset 23 = .ok (.bipush 50, 2) := by decide +kernel
theorem dX8_reset_25 : decode cX8_reset 25 = .ok (.putfield 151, 3) := by decide +kernel
theorem dX8_reset_28 : decode cX8_reset 28 = .ok (.aload_n 0, 1) := by decide +kernel
theorem dX8_reset_29 : decode cX8_reset 29 = .ok (.iconst 3, 1) := by decide +kernel
theorem dX8_reset_30 : decode cX8_reset 30 = .ok (.putfield 154, 3) := by decide +kernel
theorem dX8_reset_33 : decode cX8_reset 33 = .ok (.aload_n 0, 1) := by decide +kernel
theorem dX8_reset_34 : decode cX8_reset 34 = .ok (.bipush 100, 2) := by decide +kernel
theorem dX8_reset_36 : decode cX8_reset 36 = .ok (.putfield 157, 3) := by decide +kernel
theorem dX8_reset_39 : decode cX8_reset 39 = .ok (.aload_n 0, 1) := by decide +kernel
theorem dX8_reset_40 : decode cX8_reset 40 = .ok (.iconst 0, 1) := by decide +kernel
theorem dX8_reset_41 : decode cX8_reset 41 = .ok (.putfield 160, 3) := by decide +kernel
theorem dX8_reset_44 : decode cX8_reset 44 = .ok (.iconst 0, 1) := by decide +kernel
theorem dX8_reset_45 : decode cX8_reset 45 = .ok (.istore_n 1, 1) := by decide +kernel
theorem dX8_reset_46 : decode cX8_reset 46 = .ok (.iload_n 1, 1) := by decide +kernel
theorem dX8_reset_47 : decode cX8_reset 47 = .ok (.bipush 8, 2) := by decide +kernel
theorem dX8_reset_49 : decode cX8_reset 49 = .ok (.if_icmp .ge 23, 3) := by decide +kernel
theorem dX8_reset_52 : decode cX8_reset 52 = .ok (.aload_n 0, 1) := by decide +kernel
theorem dX8_reset_53 : decode cX8_reset 53 = .ok (.getfield 28, 3) := by decide +kernel
theorem dX8_reset_56 : decode cX8_reset 56 = .ok (.iload_n 1, 1) := by decide +kernel
theorem dX8_reset_57 : decode cX8_reset 57 = .ok (.iconst 0, 1) := by decide +kernel
theorem dX8_reset_58 : decode cX8_reset 58 = .ok (.iastore, 1) := by decide +kernel
theorem dX8_reset_59 : decode cX8_reset 59 = .ok (.aload_n 0, 1) := by decide +kernel
theorem dX8_reset_60 : decode cX8_reset 60 = .ok (.getfield 37, 3) := by decide +kernel
theorem dX8_reset_63 : decode cX8_reset 63 = .ok (.iload_n 1, 1) := by decide +kernel
theorem dX8_reset_64 : decode cX8_reset 64 = .ok (.iconst 0, 1) := by decide +kernel
theorem dX8_reset_65 : decode cX8_reset 65 = .ok (.iastore, 1) := by decide +kernel
theorem dX8_reset_66 : decode cX8_reset 66 = .ok (.iinc 1 1, 3) := by decide +kernel
theorem dX8_reset_69 : decode cX8_reset 69 = .ok (.goto (-23), 3) := by decide +kernel
theorem dX8_reset_72 : decode cX8_reset 72 = .ok (.iconst 0, 1) := by decide +kernel
theorem dX8_reset_73 : decode cX8_reset 73 = .ok (.istore_n 1, 1) := by decide +kernel
theorem dX8_reset_74 : decode cX8_reset 74 = .ok (.iload_n 1, 1) := by decide +kernel
theorem dX8_reset_75 : decode cX8_reset 75 = .ok (.bipush 9, 2) := by decide +kernel
theorem dX8_reset_77 : decode cX8_reset 77 = .ok (.if_icmp .ge 33, 3) := by decide +kernel
theorem dX8_reset_80 : decode cX8_reset 80 = .ok (.aload_n 0, 1) := by decide +kernel
theorem dX8_reset_81 : decode cX8_reset 81 = .ok (.getfield 40, 3) := by decide +kernel
theorem dX8_reset_84 : decode cX8_reset 84 = .ok (.iload_n 1, 1) := by decide +kernel
theorem dX8_reset_85 : decode cX8_reset 85 = .ok (.iconst 0, 1) := by decide +kernel
theorem dX8_reset_86 : decode cX8_reset 86 = .ok (.iastore, 1) := by decide +kernel
theorem dX8_reset_87 : decode cX8_reset 87 = .ok (.aload_n 0, 1) := by decide +kernel
theorem dX8_reset_88 : decode cX8_reset 88 = .ok (.getfield 43, 3) := by decide +kernel
theorem dX8_reset_91 : decode cX8_reset 91 = .ok (.iload_n 1, 1) := by decide +kernel
theorem dX8_reset_92 : decode cX8_reset 92 = .ok (.iload_n 1, 1) := by decide +kernel
theorem dX8_reset_93 : decode cX8_reset 93 = .ok (.iconst 3, 1) := by decide +kernel
theorem dX8_reset_94 : decode cX8_reset 94 = .ok (.irem, 1) := by decide +kernel
theorem dX8_reset_95 : decode cX8_reset 95 = .ok (.ifCond .ne 7, 3) := by decide +kernel
theorem dX8_reset_98 : decode cX8_reset 98 = .ok (.iconst 4, 1) := by decide +kernel
theorem dX8_reset_99 : decode cX8_reset 99 = .ok (.goto 4, 3) := by decide +kernel
theorem dX8_reset_102 : decode cX8_reset 102 = .ok (.iconst 3, 1) := by decide +kernel
theorem dX8_reset_103 : decode cX8_reset 103 = .ok (.iastore, 1) := by decide +kernel
theorem dX8_reset_104 : decode cX8_reset 104 = .ok (.iinc 1 1, 3) := by decide +kernel
theorem dX8_reset_107 : decode cX8_reset 107 = .ok (.goto (-33), 3) := by decide +kernel
theorem dX8_reset_110 : decode cX8_reset 110 = .ok (.return_, 1) := by decide +kernel
theorem dX8_bearsOf_0 : decode cX8_bearsOf 0 = .ok (.aload_n 0, 1) := by decide +kernel
theorem dX8_bearsOf_1 : decode cX8_bearsOf 1 = .ok (.getfield 37, 3) := by decide +kernel
theorem dX8_bearsOf_4 : decode cX8_bearsOf 4 = .ok (.iload_n 1, 1) := by decide +kernel
theorem dX8_bearsOf_5 : decode cX8_bearsOf 5 = .ok (.iaload, 1) := by decide +kernel
theorem dX8_bearsOf_6 : decode cX8_bearsOf 6 = .ok (.ifCond .ne 31, 3) := by decide +kernel
theorem dX8_bearsOf_9 : decode cX8_bearsOf 9 = .ok (.aload_n 0, 1) := by decide +kernel
theorem dX8_bearsOf_10 : decode cX8_bearsOf 10 = .ok (.getfield 31, 3) := by decide +kernel
theorem dX8_bearsOf_13 : decode cX8_bearsOf 13 = .ok (.iconst 4, 1) := by decide +kernel
theorem dX8_bearsOf_14 : decode cX8_bearsOf 14 = .ok (.iload_n 1, 1) := by decide +kernel
theorem dX8_bearsOf_15 : decode cX8_bearsOf 15 = .ok (.imul, 1) := by decide +kernel
theorem dX8_bearsOf_16 : decode cX8_bearsOf 16 = .ok (.sipush 500, 3) := by decide +kernel
theorem dX8_bearsOf_19 : decode cX8_bearsOf 19 = .ok (.iastore, 1) := by decide +kernel
theorem dX8_bearsOf_20 : decode cX8_bearsOf 20 = .ok (.aload_n 0, 1) := by decide +kernel
theorem dX8_bearsOf_21 : decode cX8_bearsOf 21 = .ok (.getfield 34, 3) := by decide +kernel
theorem dX8_bearsOf_24 : decode cX8_bearsOf 24 = .ok (.iconst 4, 1) := by decide +kernel
theorem dX8_bearsOf_25 : decode cX8_bearsOf 25 = .ok (.iload_n 1, 1) := by decide +kernel
theorem dX8_bearsOf_26 : decode cX8_bearsOf 26 = .ok (.imul, 1) := by decide +kernel
theorem dX8_bearsOf_27 : decode cX8_bearsOf 27 = .ok (.bipush 10, 2) := by decide +kernel
theorem dX8_bearsOf_29 : decode cX8_bearsOf 29 = .ok (.iastore, 1) := by decide +kernel
theorem dX8_bearsOf_30 : decode cX8_bearsOf 30 = .ok (.aload_n 0, 1) := by decide +kernel
theorem dX8_bearsOf_31 : decode cX8_bearsOf 31 = .ok (.getfield 37, 3) := by decide +kernel
theorem dX8_bearsOf_34 : decode cX8_bearsOf 34 = .ok (.iload_n 1, 1) := by decide +kernel
theorem dX8_bearsOf_35 : decode cX8_bearsOf 35 = .ok (.iconst 1, 1) := by decide +kernel
theorem dX8_bearsOf_36 : decode cX8_bearsOf 36 = .ok (.iastore, 1) := by decide +kernel
theorem dX8_bearsOf_37 : decode cX8_bearsOf 37 = .ok (.aload_n 0, 1) := by decide +kernel
theorem dX8_bearsOf_38 : decode cX8_bearsOf 38 = .ok (.getfield 49, 3) := by decide +kernel
theorem dX8_bearsOf_41 : decode cX8_bearsOf 41 = .ok (.iload_n 1, 1) := by decide +kernel
theorem dX8_bearsOf_42 : decode cX8_bearsOf 42 = .ok (.iconst 1, 1) := by decide +kernel
theorem dX8_bearsOf_43 : decode cX8_bearsOf 43 = .ok (.aload_n 0, 1) := by decide +kernel
theorem dX8_bearsOf_44 : decode cX8_bearsOf 44 = .ok (.getfield 37, 3) := by decide +kernel
theorem dX8_bearsOf_47 : decode cX8_bearsOf 47 = .ok (.iload_n 1, 1) := by decide +kernel
theorem dX8_bearsOf_48 : decode cX8_bearsOf 48 = .ok (.iaload, 1) := by decide +kernel
theorem dX8_bearsOf_49 : decode cX8_bearsOf 49 = .ok (.ishl, 1) := by decide +kernel
theorem dX8_bearsOf_50 : decode cX8_bearsOf 50 = .ok (.iconst 1, 1) := by decide +kernel
theorem dX8_bearsOf_51 : decode cX8_bearsOf 51 = .ok (.isub, 1) := by decide +kernel
theorem dX8_bearsOf_52 : decode cX8_bearsOf 52 = .ok (.iastore, 1) := by decide +kernel
theorem dX8_bearsOf_53 : decode cX8_bearsOf 53 = .ok (.aload_n 0, 1) := by decide +kernel
theorem dX8_bearsOf_54 : decode cX8_bearsOf 54 = .ok (.getfield 52, 3) := by decide +kernel
theorem dX8_bearsOf_57 : decode cX8_bearsOf 57 = .ok (.iload_n 1, 1) := by decide +kernel
theorem dX8_bearsOf_58 : decode cX8_bearsOf 58 = .ok (.iconst 0, 1) := by decide +kernel
theorem dX8_bearsOf_59 : decode cX8_bearsOf 59 = .ok (.iastore, 1) := by decide +kernel
theorem dX8_bearsOf_60 : decode cX8_bearsOf 60 = .ok (.aload_n 0, 1) := by decide +kernel
theorem dX8_bearsOf_61 : decode cX8_bearsOf 61 = .ok (.getfield 58, 3) := by decide +kernel
theorem dX8_bearsOf_64 : decode cX8_bearsOf 64 = .ok (.iload_n 1, 1) := by decide +kernel
theorem dX8_bearsOf_65 : decode cX8_bearsOf 65 = .ok (.iconst 0, 1) := by decide +kernel
theorem dX8_bearsOf_66 : decode cX8_bearsOf 66 = .ok (.iastore, 1) := by decide +kernel
theorem dX8_bearsOf_67 : decode cX8_bearsOf 67 = .ok (.return_, 1) := by decide +kernel
theorem dX8_begun_0 : decode cX8_begun 0 = .ok (.aload_n 0, 1) := by decide +kernel
theorem dX8_begun_1 : decode cX8_begun 1 = .ok (.iconst 1, 1) := by decide +kernel
theorem dX8_begun_2 : decode cX8_begun 2 = .ok (.aload_n 0, 1) := by decide +kernel
theorem dX8_begun_3 : decode cX8_begun 3 = .ok (.getfield 82, 3) := by decide +kernel
theorem dX8_begun_6 : decode cX8_begun 6 = .ok (.ishl, 1) := by decide +kernel
theorem dX8_begun_7 : decode cX8_begun 7 = .ok (.iconst 1, 1) := by decide +kernel
theorem dX8_begun_8 : decode cX8_begun 8 = .ok (.isub, 1) := by decide +kernel
theorem dX8_begun_9 : decode cX8_begun 9 = .ok (.putfield 163, 3) := by decide +kernel
theorem dX8_begun_12 : decode cX8_begun 12 = .ok (.aload_n 0, 1) := by decide +kernel
theorem dX8_begun_13 : decode cX8_begun 13 = .ok (.iconst 0, 1) := by decide +kernel
theorem dX8_begun_14 : decode cX8_begun 14 = .ok (.putfield 166, 3) := by decide +kernel
theorem dX8_begun_17 : decode cX8_begun 17 = .ok (.aload_n 0, 1) := by decide +kernel
theorem dX8_begun_18 : decode cX8_begun 18 = .ok (.iconst 0, 1) := by decide +kernel
theorem dX8_begun_19 : decode cX8_begun 19 = .ok (.putfield 169, 3) := by decide +kernel
theorem dX8_begun_22 : decode cX8_begun 22 = .ok (.aload_n 0, 1) := by decide +kernel
theorem dX8_begun_23 : decode cX8_begun 23 = .ok (.iconst 0, 1) := by decide +kernel
theorem dX8_begun_24 : decode cX8_begun 24 = .ok (.putfield 171, 3) := by decide +kernel
theorem dX8_begun_27 : decode cX8_begun 27 = .ok (.aload_n 0, 1) := by decide +kernel
theorem dX8_begun_28 : decode cX8_begun 28 = .ok (.iconst 0, 1) := by decide +kernel
theorem dX8_begun_29 : decode cX8_begun 29 = .ok (.putfield 174, 3) := by decide +kernel
theorem dX8_begun_32 : decode cX8_begun 32 = .ok (.aload_n 0, 1) := by decide +kernel
theorem dX8_begun_33 : decode cX8_begun 33 = .ok (.iconst 0, 1) := by decide +kernel
theorem dX8_begun_34 : decode cX8_begun 34 = .ok (.putfield 177, 3) := by decide +kernel
theorem dX8_begun_37 : decode cX8_begun 37 = .ok (.aload_n 0, 1) := by decide +kernel
theorem dX8_begun_38 : decode cX8_begun 38 = .ok (.invokevirtual 180, 3) := by decide +kernel
theorem dX8_begun_41 : decode cX8_begun 41 = .ok (.return_, 1) := by decide +kernel
theorem dX8_layItem_0 : decode cX8_layItem 0 = .ok (.aload_n 0, 1) := by decide +kernel
theorem dX8_layItem_1 : decode cX8_layItem 1 = .ok (.getfield 13, 3) := by decide +kernel
theorem dX8_layItem_4 : decode cX8_layItem 4 = .ok (.iload_n 1, 1) := by decide +kernel
theorem dX8_layItem_5 : decode cX8_layItem 5 = .ok (.iconst 1, 1) := by decide +kernel
theorem dX8_layItem_6 : decode cX8_layItem 6 = .ok (.iadd, 1) := by decide +kernel
theorem dX8_layItem_7 : decode cX8_layItem 7 = .ok (.iaload, 1) := by decide +kernel
theorem dX8_layItem_8 : decode cX8_layItem 8 = .ok (.istore_n 2, 1) := by decide +kernel
theorem dX8_layItem_9 : decode cX8_layItem 9 = .ok (.aload_n 0, 1) := by decide +kernel
theorem dX8_layItem_10 : decode cX8_layItem 10 = .ok (.getfield 13, 3) := by decide +kernel
theorem dX8_layItem_13 : decode cX8_layItem 13 = .ok (.iload_n 1, 1) := by decide +kernel
theorem dX8_layItem_14 : decode cX8_layItem 14 = .ok (.iconst 2, 1) := by decide +kernel
theorem dX8_layItem_15 : decode cX8_layItem 15 = .ok (.iadd, 1) := by decide +kernel
theorem dX8_layItem_16 : decode cX8_layItem 16 = .ok (.iaload, 1) := by decide +kernel
theorem dX8_layItem_17 : decode cX8_layItem 17 = .ok (.istore_n 3, 1) := by decide +kernel
theorem dX8_layItem_18 : decode cX8_layItem 18 = .ok (.aload_n 0, 1) := by decide +kernel
theorem dX8_layItem_19 : decode cX8_layItem 19 = .ok (.getfield 13, 3) := by decide +kernel
theorem dX8_layItem_22 : decode cX8_layItem 22 = .ok (.iload_n 1, 1) := by decide +kernel
theorem dX8_layItem_23 : decode cX8_layItem 23 = .ok (.iconst 3, 1) := by decide +kernel
theorem dX8_layItem_24 : decode cX8_layItem 24 = .ok (.iadd, 1) := by decide +kernel
theorem dX8_layItem_25 : decode cX8_layItem 25 = .ok (.iaload, 1) := by decide +kernel
theorem dX8_layItem_26 : decode cX8_layItem 26 = .ok (.istore 4, 2) := by decide +kernel
theorem dX8_layItem_28 : decode cX8_layItem 28 = .ok (.aload_n 0, 1) := by decide +kernel
theorem dX8_layItem_29 : decode cX8_layItem 29 = .ok (.getfield 13, 3) := by decide +kernel
theorem dX8_layItem_32 : decode cX8_layItem 32 = .ok (.iload_n 1, 1) := by decide +kernel
theorem dX8_layItem_33 : decode cX8_layItem 33 = .ok (.iaload, 1) := by decide +kernel
theorem dX8_layItem_34 : decode cX8_layItem 34 = .ok (.tableswitch 309 98 115 #[143, 235, 309, 309, 309, 292, 281, 309, 309, 195, 309, 309, 309, 298, 187, 309, 86, 275], 86) := by decide +kernel
theorem dX8_layItem_120 : decode cX8_layItem 120 = .ok (.aload_n 0, 1) := by decide +kernel
theorem dX8_layItem_121 : decode cX8_layItem 121 = .ok (.aload_n 0, 1) := by decide +kernel
theorem dX8_layItem_122 : decode cX8_layItem 122 = .ok (.getfield 82, 3) := by decide +kernel
theorem dX8_layItem_125 : decode cX8_layItem 125 = .ok (.iload_n 2, 1) := by decide +kernel
theorem dX8_layItem_126 : decode cX8_layItem 126 = .ok (.iload_n 3, 1) := by decide +kernel
theorem dX8_layItem_127 : decode cX8_layItem 127 = .ok (.iload 4, 2) := by decide +kernel
theorem dX8_layItem_129 : decode cX8_layItem 129 = .ok (.aload_n 0, 1) := by decide +kernel
theorem dX8_layItem_130 : decode cX8_layItem 130 = .ok (.getfield 13, 3) := by decide +kernel
theorem dX8_layItem_133 : decode cX8_layItem 133 = .ok (.iload_n 1, 1) := by decide +kernel
theorem dX8_layItem_134 : decode cX8_layItem 134 = .ok (.iconst 4, 1) := by decide +kernel
theorem dX8_layItem_135 : decode cX8_layItem 135 = .ok (.iadd, 1) := by decide +kernel
theorem dX8_layItem_136 : decode cX8_layItem 136 = .ok (.iaload, 1) := by decide +kernel
theorem dX8_layItem_137 : decode cX8_layItem 137 = .ok (.aload_n 0, 1) := by decide +kernel
theorem dX8_layItem_138 : decode cX8_layItem 138 = .ok (.getfield 13, 3) := by decide +kernel
theorem dX8_layItem_141 : decode cX8_layItem 141 = .ok (.iload_n 1, 1) := by decide +kernel
theorem dX8_layItem_142 : decode cX8_layItem 142 = .ok (.iconst 5, 1) := by decide +kernel
theorem dX8_layItem_143 : decode cX8_layItem 143 = .ok (.iadd, 1) := by decide +kernel
theorem dX8_layItem_144 : decode cX8_layItem 144 = .ok (.iaload, 1) := by decide +kernel
theorem dX8_layItem_145 : decode cX8_layItem 145 = .ok (.invokevirtual 86, 3) := by decide +kernel
theorem dX8_layItem_148 : decode cX8_layItem 148 = .ok (.aload_n 0, 1) := by decide +kernel
theorem dX8_layItem_149 : decode cX8_layItem 149 = .ok (.getfield 25, 3) := by decide +kernel
theorem dX8_layItem_152 : decode cX8_layItem 152 = .ok (.aload_n 0, 1) := by decide +kernel
theorem dX8_layItem_153 : decode cX8_layItem 153 = .ok (.getfield 82, 3) := by decide +kernel
theorem dX8_layItem_156 : decode cX8_layItem 156 = .ok (.aload_n 0, 1) := by decide +kernel
theorem dX8_layItem_157 : decode cX8_layItem 157 = .ok (.getfield 13, 3) := by decide +kernel
theorem dX8_layItem_160 : decode cX8_layItem 160 = .ok (.iload_n 1, 1) := by decide +kernel
theorem dX8_layItem_161 : decode cX8_layItem 161 = .ok (.bipush 6, 2) := by decide +kernel
theorem dX8_layItem_163 : decode cX8_layItem 163 = .ok (.iadd, 1) := by decide +kernel
theorem dX8_layItem_164 : decode cX8_layItem 164 = .ok (.iaload, 1) := by decide +kernel
theorem dX8_layItem_165 : decode cX8_layItem 165 = .ok (.iastore, 1) := by decide +kernel
theorem dX8_layItem_166 : decode cX8_layItem 166 = .ok (.aload_n 0, 1) := by decide +kernel
theorem dX8_layItem_167 : decode cX8_layItem 167 = .ok (.dup, 1) := by decide +kernel
theorem dX8_layItem_168 : decode cX8_layItem 168 = .ok (.getfield 82, 3) := by decide +kernel
theorem dX8_layItem_171 : decode cX8_layItem 171 = .ok (.iconst 1, 1) := by decide +kernel
theorem dX8_layItem_172 : decode cX8_layItem 172 = .ok (.iadd, 1) := by decide +kernel
theorem dX8_layItem_173 : decode cX8_layItem 173 = .ok (.putfield 82, 3) := by decide +kernel
theorem dX8_layItem_176 : decode cX8_layItem 176 = .ok (.return_, 1) := by decide +kernel
theorem dX8_layItem_177 : decode cX8_layItem 177 = .ok (.aload_n 0, 1) := by decide +kernel
theorem dX8_layItem_178 : decode cX8_layItem 178 = .ok (.getfield 31, 3) := by decide +kernel
theorem dX8_layItem_181 : decode cX8_layItem 181 = .ok (.iconst 4, 1) := by decide +kernel
theorem dX8_layItem_182 : decode cX8_layItem 182 = .ok (.iload_n 2, 1) := by decide +kernel
theorem dX8_layItem_183 : decode cX8_layItem 183 = .ok (.imul, 1) := by decide +kernel
theorem dX8_layItem_184 : decode cX8_layItem 184 = .ok (.aload_n 0, 1) := by decide +kernel
theorem dX8_layItem_185 : decode cX8_layItem 185 = .ok (.getfield 37, 3) := by decide +kernel
theorem dX8_layItem_188 : decode cX8_layItem 188 = .ok (.iload_n 2, 1) := by decide +kernel
theorem dX8_layItem_189 : decode cX8_layItem 189 = .ok (.iaload, 1) := by decide +kernel
theorem dX8_layItem_190 : decode cX8_layItem 190 = .ok (.iadd, 1) := by decide +kernel
theorem dX8_layItem_191 : decode cX8_layItem 191 = .ok (.iload_n 3, 1) := by decide +kernel
theorem dX8_layItem_192 : decode cX8_layItem 192 = .ok (.iastore, 1) := by decide +kernel
theorem dX8_layItem_193 : decode cX8_layItem 193 = .ok (.aload_n 0, 1) := by decide +kernel
theorem dX8_layItem_194 : decode cX8_layItem 194 = .ok (.getfield 34, 3) := by decide +kernel
theorem dX8_layItem_197 : decode cX8_layItem 197 = .ok (.iconst 4, 1) := by decide +kernel
theorem dX8_layItem_198 : decode cX8_layItem 198 = .ok (.iload_n 2, 1) := by decide +kernel
theorem dX8_layItem_199 : decode cX8_layItem 199 = .ok (.imul, 1) := by decide +kernel
theorem dX8_layItem_200 : decode cX8_layItem 200 = .ok (.aload_n 0, 1) := by decide +kernel
theorem dX8_layItem_201 : decode cX8_layItem 201 = .ok (.getfield 37, 3) := by decide +kernel
theorem dX8_layItem_204 : decode cX8_layItem 204 = .ok (.iload_n 2, 1) := by decide +kernel
theorem dX8_layItem_205 : decode cX8_layItem 205 = .ok (.iaload, 1) := by decide +kernel
theorem dX8_layItem_206 : decode cX8_layItem 206 = .ok (.iadd, 1) := by decide +kernel
theorem dX8_layItem_207 : decode cX8_layItem 207 = .ok (.iload 4, 2) := by decide +kernel
theorem dX8_layItem_209 : decode cX8_layItem 209 = .ok (.iastore, 1) := by decide +kernel
theorem dX8_layItem_210 : decode cX8_layItem 210 = .ok (.aload_n 0, 1) := by decide +kernel
theorem dX8_layItem_211 : decode cX8_layItem 211 = .ok (.getfield 37, 3) := by decide +kernel
theorem dX8_layItem_214 : decode cX8_layItem 214 = .ok (.iload_n 2, 1) := by decide +kernel
theorem dX8_layItem_215 : decode cX8_layItem 215 = .ok (.dup2, 1) := by decide +kernel
theorem dX8_layItem_216 : decode cX8_layItem 216 = .ok (.iaload, 1) := by decide +kernel
theorem dX8_layItem_217 : decode cX8_layItem 217 = .ok (.iconst 1, 1) := by decide +kernel
theorem dX8_layItem_218 : decode cX8_layItem 218 = .ok (.iadd, 1) := by decide +kernel
theorem dX8_layItem_219 : decode cX8_layItem 219 = .ok (.iastore, 1) := by decide +kernel
theorem dX8_layItem_220 : decode cX8_layItem 220 = .ok (.return_, 1) := by decide +kernel
theorem dX8_layItem_221 : decode cX8_layItem 221 = .ok (.aload_n 0, 1) := by decide +kernel
theorem dX8_layItem_222 : decode cX8_layItem 222 = .ok (.getfield 28, 3) := by decide +kernel
theorem dX8_layItem_225 : decode cX8_layItem 225 = .ok (.iload_n 2, 1) := by decide +kernel
theorem dX8_layItem_226 : decode cX8_layItem 226 = .ok (.iload_n 3, 1) := by decide +kernel
theorem dX8_layItem_227 : decode cX8_layItem 227 = .ok (.iastore, 1) := by decide +kernel
theorem dX8_layItem_228 : decode cX8_layItem 228 = .ok (.return_, 1) := by decide +kernel
theorem dX8_layItem_229 : decode cX8_layItem 229 = .ok (.aload_n 0, 1) := by decide +kernel
theorem dX8_layItem_230 : decode cX8_layItem 230 = .ok (.getfield 40, 3) := by decide +kernel
theorem dX8_layItem_233 : decode cX8_layItem 233 = .ok (.iconst 3, 1) := by decide +kernel
theorem dX8_layItem_234 : decode cX8_layItem 234 = .ok (.iload_n 2, 1) := by decide +kernel
theorem dX8_layItem_235 : decode cX8_layItem 235 = .ok (.imul, 1) := by decide +kernel
theorem dX8_layItem_236 : decode cX8_layItem 236 = .ok (.iload_n 3, 1) := by decide +kernel
theorem dX8_layItem_237 : decode cX8_layItem 237 = .ok (.iastore, 1) := by decide +kernel
theorem dX8_layItem_238 : decode cX8_layItem 238 = .ok (.aload_n 0, 1) := by decide +kernel
theorem dX8_layItem_239 : decode cX8_layItem 239 = .ok (.getfield 40, 3) := by decide +kernel
theorem dX8_layItem_242 : decode cX8_layItem 242 = .ok (.iconst 3, 1) := by decide +kernel
theorem dX8_layItem_243 : decode cX8_layItem 243 = .ok (.iload_n 2, 1) := by decide +kernel
theorem dX8_layItem_244 : decode cX8_layItem 244 = .ok (.imul, 1) := by decide +kernel
theorem dX8_layItem_245 : decode cX8_layItem 245 = .ok (.iconst 1, 1) := by decide +kernel
theorem dX8_layItem_246 : decode cX8_layItem 246 = .ok (.iadd, 1) := by decide +kernel
theorem dX8_layItem_247 : decode cX8_layItem 247 = .ok (.iload 4, 2) := by decide +kernel
theorem dX8_layItem_249 : decode cX8_layItem 249 = .ok (.iastore, 1) := by decide +kernel
theorem dX8_layItem_250 : decode cX8_layItem 250 = .ok (.aload_n 0, 1) := by decide +kernel
theorem dX8_layItem_251 : decode cX8_layItem 251 = .ok (.getfield 40, 3) := by decide +kernel
theorem dX8_layItem_254 : decode cX8_layItem 254 = .ok (.iconst 3, 1) := by decide +kernel
theorem dX8_layItem_255 : decode cX8_layItem 255 = .ok (.iload_n 2, 1) := by decide +kernel
theorem dX8_layItem_256 : decode cX8_layItem 256 = .ok (.imul, 1) := by decide +kernel
theorem dX8_layItem_257 : decode cX8_layItem 257 = .ok (.iconst 2, 1) := by decide +kernel
theorem dX8_layItem_258 : decode cX8_layItem 258 = .ok (.iadd, 1) := by decide +kernel
theorem dX8_layItem_259 : decode cX8_layItem 259 = .ok (.aload_n 0, 1) := by decide +kernel
theorem dX8_layItem_260 : decode cX8_layItem 260 = .ok (.getfield 13, 3) := by decide +kernel
theorem dX8_layItem_263 : decode cX8_layItem 263 = .ok (.iload_n 1, 1) := by decide +kernel
theorem dX8_layItem_264 : decode cX8_layItem 264 = .ok (.iconst 4, 1) := by decide +kernel
theorem dX8_layItem_265 : decode cX8_layItem 265 = .ok (.iadd, 1) := by decide +kernel
theorem dX8_layItem_266 : decode cX8_layItem 266 = .ok (.iaload, 1) := by decide +kernel
theorem dX8_layItem_267 : decode cX8_layItem 267 = .ok (.iastore, 1) := by decide +kernel
theorem dX8_layItem_268 : decode cX8_layItem 268 = .ok (.return_, 1) := by decide +kernel
theorem dX8_layItem_269 : decode cX8_layItem 269 = .ok (.aload_n 0, 1) := by decide +kernel
theorem dX8_layItem_270 : decode cX8_layItem 270 = .ok (.getfield 43, 3) := by decide +kernel
theorem dX8_layItem_273 : decode cX8_layItem 273 = .ok (.iconst 3, 1) := by decide +kernel
theorem dX8_layItem_274 : decode cX8_layItem 274 = .ok (.iload_n 2, 1) := by decide +kernel
theorem dX8_layItem_275 : decode cX8_layItem 275 = .ok (.imul, 1) := by decide +kernel
theorem dX8_layItem_276 : decode cX8_layItem 276 = .ok (.iload_n 3, 1) := by decide +kernel
theorem dX8_layItem_277 : decode cX8_layItem 277 = .ok (.iastore, 1) := by decide +kernel
theorem dX8_layItem_278 : decode cX8_layItem 278 = .ok (.aload_n 0, 1) := by decide +kernel
theorem dX8_layItem_279 : decode cX8_layItem 279 = .ok (.getfield 43, 3) := by decide +kernel
theorem dX8_layItem_282 : decode cX8_layItem 282 = .ok (.iconst 3, 1) := by decide +kernel
theorem dX8_layItem_283 : decode cX8_layItem 283 = .ok (.iload_n 2, 1) := by decide +kernel
theorem dX8_layItem_284 : decode cX8_layItem 284 = .ok (.imul, 1) := by decide +kernel
theorem dX8_layItem_285 : decode cX8_layItem 285 = .ok (.iconst 1, 1) := by decide +kernel
theorem dX8_layItem_286 : decode cX8_layItem 286 = .ok (.iadd, 1) := by decide +kernel
theorem dX8_layItem_287 : decode cX8_layItem 287 = .ok (.iload 4, 2) := by decide +kernel
theorem dX8_layItem_289 : decode cX8_layItem 289 = .ok (.iastore, 1) := by decide +kernel
theorem dX8_layItem_290 : decode cX8_layItem 290 = .ok (.aload_n 0, 1) := by decide +kernel
theorem dX8_layItem_291 : decode cX8_layItem 291 = .ok (.getfield 43, 3) := by decide +kernel
theorem dX8_layItem_294 : decode cX8_layItem 294 = .ok (.iconst 3, 1) := by decide +kernel
theorem dX8_layItem_295 : decode cX8_layItem 295 = .ok (.iload_n 2, 1) := by decide +kernel
theorem dX8_layItem_296 : decode cX8_layItem 296 = .ok (.imul, 1) := by decide +kernel
theorem dX8_layItem_297 : decode cX8_layItem 297 = .ok (.iconst 2, 1) := by decide +kernel
theorem dX8_layItem_298 : decode cX8_layItem 298 = .ok (.iadd, 1) := by decide +kernel
theorem dX8_layItem_299 : decode cX8_layItem 299 = .ok (.aload_n 0, 1) := by decide +kernel
theorem dX8_layItem_300 : decode cX8_layItem 300 = .ok (.getfield 13, 3) := by decide +kernel
theorem dX8_layItem_303 : decode cX8_layItem 303 = .ok (.iload_n 1, 1) := by decide +kernel
theorem dX8_layItem_304 : decode cX8_layItem 304 = .ok (.iconst 4, 1) := by decide +kernel
theorem dX8_layItem_305 : decode cX8_layItem 305 = .ok (.iadd, 1) := by decide +kernel
theorem dX8_layItem_306 : decode cX8_layItem 306 = .ok (.iaload, 1) := by decide +kernel
theorem dX8_layItem_307 : decode cX8_layItem 307 = .ok (.iastore, 1) := by decide +kernel
theorem dX8_layItem_308 : decode cX8_layItem 308 = .ok (.return_, 1) := by decide +kernel
theorem dX8_layItem_309 : decode cX8_layItem 309 = .ok (.aload_n 0, 1) := by decide +kernel
theorem dX8_layItem_310 : decode cX8_layItem 310 = .ok (.iload_n 2, 1) := by decide +kernel
theorem dX8_layItem_311 : decode cX8_layItem 311 = .ok (.putfield 160, 3) := by decide +kernel
theorem dX8_layItem_314 : decode cX8_layItem 314 = .ok (.return_, 1) := by decide +kernel
theorem dX8_layItem_315 : decode cX8_layItem 315 = .ok (.aload_n 0, 1) := by decide +kernel
theorem dX8_layItem_316 : decode cX8_layItem 316 = .ok (.iload_n 2, 1) := by decide +kernel
theorem dX8_layItem_317 : decode cX8_layItem 317 = .ok (.putfield 142, 3) := by decide +kernel
theorem dX8_layItem_320 : decode cX8_layItem 320 = .ok (.aload_n 0, 1) := by decide +kernel
theorem dX8_layItem_321 : decode cX8_layItem 321 = .ok (.iload_n 3, 1) := by decide +kernel
theorem dX8_layItem_322 : decode cX8_layItem 322 = .ok (.putfield 145, 3) := by decide +kernel
theorem dX8_layItem_325 : decode cX8_layItem 325 = .ok (.return_, 1) := by decide +kernel
theorem dX8_layItem_326 : decode cX8_layItem 326 = .ok (.aload_n 0, 1) := by decide +kernel
theorem dX8_layItem_327 : decode cX8_layItem 327 = .ok (.iload_n 2, 1) := by decide +kernel
theorem dX8_layItem_328 : decode cX8_layItem 328 = .ok (.putfield 148, 3) := by decide +kernel
theorem dX8_layItem_331 : decode cX8_layItem 331 = .ok (.return_, 1) := by decide +kernel
theorem dX8_layItem_332 : decode cX8_layItem 332 = .ok (.aload_n 0, 1) := by decide +kernel
theorem dX8_layItem_333 : decode cX8_layItem 333 = .ok (.iload_n 2, 1) := by decide +kernel
theorem dX8_layItem_334 : decode cX8_layItem 334 = .ok (.putfield 151, 3) := by decide +kernel
theorem dX8_layItem_337 : decode cX8_layItem 337 = .ok (.aload_n 0, 1) := by decide +kernel
theorem dX8_layItem_338 : decode cX8_layItem 338 = .ok (.iload_n 3, 1) := by decide +kernel
theorem dX8_layItem_339 : decode cX8_layItem 339 = .ok (.putfield 154, 3) := by decide +kernel
theorem dX8_layItem_342 : decode cX8_layItem 342 = .ok (.return_, 1) := by decide +kernel
theorem dX8_layItem_343 : decode cX8_layItem 343 = .ok (.aload_n 0, 1) := by decide +kernel
theorem dX8_layItem_344 : decode cX8_layItem 344 = .ok (.iload_n 2, 1) := by decide +kernel
theorem dX8_layItem_345 : decode cX8_layItem 345 = .ok (.putfield 157, 3) := by decide +kernel
theorem dX8_layItem_348 : decode cX8_layItem 348 = .ok (.return_, 1) := by decide +kernel
theorem dX8_mayBeLaid_0 : decode cX8_mayBeLaid 0 = .ok (.aload_n 0, 1) := by decide +kernel
theorem dX8_mayBeLaid_1 : decode cX8_mayBeLaid 1 = .ok (.bipush 114, 2) := by decide +kernel
theorem dX8_mayBeLaid_3 : decode cX8_mayBeLaid 3 = .ok (.bipush (-4), 2) := by decide +kernel
theorem dX8_mayBeLaid_5 : decode cX8_mayBeLaid 5 = .ok (.invokevirtual 132, 3) := by decide +kernel
theorem dX8_mayBeLaid_8 : decode cX8_mayBeLaid 8 = .ok (.istore_n 1, 1) := by decide +kernel
theorem dX8_mayBeLaid_9 : decode cX8_mayBeLaid 9 = .ok (.iload_n 1, 1) := by decide +kernel
theorem dX8_mayBeLaid_10 : decode cX8_mayBeLaid 10 = .ok (.ifCond .le 7, 3) := by decide +kernel
theorem dX8_mayBeLaid_13 : decode cX8_mayBeLaid 13 = .ok (.iconst 1, 1) := by decide +kernel
theorem dX8_mayBeLaid_14 : decode cX8_mayBeLaid 14 = .ok (.goto 4, 3) := by decide +kernel
theorem dX8_mayBeLaid_17 : decode cX8_mayBeLaid 17 = .ok (.iconst 0, 1) := by decide +kernel
theorem dX8_mayBeLaid_18 : decode cX8_mayBeLaid 18 = .ok (.istore_n 2, 1) := by decide +kernel
theorem dX8_mayBeLaid_19 : decode cX8_mayBeLaid 19 = .ok (.iconst 0, 1) := by decide +kernel
theorem dX8_mayBeLaid_20 : decode cX8_mayBeLaid 20 = .ok (.istore_n 3, 1) := by decide +kernel
theorem dX8_mayBeLaid_21 : decode cX8_mayBeLaid 21 = .ok (.iconst 0, 1) := by decide +kernel
theorem dX8_mayBeLaid_22 : decode cX8_mayBeLaid 22 = .ok (.istore 4, 2) := by decide +kernel
theorem dX8_mayBeLaid_24 : decode cX8_mayBeLaid 24 = .ok (.iload 4, 2) := by decide +kernel
theorem dX8_mayBeLaid_26 : decode cX8_mayBeLaid 26 = .ok (.aload_n 0, 1) := by decide +kernel
theorem dX8_mayBeLaid_27 : decode cX8_mayBeLaid 27 = .ok (.getfield 111, 3) := by decide +kernel
theorem dX8_mayBeLaid_30 : decode cX8_mayBeLaid 30 = .ok (.if_icmp .ge 71, 3) := by decide +kernel
theorem dX8_mayBeLaid_33 : decode cX8_mayBeLaid 33 = .ok (.aload_n 0, 1) := by decide +kernel
theorem dX8_mayBeLaid_34 : decode cX8_mayBeLaid 34 = .ok (.getfield 13, 3) := by decide +kernel
theorem dX8_mayBeLaid_37 : decode cX8_mayBeLaid 37 = .ok (.bipush 7, 2) := by decide +kernel
theorem dX8_mayBeLaid_39 : decode cX8_mayBeLaid 39 = .ok (.iload 4, 2) := by decide +kernel
theorem dX8_mayBeLaid_41 : decode cX8_mayBeLaid 41 = .ok (.imul, 1) := by decide +kernel
theorem dX8_mayBeLaid_42 : decode cX8_mayBeLaid 42 = .ok (.iaload, 1) := by decide +kernel
theorem dX8_mayBeLaid_43 : decode cX8_mayBeLaid 43 = .ok (.bipush 114, 2) := by decide +kernel
theorem dX8_mayBeLaid_45 : decode cX8_mayBeLaid 45 = .ok (.if_icmp .ne 50, 3) := by decide +kernel
theorem dX8_mayBeLaid_48 : decode cX8_mayBeLaid 48 = .ok (.aload_n 0, 1) := by decide +kernel
theorem dX8_mayBeLaid_49 : decode cX8_mayBeLaid 49 = .ok (.getfield 13, 3) := by decide +kernel
theorem dX8_mayBeLaid_52 : decode cX8_mayBeLaid 52 = .ok (.bipush 7, 2) := by decide +kernel
theorem dX8_mayBeLaid_54 : decode cX8_mayBeLaid 54 = .ok (.iload 4, 2) := by decide +kernel
theorem dX8_mayBeLaid_56 : decode cX8_mayBeLaid 56 = .ok (.imul, 1) := by decide +kernel
theorem dX8_mayBeLaid_57 : decode cX8_mayBeLaid 57 = .ok (.bipush 6, 2) := by decide +kernel
theorem dX8_mayBeLaid_59 : decode cX8_mayBeLaid 59 = .ok (.iadd, 1) := by decide +kernel
theorem dX8_mayBeLaid_60 : decode cX8_mayBeLaid 60 = .ok (.iaload, 1) := by decide +kernel
theorem dX8_mayBeLaid_61 : decode cX8_mayBeLaid 61 = .ok (.istore 5, 2) := by decide +kernel
theorem dX8_mayBeLaid_63 : decode cX8_mayBeLaid 63 = .ok (.iload_n 2, 1) := by decide +kernel
theorem dX8_mayBeLaid_64 : decode cX8_mayBeLaid 64 = .ok (.ifCond .eq 26, 3) := by decide +kernel
theorem dX8_mayBeLaid_67 : decode cX8_mayBeLaid 67 = .ok (.iload 5, 2) := by decide +kernel
theorem dX8_mayBeLaid_69 : decode cX8_mayBeLaid 69 = .ok (.bipush 8, 2) := by decide +kernel
theorem dX8_mayBeLaid_71 : decode cX8_mayBeLaid 71 = .ok (.if_icmp .eq 15, 3) := by decide +kernel
theorem dX8_mayBeLaid_74 : decode cX8_mayBeLaid 74 = .ok (.iload 5, 2) := by decide +kernel
theorem dX8_mayBeLaid_76 : decode cX8_mayBeLaid 76 = .ok (.iload_n 1, 1) := by decide +kernel
theorem dX8_mayBeLaid_77 : decode cX8_mayBeLaid 77 = .ok (.if_icmp .ge 13, 3) := by decide +kernel
theorem dX8_mayBeLaid_80 : decode cX8_mayBeLaid 80 = .ok (.iload 5, 2) := by decide +kernel
theorem dX8_mayBeLaid_82 : decode cX8_mayBeLaid 82 = .ok (.iload_n 3, 1) := by decide +kernel
theorem dX8_mayBeLaid_83 : decode cX8_mayBeLaid 83 = .ok (.if_icmp .eq 7, 3) := by decide +kernel
theorem dX8_mayBeLaid_86 : decode cX8_mayBeLaid 86 = .ok (.iconst 1, 1) := by decide +kernel
theorem dX8_mayBeLaid_87 : decode cX8_mayBeLaid 87 = .ok (.goto 4, 3) := by decide +kernel
theorem dX8_mayBeLaid_90 : decode cX8_mayBeLaid 90 = .ok (.iconst 0, 1) := by decide +kernel
theorem dX8_mayBeLaid_91 : decode cX8_mayBeLaid 91 = .ok (.istore_n 2, 1) := by decide +kernel
theorem dX8_mayBeLaid_92 : decode cX8_mayBeLaid 92 = .ok (.iinc 3 1, 3) := by decide +kernel
theorem dX8_mayBeLaid_95 : decode cX8_mayBeLaid 95 = .ok (.iinc 4 1, 3) := by decide +kernel
theorem dX8_mayBeLaid_98 : decode cX8_mayBeLaid 98 = .ok (.goto (-74), 3) := by decide +kernel
theorem dX8_mayBeLaid_101 : decode cX8_mayBeLaid 101 = .ok (.iconst 0, 1) := by decide +kernel
theorem dX8_mayBeLaid_102 : decode cX8_mayBeLaid 102 = .ok (.istore 4, 2) := by decide +kernel
theorem dX8_mayBeLaid_104 : decode cX8_mayBeLaid 104 = .ok (.iload 4, 2) := by decide +kernel
theorem dX8_mayBeLaid_106 : decode cX8_mayBeLaid 106 = .ok (.bipush 8, 2) := by decide +kernel
theorem dX8_mayBeLaid_108 : decode cX8_mayBeLaid 108 = .ok (.if_icmp .ge 116, 3) := by decide +kernel
theorem dX8_mayBeLaid_111 : decode cX8_mayBeLaid 111 = .ok (.aload_n 0, 1) := by decide +kernel
theorem dX8_mayBeLaid_112 : decode cX8_mayBeLaid 112 = .ok (.bipush 98, 2) := by decide +kernel
theorem dX8_mayBeLaid_114 : decode cX8_mayBeLaid 114 = .ok (.iload 4, 2) := by decide +kernel
theorem dX8_mayBeLaid_116 : decode cX8_mayBeLaid 116 = .ok (.invokevirtual 132, 3) := by decide +kernel
theorem dX8_mayBeLaid_119 : decode cX8_mayBeLaid 119 = .ok (.ifCond .ne 8, 3) := by decide +kernel
theorem dX8_mayBeLaid_122 : decode cX8_mayBeLaid 122 = .ok (.bipush 10, 2) := by decide +kernel
theorem dX8_mayBeLaid_124 : decode cX8_mayBeLaid 124 = .ok (.goto 4, 3) := by decide +kernel
theorem dX8_mayBeLaid_127 : decode cX8_mayBeLaid 127 = .ok (.iconst 0, 1) := by decide +kernel
theorem dX8_mayBeLaid_128 : decode cX8_mayBeLaid 128 = .ok (.istore 5, 2) := by decide +kernel
theorem dX8_mayBeLaid_130 : decode cX8_mayBeLaid 130 = .ok (.iconst 0, 1) := by decide +kernel
theorem dX8_mayBeLaid_131 : decode cX8_mayBeLaid 131 = .ok (.istore 6, 2) := by decide +kernel
theorem dX8_mayBeLaid_133 : decode cX8_mayBeLaid 133 = .ok (.iload 6, 2) := by decide +kernel
theorem dX8_mayBeLaid_135 : decode cX8_mayBeLaid 135 = .ok (.aload_n 0, 1) := by decide +kernel
theorem dX8_mayBeLaid_136 : decode cX8_mayBeLaid 136 = .ok (.getfield 111, 3) := by decide +kernel
theorem dX8_mayBeLaid_139 : decode cX8_mayBeLaid 139 = .ok (.if_icmp .ge 62, 3) := by decide +kernel
theorem dX8_mayBeLaid_142 : decode cX8_mayBeLaid 142 = .ok (.iload 5, 2) := by decide +kernel
theorem dX8_mayBeLaid_144 : decode cX8_mayBeLaid 144 = .ok (.aload_n 0, 1) := by decide +kernel
theorem dX8_mayBeLaid_145 : decode cX8_mayBeLaid 145 = .ok (.getfield 13, 3) := by decide +kernel
theorem dX8_mayBeLaid_148 : decode cX8_mayBeLaid 148 = .ok (.bipush 7, 2) := by decide +kernel
theorem dX8_mayBeLaid_150 : decode cX8_mayBeLaid 150 = .ok (.iload 6, 2) := by decide +kernel
theorem dX8_mayBeLaid_152 : decode cX8_mayBeLaid 152 = .ok (.imul, 1) := by decide +kernel
theorem dX8_mayBeLaid_153 : decode cX8_mayBeLaid 153 = .ok (.iaload, 1) := by decide +kernel
theorem dX8_mayBeLaid_154 : decode cX8_mayBeLaid 154 = .ok (.bipush 98, 2) := by decide +kernel
theorem dX8_mayBeLaid_156 : decode cX8_mayBeLaid 156 = .ok (.if_icmp .ne 35, 3) := by decide +kernel
theorem dX8_mayBeLaid_159 : decode cX8_mayBeLaid 159 = .ok (.aload_n 0, 1) := by decide +kernel
theorem dX8_mayBeLaid_160 : decode cX8_mayBeLaid 160 = .ok (.getfield 13, 3) := by decide +kernel
theorem dX8_mayBeLaid_163 : decode cX8_mayBeLaid 163 = .ok (.bipush 7, 2) := by decide +kernel
theorem dX8_mayBeLaid_165 : decode cX8_mayBeLaid 165 = .ok (.iload 6, 2) := by decide +kernel
theorem dX8_mayBeLaid_167 : decode cX8_mayBeLaid 167 = .ok (.imul, 1) := by decide +kernel
theorem dX8_mayBeLaid_168 : decode cX8_mayBeLaid 168 = .ok (.iconst 1, 1) := by decide +kernel
theorem dX8_mayBeLaid_169 : decode cX8_mayBeLaid 169 = .ok (.iadd, 1) := by decide +kernel
theorem dX8_mayBeLaid_170 : decode cX8_mayBeLaid 170 = .ok (.iaload, 1) := by decide +kernel
theorem dX8_mayBeLaid_171 : decode cX8_mayBeLaid 171 = .ok (.iload 4, 2) := by decide +kernel
theorem dX8_mayBeLaid_173 : decode cX8_mayBeLaid 173 = .ok (.if_icmp .ne 18, 3) := by decide +kernel
theorem dX8_mayBeLaid_176 : decode cX8_mayBeLaid 176 = .ok (.aload_n 0, 1) := by decide +kernel
theorem dX8_mayBeLaid_177 : decode cX8_mayBeLaid 177 = .ok (.getfield 13, 3) := by decide +kernel
theorem dX8_mayBeLaid_180 : decode cX8_mayBeLaid 180 = .ok (.bipush 7, 2) := by decide +kernel
theorem dX8_mayBeLaid_182 : decode cX8_mayBeLaid 182 = .ok (.iload 6, 2) := by decide +kernel
theorem dX8_mayBeLaid_184 : decode cX8_mayBeLaid 184 = .ok (.imul, 1) := by decide +kernel
theorem dX8_mayBeLaid_185 : decode cX8_mayBeLaid 185 = .ok (.iconst 3, 1) := by decide +kernel
theorem dX8_mayBeLaid_186 : decode cX8_mayBeLaid 186 = .ok (.iadd, 1) := by decide +kernel
theorem dX8_mayBeLaid_187 : decode cX8_mayBeLaid 187 = .ok (.iaload, 1) := by decide +kernel
theorem dX8_mayBeLaid_188 : decode cX8_mayBeLaid 188 = .ok (.goto 4, 3) := by decide +kernel
theorem dX8_mayBeLaid_191 : decode cX8_mayBeLaid 191 = .ok (.iconst 0, 1) := by decide +kernel
theorem dX8_mayBeLaid_192 : decode cX8_mayBeLaid 192 = .ok (.iadd, 1) := by decide +kernel
theorem dX8_mayBeLaid_193 : decode cX8_mayBeLaid 193 = .ok (.istore 5, 2) := by decide +kernel
theorem dX8_mayBeLaid_195 : decode cX8_mayBeLaid 195 = .ok (.iinc 6 1, 3) := by decide +kernel
theorem dX8_mayBeLaid_198 : decode cX8_mayBeLaid 198 = .ok (.goto (-65), 3) := by decide +kernel
theorem dX8_mayBeLaid_201 : decode cX8_mayBeLaid 201 = .ok (.iload_n 2, 1) := by decide +kernel
theorem dX8_mayBeLaid_202 : decode cX8_mayBeLaid 202 = .ok (.ifCond .eq 14, 3) := by decide +kernel
theorem dX8_mayBeLaid_205 : decode cX8_mayBeLaid 205 = .ok (.iload 5, 2) := by decide +kernel
theorem dX8_mayBeLaid_207 : decode cX8_mayBeLaid 207 = .ok (.bipush 10, 2) := by decide +kernel
theorem dX8_mayBeLaid_209 : decode cX8_mayBeLaid 209 = .ok (.if_icmp .ne 7, 3) := by decide +kernel
theorem dX8_mayBeLaid_212 : decode cX8_mayBeLaid 212 = .ok (.iconst 1, 1) := by decide +kernel
theorem dX8_mayBeLaid_213 : decode cX8_mayBeLaid 213 = .ok (.goto 4, 3) := by decide +kernel
theorem dX8_mayBeLaid_216 : decode cX8_mayBeLaid 216 = .ok (.iconst 0, 1) := by decide +kernel
theorem dX8_mayBeLaid_217 : decode cX8_mayBeLaid 217 = .ok (.istore_n 2, 1) := by decide +kernel
theorem dX8_mayBeLaid_218 : decode cX8_mayBeLaid 218 = .ok (.iinc 4 1, 3) := by decide +kernel
theorem dX8_mayBeLaid_221 : decode cX8_mayBeLaid 221 = .ok (.goto (-117), 3) := by decide +kernel
theorem dX8_mayBeLaid_224 : decode cX8_mayBeLaid 224 = .ok (.iload_n 2, 1) := by decide +kernel
theorem dX8_mayBeLaid_225 : decode cX8_mayBeLaid 225 = .ok (.ireturn, 1) := by decide +kernel
theorem dX8_lay_0 : decode cX8_lay 0 = .ok (.aload_n 0, 1) := by decide +kernel
theorem dX8_lay_1 : decode cX8_lay 1 = .ok (.invokevirtual 183, 3) := by decide +kernel
theorem dX8_lay_4 : decode cX8_lay 4 = .ok (.bipush (-4), 2) := by decide +kernel
theorem dX8_lay_6 : decode cX8_lay 6 = .ok (.if_icmp .ne 10, 3) := by decide +kernel
theorem dX8_lay_9 : decode cX8_lay 9 = .ok (.aload_n 0, 1) := by decide +kernel
theorem dX8_lay_10 : decode cX8_lay 10 = .ok (.invokevirtual 187, 3) := by decide +kernel
theorem dX8_lay_13 : decode cX8_lay 13 = .ok (.ifCond .ne 6, 3) := by decide +kernel
theorem dX8_lay_16 : decode cX8_lay 16 = .ok (.bipush (-2), 2) := by decide +kernel
theorem dX8_lay_18 : decode cX8_lay 18 = .ok (.ireturn, 1) := by decide +kernel
theorem dX8_lay_19 : decode cX8_lay 19 = .ok (.aload_n 0, 1) := by decide +kernel
theorem dX8_lay_20 : decode cX8_lay 20 = .ok (.invokevirtual 79, 3) := by decide +kernel
theorem dX8_lay_23 : decode cX8_lay 23 = .ok (.iconst 0, 1) := by decide +kernel
theorem dX8_lay_24 : decode cX8_lay 24 = .ok (.istore_n 1, 1) := by decide +kernel
theorem dX8_lay_25 : decode cX8_lay 25 = .ok (.iload_n 1, 1) := by decide +kernel
theorem dX8_lay_26 : decode cX8_lay 26 = .ok (.aload_n 0, 1) := by decide +kernel
theorem dX8_lay_27 : decode cX8_lay 27 = .ok (.getfield 111, 3) := by decide +kernel
theorem dX8_lay_30 : decode cX8_lay 30 = .ok (.if_icmp .ge 17, 3) := by decide +kernel
theorem dX8_lay_33 : decode cX8_lay 33 = .ok (.aload_n 0, 1) := by decide +kernel
theorem dX8_lay_34 : decode cX8_lay 34 = .ok (.bipush 7, 2) := by decide +kernel
theorem dX8_lay_36 : decode cX8_lay 36 = .ok (.iload_n 1, 1) := by decide +kernel
theorem dX8_lay_37 : decode cX8_lay 37 = .ok (.imul, 1) := by decide +kernel
theorem dX8_lay_38 : decode cX8_lay 38 = .ok (.invokevirtual 190, 3) := by decide +kernel
theorem dX8_lay_41 : decode cX8_lay 41 = .ok (.iinc 1 1, 3) := by decide +kernel
theorem dX8_lay_44 : decode cX8_lay 44 = .ok (.goto (-19), 3) := by decide +kernel
theorem dX8_lay_47 : decode cX8_lay 47 = .ok (.iconst 0, 1) := by decide +kernel
theorem dX8_lay_48 : decode cX8_lay 48 = .ok (.istore_n 1, 1) := by decide +kernel
theorem dX8_lay_49 : decode cX8_lay 49 = .ok (.iload_n 1, 1) := by decide +kernel
theorem dX8_lay_50 : decode cX8_lay 50 = .ok (.aload_n 0, 1) := by decide +kernel
theorem dX8_lay_51 : decode cX8_lay 51 = .ok (.getfield 82, 3) := by decide +kernel
theorem dX8_lay_54 : decode cX8_lay 54 = .ok (.if_icmp .ge 14, 3) := by decide +kernel
theorem dX8_lay_57 : decode cX8_lay 57 = .ok (.aload_n 0, 1) := by decide +kernel
theorem dX8_lay_58 : decode cX8_lay 58 = .ok (.iload_n 1, 1) := by decide +kernel
theorem dX8_lay_59 : decode cX8_lay 59 = .ok (.invokevirtual 90, 3) := by decide +kernel
theorem dX8_lay_62 : decode cX8_lay 62 = .ok (.iinc 1 1, 3) := by decide +kernel
theorem dX8_lay_65 : decode cX8_lay 65 = .ok (.goto (-16), 3) := by decide +kernel
theorem dX8_lay_68 : decode cX8_lay 68 = .ok (.aload_n 0, 1) := by decide +kernel
theorem dX8_lay_69 : decode cX8_lay 69 = .ok (.invokevirtual 94, 3) := by decide +kernel
theorem dX8_lay_72 : decode cX8_lay 72 = .ok (.aload_n 0, 1) := by decide +kernel
theorem dX8_lay_73 : decode cX8_lay 73 = .ok (.getfield 82, 3) := by decide +kernel
theorem dX8_lay_76 : decode cX8_lay 76 = .ok (.ireturn, 1) := by decide +kernel
theorem dX8_load_0 : decode cX8_load 0 = .ok (.iconst 0, 1) := by decide +kernel
theorem dX8_load_1 : decode cX8_load 1 = .ok (.istore_n 1, 1) := by decide +kernel
theorem dX8_load_2 : decode cX8_load 2 = .ok (.iload_n 1, 1) := by decide +kernel
theorem dX8_load_3 : decode cX8_load 3 = .ok (.bipush 16, 2) := by decide +kernel
theorem dX8_load_5 : decode cX8_load 5 = .ok (.if_icmp .ge 21, 3) := by decide +kernel
theorem dX8_load_8 : decode cX8_load 8 = .ok (.aload_n 0, 1) := by decide +kernel
theorem dX8_load_9 : decode cX8_load 9 = .ok (.getfield 67, 3) := by decide +kernel
theorem dX8_load_12 : decode cX8_load 12 = .ok (.iload_n 1, 1) := by decide +kernel
theorem dX8_load_13 : decode cX8_load 13 = .ok (.aload_n 0, 1) := by decide +kernel
theorem dX8_load_14 : decode cX8_load 14 = .ok (.getfield 46, 3) := by decide +kernel
theorem dX8_load_17 : decode cX8_load 17 = .ok (.iload_n 1, 1) := by decide +kernel
theorem dX8_load_18 : decode cX8_load 18 = .ok (.iaload, 1) := by decide +kernel
theorem dX8_load_19 : decode cX8_load 19 = .ok (.iastore, 1) := by decide +kernel
theorem dX8_load_20 : decode cX8_load 20 = .ok (.iinc 1 1, 3) := by decide +kernel
theorem dX8_load_23 : decode cX8_load 23 = .ok (.goto (-21), 3) := by decide +kernel
theorem dX8_load_26 : decode cX8_load 26 = .ok (.iconst 0, 1) := by decide +kernel
theorem dX8_load_27 : decode cX8_load 27 = .ok (.istore_n 1, 1) := by decide +kernel
theorem dX8_load_28 : decode cX8_load 28 = .ok (.iload_n 1, 1) := by decide +kernel
theorem dX8_load_29 : decode cX8_load 29 = .ok (.bipush 24, 2) := by decide +kernel
theorem dX8_load_31 : decode cX8_load 31 = .ok (.if_icmp .ge 21, 3) := by decide +kernel
theorem dX8_load_34 : decode cX8_load 34 = .ok (.aload_n 0, 1) := by decide +kernel
theorem dX8_load_35 : decode cX8_load 35 = .ok (.getfield 70, 3) := by decide +kernel
theorem dX8_load_38 : decode cX8_load 38 = .ok (.iload_n 1, 1) := by decide +kernel
theorem dX8_load_39 : decode cX8_load 39 = .ok (.aload_n 0, 1) := by decide +kernel
theorem dX8_load_40 : decode cX8_load 40 = .ok (.getfield 55, 3) := by decide +kernel
theorem dX8_load_43 : decode cX8_load 43 = .ok (.iload_n 1, 1) := by decide +kernel
theorem dX8_load_44 : decode cX8_load 44 = .ok (.iaload, 1) := by decide +kernel
theorem dX8_load_45 : decode cX8_load 45 = .ok (.iastore, 1) := by decide +kernel
theorem dX8_load_46 : decode cX8_load 46 = .ok (.iinc 1 1, 3) := by decide +kernel
theorem dX8_load_49 : decode cX8_load 49 = .ok (.goto (-21), 3) := by decide +kernel
theorem dX8_load_52 : decode cX8_load 52 = .ok (.iconst 0, 1) := by decide +kernel
theorem dX8_load_53 : decode cX8_load 53 = .ok (.istore_n 1, 1) := by decide +kernel
theorem dX8_load_54 : decode cX8_load 54 = .ok (.iload_n 1, 1) := by decide +kernel
theorem dX8_load_55 : decode cX8_load 55 = .ok (.bipush 8, 2) := by decide +kernel
theorem dX8_load_57 : decode cX8_load 57 = .ok (.if_icmp .ge 17, 3) := by decide +kernel
theorem dX8_load_60 : decode cX8_load 60 = .ok (.aload_n 0, 1) := by decide +kernel
theorem dX8_load_61 : decode cX8_load 61 = .ok (.getfield 73, 3) := by decide +kernel
theorem dX8_load_64 : decode cX8_load 64 = .ok (.iload_n 1, 1) := by decide +kernel
theorem dX8_load_65 : decode cX8_load 65 = .ok (.ldc 193, 2) := by decide +kernel
theorem dX8_load_67 : decode cX8_load 67 = .ok (.iastore, 1) := by decide +kernel
theorem dX8_load_68 : decode cX8_load 68 = .ok (.iinc 1 1, 3) := by decide +kernel
theorem dX8_load_71 : decode cX8_load 71 = .ok (.goto (-17), 3) := by decide +kernel
theorem dX8_load_74 : decode cX8_load 74 = .ok (.aload_n 0, 1) := by decide +kernel
theorem dX8_load_75 : decode cX8_load 75 = .ok (.aload_n 0, 1) := by decide +kernel
theorem dX8_load_76 : decode cX8_load 76 = .ok (.getfield 163, 3) := by decide +kernel
theorem dX8_load_79 : decode cX8_load 79 = .ok (.putfield 194, 3) := by decide +kernel
theorem dX8_load_82 : decode cX8_load 82 = .ok (.return_, 1) := by decide +kernel
theorem dX8_done_0 : decode cX8_done 0 = .ok (.iconst 0, 1) := by decide +kernel
theorem dX8_done_1 : decode cX8_done 1 = .ok (.istore_n 2, 1) := by decide +kernel
theorem dX8_done_2 : decode cX8_done 2 = .ok (.iconst 0, 1) := by decide +kernel
theorem dX8_done_3 : decode cX8_done 3 = .ok (.istore_n 3, 1) := by decide +kernel
theorem dX8_done_4 : decode cX8_done 4 = .ok (.iload_n 3, 1) := by decide +kernel
theorem dX8_done_5 : decode cX8_done 5 = .ok (.aload_n 0, 1) := by decide +kernel
theorem dX8_done_6 : decode cX8_done 6 = .ok (.getfield 58, 3) := by decide +kernel
theorem dX8_done_9 : decode cX8_done 9 = .ok (.iload_n 1, 1) := by decide +kernel
theorem dX8_done_10 : decode cX8_done 10 = .ok (.iaload, 1) := by decide +kernel
theorem dX8_done_11 : decode cX8_done 11 = .ok (.if_icmp .ge 30, 3) := by decide +kernel
theorem dX8_done_14 : decode cX8_done 14 = .ok (.iload_n 2, 1) := by decide +kernel
theorem dX8_done_15 : decode cX8_done 15 = .ok (.aload_n 0, 1) := by decide +kernel
theorem dX8_done_16 : decode cX8_done 16 = .ok (.getfield 70, 3) := by decide +kernel
theorem dX8_done_19 : decode cX8_done 19 = .ok (.iconst 3, 1) := by decide +kernel
theorem dX8_done_20 : decode cX8_done 20 = .ok (.iload_n 1, 1) := by decide +kernel
theorem dX8_done_21 : decode cX8_done 21 = .ok (.imul, 1) := by decide +kernel
theorem dX8_done_22 : decode cX8_done 22 = .ok (.iload_n 3, 1) := by decide +kernel
theorem dX8_done_23 : decode cX8_done 23 = .ok (.iadd, 1) := by decide +kernel
theorem dX8_done_24 : decode cX8_done 24 = .ok (.iaload, 1) := by decide +kernel
theorem dX8_done_25 : decode cX8_done 25 = .ok (.ifCond .ne 7, 3) := by decide +kernel
theorem dX8_done_28 : decode cX8_done 28 = .ok (.iconst 1, 1) := by decide +kernel
theorem dX8_done_29 : decode cX8_done 29 = .ok (.goto 4, 3) := by decide +kernel
theorem dX8_done_32 : decode cX8_done 32 = .ok (.iconst 0, 1) := by decide +kernel
theorem dX8_done_33 : decode cX8_done 33 = .ok (.iadd, 1) := by decide +kernel
theorem dX8_done_34 : decode cX8_done 34 = .ok (.istore_n 2, 1) := by decide +kernel
theorem dX8_done_35 : decode cX8_done 35 = .ok (.iinc 3 1, 3) := by decide +kernel
theorem dX8_done_38 : decode cX8_done 38 = .ok (.goto (-34), 3) := by decide +kernel
theorem dX8_done_41 : decode cX8_done 41 = .ok (.iload_n 2, 1) := by decide +kernel
theorem dX8_done_42 : decode cX8_done 42 = .ok (.aload_n 0, 1) := by decide +kernel
theorem dX8_done_43 : decode cX8_done 43 = .ok (.getfield 151, 3) := by decide +kernel
theorem dX8_done_46 : decode cX8_done 46 = .ok (.imul, 1) := by decide +kernel
theorem dX8_done_47 : decode cX8_done 47 = .ok (.ireturn, 1) := by decide +kernel
theorem dX8_pressOf_0 : decode cX8_pressOf 0 = .ok (.iload_n 2, 1) := by decide +kernel
theorem dX8_pressOf_1 : decode cX8_pressOf 1 = .ok (.iload_n 3, 1) := by decide +kernel
theorem dX8_pressOf_2 : decode cX8_pressOf 2 = .ok (.if_icmp .ge 9, 3) := by decide +kernel
theorem dX8_pressOf_5 : decode cX8_pressOf 5 = .ok (.iload_n 3, 1) := by decide +kernel
theorem dX8_pressOf_6 : decode cX8_pressOf 6 = .ok (.iload_n 2, 1) := by decide +kernel
theorem dX8_pressOf_7 : decode cX8_pressOf 7 = .ok (.isub, 1) := by decide +kernel
theorem dX8_pressOf_8 : decode cX8_pressOf 8 = .ok (.goto 6, 3) := by decide +kernel
theorem dX8_pressOf_11 : decode cX8_pressOf 11 = .ok (.iload_n 2, 1) := by decide +kernel
theorem dX8_pressOf_12 : decode cX8_pressOf 12 = .ok (.iload_n 3, 1) := by decide +kernel
theorem dX8_pressOf_13 : decode cX8_pressOf 13 = .ok (.isub, 1) := by decide +kernel
theorem dX8_pressOf_14 : decode cX8_pressOf 14 = .ok (.istore 4, 2) := by decide +kernel
theorem dX8_pressOf_16 : decode cX8_pressOf 16 = .ok (.iload_n 2, 1) := by decide +kernel
theorem dX8_pressOf_17 : decode cX8_pressOf 17 = .ok (.iload_n 3, 1) := by decide +kernel
theorem dX8_pressOf_18 : decode cX8_pressOf 18 = .ok (.iadd, 1) := by decide +kernel
theorem dX8_pressOf_19 : decode cX8_pressOf 19 = .ok (.aload_n 0, 1) := by decide +kernel
theorem dX8_pressOf_20 : decode cX8_pressOf 20 = .ok (.getfield 16, 3) := by decide +kernel
theorem dX8_pressOf_23 : decode cX8_pressOf 23 = .ok (.iload_n 1, 1) := by decide +kernel
theorem dX8_pressOf_24 : decode cX8_pressOf 24 = .ok (.iaload, 1) := by decide +kernel
theorem dX8_pressOf_25 : decode cX8_pressOf 25 = .ok (.iload 4, 2) := by decide +kernel
theorem dX8_pressOf_27 : decode cX8_pressOf 27 = .ok (.imul, 1) := by decide +kernel
theorem dX8_pressOf_28 : decode cX8_pressOf 28 = .ok (.bipush 10, 2) := by decide +kernel
theorem dX8_pressOf_30 : decode cX8_pressOf 30 = .ok (.idiv, 1) := by decide +kernel
theorem dX8_pressOf_31 : decode cX8_pressOf 31 = .ok (.iadd, 1) := by decide +kernel
theorem dX8_pressOf_32 : decode cX8_pressOf 32 = .ok (.ireturn, 1) := by decide +kernel
theorem dX8_felt_0 : decode cX8_felt 0 = .ok (.aload_n 0, 1) := by decide +kernel
theorem dX8_felt_1 : decode cX8_felt 1 = .ok (.iload_n 1, 1) := by decide +kernel
theorem dX8_felt_2 : decode cX8_felt 2 = .ok (.aload_n 0, 1) := by decide +kernel
theorem dX8_felt_3 : decode cX8_felt 3 = .ok (.getfield 67, 3) := by decide +kernel
theorem dX8_felt_6 : decode cX8_felt 6 = .ok (.iconst 2, 1) := by decide +kernel
theorem dX8_felt_7 : decode cX8_felt 7 = .ok (.iload_n 1, 1) := by decide +kernel
theorem dX8_felt_8 : decode cX8_felt 8 = .ok (.imul, 1) := by decide +kernel
theorem dX8_felt_9 : decode cX8_felt 9 = .ok (.iaload, 1) := by decide +kernel
theorem dX8_felt_10 : decode cX8_felt 10 = .ok (.iload_n 2, 1) := by decide +kernel
theorem dX8_felt_11 : decode cX8_felt 11 = .ok (.iadd, 1) := by decide +kernel
theorem dX8_felt_12 : decode cX8_felt 12 = .ok (.aload_n 0, 1) := by decide +kernel
theorem dX8_felt_13 : decode cX8_felt 13 = .ok (.getfield 67, 3) := by decide +kernel
theorem dX8_felt_16 : decode cX8_felt 16 = .ok (.iconst 2, 1) := by decide +kernel
theorem dX8_felt_17 : decode cX8_felt 17 = .ok (.iload_n 1, 1) := by decide +kernel
theorem dX8_felt_18 : decode cX8_felt 18 = .ok (.imul, 1) := by decide +kernel
theorem dX8_felt_19 : decode cX8_felt 19 = .ok (.iconst 1, 1) := by decide +kernel
theorem dX8_felt_20 : decode cX8_felt 20 = .ok (.iadd, 1) := by decide +kernel
theorem dX8_felt_21 : decode cX8_felt 21 = .ok (.iaload, 1) := by decide +kernel
theorem dX8_felt_22 : decode cX8_felt 22 = .ok (.iload_n 3, 1) := by decide +kernel
theorem dX8_felt_23 : decode cX8_felt 23 = .ok (.iadd, 1) := by decide +kernel
theorem dX8_felt_24 : decode cX8_felt 24 = .ok (.invokevirtual 197, 3) := by decide +kernel
theorem dX8_felt_27 : decode cX8_felt 27 = .ok (.aload_n 0, 1) := by decide +kernel
theorem dX8_felt_28 : decode cX8_felt 28 = .ok (.iload_n 1, 1) := by decide +kernel
theorem dX8_felt_29 : decode cX8_felt 29 = .ok (.invokevirtual 201, 3) := by decide +kernel
theorem dX8_felt_32 : decode cX8_felt 32 = .ok (.isub, 1) := by decide +kernel
theorem dX8_felt_33 : decode cX8_felt 33 = .ok (.ireturn, 1) := by decide +kernel
theorem dX8_below_0 : decode cX8_below 0 = .ok (.iconst 0, 1) := by decide +kernel
theorem dX8_below_1 : decode cX8_below 1 = .ok (.istore_n 3, 1) := by decide +kernel
theorem dX8_below_2 : decode cX8_below 2 = .ok (.iconst 0, 1) := by decide +kernel
theorem dX8_below_3 : decode cX8_below 3 = .ok (.istore 4, 2) := by decide +kernel
theorem dX8_below_5 : decode cX8_below 5 = .ok (.iload 4, 2) := by decide +kernel
theorem dX8_below_7 : decode cX8_below 7 = .ok (.aload_n 0, 1) := by decide +kernel
theorem dX8_below_8 : decode cX8_below 8 = .ok (.getfield 37, 3) := by decide +kernel
theorem dX8_below_11 : decode cX8_below 11 = .ok (.iload_n 1, 1) := by decide +kernel
theorem dX8_below_12 : decode cX8_below 12 = .ok (.iaload, 1) := by decide +kernel
theorem dX8_below_13 : decode cX8_below 13 = .ok (.if_icmp .ge 56, 3) := by decide +kernel
theorem dX8_below_16 : decode cX8_below 16 = .ok (.iload_n 3, 1) := by decide +kernel
theorem dX8_below_17 : decode cX8_below 17 = .ok (.aload_n 0, 1) := by decide +kernel
theorem dX8_below_18 : decode cX8_below 18 = .ok (.getfield 49, 3) := by decide +kernel
theorem dX8_below_21 : decode cX8_below 21 = .ok (.iload_n 1, 1) := by decide +kernel
theorem dX8_below_22 : decode cX8_below 22 = .ok (.iaload, 1) := by decide +kernel
theorem dX8_below_23 : decode cX8_below 23 = .ok (.iload 4, 2) := by decide +kernel
theorem dX8_below_25 : decode cX8_below 25 = .ok (.invokestatic 204, 3) := by decide +kernel
theorem dX8_below_28 : decode cX8_below 28 = .ok (.ifCond .eq 32, 3) := by decide +kernel
theorem dX8_below_31 : decode cX8_below 31 = .ok (.aload_n 0, 1) := by decide +kernel
theorem dX8_below_32 : decode cX8_below 32 = .ok (.getfield 31, 3) := by decide +kernel
theorem dX8_below_35 : decode cX8_below 35 = .ok (.iconst 4, 1) := by decide +kernel
theorem dX8_below_36 : decode cX8_below 36 = .ok (.iload_n 1, 1) := by decide +kernel
theorem dX8_below_37 : decode cX8_below 37 = .ok (.imul, 1) := by decide +kernel
theorem dX8_below_38 : decode cX8_below 38 = .ok (.iload 4, 2) := by decide +kernel
theorem dX8_below_40 : decode cX8_below 40 = .ok (.iadd, 1) := by decide +kernel
theorem dX8_below_41 : decode cX8_below 41 = .ok (.iaload, 1) := by decide +kernel
theorem dX8_below_42 : decode cX8_below 42 = .ok (.iload_n 2, 1) := by decide +kernel
theorem dX8_below_43 : decode cX8_below 43 = .ok (.if_icmp .ge 17, 3) := by decide +kernel
theorem dX8_below_46 : decode cX8_below 46 = .ok (.aload_n 0, 1) := by decide +kernel
theorem dX8_below_47 : decode cX8_below 47 = .ok (.getfield 34, 3) := by decide +kernel
theorem dX8_below_50 : decode cX8_below 50 = .ok (.iconst 4, 1) := by decide +kernel
theorem dX8_below_51 : decode cX8_below 51 = .ok (.iload_n 1, 1) := by decide +kernel
theorem dX8_below_52 : decode cX8_below 52 = .ok (.imul, 1) := by decide +kernel
theorem dX8_below_53 : decode cX8_below 53 = .ok (.iload 4, 2) := by decide +kernel
theorem dX8_below_55 : decode cX8_below 55 = .ok (.iadd, 1) := by decide +kernel
theorem dX8_below_56 : decode cX8_below 56 = .ok (.iaload, 1) := by decide +kernel
theorem dX8_below_57 : decode cX8_below 57 = .ok (.goto 4, 3) := by decide +kernel
theorem dX8_below_60 : decode cX8_below 60 = .ok (.iconst 0, 1) := by decide +kernel
theorem dX8_below_61 : decode cX8_below 61 = .ok (.iadd, 1) := by decide +kernel
theorem dX8_below_62 : decode cX8_below 62 = .ok (.istore_n 3, 1) := by decide +kernel
theorem dX8_below_63 : decode cX8_below 63 = .ok (.iinc 4 1, 3) := by decide +kernel
theorem dX8_below_66 : decode cX8_below 66 = .ok (.goto (-61), 3) := by decide +kernel
theorem dX8_below_69 : decode cX8_below 69 = .ok (.iload_n 3, 1) := by decide +kernel
theorem dX8_below_70 : decode cX8_below 70 = .ok (.ireturn, 1) := by decide +kernel
theorem dX8_chances_0 : decode cX8_chances 0 = .ok (.aload_n 0, 1) := by decide +kernel
theorem dX8_chances_1 : decode cX8_chances 1 = .ok (.iload_n 1, 1) := by decide +kernel
theorem dX8_chances_2 : decode cX8_chances 2 = .ok (.ldc 208, 2) := by decide +kernel
theorem dX8_chances_4 : decode cX8_chances 4 = .ok (.invokevirtual 209, 3) := by decide +kernel
theorem dX8_chances_7 : decode cX8_chances 7 = .ok (.ireturn, 1) := by decide +kernel
theorem dX8_feel_0 : decode cX8_feel 0 = .ok (.aload_n 0, 1) := by decide +kernel
theorem dX8_feel_1 : decode cX8_feel 1 = .ok (.invokevirtual 212, 3) := by decide +kernel
theorem dX8_feel_4 : decode cX8_feel 4 = .ok (.iconst 0, 1) := by decide +kernel
theorem dX8_feel_5 : decode cX8_feel 5 = .ok (.istore_n 1, 1) := by decide +kernel
theorem dX8_feel_6 : decode cX8_feel 6 = .ok (.iload_n 1, 1) := by decide +kernel
theorem dX8_feel_7 : decode cX8_feel 7 = .ok (.aload_n 0, 1) := by decide +kernel
theorem dX8_feel_8 : decode cX8_feel 8 = .ok (.getfield 82, 3) := by decide +kernel
theorem dX8_feel_11 : decode cX8_feel 11 = .ok (.if_icmp .ge 183, 3) := by decide +kernel
theorem dX8_feel_14 : decode cX8_feel 14 = .ok (.aload_n 0, 1) := by decide +kernel
theorem dX8_feel_15 : decode cX8_feel 15 = .ok (.getfield 163, 3) := by decide +kernel
theorem dX8_feel_18 : decode cX8_feel 18 = .ok (.iload_n 1, 1) := by decide +kernel
theorem dX8_feel_19 : decode cX8_feel 19 = .ok (.invokestatic 204, 3) := by decide +kernel
theorem dX8_feel_22 : decode cX8_feel 22 = .ok (.ifCond .eq 166, 3) := by decide +kernel
theorem dX8_feel_25 : decode cX8_feel 25 = .ok (.aload_n 0, 1) := by decide +kernel
theorem dX8_feel_26 : decode cX8_feel 26 = .ok (.iload_n 1, 1) := by decide +kernel
theorem dX8_feel_27 : decode cX8_feel 27 = .ok (.iconst 0, 1) := by decide +kernel
theorem dX8_feel_28 : decode cX8_feel 28 = .ok (.iconst 0, 1) := by decide +kernel
theorem dX8_feel_29 : decode cX8_feel 29 = .ok (.invokevirtual 215, 3) := by decide +kernel
theorem dX8_feel_32 : decode cX8_feel 32 = .ok (.istore_n 2, 1) := by decide +kernel
theorem dX8_feel_33 : decode cX8_feel 33 = .ok (.aload_n 0, 1) := by decide +kernel
theorem dX8_feel_34 : decode cX8_feel 34 = .ok (.iload_n 1, 1) := by decide +kernel
theorem dX8_feel_35 : decode cX8_feel 35 = .ok (.iload_n 2, 1) := by decide +kernel
theorem dX8_feel_36 : decode cX8_feel 36 = .ok (.invokevirtual 209, 3) := by decide +kernel
theorem dX8_feel_39 : decode cX8_feel 39 = .ok (.aload_n 0, 1) := by decide +kernel
theorem dX8_feel_40 : decode cX8_feel 40 = .ok (.iload_n 1, 1) := by decide +kernel
theorem dX8_feel_41 : decode cX8_feel 41 = .ok (.invokevirtual 218, 3) := by decide +kernel
theorem dX8_feel_44 : decode cX8_feel 44 = .ok (.if_icmp .ne 40, 3) := by decide +kernel
theorem dX8_feel_47 : decode cX8_feel 47 = .ok (.aload_n 0, 1) := by decide +kernel
theorem dX8_feel_48 : decode cX8_feel 48 = .ok (.dup, 1) := by decide +kernel
theorem dX8_feel_49 : decode cX8_feel 49 = .ok (.getfield 163, 3) := by decide +kernel
theorem dX8_feel_52 : decode cX8_feel 52 = .ok (.iconst 1, 1) := by decide +kernel
theorem dX8_feel_53 : decode cX8_feel 53 = .ok (.iload_n 1, 1) := by decide +kernel
theorem dX8_feel_54 : decode cX8_feel 54 = .ok (.ishl, 1) := by decide +kernel
theorem dX8_feel_55 : decode cX8_feel 55 = .ok (.iconst (-1), 1) := by decide +kernel
theorem dX8_feel_56 : decode cX8_feel 56 = .ok (.ixor, 1) := by decide +kernel
theorem dX8_feel_57 : decode cX8_feel 57 = .ok (.iand, 1) := by decide +kernel
theorem dX8_feel_58 : decode cX8_feel 58 = .ok (.putfield 163, 3) := by decide +kernel
theorem dX8_feel_61 : decode cX8_feel 61 = .ok (.aload_n 0, 1) := by decide +kernel
theorem dX8_feel_62 : decode cX8_feel 62 = .ok (.getfield 46, 3) := by decide +kernel
theorem dX8_feel_65 : decode cX8_feel 65 = .ok (.iconst 2, 1) := by decide +kernel
theorem dX8_feel_66 : decode cX8_feel 66 = .ok (.iload_n 1, 1) := by decide +kernel
theorem dX8_feel_67 : decode cX8_feel 67 = .ok (.imul, 1) := by decide +kernel
theorem dX8_feel_68 : decode cX8_feel 68 = .ok (.iconst 0, 1) := by decide +kernel
theorem dX8_feel_69 : decode cX8_feel 69 = .ok (.iastore, 1) := by decide +kernel
theorem dX8_feel_70 : decode cX8_feel 70 = .ok (.aload_n 0, 1) := by decide +kernel
theorem dX8_feel_71 : decode cX8_feel 71 = .ok (.getfield 46, 3) := by decide +kernel
theorem dX8_feel_74 : decode cX8_feel 74 = .ok (.iconst 2, 1) := by decide +kernel
theorem dX8_feel_75 : decode cX8_feel 75 = .ok (.iload_n 1, 1) := by decide +kernel
theorem dX8_feel_76 : decode cX8_feel 76 = .ok (.imul, 1) := by decide +kernel
theorem dX8_feel_77 : decode cX8_feel 77 = .ok (.iconst 1, 1) := by decide +kernel
theorem dX8_feel_78 : decode cX8_feel 78 = .ok (.iadd, 1) := by decide +kernel
theorem dX8_feel_79 : decode cX8_feel 79 = .ok (.iconst 0, 1) := by decide +kernel
theorem dX8_feel_80 : decode cX8_feel 80 = .ok (.iastore, 1) := by decide +kernel
theorem dX8_feel_81 : decode cX8_feel 81 = .ok (.goto 107, 3) := by decide +kernel
theorem dX8_feel_84 : decode cX8_feel 84 = .ok (.aload_n 0, 1) := by decide +kernel
theorem dX8_feel_85 : decode cX8_feel 85 = .ok (.iload_n 1, 1) := by decide +kernel
theorem dX8_feel_86 : decode cX8_feel 86 = .ok (.aload_n 0, 1) := by decide +kernel
theorem dX8_feel_87 : decode cX8_feel 87 = .ok (.getfield 46, 3) := by decide +kernel
theorem dX8_feel_90 : decode cX8_feel 90 = .ok (.iconst 2, 1) := by decide +kernel
theorem dX8_feel_91 : decode cX8_feel 91 = .ok (.iload_n 1, 1) := by decide +kernel
theorem dX8_feel_92 : decode cX8_feel 92 = .ok (.imul, 1) := by decide +kernel
theorem dX8_feel_93 : decode cX8_feel 93 = .ok (.iaload, 1) := by decide +kernel
theorem dX8_feel_94 : decode cX8_feel 94 = .ok (.aload_n 0, 1) := by decide +kernel
theorem dX8_feel_95 : decode cX8_feel 95 = .ok (.getfield 46, 3) := by decide +kernel
theorem dX8_feel_98 : decode cX8_feel 98 = .ok (.iconst 2, 1) := by decide +kernel
theorem dX8_feel_99 : decode cX8_feel 99 = .ok (.iload_n 1, 1) := by decide +kernel
theorem dX8_feel_100 : decode cX8_feel 100 = .ok (.imul, 1) := by decide +kernel
theorem dX8_feel_101 : decode cX8_feel 101 = .ok (.iconst 1, 1) := by decide +kernel
theorem dX8_feel_102 : decode cX8_feel 102 = .ok (.iadd, 1) := by decide +kernel
theorem dX8_feel_103 : decode cX8_feel 103 = .ok (.iaload, 1) := by decide +kernel
theorem dX8_feel_104 : decode cX8_feel 104 = .ok (.invokevirtual 197, 3) := by decide +kernel
theorem dX8_feel_107 : decode cX8_feel 107 = .ok (.istore_n 3, 1) := by decide +kernel
theorem dX8_feel_108 : decode cX8_feel 108 = .ok (.aload_n 0, 1) := by decide +kernel
theorem dX8_feel_109 : decode cX8_feel 109 = .ok (.getfield 52, 3) := by decide +kernel
theorem dX8_feel_112 : decode cX8_feel 112 = .ok (.iload_n 1, 1) := by decide +kernel
theorem dX8_feel_113 : decode cX8_feel 113 = .ok (.iload_n 3, 1) := by decide +kernel
theorem dX8_feel_114 : decode cX8_feel 114 = .ok (.aload_n 0, 1) := by decide +kernel
theorem dX8_feel_115 : decode cX8_feel 115 = .ok (.getfield 52, 3) := by decide +kernel
theorem dX8_feel_118 : decode cX8_feel 118 = .ok (.iload_n 1, 1) := by decide +kernel
theorem dX8_feel_119 : decode cX8_feel 119 = .ok (.iaload, 1) := by decide +kernel
theorem dX8_feel_120 : decode cX8_feel 120 = .ok (.if_icmp .le 7, 3) := by decide +kernel
theorem dX8_feel_123 : decode cX8_feel 123 = .ok (.iload_n 3, 1) := by decide +kernel
theorem dX8_feel_124 : decode cX8_feel 124 = .ok (.goto 9, 3) := by decide +kernel
theorem dX8_feel_127 : decode cX8_feel 127 = .ok (.aload_n 0, 1) := by decide +kernel
theorem dX8_feel_128 : decode cX8_feel 128 = .ok (.getfield 52, 3) := by decide +kernel
theorem dX8_feel_131 : decode cX8_feel 131 = .ok (.iload_n 1, 1) := by decide +kernel
theorem dX8_feel_132 : decode cX8_feel 132 = .ok (.iaload, 1) := by decide +kernel
theorem dX8_feel_133 : decode cX8_feel 133 = .ok (.iastore, 1) := by decide +kernel
theorem dX8_feel_134 : decode cX8_feel 134 = .ok (.iconst 0, 1) := by decide +kernel
theorem dX8_feel_135 : decode cX8_feel 135 = .ok (.istore 4, 2) := by decide +kernel
theorem dX8_feel_137 : decode cX8_feel 137 = .ok (.iload 4, 2) := by decide +kernel
theorem dX8_feel_139 : decode cX8_feel 139 = .ok (.aload_n 0, 1) := by decide +kernel
theorem dX8_feel_140 : decode cX8_feel 140 = .ok (.getfield 37, 3) := by decide +kernel
theorem dX8_feel_143 : decode cX8_feel 143 = .ok (.iload_n 1, 1) := by decide +kernel
theorem dX8_feel_144 : decode cX8_feel 144 = .ok (.iaload, 1) := by decide +kernel
theorem dX8_feel_145 : decode cX8_feel 145 = .ok (.if_icmp .ge 43, 3) := by decide +kernel
theorem dX8_feel_148 : decode cX8_feel 148 = .ok (.aload_n 0, 1) := by decide +kernel
theorem dX8_feel_149 : decode cX8_feel 149 = .ok (.getfield 49, 3) := by decide +kernel
theorem dX8_feel_152 : decode cX8_feel 152 = .ok (.iload_n 1, 1) := by decide +kernel
theorem dX8_feel_153 : decode cX8_feel 153 = .ok (.dup2, 1) := by decide +kernel
theorem dX8_feel_154 : decode cX8_feel 154 = .ok (.iaload, 1) := by decide +kernel
theorem dX8_feel_155 : decode cX8_feel 155 = .ok (.aload_n 0, 1) := by decide +kernel
theorem dX8_feel_156 : decode cX8_feel 156 = .ok (.getfield 31, 3) := by decide +kernel
theorem dX8_feel_159 : decode cX8_feel 159 = .ok (.iconst 4, 1) := by decide +kernel
theorem dX8_feel_160 : decode cX8_feel 160 = .ok (.iload_n 1, 1) := by decide +kernel
theorem dX8_feel_161 : decode cX8_feel 161 = .ok (.imul, 1) := by decide +kernel
theorem dX8_feel_162 : decode cX8_feel 162 = .ok (.iload 4, 2) := by decide +kernel
theorem dX8_feel_164 : decode cX8_feel 164 = .ok (.iadd, 1) := by decide +kernel
theorem dX8_feel_165 : decode cX8_feel 165 = .ok (.iaload, 1) := by decide +kernel
theorem dX8_feel_166 : decode cX8_feel 166 = .ok (.iload_n 2, 1) := by decide +kernel
theorem dX8_feel_167 : decode cX8_feel 167 = .ok (.if_icmp .ge 12, 3) := by decide +kernel
theorem dX8_feel_170 : decode cX8_feel 170 = .ok (.iconst 1, 1) := by decide +kernel
theorem dX8_feel_171 : decode cX8_feel 171 = .ok (.iload 4, 2) := by decide +kernel
theorem dX8_feel_173 : decode cX8_feel 173 = .ok (.ishl, 1) := by decide +kernel
theorem dX8_feel_174 : decode cX8_feel 174 = .ok (.iconst (-1), 1) := by decide +kernel
theorem dX8_feel_175 : decode cX8_feel 175 = .ok (.ixor, 1) := by decide +kernel
theorem dX8_feel_176 : decode cX8_feel 176 = .ok (.goto 4, 3) := by decide +kernel
theorem dX8_feel_179 : decode cX8_feel 179 = .ok (.iconst (-1), 1) := by decide +kernel
theorem dX8_feel_180 : decode cX8_feel 180 = .ok (.iand, 1) := by decide +kernel
theorem dX8_feel_181 : decode cX8_feel 181 = .ok (.iastore, 1) := by decide +kernel
theorem dX8_feel_182 : decode cX8_feel 182 = .ok (.iinc 4 1, 3) := by decide +kernel
theorem dX8_feel_185 : decode cX8_feel 185 = .ok (.goto (-48), 3) := by decide +kernel
theorem dX8_feel_188 : decode cX8_feel 188 = .ok (.iinc 1 1, 3) := by decide +kernel
theorem dX8_feel_191 : decode cX8_feel 191 = .ok (.goto (-185), 3) := by decide +kernel
theorem dX8_feel_194 : decode cX8_feel 194 = .ok (.return_, 1) := by decide +kernel
theorem dX8_isRoof_0 : decode cX8_isRoof 0 = .ok (.iload_n 1, 1) := by decide +kernel
theorem dX8_isRoof_1 : decode cX8_isRoof 1 = .ok (.i2l, 1) := by decide +kernel
theorem dX8_isRoof_2 : decode cX8_isRoof 2 = .ok (.lconst 0, 1) := by decide +kernel
theorem dX8_isRoof_3 : decode cX8_isRoof 3 = .ok (.aload_n 0, 1) := by decide +kernel
theorem dX8_isRoof_4 : decode cX8_isRoof 4 = .ok (.getfield 82, 3) := by decide +kernel
theorem dX8_isRoof_7 : decode cX8_isRoof 7 = .ok (.iconst 1, 1) := by decide +kernel
theorem dX8_isRoof_8 : decode cX8_isRoof 8 = .ok (.isub, 1) := by decide +kernel
theorem dX8_isRoof_9 : decode cX8_isRoof 9 = .ok (.i2l, 1) := by decide +kernel
theorem dX8_isRoof_10 : decode cX8_isRoof 10 = .ok (.invokestatic 99, 3) := by decide +kernel
theorem dX8_isRoof_13 : decode cX8_isRoof 13 = .ok (.ireturn, 1) := by decide +kernel
theorem dX8_roof_0 : decode cX8_roof 0 = .ok (.aload_n 0, 1) := by decide +kernel
theorem dX8_roof_1 : decode cX8_roof 1 = .ok (.iload_n 1, 1) := by decide +kernel
theorem dX8_roof_2 : decode cX8_roof 2 = .ok (.invokevirtual 221, 3) := by decide +kernel
theorem dX8_roof_5 : decode cX8_roof 5 = .ok (.ifCond .ne 5, 3) := by decide +kernel
theorem dX8_roof_8 : decode cX8_roof 8 = .ok (.iconst (-1), 1) := by decide +kernel
theorem dX8_roof_9 : decode cX8_roof 9 = .ok (.ireturn, 1) := by decide +kernel
theorem dX8_roof_10 : decode cX8_roof 10 = .ok (.aload_n 0, 1) := by decide +kernel
theorem dX8_roof_11 : decode cX8_roof 11 = .ok (.invokevirtual 212, 3) := by decide +kernel
theorem dX8_roof_14 : decode cX8_roof 14 = .ok (.iload_n 2, 1) := by decide +kernel
theorem dX8_roof_15 : decode cX8_roof 15 = .ok (.tableswitch 116 0 7 #[45, 45, 56, 80, 86, 93, 102, 109], 45) := by decide +kernel
theorem dX8_roof_60 : decode cX8_roof 60 = .ok (.aload_n 0, 1) := by decide +kernel
theorem dX8_roof_61 : decode cX8_roof 61 = .ok (.getfield 46, 3) := by decide +kernel
theorem dX8_roof_64 : decode cX8_roof 64 = .ok (.iconst 2, 1) := by decide +kernel
theorem dX8_roof_65 : decode cX8_roof 65 = .ok (.iload_n 1, 1) := by decide +kernel
theorem dX8_roof_66 : decode cX8_roof 66 = .ok (.imul, 1) := by decide +kernel
theorem dX8_roof_67 : decode cX8_roof 67 = .ok (.iload_n 2, 1) := by decide +kernel
theorem dX8_roof_68 : decode cX8_roof 68 = .ok (.iadd, 1) := by decide +kernel
theorem dX8_roof_69 : decode cX8_roof 69 = .ok (.iaload, 1) := by decide +kernel
theorem dX8_roof_70 : decode cX8_roof 70 = .ok (.ireturn, 1) := by decide +kernel
theorem dX8_roof_71 : decode cX8_roof 71 = .ok (.aload_n 0, 1) := by decide +kernel
theorem dX8_roof_72 : decode cX8_roof 72 = .ok (.iload_n 1, 1) := by decide +kernel
theorem dX8_roof_73 : decode cX8_roof 73 = .ok (.aload_n 0, 1) := by decide +kernel
theorem dX8_roof_74 : decode cX8_roof 74 = .ok (.getfield 46, 3) := by decide +kernel
theorem dX8_roof_77 : decode cX8_roof 77 = .ok (.iconst 2, 1) := by decide +kernel
theorem dX8_roof_78 : decode cX8_roof 78 = .ok (.iload_n 1, 1) := by decide +kernel
theorem dX8_roof_79 : decode cX8_roof 79 = .ok (.imul, 1) := by decide +kernel
theorem dX8_roof_80 : decode cX8_roof 80 = .ok (.iaload, 1) := by decide +kernel
theorem dX8_roof_81 : decode cX8_roof 81 = .ok (.aload_n 0, 1) := by decide +kernel
theorem dX8_roof_82 : decode cX8_roof 82 = .ok (.getfield 46, 3) := by decide +kernel
theorem dX8_roof_85 : decode cX8_roof 85 = .ok (.iconst 2, 1) := by decide +kernel
theorem dX8_roof_86 : decode cX8_roof 86 = .ok (.iload_n 1, 1) := by decide +kernel
theorem dX8_roof_87 : decode cX8_roof 87 = .ok (.imul, 1) := by decide +kernel
theorem dX8_roof_88 : decode cX8_roof 88 = .ok (.iconst 1, 1) := by decide +kernel
theorem dX8_roof_89 : decode cX8_roof 89 = .ok (.iadd, 1) := by decide +kernel
theorem dX8_roof_90 : decode cX8_roof 90 = .ok (.iaload, 1) := by decide +kernel
theorem dX8_roof_91 : decode cX8_roof 91 = .ok (.invokevirtual 197, 3) := by decide +kernel
theorem dX8_roof_94 : decode cX8_roof 94 = .ok (.ireturn, 1) := by decide +kernel
theorem dX8_roof_95 : decode cX8_roof 95 = .ok (.aload_n 0, 1) := by decide +kernel
theorem dX8_roof_96 : decode cX8_roof 96 = .ok (.iload_n 1, 1) := by decide +kernel
theorem dX8_roof_97 : decode cX8_roof 97 = .ok (.invokevirtual 201, 3) := by decide +kernel
theorem dX8_roof_100 : decode cX8_roof 100 = .ok (.ireturn, 1) := by decide +kernel
theorem dX8_roof_101 : decode cX8_roof 101 = .ok (.aload_n 0, 1) := by decide +kernel
theorem dX8_roof_102 : decode cX8_roof 102 = .ok (.getfield 58, 3) := by decide +kernel
theorem dX8_roof_105 : decode cX8_roof 105 = .ok (.iload_n 1, 1) := by decide +kernel
theorem dX8_roof_106 : decode cX8_roof 106 = .ok (.iaload, 1) := by decide +kernel
theorem dX8_roof_107 : decode cX8_roof 107 = .ok (.ireturn, 1) := by decide +kernel
theorem dX8_roof_108 : decode cX8_roof 108 = .ok (.aload_n 0, 1) := by decide +kernel
theorem dX8_roof_109 : decode cX8_roof 109 = .ok (.getfield 163, 3) := by decide +kernel
theorem dX8_roof_112 : decode cX8_roof 112 = .ok (.iload_n 1, 1) := by decide +kernel
theorem dX8_roof_113 : decode cX8_roof 113 = .ok (.ishr, 1) := by decide +kernel
theorem dX8_roof_114 : decode cX8_roof 114 = .ok (.iconst 1, 1) := by decide +kernel
theorem dX8_roof_115 : decode cX8_roof 115 = .ok (.iand, 1) := by decide +kernel
theorem dX8_roof_116 : decode cX8_roof 116 = .ok (.ireturn, 1) := by decide +kernel
theorem dX8_roof_117 : decode cX8_roof 117 = .ok (.aload_n 0, 1) := by decide +kernel
theorem dX8_roof_118 : decode cX8_roof 118 = .ok (.getfield 52, 3) := by decide +kernel
theorem dX8_roof_121 : decode cX8_roof 121 = .ok (.iload_n 1, 1) := by decide +kernel
theorem dX8_roof_122 : decode cX8_roof 122 = .ok (.iaload, 1) := by decide +kernel
theorem dX8_roof_123 : decode cX8_roof 123 = .ok (.ireturn, 1) := by decide +kernel
theorem dX8_roof_124 : decode cX8_roof 124 = .ok (.aload_n 0, 1) := by decide +kernel
theorem dX8_roof_125 : decode cX8_roof 125 = .ok (.getfield 28, 3) := by decide +kernel
theorem dX8_roof_128 : decode cX8_roof 128 = .ok (.iload_n 1, 1) := by decide +kernel
theorem dX8_roof_129 : decode cX8_roof 129 = .ok (.iaload, 1) := by decide +kernel
theorem dX8_roof_130 : decode cX8_roof 130 = .ok (.ireturn, 1) := by decide +kernel
theorem dX8_roof_131 : decode cX8_roof 131 = .ok (.iconst (-1), 1) := by decide +kernel
theorem dX8_roof_132 : decode cX8_roof 132 = .ok (.ireturn, 1) := by decide +kernel
theorem dX8_thought_0 : decode cX8_thought 0 = .ok (.aload_n 0, 1) := by decide +kernel
theorem dX8_thought_1 : decode cX8_thought 1 = .ok (.iload_n 1, 1) := by decide +kernel
theorem dX8_thought_2 : decode cX8_thought 2 = .ok (.invokevirtual 221, 3) := by decide +kernel
theorem dX8_thought_5 : decode cX8_thought 5 = .ok (.ifCond .eq 17, 3) := by decide +kernel
theorem dX8_thought_8 : decode cX8_thought 8 = .ok (.iload_n 2, 1) := by decide +kernel
theorem dX8_thought_9 : decode cX8_thought 9 = .ok (.i2l, 1) := by decide +kernel
theorem dX8_thought_10 : decode cX8_thought 10 = .ok (.ldc2_w 224, 3) := by decide +kernel
theorem dX8_thought_13 : decode cX8_thought 13 = .ok (.ldc2_w 226, 3) := by decide +kernel
theorem dX8_thought_16 : decode cX8_thought 16 = .ok (.invokestatic 99, 3) := by decide +kernel
theorem dX8_thought_19 : decode cX8_thought 19 = .ok (.ifCond .ne 5, 3) := by decide +kernel
theorem dX8_thought_22 : decode cX8_thought 22 = .ok (.iconst (-1), 1) := by decide +kernel
theorem dX8_thought_23 : decode cX8_thought 23 = .ok (.ireturn, 1) := by decide +kernel
theorem dX8_thought_24 : decode cX8_thought 24 = .ok (.aload_n 0, 1) := by decide +kernel
theorem dX8_thought_25 : decode cX8_thought 25 = .ok (.getfield 163, 3) := by decide +kernel
theorem dX8_thought_28 : decode cX8_thought 28 = .ok (.iload_n 1, 1) := by decide +kernel
theorem dX8_thought_29 : decode cX8_thought 29 = .ok (.invokestatic 204, 3) := by decide +kernel
theorem dX8_thought_32 : decode cX8_thought 32 = .ok (.ifCond .ne 6, 3) := by decide +kernel
theorem dX8_thought_35 : decode cX8_thought 35 = .ok (.bipush (-2), 2) := by decide +kernel
theorem dX8_thought_37 : decode cX8_thought 37 = .ok (.ireturn, 1) := by decide +kernel
theorem dX8_thought_38 : decode cX8_thought 38 = .ok (.iload_n 2, 1) := by decide +kernel
theorem dX8_thought_39 : decode cX8_thought 39 = .ok (.iconst (-1), 1) := by decide +kernel
theorem dX8_thought_40 : decode cX8_thought 40 = .ok (.if_icmp .ne 11, 3) := by decide +kernel
theorem dX8_thought_43 : decode cX8_thought 43 = .ok (.aload_n 0, 1) := by decide +kernel
theorem dX8_thought_44 : decode cX8_thought 44 = .ok (.iload_n 1, 1) := by decide +kernel
theorem dX8_thought_45 : decode cX8_thought 45 = .ok (.invokevirtual 218, 3) := by decide +kernel
theorem dX8_thought_48 : decode cX8_thought 48 = .ok (.goto 40, 3) := by decide +kernel
theorem dX8_thought_51 : decode cX8_thought 51 = .ok (.iload_n 2, 1) := by decide +kernel
theorem dX8_thought_52 : decode cX8_thought 52 = .ok (.aload_n 0, 1) := by decide +kernel
theorem dX8_thought_53 : decode cX8_thought 53 = .ok (.getfield 37, 3) := by decide +kernel
theorem dX8_thought_56 : decode cX8_thought 56 = .ok (.iload_n 1, 1) := by decide +kernel
theorem dX8_thought_57 : decode cX8_thought 57 = .ok (.iaload, 1) := by decide +kernel
theorem dX8_thought_58 : decode cX8_thought 58 = .ok (.if_icmp .ge 29, 3) := by decide +kernel
theorem dX8_thought_61 : decode cX8_thought 61 = .ok (.aload_n 0, 1) := by decide +kernel
theorem dX8_thought_62 : decode cX8_thought 62 = .ok (.getfield 49, 3) := by decide +kernel
theorem dX8_thought_65 : decode cX8_thought 65 = .ok (.iload_n 1, 1) := by decide +kernel
theorem dX8_thought_66 : decode cX8_thought 66 = .ok (.iaload, 1) := by decide +kernel
theorem dX8_thought_67 : decode cX8_thought 67 = .ok (.iload_n 2, 1) := by decide +kernel
theorem dX8_thought_68 : decode cX8_thought 68 = .ok (.invokestatic 204, 3) := by decide +kernel
theorem dX8_thought_71 : decode cX8_thought 71 = .ok (.ifCond .eq 16, 3) := by decide +kernel
theorem dX8_thought_74 : decode cX8_thought 74 = .ok (.aload_n 0, 1) := by decide +kernel
theorem dX8_thought_75 : decode cX8_thought 75 = .ok (.getfield 34, 3) := by decide +kernel
theorem dX8_thought_78 : decode cX8_thought 78 = .ok (.iconst 4, 1) := by decide +kernel
theorem dX8_thought_79 : decode cX8_thought 79 = .ok (.iload_n 1, 1) := by decide +kernel
theorem dX8_thought_80 : decode cX8_thought 80 = .ok (.imul, 1) := by decide +kernel
theorem dX8_thought_81 : decode cX8_thought 81 = .ok (.iload_n 2, 1) := by decide +kernel
theorem dX8_thought_82 : decode cX8_thought 82 = .ok (.iadd, 1) := by decide +kernel
theorem dX8_thought_83 : decode cX8_thought 83 = .ok (.iaload, 1) := by decide +kernel
theorem dX8_thought_84 : decode cX8_thought 84 = .ok (.goto 4, 3) := by decide +kernel
theorem dX8_thought_87 : decode cX8_thought 87 = .ok (.iconst 0, 1) := by decide +kernel
theorem dX8_thought_88 : decode cX8_thought 88 = .ok (.ireturn, 1) := by decide +kernel
theorem dX8_now_0 : decode cX8_now 0 = .ok (.iload_n 1, 1) := by decide +kernel
theorem dX8_now_1 : decode cX8_now 1 = .ok (.tableswitch 51 0 3 #[31, 36, 41, 46], 31) := by decide +kernel
theorem dX8_now_32 : decode cX8_now 32 = .ok (.aload_n 0, 1) := by decide +kernel
theorem dX8_now_33 : decode cX8_now 33 = .ok (.getfield 166, 3) := by decide +kernel
theorem dX8_now_36 : decode cX8_now 36 = .ok (.ireturn, 1) := by decide +kernel
theorem dX8_now_37 : decode cX8_now 37 = .ok (.aload_n 0, 1) := by decide +kernel
theorem dX8_now_38 : decode cX8_now 38 = .ok (.getfield 160, 3) := by decide +kernel
theorem dX8_now_41 : decode cX8_now 41 = .ok (.ireturn, 1) := by decide +kernel
theorem dX8_now_42 : decode cX8_now 42 = .ok (.aload_n 0, 1) := by decide +kernel
theorem dX8_now_43 : decode cX8_now 43 = .ok (.getfield 142, 3) := by decide +kernel
theorem dX8_now_46 : decode cX8_now 46 = .ok (.ireturn, 1) := by decide +kernel
theorem dX8_now_47 : decode cX8_now 47 = .ok (.aload_n 0, 1) := by decide +kernel
theorem dX8_now_48 : decode cX8_now 48 = .ok (.getfield 163, 3) := by decide +kernel
theorem dX8_now_51 : decode cX8_now 51 = .ok (.ireturn, 1) := by decide +kernel
theorem dX8_now_52 : decode cX8_now 52 = .ok (.iconst (-1), 1) := by decide +kernel
theorem dX8_now_53 : decode cX8_now 53 = .ok (.ireturn, 1) := by decide +kernel
theorem dX8_creak_0 : decode cX8_creak 0 = .ok (.aload_n 0, 1) := by decide +kernel
theorem dX8_creak_1 : decode cX8_creak 1 = .ok (.iload_n 1, 1) := by decide +kernel
theorem dX8_creak_2 : decode cX8_creak 2 = .ok (.invokevirtual 221, 3) := by decide +kernel
theorem dX8_creak_5 : decode cX8_creak 5 = .ok (.ifCond .ne 5, 3) := by decide +kernel
theorem dX8_creak_8 : decode cX8_creak 8 = .ok (.iconst (-1), 1) := by decide +kernel
theorem dX8_creak_9 : decode cX8_creak 9 = .ok (.ireturn, 1) := by decide +kernel
theorem dX8_creak_10 : decode cX8_creak 10 = .ok (.aload_n 0, 1) := by decide +kernel
theorem dX8_creak_11 : decode cX8_creak 11 = .ok (.getfield 163, 3) := by decide +kernel
theorem dX8_creak_14 : decode cX8_creak 14 = .ok (.iload_n 1, 1) := by decide +kernel
theorem dX8_creak_15 : decode cX8_creak 15 = .ok (.invokestatic 204, 3) := by decide +kernel
theorem dX8_creak_18 : decode cX8_creak 18 = .ok (.ifCond .ne 6, 3) := by decide +kernel
theorem dX8_creak_21 : decode cX8_creak 21 = .ok (.bipush (-2), 2) := by decide +kernel
theorem dX8_creak_23 : decode cX8_creak 23 = .ok (.ireturn, 1) := by decide +kernel
theorem dX8_creak_24 : decode cX8_creak 24 = .ok (.aload_n 0, 1) := by decide +kernel
theorem dX8_creak_25 : decode cX8_creak 25 = .ok (.invokevirtual 212, 3) := by decide +kernel
theorem dX8_creak_28 : decode cX8_creak 28 = .ok (.aload_n 0, 1) := by decide +kernel
theorem dX8_creak_29 : decode cX8_creak 29 = .ok (.iload_n 1, 1) := by decide +kernel
theorem dX8_creak_30 : decode cX8_creak 30 = .ok (.iconst 0, 1) := by decide +kernel
theorem dX8_creak_31 : decode cX8_creak 31 = .ok (.iconst 0, 1) := by decide +kernel
theorem dX8_creak_32 : decode cX8_creak 32 = .ok (.invokevirtual 215, 3) := by decide +kernel
theorem dX8_creak_35 : decode cX8_creak 35 = .ok (.aload_n 0, 1) := by decide +kernel
theorem dX8_creak_36 : decode cX8_creak 36 = .ok (.getfield 148, 3) := by decide +kernel
theorem dX8_creak_39 : decode cX8_creak 39 = .ok (.iadd, 1) := by decide +kernel
theorem dX8_creak_40 : decode cX8_creak 40 = .ok (.istore_n 3, 1) := by decide +kernel
theorem dX8_creak_41 : decode cX8_creak 41 = .ok (.iconst 0, 1) := by decide +kernel
theorem dX8_creak_42 : decode cX8_creak 42 = .ok (.istore 4, 2) := by decide +kernel
theorem dX8_creak_44 : decode cX8_creak 44 = .ok (.iconst 0, 1) := by decide +kernel
theorem dX8_creak_45 : decode cX8_creak 45 = .ok (.istore 5, 2) := by decide +kernel
theorem dX8_creak_47 : decode cX8_creak 47 = .ok (.iconst 0, 1) := by decide +kernel
theorem dX8_creak_48 : decode cX8_creak 48 = .ok (.istore 6, 2) := by decide +kernel
theorem dX8_creak_50 : decode cX8_creak 50 = .ok (.iload 6, 2) := by decide +kernel
theorem dX8_creak_52 : decode cX8_creak 52 = .ok (.aload_n 0, 1) := by decide +kernel
theorem dX8_creak_53 : decode cX8_creak 53 = .ok (.getfield 37, 3) := by decide +kernel
theorem dX8_creak_56 : decode cX8_creak 56 = .ok (.iload_n 1, 1) := by decide +kernel
theorem dX8_creak_57 : decode cX8_creak 57 = .ok (.iaload, 1) := by decide +kernel
theorem dX8_creak_58 : decode cX8_creak 58 = .ok (.if_icmp .ge 97, 3) := by decide +kernel
theorem dX8_creak_61 : decode cX8_creak 61 = .ok (.aload_n 0, 1) := by decide +kernel
theorem dX8_creak_62 : decode cX8_creak 62 = .ok (.getfield 49, 3) := by decide +kernel
theorem dX8_creak_65 : decode cX8_creak 65 = .ok (.iload_n 1, 1) := by decide +kernel
theorem dX8_creak_66 : decode cX8_creak 66 = .ok (.iaload, 1) := by decide +kernel
theorem dX8_creak_67 : decode cX8_creak 67 = .ok (.iload 6, 2) := by decide +kernel
theorem dX8_creak_69 : decode cX8_creak 69 = .ok (.invokestatic 204, 3) := by decide +kernel
theorem dX8_creak_72 : decode cX8_creak 72 = .ok (.ifCond .eq 31, 3) := by decide +kernel
theorem dX8_creak_75 : decode cX8_creak 75 = .ok (.aload_n 0, 1) := by decide +kernel
theorem dX8_creak_76 : decode cX8_creak 76 = .ok (.getfield 31, 3) := by decide +kernel
theorem dX8_creak_79 : decode cX8_creak 79 = .ok (.iconst 4, 1) := by decide +kernel
theorem dX8_creak_80 : decode cX8_creak 80 = .ok (.iload_n 1, 1) := by decide +kernel
theorem dX8_creak_81 : decode cX8_creak 81 = .ok (.imul, 1) := by decide +kernel
theorem dX8_creak_82 : decode cX8_creak 82 = .ok (.iload 6, 2) := by decide +kernel
theorem dX8_creak_84 : decode cX8_creak 84 = .ok (.iadd, 1) := by decide +kernel
theorem dX8_creak_85 : decode cX8_creak 85 = .ok (.iaload, 1) := by decide +kernel
theorem dX8_creak_86 : decode cX8_creak 86 = .ok (.iload_n 3, 1) := by decide +kernel
theorem dX8_creak_87 : decode cX8_creak 87 = .ok (.if_icmp .ge 7, 3) := by decide +kernel
theorem dX8_creak_90 : decode cX8_creak 90 = .ok (.iconst 1, 1) := by decide +kernel
theorem dX8_creak_91 : decode cX8_creak 91 = .ok (.goto 4, 3) := by decide +kernel
theorem dX8_creak_94 : decode cX8_creak 94 = .ok (.iconst 0, 1) := by decide +kernel
theorem dX8_creak_95 : decode cX8_creak 95 = .ok (.iload_n 2, 1) := by decide +kernel
theorem dX8_creak_96 : decode cX8_creak 96 = .ok (.if_icmp .ne 7, 3) := by decide +kernel
theorem dX8_creak_99 : decode cX8_creak 99 = .ok (.iconst 1, 1) := by decide +kernel
theorem dX8_creak_100 : decode cX8_creak 100 = .ok (.goto 4, 3) := by decide +kernel
theorem dX8_creak_103 : decode cX8_creak 103 = .ok (.iconst 0, 1) := by decide +kernel
theorem dX8_creak_104 : decode cX8_creak 104 = .ok (.istore 7, 2) := by decide +kernel
theorem dX8_creak_106 : decode cX8_creak 106 = .ok (.iload 4, 2) := by decide +kernel
theorem dX8_creak_108 : decode cX8_creak 108 = .ok (.iload 7, 2) := by decide +kernel
theorem dX8_creak_110 : decode cX8_creak 110 = .ok (.ifCond .eq 10, 3) := by decide +kernel
theorem dX8_creak_113 : decode cX8_creak 113 = .ok (.iconst 1, 1) := by decide +kernel
theorem dX8_creak_114 : decode cX8_creak 114 = .ok (.iload 6, 2) := by decide +kernel
theorem dX8_creak_116 : decode cX8_creak 116 = .ok (.ishl, 1) := by decide +kernel
theorem dX8_creak_117 : decode cX8_creak 117 = .ok (.goto 4, 3) := by decide +kernel
theorem dX8_creak_120 : decode cX8_creak 120 = .ok (.iconst 0, 1) := by decide +kernel
theorem dX8_creak_121 : decode cX8_creak 121 = .ok (.ior, 1) := by decide +kernel
theorem dX8_creak_122 : decode cX8_creak 122 = .ok (.istore 4, 2) := by decide +kernel
theorem dX8_creak_124 : decode cX8_creak 124 = .ok (.iload 5, 2) := by decide +kernel
theorem dX8_creak_126 : decode cX8_creak 126 = .ok (.iload 7, 2) := by decide +kernel
theorem dX8_creak_128 : decode cX8_creak 128 = .ok (.ifCond .eq 17, 3) := by decide +kernel
theorem dX8_creak_131 : decode cX8_creak 131 = .ok (.aload_n 0, 1) := by decide +kernel
theorem dX8_creak_132 : decode cX8_creak 132 = .ok (.getfield 34, 3) := by decide +kernel
theorem dX8_creak_135 : decode cX8_creak 135 = .ok (.iconst 4, 1) := by decide +kernel
theorem dX8_creak_136 : decode cX8_creak 136 = .ok (.iload_n 1, 1) := by decide +kernel
theorem dX8_creak_137 : decode cX8_creak 137 = .ok (.imul, 1) := by decide +kernel
theorem dX8_creak_138 : decode cX8_creak 138 = .ok (.iload 6, 2) := by decide +kernel
theorem dX8_creak_140 : decode cX8_creak 140 = .ok (.iadd, 1) := by decide +kernel
theorem dX8_creak_141 : decode cX8_creak 141 = .ok (.iaload, 1) := by decide +kernel
theorem dX8_creak_142 : decode cX8_creak 142 = .ok (.goto 4, 3) := by decide +kernel
theorem dX8_creak_145 : decode cX8_creak 145 = .ok (.iconst 0, 1) := by decide +kernel
theorem dX8_creak_146 : decode cX8_creak 146 = .ok (.iadd, 1) := by decide +kernel
theorem dX8_creak_147 : decode cX8_creak 147 = .ok (.istore 5, 2) := by decide +kernel
theorem dX8_creak_149 : decode cX8_creak 149 = .ok (.iinc 6 1, 3) := by decide +kernel
theorem dX8_creak_152 : decode cX8_creak 152 = .ok (.goto (-102), 3) := by decide +kernel
theorem dX8_creak_155 : decode cX8_creak 155 = .ok (.iload 5, 2) := by decide +kernel
theorem dX8_creak_157 : decode cX8_creak 157 = .ok (.ifCond .ne 6, 3) := by decide +kernel
theorem dX8_creak_160 : decode cX8_creak 160 = .ok (.bipush (-2), 2) := by decide +kernel
theorem dX8_creak_162 : decode cX8_creak 162 = .ok (.ireturn, 1) := by decide +kernel
theorem dX8_creak_163 : decode cX8_creak 163 = .ok (.aload_n 0, 1) := by decide +kernel
theorem dX8_creak_164 : decode cX8_creak 164 = .ok (.getfield 171, 3) := by decide +kernel
theorem dX8_creak_167 : decode cX8_creak 167 = .ok (.bipush 20, 2) := by decide +kernel
theorem dX8_creak_169 : decode cX8_creak 169 = .ok (.if_icmp .ne 6, 3) := by decide +kernel
theorem dX8_creak_172 : decode cX8_creak 172 = .ok (.bipush (-3), 2) := by decide +kernel
theorem dX8_creak_174 : decode cX8_creak 174 = .ok (.ireturn, 1) := by decide +kernel
theorem dX8_creak_175 : decode cX8_creak 175 = .ok (.aload_n 0, 1) := by decide +kernel
theorem dX8_creak_176 : decode cX8_creak 176 = .ok (.dup, 1) := by decide +kernel
theorem dX8_creak_177 : decode cX8_creak 177 = .ok (.getfield 171, 3) := by decide +kernel
theorem dX8_creak_180 : decode cX8_creak 180 = .ok (.iconst 1, 1) := by decide +kernel
theorem dX8_creak_181 : decode cX8_creak 181 = .ok (.iadd, 1) := by decide +kernel
theorem dX8_creak_182 : decode cX8_creak 182 = .ok (.putfield 171, 3) := by decide +kernel
theorem dX8_creak_185 : decode cX8_creak 185 = .ok (.aload_n 0, 1) := by decide +kernel
theorem dX8_creak_186 : decode cX8_creak 186 = .ok (.getfield 49, 3) := by decide +kernel
theorem dX8_creak_189 : decode cX8_creak 189 = .ok (.iload_n 1, 1) := by decide +kernel
theorem dX8_creak_190 : decode cX8_creak 190 = .ok (.iload 4, 2) := by decide +kernel
theorem dX8_creak_192 : decode cX8_creak 192 = .ok (.iastore, 1) := by decide +kernel
theorem dX8_creak_193 : decode cX8_creak 193 = .ok (.iload 5, 2) := by decide +kernel
theorem dX8_creak_195 : decode cX8_creak 195 = .ok (.ireturn, 1) := by decide +kernel
theorem dX8_divisor_0 : decode cX8_divisor 0 = .ok (.lload_n 0, 1) := by decide +kernel
theorem dX8_divisor_1 : decode cX8_divisor 1 = .ok (.lstore 4, 2) := by decide +kernel
theorem dX8_divisor_3 : decode cX8_divisor 3 = .ok (.lload_n 2, 1) := by decide +kernel
theorem dX8_divisor_4 : decode cX8_divisor 4 = .ok (.lstore 6, 2) := by decide +kernel
theorem dX8_divisor_6 : decode cX8_divisor 6 = .ok (.lload 6, 2) := by decide +kernel
theorem dX8_divisor_8 : decode cX8_divisor 8 = .ok (.lconst 0, 1) := by decide +kernel
theorem dX8_divisor_9 : decode cX8_divisor 9 = .ok (.lcmp, 1) := by decide +kernel
theorem dX8_divisor_10 : decode cX8_divisor 10 = .ok (.ifCond .eq 21, 3) := by decide +kernel
theorem dX8_divisor_13 : decode cX8_divisor 13 = .ok (.lload 4, 2) := by decide +kernel
theorem dX8_divisor_15 : decode cX8_divisor 15 = .ok (.lload 6, 2) := by decide +kernel
theorem dX8_divisor_17 : decode cX8_divisor 17 = .ok (.lrem, 1) := by decide +kernel
theorem dX8_divisor_18 : decode cX8_divisor 18 = .ok (.lstore 8, 2) := by decide +kernel
theorem dX8_divisor_20 : decode cX8_divisor 20 = .ok (.lload 6, 2) := by decide +kernel
theorem dX8_divisor_22 : decode cX8_divisor 22 = .ok (.lstore 4, 2) := by decide +kernel
theorem dX8_divisor_24 : decode cX8_divisor 24 = .ok (.lload 8, 2) := by decide +kernel
theorem dX8_divisor_26 : decode cX8_divisor 26 = .ok (.lstore 6, 2) := by decide +kernel
theorem dX8_divisor_28 : decode cX8_divisor 28 = .ok (.goto (-22), 3) := by decide +kernel
theorem dX8_divisor_31 : decode cX8_divisor 31 = .ok (.lload 4, 2) := by decide +kernel
theorem dX8_divisor_33 : decode cX8_divisor 33 = .ok (.lreturn, 1) := by decide +kernel
theorem dX8_goes_0 : decode cX8_goes 0 = .ok (.aload_n 0, 1) := by decide +kernel
theorem dX8_goes_1 : decode cX8_goes 1 = .ok (.iload_n 1, 1) := by decide +kernel
theorem dX8_goes_2 : decode cX8_goes 2 = .ok (.invokevirtual 221, 3) := by decide +kernel
theorem dX8_goes_5 : decode cX8_goes 5 = .ok (.ifCond .eq 25, 3) := by decide +kernel
theorem dX8_goes_8 : decode cX8_goes 8 = .ok (.iload_n 2, 1) := by decide +kernel
theorem dX8_goes_9 : decode cX8_goes 9 = .ok (.i2l, 1) := by decide +kernel
theorem dX8_goes_10 : decode cX8_goes 10 = .ok (.lconst 0, 1) := by decide +kernel
theorem dX8_goes_11 : decode cX8_goes 11 = .ok (.ldc2_w 228, 3) := by decide +kernel
theorem dX8_goes_14 : decode cX8_goes 14 = .ok (.invokestatic 99, 3) := by decide +kernel
theorem dX8_goes_17 : decode cX8_goes 17 = .ok (.ifCond .eq 13, 3) := by decide +kernel
theorem dX8_goes_20 : decode cX8_goes 20 = .ok (.iload_n 3, 1) := by decide +kernel
theorem dX8_goes_21 : decode cX8_goes 21 = .ok (.i2l, 1) := by decide +kernel
theorem dX8_goes_22 : decode cX8_goes 22 = .ok (.lconst 0, 1) := by decide +kernel
theorem dX8_goes_23 : decode cX8_goes 23 = .ok (.lconst 1, 1) := by decide +kernel
theorem dX8_goes_24 : decode cX8_goes 24 = .ok (.invokestatic 99, 3) := by decide +kernel
theorem dX8_goes_27 : decode cX8_goes 27 = .ok (.ifCond .ne 5, 3) := by decide +kernel
theorem dX8_goes_30 : decode cX8_goes 30 = .ok (.iconst (-1), 1) := by decide +kernel
theorem dX8_goes_31 : decode cX8_goes 31 = .ok (.ireturn, 1) := by decide +kernel
theorem dX8_goes_32 : decode cX8_goes 32 = .ok (.aload_n 0, 1) := by decide +kernel
theorem dX8_goes_33 : decode cX8_goes 33 = .ok (.getfield 163, 3) := by decide +kernel
theorem dX8_goes_36 : decode cX8_goes 36 = .ok (.iload_n 1, 1) := by decide +kernel
theorem dX8_goes_37 : decode cX8_goes 37 = .ok (.invokestatic 204, 3) := by decide +kernel
theorem dX8_goes_40 : decode cX8_goes 40 = .ok (.ifCond .ne 6, 3) := by decide +kernel
theorem dX8_goes_43 : decode cX8_goes 43 = .ok (.bipush (-2), 2) := by decide +kernel
theorem dX8_goes_45 : decode cX8_goes 45 = .ok (.ireturn, 1) := by decide +kernel
theorem dX8_goes_46 : decode cX8_goes 46 = .ok (.aload_n 0, 1) := by decide +kernel
theorem dX8_goes_47 : decode cX8_goes 47 = .ok (.invokevirtual 212, 3) := by decide +kernel
theorem dX8_goes_50 : decode cX8_goes 50 = .ok (.aload_n 0, 1) := by decide +kernel
theorem dX8_goes_51 : decode cX8_goes 51 = .ok (.iload_n 1, 1) := by decide +kernel
theorem dX8_goes_52 : decode cX8_goes 52 = .ok (.aload_n 0, 1) := by decide +kernel
theorem dX8_goes_53 : decode cX8_goes 53 = .ok (.iload_n 1, 1) := by decide +kernel
theorem dX8_goes_54 : decode cX8_goes 54 = .ok (.iload_n 2, 1) := by decide +kernel
theorem dX8_goes_55 : decode cX8_goes 55 = .ok (.iload_n 2, 1) := by decide +kernel
theorem dX8_goes_56 : decode cX8_goes 56 = .ok (.invokevirtual 215, 3) := by decide +kernel
theorem dX8_goes_59 : decode cX8_goes 59 = .ok (.invokevirtual 209, 3) := by decide +kernel
theorem dX8_goes_62 : decode cX8_goes 62 = .ok (.istore 4, 2) := by decide +kernel
theorem dX8_goes_64 : decode cX8_goes 64 = .ok (.aload_n 0, 1) := by decide +kernel
theorem dX8_goes_65 : decode cX8_goes 65 = .ok (.iload_n 1, 1) := by decide +kernel
theorem dX8_goes_66 : decode cX8_goes 66 = .ok (.invokevirtual 218, 3) := by decide +kernel
theorem dX8_goes_69 : decode cX8_goes 69 = .ok (.istore 5, 2) := by decide +kernel
theorem dX8_goes_71 : decode cX8_goes 71 = .ok (.iload 4, 2) := by decide +kernel
theorem dX8_goes_73 : decode cX8_goes 73 = .ok (.i2l, 1) := by decide +kernel
theorem dX8_goes_74 : decode cX8_goes 74 = .ok (.iload 5, 2) := by decide +kernel
theorem dX8_goes_76 : decode cX8_goes 76 = .ok (.i2l, 1) := by decide +kernel
theorem dX8_goes_77 : decode cX8_goes 77 = .ok (.invokestatic 230, 3) := by decide +kernel
theorem dX8_goes_80 : decode cX8_goes 80 = .ok (.l2i, 1) := by decide +kernel
theorem dX8_goes_81 : decode cX8_goes 81 = .ok (.istore 6, 2) := by decide +kernel
theorem dX8_goes_83 : decode cX8_goes 83 = .ok (.iload_n 3, 1) := by decide +kernel
theorem dX8_goes_84 : decode cX8_goes 84 = .ok (.ifCond .ne 11, 3) := by decide +kernel
theorem dX8_goes_87 : decode cX8_goes 87 = .ok (.iload 4, 2) := by decide +kernel
theorem dX8_goes_89 : decode cX8_goes 89 = .ok (.iload 6, 2) := by decide +kernel
theorem dX8_goes_91 : decode cX8_goes 91 = .ok (.idiv, 1) := by decide +kernel
theorem dX8_goes_92 : decode cX8_goes 92 = .ok (.goto 8, 3) := by decide +kernel
theorem dX8_goes_95 : decode cX8_goes 95 = .ok (.iload 5, 2) := by decide +kernel
theorem dX8_goes_97 : decode cX8_goes 97 = .ok (.iload 6, 2) := by decide +kernel
theorem dX8_goes_99 : decode cX8_goes 99 = .ok (.idiv, 1) := by decide +kernel
theorem dX8_goes_100 : decode cX8_goes 100 = .ok (.ireturn, 1) := by decide +kernel
theorem dX8_lies_0 : decode cX8_lies 0 = .ok (.aload_n 0, 1) := by decide +kernel
theorem dX8_lies_1 : decode cX8_lies 1 = .ok (.getfield 194, 3) := by decide +kernel
theorem dX8_lies_4 : decode cX8_lies 4 = .ok (.iload_n 1, 1) := by decide +kernel
theorem dX8_lies_5 : decode cX8_lies 5 = .ok (.iconst 2, 1) := by decide +kernel
theorem dX8_lies_6 : decode cX8_lies 6 = .ok (.idiv, 1) := by decide +kernel
theorem dX8_lies_7 : decode cX8_lies 7 = .ok (.invokestatic 204, 3) := by decide +kernel
theorem dX8_lies_10 : decode cX8_lies 10 = .ok (.ifCond .eq 16, 3) := by decide +kernel
theorem dX8_lies_13 : decode cX8_lies 13 = .ok (.aload_n 0, 1) := by decide +kernel
theorem dX8_lies_14 : decode cX8_lies 14 = .ok (.getfield 67, 3) := by decide +kernel
theorem dX8_lies_17 : decode cX8_lies 17 = .ok (.iload_n 1, 1) := by decide +kernel
theorem dX8_lies_18 : decode cX8_lies 18 = .ok (.iaload, 1) := by decide +kernel
theorem dX8_lies_19 : decode cX8_lies 19 = .ok (.ifCond .le 7, 3) := by decide +kernel
theorem dX8_lies_22 : decode cX8_lies 22 = .ok (.iconst 1, 1) := by decide +kernel
theorem dX8_lies_23 : decode cX8_lies 23 = .ok (.goto 4, 3) := by decide +kernel
theorem dX8_lies_26 : decode cX8_lies 26 = .ok (.iconst 0, 1) := by decide +kernel
theorem dX8_lies_27 : decode cX8_lies 27 = .ok (.ireturn, 1) := by decide +kernel
theorem dX8_deepest_0 : decode cX8_deepest 0 = .ok (.bipush 16, 2) := by decide +kernel
theorem dX8_deepest_2 : decode cX8_deepest 2 = .ok (.istore_n 1, 1) := by decide +kernel
theorem dX8_deepest_3 : decode cX8_deepest 3 = .ok (.iconst 0, 1) := by decide +kernel
theorem dX8_deepest_4 : decode cX8_deepest 4 = .ok (.istore_n 2, 1) := by decide +kernel
theorem dX8_deepest_5 : decode cX8_deepest 5 = .ok (.iload_n 2, 1) := by decide +kernel
theorem dX8_deepest_6 : decode cX8_deepest 6 = .ok (.bipush 16, 2) := by decide +kernel
theorem dX8_deepest_8 : decode cX8_deepest 8 = .ok (.if_icmp .ge 44, 3) := by decide +kernel
theorem dX8_deepest_11 : decode cX8_deepest 11 = .ok (.aload_n 0, 1) := by decide +kernel
theorem dX8_deepest_12 : decode cX8_deepest 12 = .ok (.iload_n 2, 1) := by decide +kernel
theorem dX8_deepest_13 : decode cX8_deepest 13 = .ok (.invokevirtual 234, 3) := by decide +kernel
theorem dX8_deepest_16 : decode cX8_deepest 16 = .ok (.ifCond .eq 28, 3) := by decide +kernel
theorem dX8_deepest_19 : decode cX8_deepest 19 = .ok (.iload_n 1, 1) := by decide +kernel
theorem dX8_deepest_20 : decode cX8_deepest 20 = .ok (.bipush 16, 2) := by decide +kernel
theorem dX8_deepest_22 : decode cX8_deepest 22 = .ok (.if_icmp .eq 18, 3) := by decide +kernel
theorem dX8_deepest_25 : decode cX8_deepest 25 = .ok (.aload_n 0, 1) := by decide +kernel
theorem dX8_deepest_26 : decode cX8_deepest 26 = .ok (.getfield 67, 3) := by decide +kernel
theorem dX8_deepest_29 : decode cX8_deepest 29 = .ok (.iload_n 2, 1) := by decide +kernel
theorem dX8_deepest_30 : decode cX8_deepest 30 = .ok (.iaload, 1) := by decide +kernel
theorem dX8_deepest_31 : decode cX8_deepest 31 = .ok (.aload_n 0, 1) := by decide +kernel
theorem dX8_deepest_32 : decode cX8_deepest 32 = .ok (.getfield 67, 3) := by decide +kernel
theorem dX8_deepest_35 : decode cX8_deepest 35 = .ok (.iload_n 1, 1) := by decide +kernel
theorem dX8_deepest_36 : decode cX8_deepest 36 = .ok (.iaload, 1) := by decide +kernel
theorem dX8_deepest_37 : decode cX8_deepest 37 = .ok (.if_icmp .le 7, 3) := by decide +kernel
theorem dX8_deepest_40 : decode cX8_deepest 40 = .ok (.iload_n 2, 1) := by decide +kernel
theorem dX8_deepest_41 : decode cX8_deepest 41 = .ok (.goto 4, 3) := by decide +kernel
theorem dX8_deepest_44 : decode cX8_deepest 44 = .ok (.iload_n 1, 1) := by decide +kernel
theorem dX8_deepest_45 : decode cX8_deepest 45 = .ok (.istore_n 1, 1) := by decide +kernel
theorem dX8_deepest_46 : decode cX8_deepest 46 = .ok (.iinc 2 1, 3) := by decide +kernel
theorem dX8_deepest_49 : decode cX8_deepest 49 = .ok (.goto (-44), 3) := by decide +kernel
theorem dX8_deepest_52 : decode cX8_deepest 52 = .ok (.iload_n 1, 1) := by decide +kernel
theorem dX8_deepest_53 : decode cX8_deepest 53 = .ok (.ireturn, 1) := by decide +kernel
theorem dX8_sideOf_0 : decode cX8_sideOf 0 = .ok (.aload_n 0, 1) := by decide +kernel
theorem dX8_sideOf_1 : decode cX8_sideOf 1 = .ok (.getfield 67, 3) := by decide +kernel
theorem dX8_sideOf_4 : decode cX8_sideOf 4 = .ok (.iconst 2, 1) := by decide +kernel
theorem dX8_sideOf_5 : decode cX8_sideOf 5 = .ok (.iload_n 1, 1) := by decide +kernel
theorem dX8_sideOf_6 : decode cX8_sideOf 6 = .ok (.imul, 1) := by decide +kernel
theorem dX8_sideOf_7 : decode cX8_sideOf 7 = .ok (.iconst 1, 1) := by decide +kernel
theorem dX8_sideOf_8 : decode cX8_sideOf 8 = .ok (.iadd, 1) := by decide +kernel
theorem dX8_sideOf_9 : decode cX8_sideOf 9 = .ok (.iaload, 1) := by decide +kernel
theorem dX8_sideOf_10 : decode cX8_sideOf 10 = .ok (.aload_n 0, 1) := by decide +kernel
theorem dX8_sideOf_11 : decode cX8_sideOf 11 = .ok (.getfield 67, 3) := by decide +kernel
theorem dX8_sideOf_14 : decode cX8_sideOf 14 = .ok (.iconst 2, 1) := by decide +kernel
theorem dX8_sideOf_15 : decode cX8_sideOf 15 = .ok (.iload_n 1, 1) := by decide +kernel
theorem dX8_sideOf_16 : decode cX8_sideOf 16 = .ok (.imul, 1) := by decide +kernel
theorem dX8_sideOf_17 : decode cX8_sideOf 17 = .ok (.iaload, 1) := by decide +kernel
theorem dX8_sideOf_18 : decode cX8_sideOf 18 = .ok (.if_icmp .le 11, 3) := by decide +kernel
theorem dX8_sideOf_21 : decode cX8_sideOf 21 = .ok (.iconst 2, 1) := by decide +kernel
theorem dX8_sideOf_22 : decode cX8_sideOf 22 = .ok (.iload_n 1, 1) := by decide +kernel
theorem dX8_sideOf_23 : decode cX8_sideOf 23 = .ok (.imul, 1) := by decide +kernel
theorem dX8_sideOf_24 : decode cX8_sideOf 24 = .ok (.iconst 1, 1) := by decide +kernel
theorem dX8_sideOf_25 : decode cX8_sideOf 25 = .ok (.iadd, 1) := by decide +kernel
theorem dX8_sideOf_26 : decode cX8_sideOf 26 = .ok (.goto 6, 3) := by decide +kernel
theorem dX8_sideOf_29 : decode cX8_sideOf 29 = .ok (.iconst 2, 1) := by decide +kernel
theorem dX8_sideOf_30 : decode cX8_sideOf 30 = .ok (.iload_n 1, 1) := by decide +kernel
theorem dX8_sideOf_31 : decode cX8_sideOf 31 = .ok (.imul, 1) := by decide +kernel
theorem dX8_sideOf_32 : decode cX8_sideOf 32 = .ok (.ireturn, 1) := by decide +kernel
theorem dX8_isLaden_0 : decode cX8_isLaden 0 = .ok (.aload_n 0, 1) := by decide +kernel
theorem dX8_isLaden_1 : decode cX8_isLaden 1 = .ok (.iconst 2, 1) := by decide +kernel
theorem dX8_isLaden_2 : decode cX8_isLaden 2 = .ok (.iload_n 1, 1) := by decide +kernel
theorem dX8_isLaden_3 : decode cX8_isLaden 3 = .ok (.imul, 1) := by decide +kernel
theorem dX8_isLaden_4 : decode cX8_isLaden 4 = .ok (.invokevirtual 234, 3) := by decide +kernel
theorem dX8_isLaden_7 : decode cX8_isLaden 7 = .ok (.ifCond .ne 15, 3) := by decide +kernel
theorem dX8_isLaden_10 : decode cX8_isLaden 10 = .ok (.aload_n 0, 1) := by decide +kernel
theorem dX8_isLaden_11 : decode cX8_isLaden 11 = .ok (.iconst 2, 1) := by decide +kernel
theorem dX8_isLaden_12 : decode cX8_isLaden 12 = .ok (.iload_n 1, 1) := by decide +kernel
theorem dX8_isLaden_13 : decode cX8_isLaden 13 = .ok (.imul, 1) := by decide +kernel
theorem dX8_isLaden_14 : decode cX8_isLaden 14 = .ok (.iconst 1, 1) := by decide +kernel
theorem dX8_isLaden_15 : decode cX8_isLaden 15 = .ok (.iadd, 1) := by decide +kernel
theorem dX8_isLaden_16 : decode cX8_isLaden 16 = .ok (.invokevirtual 234, 3) := by decide +kernel
theorem dX8_isLaden_19 : decode cX8_isLaden 19 = .ok (.ifCond .eq 7, 3) := by decide +kernel
theorem dX8_isLaden_22 : decode cX8_isLaden 22 = .ok (.iconst 1, 1) := by decide +kernel
theorem dX8_isLaden_23 : decode cX8_isLaden 23 = .ok (.goto 4, 3) := by decide +kernel
theorem dX8_isLaden_26 : decode cX8_isLaden 26 = .ok (.iconst 0, 1) := by decide +kernel
theorem dX8_isLaden_27 : decode cX8_isLaden 27 = .ok (.ireturn, 1) := by decide +kernel
theorem dX8_weakest_0 : decode cX8_weakest 0 = .ok (.bipush (-4), 2) := by decide +kernel
theorem dX8_weakest_2 : decode cX8_weakest 2 = .ok (.istore_n 2, 1) := by decide +kernel
theorem dX8_weakest_3 : decode cX8_weakest 3 = .ok (.iconst 0, 1) := by decide +kernel
theorem dX8_weakest_4 : decode cX8_weakest 4 = .ok (.istore_n 3, 1) := by decide +kernel
theorem dX8_weakest_5 : decode cX8_weakest 5 = .ok (.iconst 1, 1) := by decide +kernel
theorem dX8_weakest_6 : decode cX8_weakest 6 = .ok (.istore 4, 2) := by decide +kernel
theorem dX8_weakest_8 : decode cX8_weakest 8 = .ok (.iconst 0, 1) := by decide +kernel
theorem dX8_weakest_9 : decode cX8_weakest 9 = .ok (.istore 5, 2) := by decide +kernel
theorem dX8_weakest_11 : decode cX8_weakest 11 = .ok (.iload 5, 2) := by decide +kernel
theorem dX8_weakest_13 : decode cX8_weakest 13 = .ok (.aload_n 0, 1) := by decide +kernel
theorem dX8_weakest_14 : decode cX8_weakest 14 = .ok (.getfield 82, 3) := by decide +kernel
theorem dX8_weakest_17 : decode cX8_weakest 17 = .ok (.if_icmp .ge 121, 3) := by decide +kernel
theorem dX8_weakest_20 : decode cX8_weakest 20 = .ok (.aload_n 0, 1) := by decide +kernel
theorem dX8_weakest_21 : decode cX8_weakest 21 = .ok (.iload 5, 2) := by decide +kernel
theorem dX8_weakest_23 : decode cX8_weakest 23 = .ok (.invokevirtual 237, 3) := by decide +kernel
theorem dX8_weakest_26 : decode cX8_weakest 26 = .ok (.ifCond .eq 106, 3) := by decide +kernel
theorem dX8_weakest_29 : decode cX8_weakest 29 = .ok (.aload_n 0, 1) := by decide +kernel
theorem dX8_weakest_30 : decode cX8_weakest 30 = .ok (.iload 5, 2) := by decide +kernel
theorem dX8_weakest_32 : decode cX8_weakest 32 = .ok (.aload_n 0, 1) := by decide +kernel
theorem dX8_weakest_33 : decode cX8_weakest 33 = .ok (.iload 5, 2) := by decide +kernel
theorem dX8_weakest_35 : decode cX8_weakest 35 = .ok (.aload_n 0, 1) := by decide +kernel
theorem dX8_weakest_36 : decode cX8_weakest 36 = .ok (.getfield 40, 3) := by decide +kernel
theorem dX8_weakest_39 : decode cX8_weakest 39 = .ok (.iconst 3, 1) := by decide +kernel
theorem dX8_weakest_40 : decode cX8_weakest 40 = .ok (.iload_n 1, 1) := by decide +kernel
theorem dX8_weakest_41 : decode cX8_weakest 41 = .ok (.imul, 1) := by decide +kernel
theorem dX8_weakest_42 : decode cX8_weakest 42 = .ok (.iaload, 1) := by decide +kernel
theorem dX8_weakest_43 : decode cX8_weakest 43 = .ok (.aload_n 0, 1) := by decide +kernel
theorem dX8_weakest_44 : decode cX8_weakest 44 = .ok (.getfield 40, 3) := by decide +kernel
theorem dX8_weakest_47 : decode cX8_weakest 47 = .ok (.iconst 3, 1) := by decide +kernel
theorem dX8_weakest_48 : decode cX8_weakest 48 = .ok (.iload_n 1, 1) := by decide +kernel
theorem dX8_weakest_49 : decode cX8_weakest 49 = .ok (.imul, 1) := by decide +kernel
theorem dX8_weakest_50 : decode cX8_weakest 50 = .ok (.iconst 1, 1) := by decide +kernel
theorem dX8_weakest_51 : decode cX8_weakest 51 = .ok (.iadd, 1) := by decide +kernel
theorem dX8_weakest_52 : decode cX8_weakest 52 = .ok (.iaload, 1) := by decide +kernel
theorem dX8_weakest_53 : decode cX8_weakest 53 = .ok (.invokevirtual 215, 3) := by decide +kernel
theorem dX8_weakest_56 : decode cX8_weakest 56 = .ok (.invokevirtual 209, 3) := by decide +kernel
theorem dX8_weakest_59 : decode cX8_weakest 59 = .ok (.istore 6, 2) := by decide +kernel
theorem dX8_weakest_61 : decode cX8_weakest 61 = .ok (.iload_n 2, 1) := by decide +kernel
theorem dX8_weakest_62 : decode cX8_weakest 62 = .ok (.bipush (-4), 2) := by decide +kernel
theorem dX8_weakest_64 : decode cX8_weakest 64 = .ok (.if_icmp .eq 19, 3) := by decide +kernel
theorem dX8_weakest_67 : decode cX8_weakest 67 = .ok (.iload 6, 2) := by decide +kernel
theorem dX8_weakest_69 : decode cX8_weakest 69 = .ok (.iload 4, 2) := by decide +kernel
theorem dX8_weakest_71 : decode cX8_weakest 71 = .ok (.imul, 1) := by decide +kernel
theorem dX8_weakest_72 : decode cX8_weakest 72 = .ok (.iload_n 3, 1) := by decide +kernel
theorem dX8_weakest_73 : decode cX8_weakest 73 = .ok (.aload_n 0, 1) := by decide +kernel
theorem dX8_weakest_74 : decode cX8_weakest 74 = .ok (.iload 5, 2) := by decide +kernel
theorem dX8_weakest_76 : decode cX8_weakest 76 = .ok (.invokevirtual 218, 3) := by decide +kernel
theorem dX8_weakest_79 : decode cX8_weakest 79 = .ok (.imul, 1) := by decide +kernel
theorem dX8_weakest_80 : decode cX8_weakest 80 = .ok (.if_icmp .le 7, 3) := by decide +kernel
theorem dX8_weakest_83 : decode cX8_weakest 83 = .ok (.iconst 1, 1) := by decide +kernel
theorem dX8_weakest_84 : decode cX8_weakest 84 = .ok (.goto 4, 3) := by decide +kernel
theorem dX8_weakest_87 : decode cX8_weakest 87 = .ok (.iconst 0, 1) := by decide +kernel
theorem dX8_weakest_88 : decode cX8_weakest 88 = .ok (.istore 7, 2) := by decide +kernel
theorem dX8_weakest_90 : decode cX8_weakest 90 = .ok (.iload 7, 2) := by decide +kernel
theorem dX8_weakest_92 : decode cX8_weakest 92 = .ok (.ifCond .eq 8, 3) := by decide +kernel
theorem dX8_weakest_95 : decode cX8_weakest 95 = .ok (.iload 5, 2) := by decide +kernel
theorem dX8_weakest_97 : decode cX8_weakest 97 = .ok (.goto 4, 3) := by decide +kernel
theorem dX8_weakest_100 : decode cX8_weakest 100 = .ok (.iload_n 2, 1) := by decide +kernel
theorem dX8_weakest_101 : decode cX8_weakest 101 = .ok (.istore_n 2, 1) := by decide +kernel
theorem dX8_weakest_102 : decode cX8_weakest 102 = .ok (.iload 7, 2) := by decide +kernel
theorem dX8_weakest_104 : decode cX8_weakest 104 = .ok (.ifCond .eq 8, 3) := by decide +kernel
theorem dX8_weakest_107 : decode cX8_weakest 107 = .ok (.iload 6, 2) := by decide +kernel
theorem dX8_weakest_109 : decode cX8_weakest 109 = .ok (.goto 4, 3) := by decide +kernel
theorem dX8_weakest_112 : decode cX8_weakest 112 = .ok (.iload_n 3, 1) := by decide +kernel
theorem dX8_weakest_113 : decode cX8_weakest 113 = .ok (.istore_n 3, 1) := by decide +kernel
theorem dX8_weakest_114 : decode cX8_weakest 114 = .ok (.iload 7, 2) := by decide +kernel
theorem dX8_weakest_116 : decode cX8_weakest 116 = .ok (.ifCond .eq 12, 3) := by decide +kernel
theorem dX8_weakest_119 : decode cX8_weakest 119 = .ok (.aload_n 0, 1) := by decide +kernel
theorem dX8_weakest_120 : decode cX8_weakest 120 = .ok (.iload 5, 2) := by decide +kernel
theorem dX8_weakest_122 : decode cX8_weakest 122 = .ok (.invokevirtual 218, 3) := by decide +kernel
theorem dX8_weakest_125 : decode cX8_weakest 125 = .ok (.goto 5, 3) := by decide +kernel
theorem dX8_weakest_128 : decode cX8_weakest 128 = .ok (.iload 4, 2) := by decide +kernel
theorem dX8_weakest_130 : decode cX8_weakest 130 = .ok (.istore 4, 2) := by decide +kernel
theorem dX8_weakest_132 : decode cX8_weakest 132 = .ok (.iinc 5 1, 3) := by decide +kernel
theorem dX8_weakest_135 : decode cX8_weakest 135 = .ok (.goto (-124), 3) := by decide +kernel
theorem dX8_weakest_138 : decode cX8_weakest 138 = .ok (.iload_n 2, 1) := by decide +kernel
theorem dX8_weakest_139 : decode cX8_weakest 139 = .ok (.bipush (-4), 2) := by decide +kernel
theorem dX8_weakest_141 : decode cX8_weakest 141 = .ok (.if_icmp .ne 8, 3) := by decide +kernel
theorem dX8_weakest_144 : decode cX8_weakest 144 = .ok (.bipush 16, 2) := by decide +kernel
theorem dX8_weakest_146 : decode cX8_weakest 146 = .ok (.goto 8, 3) := by decide +kernel
theorem dX8_weakest_149 : decode cX8_weakest 149 = .ok (.aload_n 0, 1) := by decide +kernel
theorem dX8_weakest_150 : decode cX8_weakest 150 = .ok (.iload_n 2, 1) := by decide +kernel
theorem dX8_weakest_151 : decode cX8_weakest 151 = .ok (.invokevirtual 240, 3) := by decide +kernel
theorem dX8_weakest_154 : decode cX8_weakest 154 = .ok (.ireturn, 1) := by decide +kernel
theorem dX8_fullest_0 : decode cX8_fullest 0 = .ok (.bipush (-4), 2) := by decide +kernel
theorem dX8_fullest_2 : decode cX8_fullest 2 = .ok (.istore_n 1, 1) := by decide +kernel
theorem dX8_fullest_3 : decode cX8_fullest 3 = .ok (.iconst 0, 1) := by decide +kernel
theorem dX8_fullest_4 : decode cX8_fullest 4 = .ok (.istore_n 2, 1) := by decide +kernel
theorem dX8_fullest_5 : decode cX8_fullest 5 = .ok (.iload_n 2, 1) := by decide +kernel
theorem dX8_fullest_6 : decode cX8_fullest 6 = .ok (.aload_n 0, 1) := by decide +kernel
theorem dX8_fullest_7 : decode cX8_fullest 7 = .ok (.getfield 82, 3) := by decide +kernel
theorem dX8_fullest_10 : decode cX8_fullest 10 = .ok (.if_icmp .ge 44, 3) := by decide +kernel
theorem dX8_fullest_13 : decode cX8_fullest 13 = .ok (.aload_n 0, 1) := by decide +kernel
theorem dX8_fullest_14 : decode cX8_fullest 14 = .ok (.iload_n 2, 1) := by decide +kernel
theorem dX8_fullest_15 : decode cX8_fullest 15 = .ok (.invokevirtual 237, 3) := by decide +kernel
theorem dX8_fullest_18 : decode cX8_fullest 18 = .ok (.ifCond .eq 28, 3) := by decide +kernel
theorem dX8_fullest_21 : decode cX8_fullest 21 = .ok (.iload_n 1, 1) := by decide +kernel
theorem dX8_fullest_22 : decode cX8_fullest 22 = .ok (.bipush (-4), 2) := by decide +kernel
theorem dX8_fullest_24 : decode cX8_fullest 24 = .ok (.if_icmp .eq 18, 3) := by decide +kernel
theorem dX8_fullest_27 : decode cX8_fullest 27 = .ok (.aload_n 0, 1) := by decide +kernel
theorem dX8_fullest_28 : decode cX8_fullest 28 = .ok (.getfield 28, 3) := by decide +kernel
theorem dX8_fullest_31 : decode cX8_fullest 31 = .ok (.iload_n 2, 1) := by decide +kernel
theorem dX8_fullest_32 : decode cX8_fullest 32 = .ok (.iaload, 1) := by decide +kernel
theorem dX8_fullest_33 : decode cX8_fullest 33 = .ok (.aload_n 0, 1) := by decide +kernel
theorem dX8_fullest_34 : decode cX8_fullest 34 = .ok (.getfield 28, 3) := by decide +kernel
theorem dX8_fullest_37 : decode cX8_fullest 37 = .ok (.iload_n 1, 1) := by decide +kernel
theorem dX8_fullest_38 : decode cX8_fullest 38 = .ok (.iaload, 1) := by decide +kernel
theorem dX8_fullest_39 : decode cX8_fullest 39 = .ok (.if_icmp .le 7, 3) := by decide +kernel
theorem dX8_fullest_42 : decode cX8_fullest 42 = .ok (.iload_n 2, 1) := by decide +kernel
theorem dX8_fullest_43 : decode cX8_fullest 43 = .ok (.goto 4, 3) := by decide +kernel
theorem dX8_fullest_46 : decode cX8_fullest 46 = .ok (.iload_n 1, 1) := by decide +kernel
theorem dX8_fullest_47 : decode cX8_fullest 47 = .ok (.istore_n 1, 1) := by decide +kernel
theorem dX8_fullest_48 : decode cX8_fullest 48 = .ok (.iinc 2 1, 3) := by decide +kernel
theorem dX8_fullest_51 : decode cX8_fullest 51 = .ok (.goto (-46), 3) := by decide +kernel
theorem dX8_fullest_54 : decode cX8_fullest 54 = .ok (.iload_n 1, 1) := by decide +kernel
theorem dX8_fullest_55 : decode cX8_fullest 55 = .ok (.bipush (-4), 2) := by decide +kernel
theorem dX8_fullest_57 : decode cX8_fullest 57 = .ok (.if_icmp .ne 8, 3) := by decide +kernel
theorem dX8_fullest_60 : decode cX8_fullest 60 = .ok (.bipush 16, 2) := by decide +kernel
theorem dX8_fullest_62 : decode cX8_fullest 62 = .ok (.goto 8, 3) := by decide +kernel
theorem dX8_fullest_65 : decode cX8_fullest 65 = .ok (.aload_n 0, 1) := by decide +kernel
theorem dX8_fullest_66 : decode cX8_fullest 66 = .ok (.iload_n 1, 1) := by decide +kernel
theorem dX8_fullest_67 : decode cX8_fullest 67 = .ok (.invokevirtual 240, 3) := by decide +kernel
theorem dX8_fullest_70 : decode cX8_fullest 70 = .ok (.ireturn, 1) := by decide +kernel
theorem dX8_chosen_0 : decode cX8_chosen 0 = .ok (.iload_n 1, 1) := by decide +kernel
theorem dX8_chosen_1 : decode cX8_chosen 1 = .ok (.tableswitch 68 0 3 #[31, 36, 42, 47], 31) := by decide +kernel
theorem dX8_chosen_32 : decode cX8_chosen 32 = .ok (.aload_n 0, 1) := by decide +kernel
theorem dX8_chosen_33 : decode cX8_chosen 33 = .ok (.invokevirtual 243, 3) := by decide +kernel
theorem dX8_chosen_36 : decode cX8_chosen 36 = .ok (.ireturn, 1) := by decide +kernel
theorem dX8_chosen_37 : decode cX8_chosen 37 = .ok (.aload_n 0, 1) := by decide +kernel
theorem dX8_chosen_38 : decode cX8_chosen 38 = .ok (.iload_n 2, 1) := by decide +kernel
theorem dX8_chosen_39 : decode cX8_chosen 39 = .ok (.invokevirtual 246, 3) := by decide +kernel
theorem dX8_chosen_42 : decode cX8_chosen 42 = .ok (.ireturn, 1) := by decide +kernel
theorem dX8_chosen_43 : decode cX8_chosen 43 = .ok (.aload_n 0, 1) := by decide +kernel
theorem dX8_chosen_44 : decode cX8_chosen 44 = .ok (.invokevirtual 249, 3) := by decide +kernel
theorem dX8_chosen_47 : decode cX8_chosen 47 = .ok (.ireturn, 1) := by decide +kernel
theorem dX8_chosen_48 : decode cX8_chosen 48 = .ok (.aload_n 0, 1) := by decide +kernel
theorem dX8_chosen_49 : decode cX8_chosen 49 = .ok (.aload_n 0, 1) := by decide +kernel
theorem dX8_chosen_50 : decode cX8_chosen 50 = .ok (.getfield 169, 3) := by decide +kernel
theorem dX8_chosen_53 : decode cX8_chosen 53 = .ok (.invokevirtual 234, 3) := by decide +kernel
theorem dX8_chosen_56 : decode cX8_chosen 56 = .ok (.ifCond .eq 10, 3) := by decide +kernel
theorem dX8_chosen_59 : decode cX8_chosen 59 = .ok (.aload_n 0, 1) := by decide +kernel
theorem dX8_chosen_60 : decode cX8_chosen 60 = .ok (.getfield 169, 3) := by decide +kernel
theorem dX8_chosen_63 : decode cX8_chosen 63 = .ok (.goto 5, 3) := by decide +kernel
theorem dX8_chosen_66 : decode cX8_chosen 66 = .ok (.bipush 16, 2) := by decide +kernel
theorem dX8_chosen_68 : decode cX8_chosen 68 = .ok (.ireturn, 1) := by decide +kernel
theorem dX8_chosen_69 : decode cX8_chosen 69 = .ok (.bipush 16, 2) := by decide +kernel
theorem dX8_chosen_71 : decode cX8_chosen 71 = .ok (.ireturn, 1) := by decide +kernel
theorem dX8_clear_0 : decode cX8_clear 0 = .ok (.iload_n 1, 1) := by decide +kernel
theorem dX8_clear_1 : decode cX8_clear 1 = .ok (.bipush 16, 2) := by decide +kernel
theorem dX8_clear_3 : decode cX8_clear 3 = .ok (.if_icmp .ge 91, 3) := by decide +kernel
theorem dX8_clear_6 : decode cX8_clear 6 = .ok (.aload_n 0, 1) := by decide +kernel
theorem dX8_clear_7 : decode cX8_clear 7 = .ok (.getfield 194, 3) := by decide +kernel
theorem dX8_clear_10 : decode cX8_clear 10 = .ok (.iload_n 1, 1) := by decide +kernel
theorem dX8_clear_11 : decode cX8_clear 11 = .ok (.iconst 2, 1) := by decide +kernel
theorem dX8_clear_12 : decode cX8_clear 12 = .ok (.idiv, 1) := by decide +kernel
theorem dX8_clear_13 : decode cX8_clear 13 = .ok (.invokestatic 204, 3) := by decide +kernel
theorem dX8_clear_16 : decode cX8_clear 16 = .ok (.ifCond .eq 78, 3) := by decide +kernel
theorem dX8_clear_19 : decode cX8_clear 19 = .ok (.aload_n 0, 1) := by decide +kernel
theorem dX8_clear_20 : decode cX8_clear 20 = .ok (.getfield 67, 3) := by decide +kernel
theorem dX8_clear_23 : decode cX8_clear 23 = .ok (.iload_n 1, 1) := by decide +kernel
theorem dX8_clear_24 : decode cX8_clear 24 = .ok (.iaload, 1) := by decide +kernel
theorem dX8_clear_25 : decode cX8_clear 25 = .ok (.aload_n 0, 1) := by decide +kernel
theorem dX8_clear_26 : decode cX8_clear 26 = .ok (.getfield 145, 3) := by decide +kernel
theorem dX8_clear_29 : decode cX8_clear 29 = .ok (.if_icmp .ge 12, 3) := by decide +kernel
theorem dX8_clear_32 : decode cX8_clear 32 = .ok (.aload_n 0, 1) := by decide +kernel
theorem dX8_clear_33 : decode cX8_clear 33 = .ok (.getfield 67, 3) := by decide +kernel
theorem dX8_clear_36 : decode cX8_clear 36 = .ok (.iload_n 1, 1) := by decide +kernel
theorem dX8_clear_37 : decode cX8_clear 37 = .ok (.iaload, 1) := by decide +kernel
theorem dX8_clear_38 : decode cX8_clear 38 = .ok (.goto 7, 3) := by decide +kernel
theorem dX8_clear_41 : decode cX8_clear 41 = .ok (.aload_n 0, 1) := by decide +kernel
theorem dX8_clear_42 : decode cX8_clear 42 = .ok (.getfield 145, 3) := by decide +kernel
theorem dX8_clear_45 : decode cX8_clear 45 = .ok (.istore_n 2, 1) := by decide +kernel
theorem dX8_clear_46 : decode cX8_clear 46 = .ok (.aload_n 0, 1) := by decide +kernel
theorem dX8_clear_47 : decode cX8_clear 47 = .ok (.getfield 67, 3) := by decide +kernel
theorem dX8_clear_50 : decode cX8_clear 50 = .ok (.iload_n 1, 1) := by decide +kernel
theorem dX8_clear_51 : decode cX8_clear 51 = .ok (.dup2, 1) := by decide +kernel
theorem dX8_clear_52 : decode cX8_clear 52 = .ok (.iaload, 1) := by decide +kernel
theorem dX8_clear_53 : decode cX8_clear 53 = .ok (.iload_n 2, 1) := by decide +kernel
theorem dX8_clear_54 : decode cX8_clear 54 = .ok (.isub, 1) := by decide +kernel
theorem dX8_clear_55 : decode cX8_clear 55 = .ok (.iastore, 1) := by decide +kernel
theorem dX8_clear_56 : decode cX8_clear 56 = .ok (.aload_n 0, 1) := by decide +kernel
theorem dX8_clear_57 : decode cX8_clear 57 = .ok (.getfield 25, 3) := by decide +kernel
theorem dX8_clear_60 : decode cX8_clear 60 = .ok (.iload_n 1, 1) := by decide +kernel
theorem dX8_clear_61 : decode cX8_clear 61 = .ok (.iconst 2, 1) := by decide +kernel
theorem dX8_clear_62 : decode cX8_clear 62 = .ok (.idiv, 1) := by decide +kernel
theorem dX8_clear_63 : decode cX8_clear 63 = .ok (.iaload, 1) := by decide +kernel
theorem dX8_clear_64 : decode cX8_clear 64 = .ok (.istore_n 3, 1) := by decide +kernel
theorem dX8_clear_65 : decode cX8_clear 65 = .ok (.iload_n 3, 1) := by decide +kernel
theorem dX8_clear_66 : decode cX8_clear 66 = .ok (.bipush 8, 2) := by decide +kernel
theorem dX8_clear_68 : decode cX8_clear 68 = .ok (.if_icmp .ge 26, 3) := by decide +kernel
theorem dX8_clear_71 : decode cX8_clear 71 = .ok (.aload_n 0, 1) := by decide +kernel
theorem dX8_clear_72 : decode cX8_clear 72 = .ok (.getfield 194, 3) := by decide +kernel
theorem dX8_clear_75 : decode cX8_clear 75 = .ok (.iload_n 3, 1) := by decide +kernel
theorem dX8_clear_76 : decode cX8_clear 76 = .ok (.invokestatic 204, 3) := by decide +kernel
theorem dX8_clear_79 : decode cX8_clear 79 = .ok (.ifCond .eq 15, 3) := by decide +kernel
theorem dX8_clear_82 : decode cX8_clear 82 = .ok (.aload_n 0, 1) := by decide +kernel
theorem dX8_clear_83 : decode cX8_clear 83 = .ok (.getfield 67, 3) := by decide +kernel
theorem dX8_clear_86 : decode cX8_clear 86 = .ok (.iconst 2, 1) := by decide +kernel
theorem dX8_clear_87 : decode cX8_clear 87 = .ok (.iload_n 3, 1) := by decide +kernel
theorem dX8_clear_88 : decode cX8_clear 88 = .ok (.imul, 1) := by decide +kernel
theorem dX8_clear_89 : decode cX8_clear 89 = .ok (.dup2, 1) := by decide +kernel
theorem dX8_clear_90 : decode cX8_clear 90 = .ok (.iaload, 1) := by decide +kernel
theorem dX8_clear_91 : decode cX8_clear 91 = .ok (.iload_n 2, 1) := by decide +kernel
theorem dX8_clear_92 : decode cX8_clear 92 = .ok (.iadd, 1) := by decide +kernel
theorem dX8_clear_93 : decode cX8_clear 93 = .ok (.iastore, 1) := by decide +kernel
theorem dX8_clear_94 : decode cX8_clear 94 = .ok (.return_, 1) := by decide +kernel
theorem dX8_goHour_0 : decode cX8_goHour 0 = .ok (.iconst 0, 1) := by decide +kernel
theorem dX8_goHour_1 : decode cX8_goHour 1 = .ok (.istore 5, 2) := by decide +kernel
theorem dX8_goHour_3 : decode cX8_goHour 3 = .ok (.iload 5, 2) := by decide +kernel
theorem dX8_goHour_5 : decode cX8_goHour 5 = .ok (.iload_n 3, 1) := by decide +kernel
theorem dX8_goHour_6 : decode cX8_goHour 6 = .ok (.if_icmp .ge 29, 3) := by decide +kernel
theorem dX8_goHour_9 : decode cX8_goHour 9 = .ok (.aload_n 0, 1) := by decide +kernel
theorem dX8_goHour_10 : decode cX8_goHour 10 = .ok (.iload 4, 2) := by decide +kernel
theorem dX8_goHour_12 : decode cX8_goHour 12 = .ok (.ifCond .lt 8, 3) := by decide +kernel
theorem dX8_goHour_15 : decode cX8_goHour 15 = .ok (.iload 4, 2) := by decide +kernel
theorem dX8_goHour_17 : decode cX8_goHour 17 = .ok (.goto 9, 3) := by decide +kernel
theorem dX8_goHour_20 : decode cX8_goHour 20 = .ok (.aload_n 0, 1) := by decide +kernel
theorem dX8_goHour_21 : decode cX8_goHour 21 = .ok (.iload_n 1, 1) := by decide +kernel
theorem dX8_goHour_22 : decode cX8_goHour 22 = .ok (.iload_n 2, 1) := by decide +kernel
theorem dX8_goHour_23 : decode cX8_goHour 23 = .ok (.invokevirtual 252, 3) := by decide +kernel
theorem dX8_goHour_26 : decode cX8_goHour 26 = .ok (.invokevirtual 255, 3) := by decide +kernel
theorem dX8_goHour_29 : decode cX8_goHour 29 = .ok (.iinc 5 1, 3) := by decide +kernel
theorem dX8_goHour_32 : decode cX8_goHour 32 = .ok (.goto (-29), 3) := by decide +kernel
theorem dX8_goHour_35 : decode cX8_goHour 35 = .ok (.iconst 0, 1) := by decide +kernel
theorem dX8_goHour_36 : decode cX8_goHour 36 = .ok (.istore 5, 2) := by decide +kernel
theorem dX8_goHour_38 : decode cX8_goHour 38 = .ok (.iload 5, 2) := by decide +kernel
theorem dX8_goHour_40 : decode cX8_goHour 40 = .ok (.bipush 16, 2) := by decide +kernel
theorem dX8_goHour_42 : decode cX8_goHour 42 = .ok (.if_icmp .ge 124, 3) := by decide +kernel
theorem dX8_goHour_45 : decode cX8_goHour 45 = .ok (.iload 5, 2) := by decide +kernel
theorem dX8_goHour_47 : decode cX8_goHour 47 = .ok (.iconst 2, 1) := by decide +kernel
theorem dX8_goHour_48 : decode cX8_goHour 48 = .ok (.idiv, 1) := by decide +kernel
theorem dX8_goHour_49 : decode cX8_goHour 49 = .ok (.aload_n 0, 1) := by decide +kernel
theorem dX8_goHour_50 : decode cX8_goHour 50 = .ok (.getfield 82, 3) := by decide +kernel
theorem dX8_goHour_53 : decode cX8_goHour 53 = .ok (.if_icmp .ge 107, 3) := by decide +kernel
theorem dX8_goHour_56 : decode cX8_goHour 56 = .ok (.aload_n 0, 1) := by decide +kernel
theorem dX8_goHour_57 : decode cX8_goHour 57 = .ok (.getfield 194, 3) := by decide +kernel
theorem dX8_goHour_60 : decode cX8_goHour 60 = .ok (.iload 5, 2) := by decide +kernel
theorem dX8_goHour_62 : decode cX8_goHour 62 = .ok (.iconst 2, 1) := by decide +kernel
theorem dX8_goHour_63 : decode cX8_goHour 63 = .ok (.idiv, 1) := by decide +kernel
theorem dX8_goHour_64 : decode cX8_goHour 64 = .ok (.invokestatic 204, 3) := by decide +kernel
theorem dX8_goHour_67 : decode cX8_goHour 67 = .ok (.ifCond .eq 93, 3) := by decide +kernel
theorem dX8_goHour_70 : decode cX8_goHour 70 = .ok (.aload_n 0, 1) := by decide +kernel
theorem dX8_goHour_71 : decode cX8_goHour 71 = .ok (.getfield 67, 3) := by decide +kernel
theorem dX8_goHour_74 : decode cX8_goHour 74 = .ok (.iload 5, 2) := by decide +kernel
theorem dX8_goHour_76 : decode cX8_goHour 76 = .ok (.dup2, 1) := by decide +kernel
theorem dX8_goHour_77 : decode cX8_goHour 77 = .ok (.iaload, 1) := by decide +kernel
theorem dX8_goHour_78 : decode cX8_goHour 78 = .ok (.aload_n 0, 1) := by decide +kernel
theorem dX8_goHour_79 : decode cX8_goHour 79 = .ok (.getfield 40, 3) := by decide +kernel
theorem dX8_goHour_82 : decode cX8_goHour 82 = .ok (.iconst 3, 1) := by decide +kernel
theorem dX8_goHour_83 : decode cX8_goHour 83 = .ok (.iload_n 2, 1) := by decide +kernel
theorem dX8_goHour_84 : decode cX8_goHour 84 = .ok (.imul, 1) := by decide +kernel
theorem dX8_goHour_85 : decode cX8_goHour 85 = .ok (.iload 5, 2) := by decide +kernel
theorem dX8_goHour_87 : decode cX8_goHour 87 = .ok (.iconst 2, 1) := by decide +kernel
theorem dX8_goHour_88 : decode cX8_goHour 88 = .ok (.irem, 1) := by decide +kernel
theorem dX8_goHour_89 : decode cX8_goHour 89 = .ok (.iadd, 1) := by decide +kernel
theorem dX8_goHour_90 : decode cX8_goHour 90 = .ok (.iaload, 1) := by decide +kernel
theorem dX8_goHour_91 : decode cX8_goHour 91 = .ok (.aload_n 0, 1) := by decide +kernel
theorem dX8_goHour_92 : decode cX8_goHour 92 = .ok (.getfield 67, 3) := by decide +kernel
theorem dX8_goHour_95 : decode cX8_goHour 95 = .ok (.iload 5, 2) := by decide +kernel
theorem dX8_goHour_97 : decode cX8_goHour 97 = .ok (.iaload, 1) := by decide +kernel
theorem dX8_goHour_98 : decode cX8_goHour 98 = .ok (.aload_n 0, 1) := by decide +kernel
theorem dX8_goHour_99 : decode cX8_goHour 99 = .ok (.getfield 40, 3) := by decide +kernel
theorem dX8_goHour_102 : decode cX8_goHour 102 = .ok (.iconst 3, 1) := by decide +kernel
theorem dX8_goHour_103 : decode cX8_goHour 103 = .ok (.iload_n 2, 1) := by decide +kernel
theorem dX8_goHour_104 : decode cX8_goHour 104 = .ok (.imul, 1) := by decide +kernel
theorem dX8_goHour_105 : decode cX8_goHour 105 = .ok (.iconst 2, 1) := by decide +kernel
theorem dX8_goHour_106 : decode cX8_goHour 106 = .ok (.iadd, 1) := by decide +kernel
theorem dX8_goHour_107 : decode cX8_goHour 107 = .ok (.iaload, 1) := by decide +kernel
theorem dX8_goHour_108 : decode cX8_goHour 108 = .ok (.imul, 1) := by decide +kernel
theorem dX8_goHour_109 : decode cX8_goHour 109 = .ok (.bipush 10, 2) := by decide +kernel
theorem dX8_goHour_111 : decode cX8_goHour 111 = .ok (.idiv, 1) := by decide +kernel
theorem dX8_goHour_112 : decode cX8_goHour 112 = .ok (.iadd, 1) := by decide +kernel
theorem dX8_goHour_113 : decode cX8_goHour 113 = .ok (.iadd, 1) := by decide +kernel
theorem dX8_goHour_114 : decode cX8_goHour 114 = .ok (.iastore, 1) := by decide +kernel
theorem dX8_goHour_115 : decode cX8_goHour 115 = .ok (.aload_n 0, 1) := by decide +kernel
theorem dX8_goHour_116 : decode cX8_goHour 116 = .ok (.getfield 67, 3) := by decide +kernel
theorem dX8_goHour_119 : decode cX8_goHour 119 = .ok (.iload 5, 2) := by decide +kernel
theorem dX8_goHour_121 : decode cX8_goHour 121 = .ok (.aload_n 0, 1) := by decide +kernel
theorem dX8_goHour_122 : decode cX8_goHour 122 = .ok (.getfield 67, 3) := by decide +kernel
theorem dX8_goHour_125 : decode cX8_goHour 125 = .ok (.iload 5, 2) := by decide +kernel
theorem dX8_goHour_127 : decode cX8_goHour 127 = .ok (.iaload, 1) := by decide +kernel
theorem dX8_goHour_128 : decode cX8_goHour 128 = .ok (.aload_n 0, 1) := by decide +kernel
theorem dX8_goHour_129 : decode cX8_goHour 129 = .ok (.getfield 19, 3) := by decide +kernel
theorem dX8_goHour_132 : decode cX8_goHour 132 = .ok (.iload 5, 2) := by decide +kernel
theorem dX8_goHour_134 : decode cX8_goHour 134 = .ok (.iconst 2, 1) := by decide +kernel
theorem dX8_goHour_135 : decode cX8_goHour 135 = .ok (.idiv, 1) := by decide +kernel
theorem dX8_goHour_136 : decode cX8_goHour 136 = .ok (.iaload, 1) := by decide +kernel
theorem dX8_goHour_137 : decode cX8_goHour 137 = .ok (.if_icmp .le 15, 3) := by decide +kernel
theorem dX8_goHour_140 : decode cX8_goHour 140 = .ok (.aload_n 0, 1) := by decide +kernel
theorem dX8_goHour_141 : decode cX8_goHour 141 = .ok (.getfield 19, 3) := by decide +kernel
theorem dX8_goHour_144 : decode cX8_goHour 144 = .ok (.iload 5, 2) := by decide +kernel
theorem dX8_goHour_146 : decode cX8_goHour 146 = .ok (.iconst 2, 1) := by decide +kernel
theorem dX8_goHour_147 : decode cX8_goHour 147 = .ok (.idiv, 1) := by decide +kernel
theorem dX8_goHour_148 : decode cX8_goHour 148 = .ok (.iaload, 1) := by decide +kernel
theorem dX8_goHour_149 : decode cX8_goHour 149 = .ok (.goto 10, 3) := by decide +kernel
theorem dX8_goHour_152 : decode cX8_goHour 152 = .ok (.aload_n 0, 1) := by decide +kernel
theorem dX8_goHour_153 : decode cX8_goHour 153 = .ok (.getfield 67, 3) := by decide +kernel
theorem dX8_goHour_156 : decode cX8_goHour 156 = .ok (.iload 5, 2) := by decide +kernel
theorem dX8_goHour_158 : decode cX8_goHour 158 = .ok (.iaload, 1) := by decide +kernel
theorem dX8_goHour_159 : decode cX8_goHour 159 = .ok (.iastore, 1) := by decide +kernel
theorem dX8_goHour_160 : decode cX8_goHour 160 = .ok (.iinc 5 1, 3) := by decide +kernel
theorem dX8_goHour_163 : decode cX8_goHour 163 = .ok (.goto (-125), 3) := by decide +kernel
theorem dX8_goHour_166 : decode cX8_goHour 166 = .ok (.iconst 0, 1) := by decide +kernel
theorem dX8_goHour_167 : decode cX8_goHour 167 = .ok (.istore 5, 2) := by decide +kernel
theorem dX8_goHour_169 : decode cX8_goHour 169 = .ok (.iload 5, 2) := by decide +kernel
theorem dX8_goHour_171 : decode cX8_goHour 171 = .ok (.bipush 24, 2) := by decide +kernel
theorem dX8_goHour_173 : decode cX8_goHour 173 = .ok (.if_icmp .ge 34, 3) := by decide +kernel
theorem dX8_goHour_176 : decode cX8_goHour 176 = .ok (.aload_n 0, 1) := by decide +kernel
theorem dX8_goHour_177 : decode cX8_goHour 177 = .ok (.getfield 70, 3) := by decide +kernel
theorem dX8_goHour_180 : decode cX8_goHour 180 = .ok (.iload 5, 2) := by decide +kernel
theorem dX8_goHour_182 : decode cX8_goHour 182 = .ok (.dup2, 1) := by decide +kernel
theorem dX8_goHour_183 : decode cX8_goHour 183 = .ok (.iaload, 1) := by decide +kernel
theorem dX8_goHour_184 : decode cX8_goHour 184 = .ok (.aload_n 0, 1) := by decide +kernel
theorem dX8_goHour_185 : decode cX8_goHour 185 = .ok (.getfield 70, 3) := by decide +kernel
theorem dX8_goHour_188 : decode cX8_goHour 188 = .ok (.iload 5, 2) := by decide +kernel
theorem dX8_goHour_190 : decode cX8_goHour 190 = .ok (.iaload, 1) := by decide +kernel
theorem dX8_goHour_191 : decode cX8_goHour 191 = .ok (.ifCond .le 7, 3) := by decide +kernel
theorem dX8_goHour_194 : decode cX8_goHour 194 = .ok (.iconst 1, 1) := by decide +kernel
theorem dX8_goHour_195 : decode cX8_goHour 195 = .ok (.goto 4, 3) := by decide +kernel
theorem dX8_goHour_198 : decode cX8_goHour 198 = .ok (.iconst 0, 1) := by decide +kernel
theorem dX8_goHour_199 : decode cX8_goHour 199 = .ok (.isub, 1) := by decide +kernel
theorem dX8_goHour_200 : decode cX8_goHour 200 = .ok (.iastore, 1) := by decide +kernel
theorem dX8_goHour_201 : decode cX8_goHour 201 = .ok (.iinc 5 1, 3) := by decide +kernel
theorem dX8_goHour_204 : decode cX8_goHour 204 = .ok (.goto (-35), 3) := by decide +kernel
theorem dX8_goHour_207 : decode cX8_goHour 207 = .ok (.iconst 0, 1) := by decide +kernel
theorem dX8_goHour_208 : decode cX8_goHour 208 = .ok (.istore 5, 2) := by decide +kernel
theorem dX8_goHour_210 : decode cX8_goHour 210 = .ok (.iload 5, 2) := by decide +kernel
theorem dX8_goHour_212 : decode cX8_goHour 212 = .ok (.aload_n 0, 1) := by decide +kernel
theorem dX8_goHour_213 : decode cX8_goHour 213 = .ok (.getfield 82, 3) := by decide +kernel
theorem dX8_goHour_216 : decode cX8_goHour 216 = .ok (.if_icmp .ge 50, 3) := by decide +kernel
theorem dX8_goHour_219 : decode cX8_goHour 219 = .ok (.aload_n 0, 1) := by decide +kernel
theorem dX8_goHour_220 : decode cX8_goHour 220 = .ok (.iload 5, 2) := by decide +kernel
theorem dX8_goHour_222 : decode cX8_goHour 222 = .ok (.iconst 0, 1) := by decide +kernel
theorem dX8_goHour_223 : decode cX8_goHour 223 = .ok (.iconst 0, 1) := by decide +kernel
theorem dX8_goHour_224 : decode cX8_goHour 224 = .ok (.invokevirtual 215, 3) := by decide +kernel
theorem dX8_goHour_227 : decode cX8_goHour 227 = .ok (.istore 6, 2) := by decide +kernel
theorem dX8_goHour_229 : decode cX8_goHour 229 = .ok (.aload_n 0, 1) := by decide +kernel
theorem dX8_goHour_230 : decode cX8_goHour 230 = .ok (.getfield 73, 3) := by decide +kernel
theorem dX8_goHour_233 : decode cX8_goHour 233 = .ok (.iload 5, 2) := by decide +kernel
theorem dX8_goHour_235 : decode cX8_goHour 235 = .ok (.iload 6, 2) := by decide +kernel
theorem dX8_goHour_237 : decode cX8_goHour 237 = .ok (.aload_n 0, 1) := by decide +kernel
theorem dX8_goHour_238 : decode cX8_goHour 238 = .ok (.getfield 73, 3) := by decide +kernel
theorem dX8_goHour_241 : decode cX8_goHour 241 = .ok (.iload 5, 2) := by decide +kernel
theorem dX8_goHour_243 : decode cX8_goHour 243 = .ok (.iaload, 1) := by decide +kernel
theorem dX8_goHour_244 : decode cX8_goHour 244 = .ok (.if_icmp .le 8, 3) := by decide +kernel
theorem dX8_goHour_247 : decode cX8_goHour 247 = .ok (.iload 6, 2) := by decide +kernel
theorem dX8_goHour_249 : decode cX8_goHour 249 = .ok (.goto 10, 3) := by decide +kernel
theorem dX8_goHour_252 : decode cX8_goHour 252 = .ok (.aload_n 0, 1) := by decide +kernel
theorem dX8_goHour_253 : decode cX8_goHour 253 = .ok (.getfield 73, 3) := by decide +kernel
theorem dX8_goHour_256 : decode cX8_goHour 256 = .ok (.iload 5, 2) := by decide +kernel
theorem dX8_goHour_258 : decode cX8_goHour 258 = .ok (.iaload, 1) := by decide +kernel
theorem dX8_goHour_259 : decode cX8_goHour 259 = .ok (.iastore, 1) := by decide +kernel
theorem dX8_goHour_260 : decode cX8_goHour 260 = .ok (.iinc 5 1, 3) := by decide +kernel
theorem dX8_goHour_263 : decode cX8_goHour 263 = .ok (.goto (-53), 3) := by decide +kernel
theorem dX8_goHour_266 : decode cX8_goHour 266 = .ok (.return_, 1) := by decide +kernel
theorem dX8_isRule_0 : decode cX8_isRule 0 = .ok (.iload_n 0, 1) := by decide +kernel
theorem dX8_isRule_1 : decode cX8_isRule 1 = .ok (.i2l, 1) := by decide +kernel
theorem dX8_isRule_2 : decode cX8_isRule 2 = .ok (.lconst 0, 1) := by decide +kernel
theorem dX8_isRule_3 : decode cX8_isRule 3 = .ok (.ldc2_w 258, 3) := by decide +kernel
theorem dX8_isRule_6 : decode cX8_isRule 6 = .ok (.invokestatic 99, 3) := by decide +kernel
theorem dX8_isRule_9 : decode cX8_isRule 9 = .ok (.ireturn, 1) := by decide +kernel
theorem dX8_isSky_0 : decode cX8_isSky 0 = .ok (.iload_n 0, 1) := by decide +kernel
theorem dX8_isSky_1 : decode cX8_isSky 1 = .ok (.i2l, 1) := by decide +kernel
theorem dX8_isSky_2 : decode cX8_isSky 2 = .ok (.lconst 0, 1) := by decide +kernel
theorem dX8_isSky_3 : decode cX8_isSky 3 = .ok (.ldc2_w 260, 3) := by decide +kernel
theorem dX8_isSky_6 : decode cX8_isSky 6 = .ok (.invokestatic 99, 3) := by decide +kernel
theorem dX8_isSky_9 : decode cX8_isSky 9 = .ok (.ireturn, 1) := by decide +kernel
theorem dX8_tell_0 : decode cX8_tell 0 = .ok (.aload_n 0, 1) := by decide +kernel
theorem dX8_tell_1 : decode cX8_tell 1 = .ok (.iload_n 1, 1) := by decide +kernel
theorem dX8_tell_2 : decode cX8_tell 2 = .ok (.invokevirtual 221, 3) := by decide +kernel
theorem dX8_tell_5 : decode cX8_tell 5 = .ok (.ifCond .eq 13, 3) := by decide +kernel
theorem dX8_tell_8 : decode cX8_tell 8 = .ok (.iload_n 2, 1) := by decide +kernel
theorem dX8_tell_9 : decode cX8_tell 9 = .ok (.i2l, 1) := by decide +kernel
theorem dX8_tell_10 : decode cX8_tell 10 = .ok (.lconst 0, 1) := by decide +kernel
theorem dX8_tell_11 : decode cX8_tell 11 = .ok (.lconst 1, 1) := by decide +kernel
theorem dX8_tell_12 : decode cX8_tell 12 = .ok (.invokestatic 99, 3) := by decide +kernel
theorem dX8_tell_15 : decode cX8_tell 15 = .ok (.ifCond .ne 5, 3) := by decide +kernel
theorem dX8_tell_18 : decode cX8_tell 18 = .ok (.iconst (-1), 1) := by decide +kernel
theorem dX8_tell_19 : decode cX8_tell 19 = .ok (.ireturn, 1) := by decide +kernel
theorem dX8_tell_20 : decode cX8_tell 20 = .ok (.aload_n 0, 1) := by decide +kernel
theorem dX8_tell_21 : decode cX8_tell 21 = .ok (.getfield 169, 3) := by decide +kernel
theorem dX8_tell_24 : decode cX8_tell 24 = .ok (.istore_n 3, 1) := by decide +kernel
theorem dX8_tell_25 : decode cX8_tell 25 = .ok (.aload_n 0, 1) := by decide +kernel
theorem dX8_tell_26 : decode cX8_tell 26 = .ok (.iconst 2, 1) := by decide +kernel
theorem dX8_tell_27 : decode cX8_tell 27 = .ok (.iload_n 1, 1) := by decide +kernel
theorem dX8_tell_28 : decode cX8_tell 28 = .ok (.imul, 1) := by decide +kernel
theorem dX8_tell_29 : decode cX8_tell 29 = .ok (.iload_n 2, 1) := by decide +kernel
theorem dX8_tell_30 : decode cX8_tell 30 = .ok (.iadd, 1) := by decide +kernel
theorem dX8_tell_31 : decode cX8_tell 31 = .ok (.putfield 169, 3) := by decide +kernel
theorem dX8_tell_34 : decode cX8_tell 34 = .ok (.iload_n 3, 1) := by decide +kernel
theorem dX8_tell_35 : decode cX8_tell 35 = .ok (.ireturn, 1) := by decide +kernel
theorem dX8_on_0 : decode cX8_on 0 = .ok (.iload_n 1, 1) := by decide +kernel
theorem dX8_on_1 : decode cX8_on 1 = .ok (.invokestatic 262, 3) := by decide +kernel
theorem dX8_on_4 : decode cX8_on 4 = .ok (.ifCond .eq 10, 3) := by decide +kernel
theorem dX8_on_7 : decode cX8_on 7 = .ok (.iload_n 2, 1) := by decide +kernel
theorem dX8_on_8 : decode cX8_on 8 = .ok (.invokestatic 265, 3) := by decide +kernel
theorem dX8_on_11 : decode cX8_on 11 = .ok (.ifCond .ne 5, 3) := by decide +kernel
theorem dX8_on_14 : decode cX8_on 14 = .ok (.iconst (-1), 1) := by decide +kernel
theorem dX8_on_15 : decode cX8_on 15 = .ok (.ireturn, 1) := by decide +kernel
theorem dX8_on_16 : decode cX8_on 16 = .ok (.aload_n 0, 1) := by decide +kernel
theorem dX8_on_17 : decode cX8_on 17 = .ok (.invokevirtual 212, 3) := by decide +kernel
theorem dX8_on_20 : decode cX8_on 20 = .ok (.aload_n 0, 1) := by decide +kernel
theorem dX8_on_21 : decode cX8_on 21 = .ok (.iload_n 1, 1) := by decide +kernel
theorem dX8_on_22 : decode cX8_on 22 = .ok (.iload_n 2, 1) := by decide +kernel
theorem dX8_on_23 : decode cX8_on 23 = .ok (.aload_n 0, 1) := by decide +kernel
theorem dX8_on_24 : decode cX8_on 24 = .ok (.getfield 142, 3) := by decide +kernel
theorem dX8_on_27 : decode cX8_on 27 = .ok (.bipush (-4), 2) := by decide +kernel
theorem dX8_on_29 : decode cX8_on 29 = .ok (.invokevirtual 268, 3) := by decide +kernel
theorem dX8_on_32 : decode cX8_on 32 = .ok (.iconst 0, 1) := by decide +kernel
theorem dX8_on_33 : decode cX8_on 33 = .ok (.istore_n 3, 1) := by decide +kernel
theorem dX8_on_34 : decode cX8_on 34 = .ok (.iload_n 3, 1) := by decide +kernel
theorem dX8_on_35 : decode cX8_on 35 = .ok (.bipush 16, 2) := by decide +kernel
theorem dX8_on_37 : decode cX8_on 37 = .ok (.if_icmp .ge 21, 3) := by decide +kernel
theorem dX8_on_40 : decode cX8_on 40 = .ok (.aload_n 0, 1) := by decide +kernel
theorem dX8_on_41 : decode cX8_on 41 = .ok (.getfield 46, 3) := by decide +kernel
theorem dX8_on_44 : decode cX8_on 44 = .ok (.iload_n 3, 1) := by decide +kernel
theorem dX8_on_45 : decode cX8_on 45 = .ok (.aload_n 0, 1) := by decide +kernel
theorem dX8_on_46 : decode cX8_on 46 = .ok (.getfield 67, 3) := by decide +kernel
theorem dX8_on_49 : decode cX8_on 49 = .ok (.iload_n 3, 1) := by decide +kernel
theorem dX8_on_50 : decode cX8_on 50 = .ok (.iaload, 1) := by decide +kernel
theorem dX8_on_51 : decode cX8_on 51 = .ok (.iastore, 1) := by decide +kernel
theorem dX8_on_52 : decode cX8_on 52 = .ok (.iinc 3 1, 3) := by decide +kernel
theorem dX8_on_55 : decode cX8_on 55 = .ok (.goto (-21), 3) := by decide +kernel
theorem dX8_on_58 : decode cX8_on 58 = .ok (.iconst 0, 1) := by decide +kernel
theorem dX8_on_59 : decode cX8_on 59 = .ok (.istore_n 3, 1) := by decide +kernel
theorem dX8_on_60 : decode cX8_on 60 = .ok (.iload_n 3, 1) := by decide +kernel
theorem dX8_on_61 : decode cX8_on 61 = .ok (.bipush 24, 2) := by decide +kernel
theorem dX8_on_63 : decode cX8_on 63 = .ok (.if_icmp .ge 21, 3) := by decide +kernel
theorem dX8_on_66 : decode cX8_on 66 = .ok (.aload_n 0, 1) := by decide +kernel
theorem dX8_on_67 : decode cX8_on 67 = .ok (.getfield 55, 3) := by decide +kernel
theorem dX8_on_70 : decode cX8_on 70 = .ok (.iload_n 3, 1) := by decide +kernel
theorem dX8_on_71 : decode cX8_on 71 = .ok (.aload_n 0, 1) := by decide +kernel
theorem dX8_on_72 : decode cX8_on 72 = .ok (.getfield 70, 3) := by decide +kernel
theorem dX8_on_75 : decode cX8_on 75 = .ok (.iload_n 3, 1) := by decide +kernel
theorem dX8_on_76 : decode cX8_on 76 = .ok (.iaload, 1) := by decide +kernel
theorem dX8_on_77 : decode cX8_on 77 = .ok (.iastore, 1) := by decide +kernel
theorem dX8_on_78 : decode cX8_on 78 = .ok (.iinc 3 1, 3) := by decide +kernel
theorem dX8_on_81 : decode cX8_on 81 = .ok (.goto (-21), 3) := by decide +kernel
theorem dX8_on_84 : decode cX8_on 84 = .ok (.aload_n 0, 1) := by decide +kernel
theorem dX8_on_85 : decode cX8_on 85 = .ok (.dup, 1) := by decide +kernel
theorem dX8_on_86 : decode cX8_on 86 = .ok (.getfield 166, 3) := by decide +kernel
theorem dX8_on_89 : decode cX8_on 89 = .ok (.iconst 1, 1) := by decide +kernel
theorem dX8_on_90 : decode cX8_on 90 = .ok (.iadd, 1) := by decide +kernel
theorem dX8_on_91 : decode cX8_on 91 = .ok (.putfield 166, 3) := by decide +kernel
theorem dX8_on_94 : decode cX8_on 94 = .ok (.aload_n 0, 1) := by decide +kernel
theorem dX8_on_95 : decode cX8_on 95 = .ok (.iload_n 2, 1) := by decide +kernel
theorem dX8_on_96 : decode cX8_on 96 = .ok (.putfield 160, 3) := by decide +kernel
theorem dX8_on_99 : decode cX8_on 99 = .ok (.aload_n 0, 1) := by decide +kernel
theorem dX8_on_100 : decode cX8_on 100 = .ok (.getfield 163, 3) := by decide +kernel
theorem dX8_on_103 : decode cX8_on 103 = .ok (.istore_n 3, 1) := by decide +kernel
theorem dX8_on_104 : decode cX8_on 104 = .ok (.aload_n 0, 1) := by decide +kernel
theorem dX8_on_105 : decode cX8_on 105 = .ok (.invokevirtual 180, 3) := by decide +kernel
theorem dX8_on_108 : decode cX8_on 108 = .ok (.iload_n 3, 1) := by decide +kernel
theorem dX8_on_109 : decode cX8_on 109 = .ok (.aload_n 0, 1) := by decide +kernel
theorem dX8_on_110 : decode cX8_on 110 = .ok (.getfield 163, 3) := by decide +kernel
theorem dX8_on_113 : decode cX8_on 113 = .ok (.iconst (-1), 1) := by decide +kernel
theorem dX8_on_114 : decode cX8_on 114 = .ok (.ixor, 1) := by decide +kernel
theorem dX8_on_115 : decode cX8_on 115 = .ok (.iand, 1) := by decide +kernel
theorem dX8_on_116 : decode cX8_on 116 = .ok (.ireturn, 1) := by decide +kernel
theorem dX8_sky_0 : decode cX8_sky 0 = .ok (.iload_n 1, 1) := by decide +kernel
theorem dX8_sky_1 : decode cX8_sky 1 = .ok (.invokestatic 265, 3) := by decide +kernel
theorem dX8_sky_4 : decode cX8_sky 4 = .ok (.ifCond .ne 5, 3) := by decide +kernel
theorem dX8_sky_7 : decode cX8_sky 7 = .ok (.iconst (-1), 1) := by decide +kernel
theorem dX8_sky_8 : decode cX8_sky 8 = .ok (.ireturn, 1) := by decide +kernel
theorem dX8_sky_9 : decode cX8_sky 9 = .ok (.aload_n 0, 1) := by decide +kernel
theorem dX8_sky_10 : decode cX8_sky 10 = .ok (.getfield 174, 3) := by decide +kernel
theorem dX8_sky_13 : decode cX8_sky 13 = .ok (.bipush 12, 2) := by decide +kernel
theorem dX8_sky_15 : decode cX8_sky 15 = .ok (.if_icmp .ne 6, 3) := by decide +kernel
theorem dX8_sky_18 : decode cX8_sky 18 = .ok (.bipush (-3), 2) := by decide +kernel
theorem dX8_sky_20 : decode cX8_sky 20 = .ok (.ireturn, 1) := by decide +kernel
theorem dX8_sky_21 : decode cX8_sky 21 = .ok (.aload_n 0, 1) := by decide +kernel
theorem dX8_sky_22 : decode cX8_sky 22 = .ok (.getfield 61, 3) := by decide +kernel
theorem dX8_sky_25 : decode cX8_sky 25 = .ok (.aload_n 0, 1) := by decide +kernel
theorem dX8_sky_26 : decode cX8_sky 26 = .ok (.getfield 174, 3) := by decide +kernel
theorem dX8_sky_29 : decode cX8_sky 29 = .ok (.iload_n 1, 1) := by decide +kernel
theorem dX8_sky_30 : decode cX8_sky 30 = .ok (.iastore, 1) := by decide +kernel
theorem dX8_sky_31 : decode cX8_sky 31 = .ok (.aload_n 0, 1) := by decide +kernel
theorem dX8_sky_32 : decode cX8_sky 32 = .ok (.dup, 1) := by decide +kernel
theorem dX8_sky_33 : decode cX8_sky 33 = .ok (.getfield 174, 3) := by decide +kernel
theorem dX8_sky_36 : decode cX8_sky 36 = .ok (.iconst 1, 1) := by decide +kernel
theorem dX8_sky_37 : decode cX8_sky 37 = .ok (.iadd, 1) := by decide +kernel
theorem dX8_sky_38 : decode cX8_sky 38 = .ok (.putfield 174, 3) := by decide +kernel
theorem dX8_sky_41 : decode cX8_sky 41 = .ok (.aload_n 0, 1) := by decide +kernel
theorem dX8_sky_42 : decode cX8_sky 42 = .ok (.getfield 174, 3) := by decide +kernel
theorem dX8_sky_45 : decode cX8_sky 45 = .ok (.ireturn, 1) := by decide +kernel
theorem dX8_noSkies_0 : decode cX8_noSkies 0 = .ok (.aload_n 0, 1) := by decide +kernel
theorem dX8_noSkies_1 : decode cX8_noSkies 1 = .ok (.getfield 174, 3) := by decide +kernel
theorem dX8_noSkies_4 : decode cX8_noSkies 4 = .ok (.istore_n 1, 1) := by decide +kernel
theorem dX8_noSkies_5 : decode cX8_noSkies 5 = .ok (.aload_n 0, 1) := by decide +kernel
theorem dX8_noSkies_6 : decode cX8_noSkies 6 = .ok (.iconst 0, 1) := by decide +kernel
theorem dX8_noSkies_7 : decode cX8_noSkies 7 = .ok (.putfield 174, 3) := by decide +kernel
theorem dX8_noSkies_10 : decode cX8_noSkies 10 = .ok (.iload_n 1, 1) := by decide +kernel
theorem dX8_noSkies_11 : decode cX8_noSkies 11 = .ok (.ireturn, 1) := by decide +kernel
theorem dX8_lost_0 : decode cX8_lost 0 = .ok (.lconst 0, 1) := by decide +kernel
theorem dX8_lost_1 : decode cX8_lost 1 = .ok (.lstore_n 1, 1) := by decide +kernel
theorem dX8_lost_2 : decode cX8_lost 2 = .ok (.iconst 0, 1) := by decide +kernel
theorem dX8_lost_3 : decode cX8_lost 3 = .ok (.istore_n 3, 1) := by decide +kernel
theorem dX8_lost_4 : decode cX8_lost 4 = .ok (.iload_n 3, 1) := by decide +kernel
theorem dX8_lost_5 : decode cX8_lost 5 = .ok (.aload_n 0, 1) := by decide +kernel
theorem dX8_lost_6 : decode cX8_lost 6 = .ok (.getfield 82, 3) := by decide +kernel
theorem dX8_lost_9 : decode cX8_lost 9 = .ok (.if_icmp .ge 70, 3) := by decide +kernel
theorem dX8_lost_12 : decode cX8_lost 12 = .ok (.aload_n 0, 1) := by decide +kernel
theorem dX8_lost_13 : decode cX8_lost 13 = .ok (.getfield 163, 3) := by decide +kernel
theorem dX8_lost_16 : decode cX8_lost 16 = .ok (.iload_n 3, 1) := by decide +kernel
theorem dX8_lost_17 : decode cX8_lost 17 = .ok (.invokestatic 204, 3) := by decide +kernel
theorem dX8_lost_20 : decode cX8_lost 20 = .ok (.ifCond .eq 53, 3) := by decide +kernel
theorem dX8_lost_23 : decode cX8_lost 23 = .ok (.aload_n 0, 1) := by decide +kernel
theorem dX8_lost_24 : decode cX8_lost 24 = .ok (.getfield 22, 3) := by decide +kernel
theorem dX8_lost_27 : decode cX8_lost 27 = .ok (.iload_n 3, 1) := by decide +kernel
theorem dX8_lost_28 : decode cX8_lost 28 = .ok (.iaload, 1) := by decide +kernel
theorem dX8_lost_29 : decode cX8_lost 29 = .ok (.aload_n 0, 1) := by decide +kernel
theorem dX8_lost_30 : decode cX8_lost 30 = .ok (.getfield 157, 3) := by decide +kernel
theorem dX8_lost_33 : decode cX8_lost 33 = .ok (.aload_n 0, 1) := by decide +kernel
theorem dX8_lost_34 : decode cX8_lost 34 = .ok (.getfield 28, 3) := by decide +kernel
theorem dX8_lost_37 : decode cX8_lost 37 = .ok (.iload_n 3, 1) := by decide +kernel
theorem dX8_lost_38 : decode cX8_lost 38 = .ok (.iaload, 1) := by decide +kernel
theorem dX8_lost_39 : decode cX8_lost 39 = .ok (.imul, 1) := by decide +kernel
theorem dX8_lost_40 : decode cX8_lost 40 = .ok (.iadd, 1) := by decide +kernel
theorem dX8_lost_41 : decode cX8_lost 41 = .ok (.i2l, 1) := by decide +kernel
theorem dX8_lost_42 : decode cX8_lost 42 = .ok (.lstore 4, 2) := by decide +kernel
theorem dX8_lost_44 : decode cX8_lost 44 = .ok (.lload_n 1, 1) := by decide +kernel
theorem dX8_lost_45 : decode cX8_lost 45 = .ok (.lload 4, 2) := by decide +kernel
theorem dX8_lost_47 : decode cX8_lost 47 = .ok (.ldc2_w 272, 3) := by decide +kernel
theorem dX8_lost_50 : decode cX8_lost 50 = .ok (.lmul, 1) := by decide +kernel
theorem dX8_lost_51 : decode cX8_lost 51 = .ok (.aload_n 0, 1) := by decide +kernel
theorem dX8_lost_52 : decode cX8_lost 52 = .ok (.iload_n 3, 1) := by decide +kernel
theorem dX8_lost_53 : decode cX8_lost 53 = .ok (.aload_n 0, 1) := by decide +kernel
theorem dX8_lost_54 : decode cX8_lost 54 = .ok (.getfield 73, 3) := by decide +kernel
theorem dX8_lost_57 : decode cX8_lost 57 = .ok (.iload_n 3, 1) := by decide +kernel
theorem dX8_lost_58 : decode cX8_lost 58 = .ok (.iaload, 1) := by decide +kernel
theorem dX8_lost_59 : decode cX8_lost 59 = .ok (.invokevirtual 209, 3) := by decide +kernel
theorem dX8_lost_62 : decode cX8_lost 62 = .ok (.i2l, 1) := by decide +kernel
theorem dX8_lost_63 : decode cX8_lost 63 = .ok (.lmul, 1) := by decide +kernel
theorem dX8_lost_64 : decode cX8_lost 64 = .ok (.aload_n 0, 1) := by decide +kernel
theorem dX8_lost_65 : decode cX8_lost 65 = .ok (.iload_n 3, 1) := by decide +kernel
theorem dX8_lost_66 : decode cX8_lost 66 = .ok (.invokevirtual 218, 3) := by decide +kernel
theorem dX8_lost_69 : decode cX8_lost 69 = .ok (.i2l, 1) := by decide +kernel
theorem dX8_lost_70 : decode cX8_lost 70 = .ok (.ldiv, 1) := by decide +kernel
theorem dX8_lost_71 : decode cX8_lost 71 = .ok (.ladd, 1) := by decide +kernel
theorem dX8_lost_72 : decode cX8_lost 72 = .ok (.lstore_n 1, 1) := by decide +kernel
theorem dX8_lost_73 : decode cX8_lost 73 = .ok (.iinc 3 1, 3) := by decide +kernel
theorem dX8_lost_76 : decode cX8_lost 76 = .ok (.goto (-72), 3) := by decide +kernel
theorem dX8_lost_79 : decode cX8_lost 79 = .ok (.lload_n 1, 1) := by decide +kernel
theorem dX8_lost_80 : decode cX8_lost 80 = .ok (.lreturn, 1) := by decide +kernel
theorem dX8_lossBy_0 : decode cX8_lossBy 0 = .ok (.iconst 0, 1) := by decide +kernel
theorem dX8_lossBy_1 : decode cX8_lossBy 1 = .ok (.istore 5, 2) := by decide +kernel
theorem dX8_lossBy_3 : decode cX8_lossBy 3 = .ok (.iload 5, 2) := by decide +kernel
theorem dX8_lossBy_5 : decode cX8_lossBy 5 = .ok (.aload_n 0, 1) := by decide +kernel
theorem dX8_lossBy_6 : decode cX8_lossBy 6 = .ok (.getfield 174, 3) := by decide +kernel
theorem dX8_lossBy_9 : decode cX8_lossBy 9 = .ok (.if_icmp .ge 43, 3) := by decide +kernel
theorem dX8_lossBy_12 : decode cX8_lossBy 12 = .ok (.aload_n 0, 1) := by decide +kernel
theorem dX8_lossBy_13 : decode cX8_lossBy 13 = .ok (.iload_n 1, 1) := by decide +kernel
theorem dX8_lossBy_14 : decode cX8_lossBy 14 = .ok (.aload_n 0, 1) := by decide +kernel
theorem dX8_lossBy_15 : decode cX8_lossBy 15 = .ok (.getfield 61, 3) := by decide +kernel
theorem dX8_lossBy_18 : decode cX8_lossBy 18 = .ok (.iload 5, 2) := by decide +kernel
theorem dX8_lossBy_20 : decode cX8_lossBy 20 = .ok (.iaload, 1) := by decide +kernel
theorem dX8_lossBy_21 : decode cX8_lossBy 21 = .ok (.iload 5, 2) := by decide +kernel
theorem dX8_lossBy_23 : decode cX8_lossBy 23 = .ok (.ifCond .ne 7, 3) := by decide +kernel
theorem dX8_lossBy_26 : decode cX8_lossBy 26 = .ok (.iload_n 2, 1) := by decide +kernel
theorem dX8_lossBy_27 : decode cX8_lossBy 27 = .ok (.goto 4, 3) := by decide +kernel
theorem dX8_lossBy_30 : decode cX8_lossBy 30 = .ok (.iload_n 3, 1) := by decide +kernel
theorem dX8_lossBy_31 : decode cX8_lossBy 31 = .ok (.iload 5, 2) := by decide +kernel
theorem dX8_lossBy_33 : decode cX8_lossBy 33 = .ok (.ifCond .ne 8, 3) := by decide +kernel
theorem dX8_lossBy_36 : decode cX8_lossBy 36 = .ok (.iload 4, 2) := by decide +kernel
theorem dX8_lossBy_38 : decode cX8_lossBy 38 = .ok (.goto 5, 3) := by decide +kernel
theorem dX8_lossBy_41 : decode cX8_lossBy 41 = .ok (.bipush (-4), 2) := by decide +kernel
theorem dX8_lossBy_43 : decode cX8_lossBy 43 = .ok (.invokevirtual 268, 3) := by decide +kernel
theorem dX8_lossBy_46 : decode cX8_lossBy 46 = .ok (.iinc 5 1, 3) := by decide +kernel
theorem dX8_lossBy_49 : decode cX8_lossBy 49 = .ok (.goto (-46), 3) := by decide +kernel
theorem dX8_lossBy_52 : decode cX8_lossBy 52 = .ok (.aload_n 0, 1) := by decide +kernel
theorem dX8_lossBy_53 : decode cX8_lossBy 53 = .ok (.invokevirtual 274, 3) := by decide +kernel
theorem dX8_lossBy_56 : decode cX8_lossBy 56 = .ok (.lreturn, 1) := by decide +kernel
theorem dX8_loss_0 : decode cX8_loss 0 = .ok (.iload_n 1, 1) := by decide +kernel
theorem dX8_loss_1 : decode cX8_loss 1 = .ok (.invokestatic 262, 3) := by decide +kernel
theorem dX8_loss_4 : decode cX8_loss 4 = .ok (.ifCond .ne 7, 3) := by decide +kernel
theorem dX8_loss_7 : decode cX8_loss 7 = .ok (.ldc2_w 224, 3) := by decide +kernel
theorem dX8_loss_10 : decode cX8_loss 10 = .ok (.lreturn, 1) := by decide +kernel
theorem dX8_loss_11 : decode cX8_loss 11 = .ok (.aload_n 0, 1) := by decide +kernel
theorem dX8_loss_12 : decode cX8_loss 12 = .ok (.invokevirtual 212, 3) := by decide +kernel
theorem dX8_loss_15 : decode cX8_loss 15 = .ok (.aload_n 0, 1) := by decide +kernel
theorem dX8_loss_16 : decode cX8_loss 16 = .ok (.iload_n 1, 1) := by decide +kernel
theorem dX8_loss_17 : decode cX8_loss 17 = .ok (.aload_n 0, 1) := by decide +kernel
theorem dX8_loss_18 : decode cX8_loss 18 = .ok (.getfield 142, 3) := by decide +kernel
theorem dX8_loss_21 : decode cX8_loss 21 = .ok (.aload_n 0, 1) := by decide +kernel
theorem dX8_loss_22 : decode cX8_loss 22 = .ok (.getfield 142, 3) := by decide +kernel
theorem dX8_loss_25 : decode cX8_loss 25 = .ok (.bipush (-4), 2) := by decide +kernel
theorem dX8_loss_27 : decode cX8_loss 27 = .ok (.invokevirtual 278, 3) := by decide +kernel
theorem dX8_loss_30 : decode cX8_loss 30 = .ok (.lreturn, 1) := by decide +kernel
theorem dX8_power_0 : decode cX8_power 0 = .ok (.iconst 1, 1) := by decide +kernel
theorem dX8_power_1 : decode cX8_power 1 = .ok (.istore_n 2, 1) := by decide +kernel
theorem dX8_power_2 : decode cX8_power 2 = .ok (.iconst 0, 1) := by decide +kernel
theorem dX8_power_3 : decode cX8_power 3 = .ok (.istore_n 3, 1) := by decide +kernel
theorem dX8_power_4 : decode cX8_power 4 = .ok (.iload_n 3, 1) := by decide +kernel
theorem dX8_power_5 : decode cX8_power 5 = .ok (.iload_n 1, 1) := by decide +kernel
theorem dX8_power_6 : decode cX8_power 6 = .ok (.if_icmp .ge 13, 3) := by decide +kernel
theorem dX8_power_9 : decode cX8_power 9 = .ok (.iload_n 2, 1) := by decide +kernel
theorem dX8_power_10 : decode cX8_power 10 = .ok (.iload_n 0, 1) := by decide +kernel
theorem dX8_power_11 : decode cX8_power 11 = .ok (.imul, 1) := by decide +kernel
theorem dX8_power_12 : decode cX8_power 12 = .ok (.istore_n 2, 1) := by decide +kernel
theorem dX8_power_13 : decode cX8_power 13 = .ok (.iinc 3 1, 3) := by decide +kernel
theorem dX8_power_16 : decode cX8_power 16 = .ok (.goto (-12), 3) := by decide +kernel
theorem dX8_power_19 : decode cX8_power 19 = .ok (.iload_n 2, 1) := by decide +kernel
theorem dX8_power_20 : decode cX8_power 20 = .ok (.ireturn, 1) := by decide +kernel
theorem dX8_over_0 : decode cX8_over 0 = .ok (.iload_n 1, 1) := by decide +kernel
theorem dX8_over_1 : decode cX8_over 1 = .ok (.invokestatic 262, 3) := by decide +kernel
theorem dX8_over_4 : decode cX8_over 4 = .ok (.ifCond .eq 15, 3) := by decide +kernel
theorem dX8_over_7 : decode cX8_over 7 = .ok (.iload_n 2, 1) := by decide +kernel
theorem dX8_over_8 : decode cX8_over 8 = .ok (.i2l, 1) := by decide +kernel
theorem dX8_over_9 : decode cX8_over 9 = .ok (.lconst 1, 1) := by decide +kernel
theorem dX8_over_10 : decode cX8_over 10 = .ok (.ldc2_w 282, 3) := by decide +kernel
theorem dX8_over_13 : decode cX8_over 13 = .ok (.invokestatic 99, 3) := by decide +kernel
theorem dX8_over_16 : decode cX8_over 16 = .ok (.ifCond .ne 7, 3) := by decide +kernel
theorem dX8_over_19 : decode cX8_over 19 = .ok (.ldc2_w 224, 3) := by decide +kernel
theorem dX8_over_22 : decode cX8_over 22 = .ok (.lreturn, 1) := by decide +kernel
theorem dX8_over_23 : decode cX8_over 23 = .ok (.lconst 0, 1) := by decide +kernel
theorem dX8_over_24 : decode cX8_over 24 = .ok (.lstore_n 3, 1) := by decide +kernel
theorem dX8_over_25 : decode cX8_over 25 = .ok (.iconst 0, 1) := by decide +kernel
theorem dX8_over_26 : decode cX8_over 26 = .ok (.istore 5, 2) := by decide +kernel
theorem dX8_over_28 : decode cX8_over 28 = .ok (.iload 5, 2) := by decide +kernel
theorem dX8_over_30 : decode cX8_over 30 = .ok (.iconst 3, 1) := by decide +kernel
theorem dX8_over_31 : decode cX8_over 31 = .ok (.iload_n 2, 1) := by decide +kernel
theorem dX8_over_32 : decode cX8_over 32 = .ok (.invokestatic 284, 3) := by decide +kernel
theorem dX8_over_35 : decode cX8_over 35 = .ok (.if_icmp .ge 110, 3) := by decide +kernel
theorem dX8_over_38 : decode cX8_over 38 = .ok (.aload_n 0, 1) := by decide +kernel
theorem dX8_over_39 : decode cX8_over 39 = .ok (.invokevirtual 212, 3) := by decide +kernel
theorem dX8_over_42 : decode cX8_over 42 = .ok (.aload_n 0, 1) := by decide +kernel
theorem dX8_over_43 : decode cX8_over 43 = .ok (.getfield 160, 3) := by decide +kernel
theorem dX8_over_46 : decode cX8_over 46 = .ok (.istore 6, 2) := by decide +kernel
theorem dX8_over_48 : decode cX8_over 48 = .ok (.lconst 1, 1) := by decide +kernel
theorem dX8_over_49 : decode cX8_over 49 = .ok (.lstore 7, 2) := by decide +kernel
theorem dX8_over_51 : decode cX8_over 51 = .ok (.iconst 0, 1) := by decide +kernel
theorem dX8_over_52 : decode cX8_over 52 = .ok (.istore 9, 2) := by decide +kernel
theorem dX8_over_54 : decode cX8_over 54 = .ok (.iload 9, 2) := by decide +kernel
theorem dX8_over_56 : decode cX8_over 56 = .ok (.iload_n 2, 1) := by decide +kernel
theorem dX8_over_57 : decode cX8_over 57 = .ok (.if_icmp .ge 61, 3) := by decide +kernel
theorem dX8_over_60 : decode cX8_over 60 = .ok (.iload 5, 2) := by decide +kernel
theorem dX8_over_62 : decode cX8_over 62 = .ok (.iconst 3, 1) := by decide +kernel
theorem dX8_over_63 : decode cX8_over 63 = .ok (.iload_n 2, 1) := by decide +kernel
theorem dX8_over_64 : decode cX8_over 64 = .ok (.iconst 1, 1) := by decide +kernel
theorem dX8_over_65 : decode cX8_over 65 = .ok (.isub, 1) := by decide +kernel
theorem dX8_over_66 : decode cX8_over 66 = .ok (.iload 9, 2) := by decide +kernel
theorem dX8_over_68 : decode cX8_over 68 = .ok (.isub, 1) := by decide +kernel
theorem dX8_over_69 : decode cX8_over 69 = .ok (.invokestatic 284, 3) := by decide +kernel
theorem dX8_over_72 : decode cX8_over 72 = .ok (.idiv, 1) := by decide +kernel
theorem dX8_over_73 : decode cX8_over 73 = .ok (.iconst 3, 1) := by decide +kernel
theorem dX8_over_74 : decode cX8_over 74 = .ok (.irem, 1) := by decide +kernel
theorem dX8_over_75 : decode cX8_over 75 = .ok (.istore 10, 2) := by decide +kernel
theorem dX8_over_77 : decode cX8_over 77 = .ok (.lload 7, 2) := by decide +kernel
theorem dX8_over_79 : decode cX8_over 79 = .ok (.aload_n 0, 1) := by decide +kernel
theorem dX8_over_80 : decode cX8_over 80 = .ok (.getfield 43, 3) := by decide +kernel
theorem dX8_over_83 : decode cX8_over 83 = .ok (.iconst 3, 1) := by decide +kernel
theorem dX8_over_84 : decode cX8_over 84 = .ok (.iload 6, 2) := by decide +kernel
theorem dX8_over_86 : decode cX8_over 86 = .ok (.imul, 1) := by decide +kernel
theorem dX8_over_87 : decode cX8_over 87 = .ok (.iload 10, 2) := by decide +kernel
theorem dX8_over_89 : decode cX8_over 89 = .ok (.iadd, 1) := by decide +kernel
theorem dX8_over_90 : decode cX8_over 90 = .ok (.iaload, 1) := by decide +kernel
theorem dX8_over_91 : decode cX8_over 91 = .ok (.i2l, 1) := by decide +kernel
theorem dX8_over_92 : decode cX8_over 92 = .ok (.lmul, 1) := by decide +kernel
theorem dX8_over_93 : decode cX8_over 93 = .ok (.lstore 7, 2) := by decide +kernel
theorem dX8_over_95 : decode cX8_over 95 = .ok (.aload_n 0, 1) := by decide +kernel
theorem dX8_over_96 : decode cX8_over 96 = .ok (.iload_n 1, 1) := by decide +kernel
theorem dX8_over_97 : decode cX8_over 97 = .ok (.iload 10, 2) := by decide +kernel
theorem dX8_over_99 : decode cX8_over 99 = .ok (.aload_n 0, 1) := by decide +kernel
theorem dX8_over_100 : decode cX8_over 100 = .ok (.getfield 142, 3) := by decide +kernel
theorem dX8_over_103 : decode cX8_over 103 = .ok (.bipush (-4), 2) := by decide +kernel
theorem dX8_over_105 : decode cX8_over 105 = .ok (.invokevirtual 268, 3) := by decide +kernel
theorem dX8_over_108 : decode cX8_over 108 = .ok (.iload 10, 2) := by decide +kernel
theorem dX8_over_110 : decode cX8_over 110 = .ok (.istore 6, 2) := by decide +kernel
theorem dX8_over_112 : decode cX8_over 112 = .ok (.iinc 9 1, 3) := by decide +kernel
theorem dX8_over_115 : decode cX8_over 115 = .ok (.goto (-61), 3) := by decide +kernel
theorem dX8_over_118 : decode cX8_over 118 = .ok (.lload_n 3, 1) := by decide +kernel
theorem dX8_over_119 : decode cX8_over 119 = .ok (.lload 7, 2) := by decide +kernel
theorem dX8_over_121 : decode cX8_over 121 = .ok (.lconst 0, 1) := by decide +kernel
theorem dX8_over_122 : decode cX8_over 122 = .ok (.lcmp, 1) := by decide +kernel
theorem dX8_over_123 : decode cX8_over 123 = .ok (.ifCond .ne 7, 3) := by decide +kernel
theorem dX8_over_126 : decode cX8_over 126 = .ok (.lconst 0, 1) := by decide +kernel
theorem dX8_over_127 : decode cX8_over 127 = .ok (.goto 10, 3) := by decide +kernel
theorem dX8_over_130 : decode cX8_over 130 = .ok (.aload_n 0, 1) := by decide +kernel
theorem dX8_over_131 : decode cX8_over 131 = .ok (.invokevirtual 274, 3) := by decide +kernel
theorem dX8_over_134 : decode cX8_over 134 = .ok (.lload 7, 2) := by decide +kernel
theorem dX8_over_136 : decode cX8_over 136 = .ok (.lmul, 1) := by decide +kernel
theorem dX8_over_137 : decode cX8_over 137 = .ok (.ladd, 1) := by decide +kernel
theorem dX8_over_138 : decode cX8_over 138 = .ok (.lstore_n 3, 1) := by decide +kernel
theorem dX8_over_139 : decode cX8_over 139 = .ok (.iinc 5 1, 3) := by decide +kernel
theorem dX8_over_142 : decode cX8_over 142 = .ok (.goto (-114), 3) := by decide +kernel
theorem dX8_over_145 : decode cX8_over 145 = .ok (.lload_n 3, 1) := by decide +kernel
theorem dX8_over_146 : decode cX8_over 146 = .ok (.bipush 10, 2) := by decide +kernel
theorem dX8_over_148 : decode cX8_over 148 = .ok (.iload_n 2, 1) := by decide +kernel
theorem dX8_over_149 : decode cX8_over 149 = .ok (.invokestatic 284, 3) := by decide +kernel
theorem dX8_over_152 : decode cX8_over 152 = .ok (.i2l, 1) := by decide +kernel
theorem dX8_over_153 : decode cX8_over 153 = .ok (.ldiv, 1) := by decide +kernel
theorem dX8_over_154 : decode cX8_over 154 = .ok (.lreturn, 1) := by decide +kernel
theorem dX8_bestRow_0 : decode cX8_bestRow 0 = .ok (.bipush (-4), 2) := by decide +kernel
theorem dX8_bestRow_2 : decode cX8_bestRow 2 = .ok (.istore_n 2, 1) := by decide +kernel
theorem dX8_bestRow_3 : decode cX8_bestRow 3 = .ok (.aload_n 0, 1) := by decide +kernel
theorem dX8_bestRow_4 : decode cX8_bestRow 4 = .ok (.ldc2_w 287, 3) := by decide +kernel
theorem dX8_bestRow_7 : decode cX8_bestRow 7 = .ok (.putfield 289, 3) := by decide +kernel
theorem dX8_bestRow_10 : decode cX8_bestRow 10 = .ok (.iconst 0, 1) := by decide +kernel
theorem dX8_bestRow_11 : decode cX8_bestRow 11 = .ok (.istore_n 3, 1) := by decide +kernel
theorem dX8_bestRow_12 : decode cX8_bestRow 12 = .ok (.iload_n 3, 1) := by decide +kernel
theorem dX8_bestRow_13 : decode cX8_bestRow 13 = .ok (.bipush 17, 2) := by decide +kernel
theorem dX8_bestRow_15 : decode cX8_bestRow 15 = .ok (.iload_n 1, 1) := by decide +kernel
theorem dX8_bestRow_16 : decode cX8_bestRow 16 = .ok (.invokestatic 284, 3) := by decide +kernel
theorem dX8_bestRow_19 : decode cX8_bestRow 19 = .ok (.if_icmp .ge 172, 3) := by decide +kernel
theorem dX8_bestRow_22 : decode cX8_bestRow 22 = .ok (.aload_n 0, 1) := by decide +kernel
theorem dX8_bestRow_23 : decode cX8_bestRow 23 = .ok (.invokevirtual 212, 3) := by decide +kernel
theorem dX8_bestRow_26 : decode cX8_bestRow 26 = .ok (.iconst 1, 1) := by decide +kernel
theorem dX8_bestRow_27 : decode cX8_bestRow 27 = .ok (.istore 4, 2) := by decide +kernel
theorem dX8_bestRow_29 : decode cX8_bestRow 29 = .ok (.iconst 0, 1) := by decide +kernel
theorem dX8_bestRow_30 : decode cX8_bestRow 30 = .ok (.istore 5, 2) := by decide +kernel
theorem dX8_bestRow_32 : decode cX8_bestRow 32 = .ok (.iload 5, 2) := by decide +kernel
theorem dX8_bestRow_34 : decode cX8_bestRow 34 = .ok (.iload_n 1, 1) := by decide +kernel
theorem dX8_bestRow_35 : decode cX8_bestRow 35 = .ok (.if_icmp .ge 94, 3) := by decide +kernel
theorem dX8_bestRow_38 : decode cX8_bestRow 38 = .ok (.iload_n 3, 1) := by decide +kernel
theorem dX8_bestRow_39 : decode cX8_bestRow 39 = .ok (.bipush 17, 2) := by decide +kernel
theorem dX8_bestRow_41 : decode cX8_bestRow 41 = .ok (.iload_n 1, 1) := by decide +kernel
theorem dX8_bestRow_42 : decode cX8_bestRow 42 = .ok (.iconst 1, 1) := by decide +kernel
theorem dX8_bestRow_43 : decode cX8_bestRow 43 = .ok (.isub, 1) := by decide +kernel
theorem dX8_bestRow_44 : decode cX8_bestRow 44 = .ok (.iload 5, 2) := by decide +kernel
theorem dX8_bestRow_46 : decode cX8_bestRow 46 = .ok (.isub, 1) := by decide +kernel
theorem dX8_bestRow_47 : decode cX8_bestRow 47 = .ok (.invokestatic 284, 3) := by decide +kernel
theorem dX8_bestRow_50 : decode cX8_bestRow 50 = .ok (.idiv, 1) := by decide +kernel
theorem dX8_bestRow_51 : decode cX8_bestRow 51 = .ok (.bipush 17, 2) := by decide +kernel
theorem dX8_bestRow_53 : decode cX8_bestRow 53 = .ok (.irem, 1) := by decide +kernel
theorem dX8_bestRow_54 : decode cX8_bestRow 54 = .ok (.istore 6, 2) := by decide +kernel
theorem dX8_bestRow_56 : decode cX8_bestRow 56 = .ok (.iload 4, 2) := by decide +kernel
theorem dX8_bestRow_58 : decode cX8_bestRow 58 = .ok (.ifCond .eq 39, 3) := by decide +kernel
theorem dX8_bestRow_61 : decode cX8_bestRow 61 = .ok (.iload 6, 2) := by decide +kernel
theorem dX8_bestRow_63 : decode cX8_bestRow 63 = .ok (.bipush 16, 2) := by decide +kernel
theorem dX8_bestRow_65 : decode cX8_bestRow 65 = .ok (.if_icmp .eq 28, 3) := by decide +kernel
theorem dX8_bestRow_68 : decode cX8_bestRow 68 = .ok (.iload 6, 2) := by decide +kernel
theorem dX8_bestRow_70 : decode cX8_bestRow 70 = .ok (.iconst 2, 1) := by decide +kernel
theorem dX8_bestRow_71 : decode cX8_bestRow 71 = .ok (.idiv, 1) := by decide +kernel
theorem dX8_bestRow_72 : decode cX8_bestRow 72 = .ok (.aload_n 0, 1) := by decide +kernel
theorem dX8_bestRow_73 : decode cX8_bestRow 73 = .ok (.getfield 82, 3) := by decide +kernel
theorem dX8_bestRow_76 : decode cX8_bestRow 76 = .ok (.if_icmp .ge 21, 3) := by decide +kernel
theorem dX8_bestRow_79 : decode cX8_bestRow 79 = .ok (.aload_n 0, 1) := by decide +kernel
theorem dX8_bestRow_80 : decode cX8_bestRow 80 = .ok (.getfield 163, 3) := by decide +kernel
theorem dX8_bestRow_83 : decode cX8_bestRow 83 = .ok (.iload 6, 2) := by decide +kernel
theorem dX8_bestRow_85 : decode cX8_bestRow 85 = .ok (.iconst 2, 1) := by decide +kernel
theorem dX8_bestRow_86 : decode cX8_bestRow 86 = .ok (.idiv, 1) := by decide +kernel
theorem dX8_bestRow_87 : decode cX8_bestRow 87 = .ok (.invokestatic 204, 3) := by decide +kernel
theorem dX8_bestRow_90 : decode cX8_bestRow 90 = .ok (.ifCond .eq 7, 3) := by decide +kernel
theorem dX8_bestRow_93 : decode cX8_bestRow 93 = .ok (.iconst 1, 1) := by decide +kernel
theorem dX8_bestRow_94 : decode cX8_bestRow 94 = .ok (.goto 4, 3) := by decide +kernel
theorem dX8_bestRow_97 : decode cX8_bestRow 97 = .ok (.iconst 0, 1) := by decide +kernel
theorem dX8_bestRow_98 : decode cX8_bestRow 98 = .ok (.istore 4, 2) := by decide +kernel
theorem dX8_bestRow_100 : decode cX8_bestRow 100 = .ok (.iload 4, 2) := by decide +kernel
theorem dX8_bestRow_102 : decode cX8_bestRow 102 = .ok (.ifCond .eq 21, 3) := by decide +kernel
theorem dX8_bestRow_105 : decode cX8_bestRow 105 = .ok (.aload_n 0, 1) := by decide +kernel
theorem dX8_bestRow_106 : decode cX8_bestRow 106 = .ok (.iconst 0, 1) := by decide +kernel
theorem dX8_bestRow_107 : decode cX8_bestRow 107 = .ok (.aload_n 0, 1) := by decide +kernel
theorem dX8_bestRow_108 : decode cX8_bestRow 108 = .ok (.getfield 61, 3) := by decide +kernel
theorem dX8_bestRow_111 : decode cX8_bestRow 111 = .ok (.iload 5, 2) := by decide +kernel
theorem dX8_bestRow_113 : decode cX8_bestRow 113 = .ok (.iaload, 1) := by decide +kernel
theorem dX8_bestRow_114 : decode cX8_bestRow 114 = .ok (.aload_n 0, 1) := by decide +kernel
theorem dX8_bestRow_115 : decode cX8_bestRow 115 = .ok (.getfield 142, 3) := by decide +kernel
theorem dX8_bestRow_118 : decode cX8_bestRow 118 = .ok (.iload 6, 2) := by decide +kernel
theorem dX8_bestRow_120 : decode cX8_bestRow 120 = .ok (.invokevirtual 268, 3) := by decide +kernel
theorem dX8_bestRow_123 : decode cX8_bestRow 123 = .ok (.iinc 5 1, 3) := by decide +kernel
theorem dX8_bestRow_126 : decode cX8_bestRow 126 = .ok (.goto (-94), 3) := by decide +kernel
theorem dX8_bestRow_129 : decode cX8_bestRow 129 = .ok (.iload 4, 2) := by decide +kernel
theorem dX8_bestRow_131 : decode cX8_bestRow 131 = .ok (.ifCond .eq 10, 3) := by decide +kernel
theorem dX8_bestRow_134 : decode cX8_bestRow 134 = .ok (.aload_n 0, 1) := by decide +kernel
theorem dX8_bestRow_135 : decode cX8_bestRow 135 = .ok (.invokevirtual 274, 3) := by decide +kernel
theorem dX8_bestRow_138 : decode cX8_bestRow 138 = .ok (.goto 6, 3) := by decide +kernel
theorem dX8_bestRow_141 : decode cX8_bestRow 141 = .ok (.ldc2_w 287, 3) := by decide +kernel
theorem dX8_bestRow_144 : decode cX8_bestRow 144 = .ok (.lstore 5, 2) := by decide +kernel
theorem dX8_bestRow_146 : decode cX8_bestRow 146 = .ok (.lload 5, 2) := by decide +kernel
theorem dX8_bestRow_148 : decode cX8_bestRow 148 = .ok (.aload_n 0, 1) := by decide +kernel
theorem dX8_bestRow_149 : decode cX8_bestRow 149 = .ok (.getfield 289, 3) := by decide +kernel
theorem dX8_bestRow_152 : decode cX8_bestRow 152 = .ok (.lcmp, 1) := by decide +kernel
theorem dX8_bestRow_153 : decode cX8_bestRow 153 = .ok (.ifCond .ge 7, 3) := by decide +kernel
theorem dX8_bestRow_156 : decode cX8_bestRow 156 = .ok (.iload_n 3, 1) := by decide +kernel
theorem dX8_bestRow_157 : decode cX8_bestRow 157 = .ok (.goto 4, 3) := by decide +kernel
theorem dX8_bestRow_160 : decode cX8_bestRow 160 = .ok (.iload_n 2, 1) := by decide +kernel
theorem dX8_bestRow_161 : decode cX8_bestRow 161 = .ok (.istore_n 2, 1) := by decide +kernel
theorem dX8_bestRow_162 : decode cX8_bestRow 162 = .ok (.aload_n 0, 1) := by decide +kernel
theorem dX8_bestRow_163 : decode cX8_bestRow 163 = .ok (.lload 5, 2) := by decide +kernel
theorem dX8_bestRow_165 : decode cX8_bestRow 165 = .ok (.aload_n 0, 1) := by decide +kernel
theorem dX8_bestRow_166 : decode cX8_bestRow 166 = .ok (.getfield 289, 3) := by decide +kernel
theorem dX8_bestRow_169 : decode cX8_bestRow 169 = .ok (.lcmp, 1) := by decide +kernel
theorem dX8_bestRow_170 : decode cX8_bestRow 170 = .ok (.ifCond .ge 8, 3) := by decide +kernel
theorem dX8_bestRow_173 : decode cX8_bestRow 173 = .ok (.lload 5, 2) := by decide +kernel
theorem dX8_bestRow_175 : decode cX8_bestRow 175 = .ok (.goto 7, 3) := by decide +kernel
theorem dX8_bestRow_178 : decode cX8_bestRow 178 = .ok (.aload_n 0, 1) := by decide +kernel
theorem dX8_bestRow_179 : decode cX8_bestRow 179 = .ok (.getfield 289, 3) := by decide +kernel
theorem dX8_bestRow_182 : decode cX8_bestRow 182 = .ok (.putfield 289, 3) := by decide +kernel
theorem dX8_bestRow_185 : decode cX8_bestRow 185 = .ok (.iinc 3 1, 3) := by decide +kernel
theorem dX8_bestRow_188 : decode cX8_bestRow 188 = .ok (.goto (-176), 3) := by decide +kernel
theorem dX8_bestRow_191 : decode cX8_bestRow 191 = .ok (.iload_n 2, 1) := by decide +kernel
theorem dX8_bestRow_192 : decode cX8_bestRow 192 = .ok (.ireturn, 1) := by decide +kernel
theorem dX8_best_0 : decode cX8_best 0 = .ok (.iload_n 1, 1) := by decide +kernel
theorem dX8_best_1 : decode cX8_best 1 = .ok (.i2l, 1) := by decide +kernel
theorem dX8_best_2 : decode cX8_best 2 = .ok (.lconst 1, 1) := by decide +kernel
theorem dX8_best_3 : decode cX8_best 3 = .ok (.ldc2_w 226, 3) := by decide +kernel
theorem dX8_best_6 : decode cX8_best 6 = .ok (.invokestatic 99, 3) := by decide +kernel
theorem dX8_best_9 : decode cX8_best 9 = .ok (.ifCond .eq 18, 3) := by decide +kernel
theorem dX8_best_12 : decode cX8_best 12 = .ok (.iload_n 2, 1) := by decide +kernel
theorem dX8_best_13 : decode cX8_best 13 = .ok (.i2l, 1) := by decide +kernel
theorem dX8_best_14 : decode cX8_best 14 = .ok (.ldc2_w 224, 3) := by decide +kernel
theorem dX8_best_17 : decode cX8_best 17 = .ok (.iload_n 1, 1) := by decide +kernel
theorem dX8_best_18 : decode cX8_best 18 = .ok (.iconst 1, 1) := by decide +kernel
theorem dX8_best_19 : decode cX8_best 19 = .ok (.isub, 1) := by decide +kernel
theorem dX8_best_20 : decode cX8_best 20 = .ok (.i2l, 1) := by decide +kernel
theorem dX8_best_21 : decode cX8_best 21 = .ok (.invokestatic 99, 3) := by decide +kernel
theorem dX8_best_24 : decode cX8_best 24 = .ok (.ifCond .ne 7, 3) := by decide +kernel
theorem dX8_best_27 : decode cX8_best 27 = .ok (.ldc2_w 224, 3) := by decide +kernel
theorem dX8_best_30 : decode cX8_best 30 = .ok (.lreturn, 1) := by decide +kernel
theorem dX8_best_31 : decode cX8_best 31 = .ok (.aload_n 0, 1) := by decide +kernel
theorem dX8_best_32 : decode cX8_best 32 = .ok (.getfield 174, 3) := by decide +kernel
theorem dX8_best_35 : decode cX8_best 35 = .ok (.iload_n 1, 1) := by decide +kernel
theorem dX8_best_36 : decode cX8_best 36 = .ok (.if_icmp .ge 7, 3) := by decide +kernel
theorem dX8_best_39 : decode cX8_best 39 = .ok (.ldc2_w 293, 3) := by decide +kernel
theorem dX8_best_42 : decode cX8_best 42 = .ok (.lreturn, 1) := by decide +kernel
theorem dX8_best_43 : decode cX8_best 43 = .ok (.aload_n 0, 1) := by decide +kernel
theorem dX8_best_44 : decode cX8_best 44 = .ok (.iload_n 1, 1) := by decide +kernel
theorem dX8_best_45 : decode cX8_best 45 = .ok (.invokevirtual 295, 3) := by decide +kernel
theorem dX8_best_48 : decode cX8_best 48 = .ok (.istore_n 3, 1) := by decide +kernel
theorem dX8_best_49 : decode cX8_best 49 = .ok (.iload_n 2, 1) := by decide +kernel
theorem dX8_best_50 : decode cX8_best 50 = .ok (.iconst (-1), 1) := by decide +kernel
theorem dX8_best_51 : decode cX8_best 51 = .ok (.if_icmp .ne 10, 3) := by decide +kernel
theorem dX8_best_54 : decode cX8_best 54 = .ok (.aload_n 0, 1) := by decide +kernel
theorem dX8_best_55 : decode cX8_best 55 = .ok (.getfield 289, 3) := by decide +kernel
theorem dX8_best_58 : decode cX8_best 58 = .ok (.goto 19, 3) := by decide +kernel
theorem dX8_best_61 : decode cX8_best 61 = .ok (.iload_n 3, 1) := by decide +kernel
theorem dX8_best_62 : decode cX8_best 62 = .ok (.bipush 17, 2) := by decide +kernel
theorem dX8_best_64 : decode cX8_best 64 = .ok (.iload_n 1, 1) := by decide +kernel
theorem dX8_best_65 : decode cX8_best 65 = .ok (.iconst 1, 1) := by decide +kernel
theorem dX8_best_66 : decode cX8_best 66 = .ok (.isub, 1) := by decide +kernel
theorem dX8_best_67 : decode cX8_best 67 = .ok (.iload_n 2, 1) := by decide +kernel
theorem dX8_best_68 : decode cX8_best 68 = .ok (.isub, 1) := by decide +kernel
theorem dX8_best_69 : decode cX8_best 69 = .ok (.invokestatic 284, 3) := by decide +kernel
theorem dX8_best_72 : decode cX8_best 72 = .ok (.idiv, 1) := by decide +kernel
theorem dX8_best_73 : decode cX8_best 73 = .ok (.bipush 17, 2) := by decide +kernel
theorem dX8_best_75 : decode cX8_best 75 = .ok (.irem, 1) := by decide +kernel
theorem dX8_best_76 : decode cX8_best 76 = .ok (.i2l, 1) := by decide +kernel
theorem dX8_best_77 : decode cX8_best 77 = .ok (.lreturn, 1) := by decide +kernel
theorem dX8_first_0 : decode cX8_first 0 = .ok (.aload_n 0, 1) := by decide +kernel
theorem dX8_first_1 : decode cX8_first 1 = .ok (.iload_n 1, 1) := by decide +kernel
theorem dX8_first_2 : decode cX8_first 2 = .ok (.invokevirtual 221, 3) := by decide +kernel
theorem dX8_first_5 : decode cX8_first 5 = .ok (.ifCond .ne 5, 3) := by decide +kernel
theorem dX8_first_8 : decode cX8_first 8 = .ok (.iconst (-1), 1) := by decide +kernel
theorem dX8_first_9 : decode cX8_first 9 = .ok (.ireturn, 1) := by decide +kernel
theorem dX8_first_10 : decode cX8_first 10 = .ok (.aload_n 0, 1) := by decide +kernel
theorem dX8_first_11 : decode cX8_first 11 = .ok (.getfield 163, 3) := by decide +kernel
theorem dX8_first_14 : decode cX8_first 14 = .ok (.iload_n 1, 1) := by decide +kernel
theorem dX8_first_15 : decode cX8_first 15 = .ok (.invokestatic 204, 3) := by decide +kernel
theorem dX8_first_18 : decode cX8_first 18 = .ok (.ifCond .eq 10, 3) := by decide +kernel
theorem dX8_first_21 : decode cX8_first 21 = .ok (.aload_n 0, 1) := by decide +kernel
theorem dX8_first_22 : decode cX8_first 22 = .ok (.getfield 174, 3) := by decide +kernel
theorem dX8_first_25 : decode cX8_first 25 = .ok (.ifCond .ne 6, 3) := by decide +kernel
theorem dX8_first_28 : decode cX8_first 28 = .ok (.bipush (-2), 2) := by decide +kernel
theorem dX8_first_30 : decode cX8_first 30 = .ok (.ireturn, 1) := by decide +kernel
theorem dX8_first_31 : decode cX8_first 31 = .ok (.aload_n 0, 1) := by decide +kernel
theorem dX8_first_32 : decode cX8_first 32 = .ok (.invokevirtual 212, 3) := by decide +kernel
theorem dX8_first_35 : decode cX8_first 35 = .ok (.aload_n 0, 1) := by decide +kernel
theorem dX8_first_36 : decode cX8_first 36 = .ok (.iconst 0, 1) := by decide +kernel
theorem dX8_first_37 : decode cX8_first 37 = .ok (.aload_n 0, 1) := by decide +kernel
theorem dX8_first_38 : decode cX8_first 38 = .ok (.getfield 142, 3) := by decide +kernel
theorem dX8_first_41 : decode cX8_first 41 = .ok (.aload_n 0, 1) := by decide +kernel
theorem dX8_first_42 : decode cX8_first 42 = .ok (.getfield 142, 3) := by decide +kernel
theorem dX8_first_45 : decode cX8_first 45 = .ok (.iconst 2, 1) := by decide +kernel
theorem dX8_first_46 : decode cX8_first 46 = .ok (.iload_n 1, 1) := by decide +kernel
theorem dX8_first_47 : decode cX8_first 47 = .ok (.imul, 1) := by decide +kernel
theorem dX8_first_48 : decode cX8_first 48 = .ok (.invokevirtual 278, 3) := by decide +kernel
theorem dX8_first_51 : decode cX8_first 51 = .ok (.lstore_n 2, 1) := by decide +kernel
theorem dX8_first_52 : decode cX8_first 52 = .ok (.aload_n 0, 1) := by decide +kernel
theorem dX8_first_53 : decode cX8_first 53 = .ok (.invokevirtual 212, 3) := by decide +kernel
theorem dX8_first_56 : decode cX8_first 56 = .ok (.aload_n 0, 1) := by decide +kernel
theorem dX8_first_57 : decode cX8_first 57 = .ok (.iconst 0, 1) := by decide +kernel
theorem dX8_first_58 : decode cX8_first 58 = .ok (.aload_n 0, 1) := by decide +kernel
theorem dX8_first_59 : decode cX8_first 59 = .ok (.getfield 142, 3) := by decide +kernel
theorem dX8_first_62 : decode cX8_first 62 = .ok (.aload_n 0, 1) := by decide +kernel
theorem dX8_first_63 : decode cX8_first 63 = .ok (.getfield 142, 3) := by decide +kernel
theorem dX8_first_66 : decode cX8_first 66 = .ok (.iconst 2, 1) := by decide +kernel
theorem dX8_first_67 : decode cX8_first 67 = .ok (.iload_n 1, 1) := by decide +kernel
theorem dX8_first_68 : decode cX8_first 68 = .ok (.imul, 1) := by decide +kernel
theorem dX8_first_69 : decode cX8_first 69 = .ok (.iconst 1, 1) := by decide +kernel
theorem dX8_first_70 : decode cX8_first 70 = .ok (.iadd, 1) := by decide +kernel
theorem dX8_first_71 : decode cX8_first 71 = .ok (.invokevirtual 278, 3) := by decide +kernel
theorem dX8_first_74 : decode cX8_first 74 = .ok (.lstore 4, 2) := by decide +kernel
theorem dX8_first_76 : decode cX8_first 76 = .ok (.lload 4, 2) := by decide +kernel
theorem dX8_first_78 : decode cX8_first 78 = .ok (.lload_n 2, 1) := by decide +kernel
theorem dX8_first_79 : decode cX8_first 79 = .ok (.lcmp, 1) := by decide +kernel
theorem dX8_first_80 : decode cX8_first 80 = .ok (.ifCond .ge 7, 3) := by decide +kernel
theorem dX8_first_83 : decode cX8_first 83 = .ok (.iconst 1, 1) := by decide +kernel
theorem dX8_first_84 : decode cX8_first 84 = .ok (.goto 4, 3) := by decide +kernel
theorem dX8_first_87 : decode cX8_first 87 = .ok (.iconst 0, 1) := by decide +kernel
theorem dX8_first_88 : decode cX8_first 88 = .ok (.ireturn, 1) := by decide +kernel
theorem dX8_more_0 : decode cX8_more 0 = .ok (.iload_n 1, 1) := by decide +kernel
theorem dX8_more_1 : decode cX8_more 1 = .ok (.invokestatic 262, 3) := by decide +kernel
theorem dX8_more_4 : decode cX8_more 4 = .ok (.ifCond .eq 15, 3) := by decide +kernel
theorem dX8_more_7 : decode cX8_more 7 = .ok (.iload_n 2, 1) := by decide +kernel
theorem dX8_more_8 : decode cX8_more 8 = .ok (.i2l, 1) := by decide +kernel
theorem dX8_more_9 : decode cX8_more 9 = .ok (.lconst 0, 1) := by decide +kernel
theorem dX8_more_10 : decode cX8_more 10 = .ok (.ldc2_w 298, 3) := by decide +kernel
theorem dX8_more_13 : decode cX8_more 13 = .ok (.invokestatic 99, 3) := by decide +kernel
theorem dX8_more_16 : decode cX8_more 16 = .ok (.ifCond .ne 7, 3) := by decide +kernel
theorem dX8_more_19 : decode cX8_more 19 = .ok (.ldc2_w 224, 3) := by decide +kernel
theorem dX8_more_22 : decode cX8_more 22 = .ok (.lreturn, 1) := by decide +kernel
theorem dX8_more_23 : decode cX8_more 23 = .ok (.aload_n 0, 1) := by decide +kernel
theorem dX8_more_24 : decode cX8_more 24 = .ok (.invokevirtual 212, 3) := by decide +kernel
theorem dX8_more_27 : decode cX8_more 27 = .ok (.aload_n 0, 1) := by decide +kernel
theorem dX8_more_28 : decode cX8_more 28 = .ok (.iload_n 1, 1) := by decide +kernel
theorem dX8_more_29 : decode cX8_more 29 = .ok (.aload_n 0, 1) := by decide +kernel
theorem dX8_more_30 : decode cX8_more 30 = .ok (.getfield 142, 3) := by decide +kernel
theorem dX8_more_33 : decode cX8_more 33 = .ok (.iload_n 2, 1) := by decide +kernel
theorem dX8_more_34 : decode cX8_more 34 = .ok (.iadd, 1) := by decide +kernel
theorem dX8_more_35 : decode cX8_more 35 = .ok (.aload_n 0, 1) := by decide +kernel
theorem dX8_more_36 : decode cX8_more 36 = .ok (.getfield 142, 3) := by decide +kernel
theorem dX8_more_39 : decode cX8_more 39 = .ok (.iload_n 2, 1) := by decide +kernel
theorem dX8_more_40 : decode cX8_more 40 = .ok (.iadd, 1) := by decide +kernel
theorem dX8_more_41 : decode cX8_more 41 = .ok (.bipush (-4), 2) := by decide +kernel
theorem dX8_more_43 : decode cX8_more 43 = .ok (.invokevirtual 278, 3) := by decide +kernel
theorem dX8_more_46 : decode cX8_more 46 = .ok (.lreturn, 1) := by decide +kernel
theorem dX8_prop_0 : decode cX8_prop 0 = .ok (.aload_n 0, 1) := by decide +kernel
theorem dX8_prop_1 : decode cX8_prop 1 = .ok (.iload_n 1, 1) := by decide +kernel
theorem dX8_prop_2 : decode cX8_prop 2 = .ok (.invokevirtual 221, 3) := by decide +kernel
theorem dX8_prop_5 : decode cX8_prop 5 = .ok (.ifCond .ne 5, 3) := by decide +kernel
theorem dX8_prop_8 : decode cX8_prop 8 = .ok (.iconst (-1), 1) := by decide +kernel
theorem dX8_prop_9 : decode cX8_prop 9 = .ok (.ireturn, 1) := by decide +kernel
theorem dX8_prop_10 : decode cX8_prop 10 = .ok (.aload_n 0, 1) := by decide +kernel
theorem dX8_prop_11 : decode cX8_prop 11 = .ok (.getfield 163, 3) := by decide +kernel
theorem dX8_prop_14 : decode cX8_prop 14 = .ok (.iload_n 1, 1) := by decide +kernel
theorem dX8_prop_15 : decode cX8_prop 15 = .ok (.invokestatic 204, 3) := by decide +kernel
theorem dX8_prop_18 : decode cX8_prop 18 = .ok (.ifCond .ne 6, 3) := by decide +kernel
theorem dX8_prop_21 : decode cX8_prop 21 = .ok (.bipush (-2), 2) := by decide +kernel
theorem dX8_prop_23 : decode cX8_prop 23 = .ok (.ireturn, 1) := by decide +kernel
theorem dX8_prop_24 : decode cX8_prop 24 = .ok (.aload_n 0, 1) := by decide +kernel
theorem dX8_prop_25 : decode cX8_prop 25 = .ok (.getfield 58, 3) := by decide +kernel
theorem dX8_prop_28 : decode cX8_prop 28 = .ok (.iload_n 1, 1) := by decide +kernel
theorem dX8_prop_29 : decode cX8_prop 29 = .ok (.iaload, 1) := by decide +kernel
theorem dX8_prop_30 : decode cX8_prop 30 = .ok (.iconst 3, 1) := by decide +kernel
theorem dX8_prop_31 : decode cX8_prop 31 = .ok (.if_icmp .ne 6, 3) := by decide +kernel
theorem dX8_prop_34 : decode cX8_prop 34 = .ok (.bipush (-3), 2) := by decide +kernel
theorem dX8_prop_36 : decode cX8_prop 36 = .ok (.ireturn, 1) := by decide +kernel
theorem dX8_prop_37 : decode cX8_prop 37 = .ok (.aload_n 0, 1) := by decide +kernel
theorem dX8_prop_38 : decode cX8_prop 38 = .ok (.getfield 55, 3) := by decide +kernel
theorem dX8_prop_41 : decode cX8_prop 41 = .ok (.iconst 3, 1) := by decide +kernel
theorem dX8_prop_42 : decode cX8_prop 42 = .ok (.iload_n 1, 1) := by decide +kernel
theorem dX8_prop_43 : decode cX8_prop 43 = .ok (.imul, 1) := by decide +kernel
theorem dX8_prop_44 : decode cX8_prop 44 = .ok (.aload_n 0, 1) := by decide +kernel
theorem dX8_prop_45 : decode cX8_prop 45 = .ok (.getfield 58, 3) := by decide +kernel
theorem dX8_prop_48 : decode cX8_prop 48 = .ok (.iload_n 1, 1) := by decide +kernel
theorem dX8_prop_49 : decode cX8_prop 49 = .ok (.iaload, 1) := by decide +kernel
theorem dX8_prop_50 : decode cX8_prop 50 = .ok (.iadd, 1) := by decide +kernel
theorem dX8_prop_51 : decode cX8_prop 51 = .ok (.aload_n 0, 1) := by decide +kernel
theorem dX8_prop_52 : decode cX8_prop 52 = .ok (.getfield 154, 3) := by decide +kernel
theorem dX8_prop_55 : decode cX8_prop 55 = .ok (.iastore, 1) := by decide +kernel
theorem dX8_prop_56 : decode cX8_prop 56 = .ok (.aload_n 0, 1) := by decide +kernel
theorem dX8_prop_57 : decode cX8_prop 57 = .ok (.getfield 58, 3) := by decide +kernel
theorem dX8_prop_60 : decode cX8_prop 60 = .ok (.iload_n 1, 1) := by decide +kernel
theorem dX8_prop_61 : decode cX8_prop 61 = .ok (.dup2, 1) := by decide +kernel
theorem dX8_prop_62 : decode cX8_prop 62 = .ok (.iaload, 1) := by decide +kernel
theorem dX8_prop_63 : decode cX8_prop 63 = .ok (.iconst 1, 1) := by decide +kernel
theorem dX8_prop_64 : decode cX8_prop 64 = .ok (.iadd, 1) := by decide +kernel
theorem dX8_prop_65 : decode cX8_prop 65 = .ok (.iastore, 1) := by decide +kernel
theorem dX8_prop_66 : decode cX8_prop 66 = .ok (.aload_n 0, 1) := by decide +kernel
theorem dX8_prop_67 : decode cX8_prop 67 = .ok (.getfield 58, 3) := by decide +kernel
theorem dX8_prop_70 : decode cX8_prop 70 = .ok (.iload_n 1, 1) := by decide +kernel
theorem dX8_prop_71 : decode cX8_prop 71 = .ok (.iaload, 1) := by decide +kernel
theorem dX8_prop_72 : decode cX8_prop 72 = .ok (.ireturn, 1) := by decide +kernel
theorem dX8_instead_0 : decode cX8_instead 0 = .ok (.iload_n 1, 1) := by decide +kernel
theorem dX8_instead_1 : decode cX8_instead 1 = .ok (.invokestatic 262, 3) := by decide +kernel
theorem dX8_instead_4 : decode cX8_instead 4 = .ok (.ifCond .eq 11, 3) := by decide +kernel
theorem dX8_instead_7 : decode cX8_instead 7 = .ok (.aload_n 0, 1) := by decide +kernel
theorem dX8_instead_8 : decode cX8_instead 8 = .ok (.iload_n 2, 1) := by decide +kernel
theorem dX8_instead_9 : decode cX8_instead 9 = .ok (.invokevirtual 221, 3) := by decide +kernel
theorem dX8_instead_12 : decode cX8_instead 12 = .ok (.ifCond .ne 7, 3) := by decide +kernel
theorem dX8_instead_15 : decode cX8_instead 15 = .ok (.ldc2_w 224, 3) := by decide +kernel
theorem dX8_instead_18 : decode cX8_instead 18 = .ok (.lreturn, 1) := by decide +kernel
theorem dX8_instead_19 : decode cX8_instead 19 = .ok (.aload_n 0, 1) := by decide +kernel
theorem dX8_instead_20 : decode cX8_instead 20 = .ok (.getfield 163, 3) := by decide +kernel
theorem dX8_instead_23 : decode cX8_instead 23 = .ok (.iload_n 2, 1) := by decide +kernel
theorem dX8_instead_24 : decode cX8_instead 24 = .ok (.invokestatic 204, 3) := by decide +kernel
theorem dX8_instead_27 : decode cX8_instead 27 = .ok (.ifCond .ne 7, 3) := by decide +kernel
theorem dX8_instead_30 : decode cX8_instead 30 = .ok (.ldc2_w 293, 3) := by decide +kernel
theorem dX8_instead_33 : decode cX8_instead 33 = .ok (.lreturn, 1) := by decide +kernel
theorem dX8_instead_34 : decode cX8_instead 34 = .ok (.aload_n 0, 1) := by decide +kernel
theorem dX8_instead_35 : decode cX8_instead 35 = .ok (.getfield 58, 3) := by decide +kernel
theorem dX8_instead_38 : decode cX8_instead 38 = .ok (.iload_n 2, 1) := by decide +kernel
theorem dX8_instead_39 : decode cX8_instead 39 = .ok (.iaload, 1) := by decide +kernel
theorem dX8_instead_40 : decode cX8_instead 40 = .ok (.iconst 3, 1) := by decide +kernel
theorem dX8_instead_41 : decode cX8_instead 41 = .ok (.if_icmp .ne 7, 3) := by decide +kernel
theorem dX8_instead_44 : decode cX8_instead 44 = .ok (.ldc2_w 300, 3) := by decide +kernel
theorem dX8_instead_47 : decode cX8_instead 47 = .ok (.lreturn, 1) := by decide +kernel
theorem dX8_instead_48 : decode cX8_instead 48 = .ok (.aload_n 0, 1) := by decide +kernel
theorem dX8_instead_49 : decode cX8_instead 49 = .ok (.invokevirtual 212, 3) := by decide +kernel
theorem dX8_instead_52 : decode cX8_instead 52 = .ok (.aload_n 0, 1) := by decide +kernel
theorem dX8_instead_53 : decode cX8_instead 53 = .ok (.getfield 70, 3) := by decide +kernel
theorem dX8_instead_56 : decode cX8_instead 56 = .ok (.iconst 3, 1) := by decide +kernel
theorem dX8_instead_57 : decode cX8_instead 57 = .ok (.iload_n 2, 1) := by decide +kernel
theorem dX8_instead_58 : decode cX8_instead 58 = .ok (.imul, 1) := by decide +kernel
theorem dX8_instead_59 : decode cX8_instead 59 = .ok (.aload_n 0, 1) := by decide +kernel
theorem dX8_instead_60 : decode cX8_instead 60 = .ok (.getfield 58, 3) := by decide +kernel
theorem dX8_instead_63 : decode cX8_instead 63 = .ok (.iload_n 2, 1) := by decide +kernel
theorem dX8_instead_64 : decode cX8_instead 64 = .ok (.iaload, 1) := by decide +kernel
theorem dX8_instead_65 : decode cX8_instead 65 = .ok (.iadd, 1) := by decide +kernel
theorem dX8_instead_66 : decode cX8_instead 66 = .ok (.aload_n 0, 1) := by decide +kernel
theorem dX8_instead_67 : decode cX8_instead 67 = .ok (.getfield 154, 3) := by decide +kernel
theorem dX8_instead_70 : decode cX8_instead 70 = .ok (.iastore, 1) := by decide +kernel
theorem dX8_instead_71 : decode cX8_instead 71 = .ok (.aload_n 0, 1) := by decide +kernel
theorem dX8_instead_72 : decode cX8_instead 72 = .ok (.getfield 58, 3) := by decide +kernel
theorem dX8_instead_75 : decode cX8_instead 75 = .ok (.iload_n 2, 1) := by decide +kernel
theorem dX8_instead_76 : decode cX8_instead 76 = .ok (.dup2, 1) := by decide +kernel
theorem dX8_instead_77 : decode cX8_instead 77 = .ok (.iaload, 1) := by decide +kernel
theorem dX8_instead_78 : decode cX8_instead 78 = .ok (.iconst 1, 1) := by decide +kernel
theorem dX8_instead_79 : decode cX8_instead 79 = .ok (.iadd, 1) := by decide +kernel
theorem dX8_instead_80 : decode cX8_instead 80 = .ok (.iastore, 1) := by decide +kernel
theorem dX8_instead_81 : decode cX8_instead 81 = .ok (.aload_n 0, 1) := by decide +kernel
theorem dX8_instead_82 : decode cX8_instead 82 = .ok (.iload_n 1, 1) := by decide +kernel
theorem dX8_instead_83 : decode cX8_instead 83 = .ok (.aload_n 0, 1) := by decide +kernel
theorem dX8_instead_84 : decode cX8_instead 84 = .ok (.getfield 142, 3) := by decide +kernel
theorem dX8_instead_87 : decode cX8_instead 87 = .ok (.ifCond .ne 7, 3) := by decide +kernel
theorem dX8_instead_90 : decode cX8_instead 90 = .ok (.iconst 0, 1) := by decide +kernel
theorem dX8_instead_91 : decode cX8_instead 91 = .ok (.goto 9, 3) := by decide +kernel
theorem dX8_instead_94 : decode cX8_instead 94 = .ok (.aload_n 0, 1) := by decide +kernel
theorem dX8_instead_95 : decode cX8_instead 95 = .ok (.getfield 142, 3) := by decide +kernel
theorem dX8_instead_98 : decode cX8_instead 98 = .ok (.iconst 1, 1) := by decide +kernel
theorem dX8_instead_99 : decode cX8_instead 99 = .ok (.isub, 1) := by decide +kernel
theorem dX8_instead_100 : decode cX8_instead 100 = .ok (.aload_n 0, 1) := by decide +kernel
theorem dX8_instead_101 : decode cX8_instead 101 = .ok (.getfield 142, 3) := by decide +kernel
theorem dX8_instead_104 : decode cX8_instead 104 = .ok (.bipush (-4), 2) := by decide +kernel
theorem dX8_instead_106 : decode cX8_instead 106 = .ok (.invokevirtual 278, 3) := by decide +kernel
theorem dX8_instead_109 : decode cX8_instead 109 = .ok (.lstore_n 3, 1) := by decide +kernel
theorem dX8_instead_110 : decode cX8_instead 110 = .ok (.aload_n 0, 1) := by decide +kernel
theorem dX8_instead_111 : decode cX8_instead 111 = .ok (.getfield 58, 3) := by decide +kernel
theorem dX8_instead_114 : decode cX8_instead 114 = .ok (.iload_n 2, 1) := by decide +kernel
theorem dX8_instead_115 : decode cX8_instead 115 = .ok (.dup2, 1) := by decide +kernel
theorem dX8_instead_116 : decode cX8_instead 116 = .ok (.iaload, 1) := by decide +kernel
theorem dX8_instead_117 : decode cX8_instead 117 = .ok (.iconst 1, 1) := by decide +kernel
theorem dX8_instead_118 : decode cX8_instead 118 = .ok (.isub, 1) := by decide +kernel
theorem dX8_instead_119 : decode cX8_instead 119 = .ok (.iastore, 1) := by decide +kernel
theorem dX8_instead_120 : decode cX8_instead 120 = .ok (.lload_n 3, 1) := by decide +kernel
theorem dX8_instead_121 : decode cX8_instead 121 = .ok (.lreturn, 1) := by decide +kernel
theorem dX8_look_0 : decode cX8_look 0 = .ok (.aload_n 0, 1) := by decide +kernel
theorem dX8_look_1 : decode cX8_look 1 = .ok (.iload_n 1, 1) := by decide +kernel
theorem dX8_look_2 : decode cX8_look 2 = .ok (.invokevirtual 221, 3) := by decide +kernel
theorem dX8_look_5 : decode cX8_look 5 = .ok (.ifCond .ne 7, 3) := by decide +kernel
theorem dX8_look_8 : decode cX8_look 8 = .ok (.ldc2_w 224, 3) := by decide +kernel
theorem dX8_look_11 : decode cX8_look 11 = .ok (.lreturn, 1) := by decide +kernel
theorem dX8_look_12 : decode cX8_look 12 = .ok (.aload_n 0, 1) := by decide +kernel
theorem dX8_look_13 : decode cX8_look 13 = .ok (.getfield 163, 3) := by decide +kernel
theorem dX8_look_16 : decode cX8_look 16 = .ok (.iload_n 1, 1) := by decide +kernel
theorem dX8_look_17 : decode cX8_look 17 = .ok (.invokestatic 204, 3) := by decide +kernel
theorem dX8_look_20 : decode cX8_look 20 = .ok (.ifCond .eq 10, 3) := by decide +kernel
theorem dX8_look_23 : decode cX8_look 23 = .ok (.aload_n 0, 1) := by decide +kernel
theorem dX8_look_24 : decode cX8_look 24 = .ok (.getfield 174, 3) := by decide +kernel
theorem dX8_look_27 : decode cX8_look 27 = .ok (.ifCond .ne 7, 3) := by decide +kernel
theorem dX8_look_30 : decode cX8_look 30 = .ok (.ldc2_w 293, 3) := by decide +kernel
theorem dX8_look_33 : decode cX8_look 33 = .ok (.lreturn, 1) := by decide +kernel
theorem dX8_look_34 : decode cX8_look 34 = .ok (.aload_n 0, 1) := by decide +kernel
theorem dX8_look_35 : decode cX8_look 35 = .ok (.iconst 1, 1) := by decide +kernel
theorem dX8_look_36 : decode cX8_look 36 = .ok (.invokevirtual 295, 3) := by decide +kernel
theorem dX8_look_39 : decode cX8_look 39 = .ok (.pop, 1) := by decide +kernel
theorem dX8_look_40 : decode cX8_look 40 = .ok (.aload_n 0, 1) := by decide +kernel
theorem dX8_look_41 : decode cX8_look 41 = .ok (.getfield 49, 3) := by decide +kernel
theorem dX8_look_44 : decode cX8_look 44 = .ok (.iload_n 1, 1) := by decide +kernel
theorem dX8_look_45 : decode cX8_look 45 = .ok (.iaload, 1) := by decide +kernel
theorem dX8_look_46 : decode cX8_look 46 = .ok (.istore_n 2, 1) := by decide +kernel
theorem dX8_look_47 : decode cX8_look 47 = .ok (.aload_n 0, 1) := by decide +kernel
theorem dX8_look_48 : decode cX8_look 48 = .ok (.iload_n 1, 1) := by decide +kernel
theorem dX8_look_49 : decode cX8_look 49 = .ok (.invokevirtual 218, 3) := by decide +kernel
theorem dX8_look_52 : decode cX8_look 52 = .ok (.istore_n 3, 1) := by decide +kernel
theorem dX8_look_53 : decode cX8_look 53 = .ok (.aload_n 0, 1) := by decide +kernel
theorem dX8_look_54 : decode cX8_look 54 = .ok (.getfield 289, 3) := by decide +kernel
theorem dX8_look_57 : decode cX8_look 57 = .ok (.iload_n 3, 1) := by decide +kernel
theorem dX8_look_58 : decode cX8_look 58 = .ok (.i2l, 1) := by decide +kernel
theorem dX8_look_59 : decode cX8_look 59 = .ok (.lmul, 1) := by decide +kernel
theorem dX8_look_60 : decode cX8_look 60 = .ok (.lstore 4, 2) := by decide +kernel
theorem dX8_look_62 : decode cX8_look 62 = .ok (.iconst 0, 1) := by decide +kernel
theorem dX8_look_63 : decode cX8_look 63 = .ok (.istore 6, 2) := by decide +kernel
theorem dX8_look_65 : decode cX8_look 65 = .ok (.iload 6, 2) := by decide +kernel
theorem dX8_look_67 : decode cX8_look 67 = .ok (.aload_n 0, 1) := by decide +kernel
theorem dX8_look_68 : decode cX8_look 68 = .ok (.getfield 37, 3) := by decide +kernel
theorem dX8_look_71 : decode cX8_look 71 = .ok (.iload_n 1, 1) := by decide +kernel
theorem dX8_look_72 : decode cX8_look 72 = .ok (.iaload, 1) := by decide +kernel
theorem dX8_look_73 : decode cX8_look 73 = .ok (.if_icmp .ge 70, 3) := by decide +kernel
theorem dX8_look_76 : decode cX8_look 76 = .ok (.iload_n 2, 1) := by decide +kernel
theorem dX8_look_77 : decode cX8_look 77 = .ok (.iload 6, 2) := by decide +kernel
theorem dX8_look_79 : decode cX8_look 79 = .ok (.invokestatic 204, 3) := by decide +kernel
theorem dX8_look_82 : decode cX8_look 82 = .ok (.ifCond .eq 55, 3) := by decide +kernel
theorem dX8_look_85 : decode cX8_look 85 = .ok (.aload_n 0, 1) := by decide +kernel
theorem dX8_look_86 : decode cX8_look 86 = .ok (.getfield 34, 3) := by decide +kernel
theorem dX8_look_89 : decode cX8_look 89 = .ok (.iconst 4, 1) := by decide +kernel
theorem dX8_look_90 : decode cX8_look 90 = .ok (.iload_n 1, 1) := by decide +kernel
theorem dX8_look_91 : decode cX8_look 91 = .ok (.imul, 1) := by decide +kernel
theorem dX8_look_92 : decode cX8_look 92 = .ok (.iload 6, 2) := by decide +kernel
theorem dX8_look_94 : decode cX8_look 94 = .ok (.iadd, 1) := by decide +kernel
theorem dX8_look_95 : decode cX8_look 95 = .ok (.iaload, 1) := by decide +kernel
theorem dX8_look_96 : decode cX8_look 96 = .ok (.ifCond .le 41, 3) := by decide +kernel
theorem dX8_look_99 : decode cX8_look 99 = .ok (.aload_n 0, 1) := by decide +kernel
theorem dX8_look_100 : decode cX8_look 100 = .ok (.getfield 49, 3) := by decide +kernel
theorem dX8_look_103 : decode cX8_look 103 = .ok (.iload_n 1, 1) := by decide +kernel
theorem dX8_look_104 : decode cX8_look 104 = .ok (.iconst 1, 1) := by decide +kernel
theorem dX8_look_105 : decode cX8_look 105 = .ok (.iload 6, 2) := by decide +kernel
theorem dX8_look_107 : decode cX8_look 107 = .ok (.ishl, 1) := by decide +kernel
theorem dX8_look_108 : decode cX8_look 108 = .ok (.iastore, 1) := by decide +kernel
theorem dX8_look_109 : decode cX8_look 109 = .ok (.aload_n 0, 1) := by decide +kernel
theorem dX8_look_110 : decode cX8_look 110 = .ok (.iconst 1, 1) := by decide +kernel
theorem dX8_look_111 : decode cX8_look 111 = .ok (.invokevirtual 295, 3) := by decide +kernel
theorem dX8_look_114 : decode cX8_look 114 = .ok (.pop, 1) := by decide +kernel
theorem dX8_look_115 : decode cX8_look 115 = .ok (.lload 4, 2) := by decide +kernel
theorem dX8_look_117 : decode cX8_look 117 = .ok (.aload_n 0, 1) := by decide +kernel
theorem dX8_look_118 : decode cX8_look 118 = .ok (.getfield 34, 3) := by decide +kernel
theorem dX8_look_121 : decode cX8_look 121 = .ok (.iconst 4, 1) := by decide +kernel
theorem dX8_look_122 : decode cX8_look 122 = .ok (.iload_n 1, 1) := by decide +kernel
theorem dX8_look_123 : decode cX8_look 123 = .ok (.imul, 1) := by decide +kernel
theorem dX8_look_124 : decode cX8_look 124 = .ok (.iload 6, 2) := by decide +kernel
theorem dX8_look_126 : decode cX8_look 126 = .ok (.iadd, 1) := by decide +kernel
theorem dX8_look_127 : decode cX8_look 127 = .ok (.iaload, 1) := by decide +kernel
theorem dX8_look_128 : decode cX8_look 128 = .ok (.i2l, 1) := by decide +kernel
theorem dX8_look_129 : decode cX8_look 129 = .ok (.aload_n 0, 1) := by decide +kernel
theorem dX8_look_130 : decode cX8_look 130 = .ok (.getfield 289, 3) := by decide +kernel
theorem dX8_look_133 : decode cX8_look 133 = .ok (.lmul, 1) := by decide +kernel
theorem dX8_look_134 : decode cX8_look 134 = .ok (.lsub, 1) := by decide +kernel
theorem dX8_look_135 : decode cX8_look 135 = .ok (.lstore 4, 2) := by decide +kernel
theorem dX8_look_137 : decode cX8_look 137 = .ok (.iinc 6 1, 3) := by decide +kernel
theorem dX8_look_140 : decode cX8_look 140 = .ok (.goto (-75), 3) := by decide +kernel
theorem dX8_look_143 : decode cX8_look 143 = .ok (.aload_n 0, 1) := by decide +kernel
theorem dX8_look_144 : decode cX8_look 144 = .ok (.getfield 49, 3) := by decide +kernel
theorem dX8_look_147 : decode cX8_look 147 = .ok (.iload_n 1, 1) := by decide +kernel
theorem dX8_look_148 : decode cX8_look 148 = .ok (.iload_n 2, 1) := by decide +kernel
theorem dX8_look_149 : decode cX8_look 149 = .ok (.iastore, 1) := by decide +kernel
theorem dX8_look_150 : decode cX8_look 150 = .ok (.lload 4, 2) := by decide +kernel
theorem dX8_look_152 : decode cX8_look 152 = .ok (.iload_n 3, 1) := by decide +kernel
theorem dX8_look_153 : decode cX8_look 153 = .ok (.i2l, 1) := by decide +kernel
theorem dX8_look_154 : decode cX8_look 154 = .ok (.ldiv, 1) := by decide +kernel
theorem dX8_look_155 : decode cX8_look 155 = .ok (.lreturn, 1) := by decide +kernel
theorem dX8_rain_0 : decode cX8_rain 0 = .ok (.iload_n 1, 1) := by decide +kernel
theorem dX8_rain_1 : decode cX8_rain 1 = .ok (.i2l, 1) := by decide +kernel
theorem dX8_rain_2 : decode cX8_rain 2 = .ok (.lconst 1, 1) := by decide +kernel
theorem dX8_rain_3 : decode cX8_rain 3 = .ok (.ldc2_w 298, 3) := by decide +kernel
theorem dX8_rain_6 : decode cX8_rain 6 = .ok (.invokestatic 99, 3) := by decide +kernel
theorem dX8_rain_9 : decode cX8_rain 9 = .ok (.ifCond .ne 5, 3) := by decide +kernel
theorem dX8_rain_12 : decode cX8_rain 12 = .ok (.iconst (-1), 1) := by decide +kernel
theorem dX8_rain_13 : decode cX8_rain 13 = .ok (.ireturn, 1) := by decide +kernel
theorem dX8_rain_14 : decode cX8_rain 14 = .ok (.aload_n 0, 1) := by decide +kernel
theorem dX8_rain_15 : decode cX8_rain 15 = .ok (.invokevirtual 212, 3) := by decide +kernel
theorem dX8_rain_18 : decode cX8_rain 18 = .ok (.iconst 0, 1) := by decide +kernel
theorem dX8_rain_19 : decode cX8_rain 19 = .ok (.istore_n 2, 1) := by decide +kernel
theorem dX8_rain_20 : decode cX8_rain 20 = .ok (.iload_n 2, 1) := by decide +kernel
theorem dX8_rain_21 : decode cX8_rain 21 = .ok (.iload_n 1, 1) := by decide +kernel
theorem dX8_rain_22 : decode cX8_rain 22 = .ok (.if_icmp .ge 18, 3) := by decide +kernel
theorem dX8_rain_25 : decode cX8_rain 25 = .ok (.aload_n 0, 1) := by decide +kernel
theorem dX8_rain_26 : decode cX8_rain 26 = .ok (.iconst 0, 1) := by decide +kernel
theorem dX8_rain_27 : decode cX8_rain 27 = .ok (.iconst 2, 1) := by decide +kernel
theorem dX8_rain_28 : decode cX8_rain 28 = .ok (.iconst 0, 1) := by decide +kernel
theorem dX8_rain_29 : decode cX8_rain 29 = .ok (.bipush (-4), 2) := by decide +kernel
theorem dX8_rain_31 : decode cX8_rain 31 = .ok (.invokevirtual 268, 3) := by decide +kernel
theorem dX8_rain_34 : decode cX8_rain 34 = .ok (.iinc 2 1, 3) := by decide +kernel
theorem dX8_rain_37 : decode cX8_rain 37 = .ok (.goto (-17), 3) := by decide +kernel
theorem dX8_rain_40 : decode cX8_rain 40 = .ok (.iconst 0, 1) := by decide +kernel
theorem dX8_rain_41 : decode cX8_rain 41 = .ok (.istore_n 2, 1) := by decide +kernel
theorem dX8_rain_42 : decode cX8_rain 42 = .ok (.iconst 0, 1) := by decide +kernel
theorem dX8_rain_43 : decode cX8_rain 43 = .ok (.istore_n 3, 1) := by decide +kernel
theorem dX8_rain_44 : decode cX8_rain 44 = .ok (.iload_n 3, 1) := by decide +kernel
theorem dX8_rain_45 : decode cX8_rain 45 = .ok (.aload_n 0, 1) := by decide +kernel
theorem dX8_rain_46 : decode cX8_rain 46 = .ok (.getfield 82, 3) := by decide +kernel
theorem dX8_rain_49 : decode cX8_rain 49 = .ok (.if_icmp .ge 44, 3) := by decide +kernel
theorem dX8_rain_52 : decode cX8_rain 52 = .ok (.iload_n 2, 1) := by decide +kernel
theorem dX8_rain_53 : decode cX8_rain 53 = .ok (.aload_n 0, 1) := by decide +kernel
theorem dX8_rain_54 : decode cX8_rain 54 = .ok (.getfield 163, 3) := by decide +kernel
theorem dX8_rain_57 : decode cX8_rain 57 = .ok (.iload_n 3, 1) := by decide +kernel
theorem dX8_rain_58 : decode cX8_rain 58 = .ok (.invokestatic 204, 3) := by decide +kernel
theorem dX8_rain_61 : decode cX8_rain 61 = .ok (.ifCond .eq 23, 3) := by decide +kernel
theorem dX8_rain_64 : decode cX8_rain 64 = .ok (.aload_n 0, 1) := by decide +kernel
theorem dX8_rain_65 : decode cX8_rain 65 = .ok (.iload_n 3, 1) := by decide +kernel
theorem dX8_rain_66 : decode cX8_rain 66 = .ok (.aload_n 0, 1) := by decide +kernel
theorem dX8_rain_67 : decode cX8_rain 67 = .ok (.getfield 73, 3) := by decide +kernel
theorem dX8_rain_70 : decode cX8_rain 70 = .ok (.iload_n 3, 1) := by decide +kernel
theorem dX8_rain_71 : decode cX8_rain 71 = .ok (.iaload, 1) := by decide +kernel
theorem dX8_rain_72 : decode cX8_rain 72 = .ok (.invokevirtual 209, 3) := by decide +kernel
theorem dX8_rain_75 : decode cX8_rain 75 = .ok (.ifCond .ne 9, 3) := by decide +kernel
theorem dX8_rain_78 : decode cX8_rain 78 = .ok (.iconst 1, 1) := by decide +kernel
theorem dX8_rain_79 : decode cX8_rain 79 = .ok (.iload_n 3, 1) := by decide +kernel
theorem dX8_rain_80 : decode cX8_rain 80 = .ok (.ishl, 1) := by decide +kernel
theorem dX8_rain_81 : decode cX8_rain 81 = .ok (.goto 4, 3) := by decide +kernel
theorem dX8_rain_84 : decode cX8_rain 84 = .ok (.iconst 0, 1) := by decide +kernel
theorem dX8_rain_85 : decode cX8_rain 85 = .ok (.ior, 1) := by decide +kernel
theorem dX8_rain_86 : decode cX8_rain 86 = .ok (.istore_n 2, 1) := by decide +kernel
theorem dX8_rain_87 : decode cX8_rain 87 = .ok (.iinc 3 1, 3) := by decide +kernel
theorem dX8_rain_90 : decode cX8_rain 90 = .ok (.goto (-46), 3) := by decide +kernel
theorem dX8_rain_93 : decode cX8_rain 93 = .ok (.iload_n 2, 1) := by decide +kernel
theorem dX8_rain_94 : decode cX8_rain 94 = .ok (.ireturn, 1) := by decide +kernel
theorem dX8_out_0 : decode cX8_out 0 = .ok (.aload_n 0, 1) := by decide +kernel
theorem dX8_out_1 : decode cX8_out 1 = .ok (.iload_n 1, 1) := by decide +kernel
theorem dX8_out_2 : decode cX8_out 2 = .ok (.invokevirtual 221, 3) := by decide +kernel
theorem dX8_out_5 : decode cX8_out 5 = .ok (.ifCond .eq 48, 3) := by decide +kernel
theorem dX8_out_8 : decode cX8_out 8 = .ok (.iload_n 2, 1) := by decide +kernel
theorem dX8_out_9 : decode cX8_out 9 = .ok (.invokestatic 262, 3) := by decide +kernel
theorem dX8_out_12 : decode cX8_out 12 = .ok (.ifCond .eq 41, 3) := by decide +kernel
theorem dX8_out_15 : decode cX8_out 15 = .ok (.iload 4, 2) := by decide +kernel
theorem dX8_out_17 : decode cX8_out 17 = .ok (.i2l, 1) := by decide +kernel
theorem dX8_out_18 : decode cX8_out 18 = .ok (.lconst 1, 1) := by decide +kernel
theorem dX8_out_19 : decode cX8_out 19 = .ok (.ldc2_w 302, 3) := by decide +kernel
theorem dX8_out_22 : decode cX8_out 22 = .ok (.invokestatic 99, 3) := by decide +kernel
theorem dX8_out_25 : decode cX8_out 25 = .ok (.ifCond .eq 28, 3) := by decide +kernel
theorem dX8_out_28 : decode cX8_out 28 = .ok (.iload_n 3, 1) := by decide +kernel
theorem dX8_out_29 : decode cX8_out 29 = .ok (.i2l, 1) := by decide +kernel
theorem dX8_out_30 : decode cX8_out 30 = .ok (.lconst 1, 1) := by decide +kernel
theorem dX8_out_31 : decode cX8_out 31 = .ok (.iload 4, 2) := by decide +kernel
theorem dX8_out_33 : decode cX8_out 33 = .ok (.i2l, 1) := by decide +kernel
theorem dX8_out_34 : decode cX8_out 34 = .ok (.invokestatic 99, 3) := by decide +kernel
theorem dX8_out_37 : decode cX8_out 37 = .ok (.ifCond .eq 16, 3) := by decide +kernel
theorem dX8_out_40 : decode cX8_out 40 = .ok (.iload 5, 2) := by decide +kernel
theorem dX8_out_42 : decode cX8_out 42 = .ok (.i2l, 1) := by decide +kernel
theorem dX8_out_43 : decode cX8_out 43 = .ok (.lconst 0, 1) := by decide +kernel
theorem dX8_out_44 : decode cX8_out 44 = .ok (.ldc2_w 298, 3) := by decide +kernel
theorem dX8_out_47 : decode cX8_out 47 = .ok (.invokestatic 99, 3) := by decide +kernel
theorem dX8_out_50 : decode cX8_out 50 = .ok (.ifCond .ne 5, 3) := by decide +kernel
theorem dX8_out_53 : decode cX8_out 53 = .ok (.iconst (-1), 1) := by decide +kernel
theorem dX8_out_54 : decode cX8_out 54 = .ok (.ireturn, 1) := by decide +kernel
theorem dX8_out_55 : decode cX8_out 55 = .ok (.aload_n 0, 1) := by decide +kernel
theorem dX8_out_56 : decode cX8_out 56 = .ok (.getfield 163, 3) := by decide +kernel
theorem dX8_out_59 : decode cX8_out 59 = .ok (.iload_n 1, 1) := by decide +kernel
theorem dX8_out_60 : decode cX8_out 60 = .ok (.invokestatic 204, 3) := by decide +kernel
theorem dX8_out_63 : decode cX8_out 63 = .ok (.ifCond .ne 6, 3) := by decide +kernel
theorem dX8_out_66 : decode cX8_out 66 = .ok (.bipush (-2), 2) := by decide +kernel
theorem dX8_out_68 : decode cX8_out 68 = .ok (.ireturn, 1) := by decide +kernel
theorem dX8_out_69 : decode cX8_out 69 = .ok (.aload_n 0, 1) := by decide +kernel
theorem dX8_out_70 : decode cX8_out 70 = .ok (.invokevirtual 212, 3) := by decide +kernel
theorem dX8_out_73 : decode cX8_out 73 = .ok (.bipush (-4), 2) := by decide +kernel
theorem dX8_out_75 : decode cX8_out 75 = .ok (.istore 6, 2) := by decide +kernel
theorem dX8_out_77 : decode cX8_out 77 = .ok (.iconst 0, 1) := by decide +kernel
theorem dX8_out_78 : decode cX8_out 78 = .ok (.istore 7, 2) := by decide +kernel
theorem dX8_out_80 : decode cX8_out 80 = .ok (.iload 7, 2) := by decide +kernel
theorem dX8_out_82 : decode cX8_out 82 = .ok (.aload_n 0, 1) := by decide +kernel
theorem dX8_out_83 : decode cX8_out 83 = .ok (.getfield 174, 3) := by decide +kernel
theorem dX8_out_86 : decode cX8_out 86 = .ok (.if_icmp .ge 69, 3) := by decide +kernel
theorem dX8_out_89 : decode cX8_out 89 = .ok (.iload 6, 2) := by decide +kernel
theorem dX8_out_91 : decode cX8_out 91 = .ok (.bipush (-4), 2) := by decide +kernel
theorem dX8_out_93 : decode cX8_out 93 = .ok (.if_icmp .ne 62, 3) := by decide +kernel
theorem dX8_out_96 : decode cX8_out 96 = .ok (.aload_n 0, 1) := by decide +kernel
theorem dX8_out_97 : decode cX8_out 97 = .ok (.iload_n 2, 1) := by decide +kernel
theorem dX8_out_98 : decode cX8_out 98 = .ok (.aload_n 0, 1) := by decide +kernel
theorem dX8_out_99 : decode cX8_out 99 = .ok (.getfield 61, 3) := by decide +kernel
theorem dX8_out_102 : decode cX8_out 102 = .ok (.iload 7, 2) := by decide +kernel
theorem dX8_out_104 : decode cX8_out 104 = .ok (.iaload, 1) := by decide +kernel
theorem dX8_out_105 : decode cX8_out 105 = .ok (.aload_n 0, 1) := by decide +kernel
theorem dX8_out_106 : decode cX8_out 106 = .ok (.getfield 142, 3) := by decide +kernel
theorem dX8_out_109 : decode cX8_out 109 = .ok (.bipush (-4), 2) := by decide +kernel
theorem dX8_out_111 : decode cX8_out 111 = .ok (.invokevirtual 268, 3) := by decide +kernel
theorem dX8_out_114 : decode cX8_out 114 = .ok (.aload_n 0, 1) := by decide +kernel
theorem dX8_out_115 : decode cX8_out 115 = .ok (.iload_n 1, 1) := by decide +kernel
theorem dX8_out_116 : decode cX8_out 116 = .ok (.aload_n 0, 1) := by decide +kernel
theorem dX8_out_117 : decode cX8_out 117 = .ok (.getfield 73, 3) := by decide +kernel
theorem dX8_out_120 : decode cX8_out 120 = .ok (.iload_n 1, 1) := by decide +kernel
theorem dX8_out_121 : decode cX8_out 121 = .ok (.iaload, 1) := by decide +kernel
theorem dX8_out_122 : decode cX8_out 122 = .ok (.invokevirtual 209, 3) := by decide +kernel
theorem dX8_out_125 : decode cX8_out 125 = .ok (.iload 4, 2) := by decide +kernel
theorem dX8_out_127 : decode cX8_out 127 = .ok (.imul, 1) := by decide +kernel
theorem dX8_out_128 : decode cX8_out 128 = .ok (.iload_n 3, 1) := by decide +kernel
theorem dX8_out_129 : decode cX8_out 129 = .ok (.aload_n 0, 1) := by decide +kernel
theorem dX8_out_130 : decode cX8_out 130 = .ok (.iload_n 1, 1) := by decide +kernel
theorem dX8_out_131 : decode cX8_out 131 = .ok (.invokevirtual 218, 3) := by decide +kernel
theorem dX8_out_134 : decode cX8_out 134 = .ok (.imul, 1) := by decide +kernel
theorem dX8_out_135 : decode cX8_out 135 = .ok (.if_icmp .lt 10, 3) := by decide +kernel
theorem dX8_out_138 : decode cX8_out 138 = .ok (.iload 7, 2) := by decide +kernel
theorem dX8_out_140 : decode cX8_out 140 = .ok (.iconst 1, 1) := by decide +kernel
theorem dX8_out_141 : decode cX8_out 141 = .ok (.iadd, 1) := by decide +kernel
theorem dX8_out_142 : decode cX8_out 142 = .ok (.goto 5, 3) := by decide +kernel
theorem dX8_out_145 : decode cX8_out 145 = .ok (.bipush (-4), 2) := by decide +kernel
theorem dX8_out_147 : decode cX8_out 147 = .ok (.istore 6, 2) := by decide +kernel
theorem dX8_out_149 : decode cX8_out 149 = .ok (.iinc 7 1, 3) := by decide +kernel
theorem dX8_out_152 : decode cX8_out 152 = .ok (.goto (-72), 3) := by decide +kernel
theorem dX8_out_155 : decode cX8_out 155 = .ok (.iload 6, 2) := by decide +kernel
theorem dX8_out_157 : decode cX8_out 157 = .ok (.bipush (-4), 2) := by decide +kernel
theorem dX8_out_159 : decode cX8_out 159 = .ok (.if_icmp .eq 10, 3) := by decide +kernel
theorem dX8_out_162 : decode cX8_out 162 = .ok (.iload 6, 2) := by decide +kernel
theorem dX8_out_164 : decode cX8_out 164 = .ok (.iload 5, 2) := by decide +kernel
theorem dX8_out_166 : decode cX8_out 166 = .ok (.if_icmp .ge 8, 3) := by decide +kernel
theorem dX8_out_169 : decode cX8_out 169 = .ok (.bipush (-4), 2) := by decide +kernel
theorem dX8_out_171 : decode cX8_out 171 = .ok (.goto 8, 3) := by decide +kernel
theorem dX8_out_174 : decode cX8_out 174 = .ok (.iload 6, 2) := by decide +kernel
theorem dX8_out_176 : decode cX8_out 176 = .ok (.iload 5, 2) := by decide +kernel
theorem dX8_out_178 : decode cX8_out 178 = .ok (.isub, 1) := by decide +kernel
theorem dX8_out_179 : decode cX8_out 179 = .ok (.ireturn, 1) := by decide +kernel
theorem dX8_draw_0 : decode cX8_draw 0 = .ok (.ldc2_w 304, 3) := by decide +kernel
theorem dX8_draw_3 : decode cX8_draw 3 = .ok (.iload_n 0, 1) := by decide +kernel
theorem dX8_draw_4 : decode cX8_draw 4 = .ok (.i2l, 1) := by decide +kernel
theorem dX8_draw_5 : decode cX8_draw 5 = .ok (.lmul, 1) := by decide +kernel
theorem dX8_draw_6 : decode cX8_draw 6 = .ok (.ldc2_w 306, 3) := by decide +kernel
theorem dX8_draw_9 : decode cX8_draw 9 = .ok (.iload_n 1, 1) := by decide +kernel
theorem dX8_draw_10 : decode cX8_draw 10 = .ok (.i2l, 1) := by decide +kernel
theorem dX8_draw_11 : decode cX8_draw 11 = .ok (.lmul, 1) := by decide +kernel
theorem dX8_draw_12 : decode cX8_draw 12 = .ok (.ladd, 1) := by decide +kernel
theorem dX8_draw_13 : decode cX8_draw 13 = .ok (.ldc2_w 308, 3) := by decide +kernel
theorem dX8_draw_16 : decode cX8_draw 16 = .ok (.iload_n 2, 1) := by decide +kernel
theorem dX8_draw_17 : decode cX8_draw 17 = .ok (.i2l, 1) := by decide +kernel
theorem dX8_draw_18 : decode cX8_draw 18 = .ok (.lmul, 1) := by decide +kernel
theorem dX8_draw_19 : decode cX8_draw 19 = .ok (.ladd, 1) := by decide +kernel
theorem dX8_draw_20 : decode cX8_draw 20 = .ok (.lconst 1, 1) := by decide +kernel
theorem dX8_draw_21 : decode cX8_draw 21 = .ok (.ladd, 1) := by decide +kernel
theorem dX8_draw_22 : decode cX8_draw 22 = .ok (.lstore_n 3, 1) := by decide +kernel
theorem dX8_draw_23 : decode cX8_draw 23 = .ok (.lload_n 3, 1) := by decide +kernel
theorem dX8_draw_24 : decode cX8_draw 24 = .ok (.lload_n 3, 1) := by decide +kernel
theorem dX8_draw_25 : decode cX8_draw 25 = .ok (.lmul, 1) := by decide +kernel
theorem dX8_draw_26 : decode cX8_draw 26 = .ok (.ldc2_w 310, 3) := by decide +kernel
theorem dX8_draw_29 : decode cX8_draw 29 = .ok (.lrem, 1) := by decide +kernel
theorem dX8_draw_30 : decode cX8_draw 30 = .ok (.ldc2_w 312, 3) := by decide +kernel
theorem dX8_draw_33 : decode cX8_draw 33 = .ok (.lrem, 1) := by decide +kernel
theorem dX8_draw_34 : decode cX8_draw 34 = .ok (.l2i, 1) := by decide +kernel
theorem dX8_draw_35 : decode cX8_draw 35 = .ok (.ireturn, 1) := by decide +kernel
theorem dX8_drawBears_0 : decode cX8_drawBears 0 = .ok (.iconst 0, 1) := by decide +kernel
theorem dX8_drawBears_1 : decode cX8_drawBears 1 = .ok (.istore_n 2, 1) := by decide +kernel
theorem dX8_drawBears_2 : decode cX8_drawBears 2 = .ok (.iload_n 2, 1) := by decide +kernel
theorem dX8_drawBears_3 : decode cX8_drawBears 3 = .ok (.aload_n 0, 1) := by decide +kernel
theorem dX8_drawBears_4 : decode cX8_drawBears 4 = .ok (.getfield 82, 3) := by decide +kernel
theorem dX8_drawBears_7 : decode cX8_drawBears 7 = .ok (.if_icmp .ge 133, 3) := by decide +kernel
theorem dX8_drawBears_10 : decode cX8_drawBears 10 = .ok (.aload_n 0, 1) := by decide +kernel
theorem dX8_drawBears_11 : decode cX8_drawBears 11 = .ok (.getfield 163, 3) := by decide +kernel
theorem dX8_drawBears_14 : decode cX8_drawBears 14 = .ok (.iload_n 2, 1) := by decide +kernel
theorem dX8_drawBears_15 : decode cX8_drawBears 15 = .ok (.invokestatic 204, 3) := by decide +kernel
theorem dX8_drawBears_18 : decode cX8_drawBears 18 = .ok (.ifCond .eq 116, 3) := by decide +kernel
theorem dX8_drawBears_21 : decode cX8_drawBears 21 = .ok (.iload_n 1, 1) := by decide +kernel
theorem dX8_drawBears_22 : decode cX8_drawBears 22 = .ok (.iload_n 2, 1) := by decide +kernel
theorem dX8_drawBears_23 : decode cX8_drawBears 23 = .ok (.bipush 99, 2) := by decide +kernel
theorem dX8_drawBears_25 : decode cX8_drawBears 25 = .ok (.invokestatic 314, 3) := by decide +kernel
theorem dX8_drawBears_28 : decode cX8_drawBears 28 = .ok (.aload_n 0, 1) := by decide +kernel
theorem dX8_drawBears_29 : decode cX8_drawBears 29 = .ok (.iload_n 2, 1) := by decide +kernel
theorem dX8_drawBears_30 : decode cX8_drawBears 30 = .ok (.invokevirtual 218, 3) := by decide +kernel
theorem dX8_drawBears_33 : decode cX8_drawBears 33 = .ok (.irem, 1) := by decide +kernel
theorem dX8_drawBears_34 : decode cX8_drawBears 34 = .ok (.istore_n 3, 1) := by decide +kernel
theorem dX8_drawBears_35 : decode cX8_drawBears 35 = .ok (.bipush (-4), 2) := by decide +kernel
theorem dX8_drawBears_37 : decode cX8_drawBears 37 = .ok (.istore 4, 2) := by decide +kernel
theorem dX8_drawBears_39 : decode cX8_drawBears 39 = .ok (.iconst 0, 1) := by decide +kernel
theorem dX8_drawBears_40 : decode cX8_drawBears 40 = .ok (.istore 5, 2) := by decide +kernel
theorem dX8_drawBears_42 : decode cX8_drawBears 42 = .ok (.iload 5, 2) := by decide +kernel
theorem dX8_drawBears_44 : decode cX8_drawBears 44 = .ok (.aload_n 0, 1) := by decide +kernel
theorem dX8_drawBears_45 : decode cX8_drawBears 45 = .ok (.getfield 37, 3) := by decide +kernel
theorem dX8_drawBears_48 : decode cX8_drawBears 48 = .ok (.iload_n 2, 1) := by decide +kernel
theorem dX8_drawBears_49 : decode cX8_drawBears 49 = .ok (.iaload, 1) := by decide +kernel
theorem dX8_drawBears_50 : decode cX8_drawBears 50 = .ok (.if_icmp .ge 67, 3) := by decide +kernel
theorem dX8_drawBears_53 : decode cX8_drawBears 53 = .ok (.iload 4, 2) := by decide +kernel
theorem dX8_drawBears_55 : decode cX8_drawBears 55 = .ok (.bipush (-4), 2) := by decide +kernel
theorem dX8_drawBears_57 : decode cX8_drawBears 57 = .ok (.if_icmp .ne 60, 3) := by decide +kernel
theorem dX8_drawBears_60 : decode cX8_drawBears 60 = .ok (.aload_n 0, 1) := by decide +kernel
theorem dX8_drawBears_61 : decode cX8_drawBears 61 = .ok (.getfield 49, 3) := by decide +kernel
theorem dX8_drawBears_64 : decode cX8_drawBears 64 = .ok (.iload_n 2, 1) := by decide +kernel
theorem dX8_drawBears_65 : decode cX8_drawBears 65 = .ok (.iaload, 1) := by decide +kernel
theorem dX8_drawBears_66 : decode cX8_drawBears 66 = .ok (.iload 5, 2) := by decide +kernel
theorem dX8_drawBears_68 : decode cX8_drawBears 68 = .ok (.invokestatic 204, 3) := by decide +kernel
theorem dX8_drawBears_71 : decode cX8_drawBears 71 = .ok (.ifCond .eq 17, 3) := by decide +kernel
theorem dX8_drawBears_74 : decode cX8_drawBears 74 = .ok (.aload_n 0, 1) := by decide +kernel
theorem dX8_drawBears_75 : decode cX8_drawBears 75 = .ok (.getfield 34, 3) := by decide +kernel
theorem dX8_drawBears_78 : decode cX8_drawBears 78 = .ok (.iconst 4, 1) := by decide +kernel
theorem dX8_drawBears_79 : decode cX8_drawBears 79 = .ok (.iload_n 2, 1) := by decide +kernel
theorem dX8_drawBears_80 : decode cX8_drawBears 80 = .ok (.imul, 1) := by decide +kernel
theorem dX8_drawBears_81 : decode cX8_drawBears 81 = .ok (.iload 5, 2) := by decide +kernel
theorem dX8_drawBears_83 : decode cX8_drawBears 83 = .ok (.iadd, 1) := by decide +kernel
theorem dX8_drawBears_84 : decode cX8_drawBears 84 = .ok (.iaload, 1) := by decide +kernel
theorem dX8_drawBears_85 : decode cX8_drawBears 85 = .ok (.goto 4, 3) := by decide +kernel
theorem dX8_drawBears_88 : decode cX8_drawBears 88 = .ok (.iconst 0, 1) := by decide +kernel
theorem dX8_drawBears_89 : decode cX8_drawBears 89 = .ok (.istore 6, 2) := by decide +kernel
theorem dX8_drawBears_91 : decode cX8_drawBears 91 = .ok (.iload_n 3, 1) := by decide +kernel
theorem dX8_drawBears_92 : decode cX8_drawBears 92 = .ok (.iload 6, 2) := by decide +kernel
theorem dX8_drawBears_94 : decode cX8_drawBears 94 = .ok (.if_icmp .ge 8, 3) := by decide +kernel
theorem dX8_drawBears_97 : decode cX8_drawBears 97 = .ok (.iload 5, 2) := by decide +kernel
theorem dX8_drawBears_99 : decode cX8_drawBears 99 = .ok (.goto 5, 3) := by decide +kernel
theorem dX8_drawBears_102 : decode cX8_drawBears 102 = .ok (.bipush (-4), 2) := by decide +kernel
theorem dX8_drawBears_104 : decode cX8_drawBears 104 = .ok (.istore 4, 2) := by decide +kernel
theorem dX8_drawBears_106 : decode cX8_drawBears 106 = .ok (.iload_n 3, 1) := by decide +kernel
theorem dX8_drawBears_107 : decode cX8_drawBears 107 = .ok (.iload 6, 2) := by decide +kernel
theorem dX8_drawBears_109 : decode cX8_drawBears 109 = .ok (.isub, 1) := by decide +kernel
theorem dX8_drawBears_110 : decode cX8_drawBears 110 = .ok (.istore_n 3, 1) := by decide +kernel
theorem dX8_drawBears_111 : decode cX8_drawBears 111 = .ok (.iinc 5 1, 3) := by decide +kernel
theorem dX8_drawBears_114 : decode cX8_drawBears 114 = .ok (.goto (-72), 3) := by decide +kernel
theorem dX8_drawBears_117 : decode cX8_drawBears 117 = .ok (.aload_n 0, 1) := by decide +kernel
theorem dX8_drawBears_118 : decode cX8_drawBears 118 = .ok (.getfield 76, 3) := by decide +kernel
theorem dX8_drawBears_121 : decode cX8_drawBears 121 = .ok (.iload_n 2, 1) := by decide +kernel
theorem dX8_drawBears_122 : decode cX8_drawBears 122 = .ok (.aload_n 0, 1) := by decide +kernel
theorem dX8_drawBears_123 : decode cX8_drawBears 123 = .ok (.getfield 31, 3) := by decide +kernel
theorem dX8_drawBears_126 : decode cX8_drawBears 126 = .ok (.iconst 4, 1) := by decide +kernel
theorem dX8_drawBears_127 : decode cX8_drawBears 127 = .ok (.iload_n 2, 1) := by decide +kernel
theorem dX8_drawBears_128 : decode cX8_drawBears 128 = .ok (.imul, 1) := by decide +kernel
theorem dX8_drawBears_129 : decode cX8_drawBears 129 = .ok (.iload 4, 2) := by decide +kernel
theorem dX8_drawBears_131 : decode cX8_drawBears 131 = .ok (.iadd, 1) := by decide +kernel
theorem dX8_drawBears_132 : decode cX8_drawBears 132 = .ok (.iaload, 1) := by decide +kernel
theorem dX8_drawBears_133 : decode cX8_drawBears 133 = .ok (.iastore, 1) := by decide +kernel
theorem dX8_drawBears_134 : decode cX8_drawBears 134 = .ok (.iinc 2 1, 3) := by decide +kernel
theorem dX8_drawBears_137 : decode cX8_drawBears 137 = .ok (.goto (-135), 3) := by decide +kernel
theorem dX8_drawBears_140 : decode cX8_drawBears 140 = .ok (.return_, 1) := by decide +kernel
theorem dX8_night_0 : decode cX8_night 0 = .ok (.iload_n 1, 1) := by decide +kernel
theorem dX8_night_1 : decode cX8_night 1 = .ok (.i2l, 1) := by decide +kernel
theorem dX8_night_2 : decode cX8_night 2 = .ok (.lconst 0, 1) := by decide +kernel
theorem dX8_night_3 : decode cX8_night 3 = .ok (.ldc2_w 317, 3) := by decide +kernel
theorem dX8_night_6 : decode cX8_night 6 = .ok (.invokestatic 99, 3) := by decide +kernel
theorem dX8_night_9 : decode cX8_night 9 = .ok (.ifCond .eq 33, 3) := by decide +kernel
theorem dX8_night_12 : decode cX8_night 12 = .ok (.iload_n 2, 1) := by decide +kernel
theorem dX8_night_13 : decode cX8_night 13 = .ok (.invokestatic 262, 3) := by decide +kernel
theorem dX8_night_16 : decode cX8_night 16 = .ok (.ifCond .eq 26, 3) := by decide +kernel
theorem dX8_night_19 : decode cX8_night 19 = .ok (.iload_n 3, 1) := by decide +kernel
theorem dX8_night_20 : decode cX8_night 20 = .ok (.i2l, 1) := by decide +kernel
theorem dX8_night_21 : decode cX8_night 21 = .ok (.lconst 1, 1) := by decide +kernel
theorem dX8_night_22 : decode cX8_night 22 = .ok (.ldc2_w 319, 3) := by decide +kernel
theorem dX8_night_25 : decode cX8_night 25 = .ok (.invokestatic 99, 3) := by decide +kernel
theorem dX8_night_28 : decode cX8_night 28 = .ok (.ifCond .eq 14, 3) := by decide +kernel
theorem dX8_night_31 : decode cX8_night 31 = .ok (.iload 4, 2) := by decide +kernel
theorem dX8_night_33 : decode cX8_night 33 = .ok (.i2l, 1) := by decide +kernel
theorem dX8_night_34 : decode cX8_night 34 = .ok (.lconst 0, 1) := by decide +kernel
theorem dX8_night_35 : decode cX8_night 35 = .ok (.lconst 1, 1) := by decide +kernel
theorem dX8_night_36 : decode cX8_night 36 = .ok (.invokestatic 99, 3) := by decide +kernel
theorem dX8_night_39 : decode cX8_night 39 = .ok (.ifCond .ne 5, 3) := by decide +kernel
theorem dX8_night_42 : decode cX8_night 42 = .ok (.iconst (-1), 1) := by decide +kernel
theorem dX8_night_43 : decode cX8_night 43 = .ok (.ireturn, 1) := by decide +kernel
theorem dX8_night_44 : decode cX8_night 44 = .ok (.aload_n 0, 1) := by decide +kernel
theorem dX8_night_45 : decode cX8_night 45 = .ok (.iload_n 1, 1) := by decide +kernel
theorem dX8_night_46 : decode cX8_night 46 = .ok (.invokevirtual 321, 3) := by decide +kernel
theorem dX8_night_49 : decode cX8_night 49 = .ok (.aload_n 0, 1) := by decide +kernel
theorem dX8_night_50 : decode cX8_night 50 = .ok (.invokevirtual 212, 3) := by decide +kernel
theorem dX8_night_53 : decode cX8_night 53 = .ok (.aload_n 0, 1) := by decide +kernel
theorem dX8_night_54 : decode cX8_night 54 = .ok (.getfield 160, 3) := by decide +kernel
theorem dX8_night_57 : decode cX8_night 57 = .ok (.istore 5, 2) := by decide +kernel
theorem dX8_night_59 : decode cX8_night 59 = .ok (.iconst 0, 1) := by decide +kernel
theorem dX8_night_60 : decode cX8_night 60 = .ok (.istore 6, 2) := by decide +kernel
theorem dX8_night_62 : decode cX8_night 62 = .ok (.iload 6, 2) := by decide +kernel
theorem dX8_night_64 : decode cX8_night 64 = .ok (.iload_n 3, 1) := by decide +kernel
theorem dX8_night_65 : decode cX8_night 65 = .ok (.if_icmp .ge 180, 3) := by decide +kernel
theorem dX8_night_68 : decode cX8_night 68 = .ok (.iload_n 1, 1) := by decide +kernel
theorem dX8_night_69 : decode cX8_night 69 = .ok (.aload_n 0, 1) := by decide +kernel
theorem dX8_night_70 : decode cX8_night 70 = .ok (.getfield 166, 3) := by decide +kernel
theorem dX8_night_73 : decode cX8_night 73 = .ok (.iload 6, 2) := by decide +kernel
theorem dX8_night_75 : decode cX8_night 75 = .ok (.iadd, 1) := by decide +kernel
theorem dX8_night_76 : decode cX8_night 76 = .ok (.bipush 98, 2) := by decide +kernel
theorem dX8_night_78 : decode cX8_night 78 = .ok (.invokestatic 314, 3) := by decide +kernel
theorem dX8_night_81 : decode cX8_night 81 = .ok (.bipush 10, 2) := by decide +kernel
theorem dX8_night_83 : decode cX8_night 83 = .ok (.irem, 1) := by decide +kernel
theorem dX8_night_84 : decode cX8_night 84 = .ok (.istore 7, 2) := by decide +kernel
theorem dX8_night_86 : decode cX8_night 86 = .ok (.iload 7, 2) := by decide +kernel
theorem dX8_night_88 : decode cX8_night 88 = .ok (.aload_n 0, 1) := by decide +kernel
theorem dX8_night_89 : decode cX8_night 89 = .ok (.getfield 43, 3) := by decide +kernel
theorem dX8_night_92 : decode cX8_night 92 = .ok (.iconst 3, 1) := by decide +kernel
theorem dX8_night_93 : decode cX8_night 93 = .ok (.iload 5, 2) := by decide +kernel
theorem dX8_night_95 : decode cX8_night 95 = .ok (.imul, 1) := by decide +kernel
theorem dX8_night_96 : decode cX8_night 96 = .ok (.iaload, 1) := by decide +kernel
theorem dX8_night_97 : decode cX8_night 97 = .ok (.if_icmp .ge 7, 3) := by decide +kernel
theorem dX8_night_100 : decode cX8_night 100 = .ok (.iconst 0, 1) := by decide +kernel
theorem dX8_night_101 : decode cX8_night 101 = .ok (.goto 34, 3) := by decide +kernel
theorem dX8_night_104 : decode cX8_night 104 = .ok (.iload 7, 2) := by decide +kernel
theorem dX8_night_106 : decode cX8_night 106 = .ok (.aload_n 0, 1) := by decide +kernel
theorem dX8_night_107 : decode cX8_night 107 = .ok (.getfield 43, 3) := by decide +kernel
theorem dX8_night_110 : decode cX8_night 110 = .ok (.iconst 3, 1) := by decide +kernel
theorem dX8_night_111 : decode cX8_night 111 = .ok (.iload 5, 2) := by decide +kernel
theorem dX8_night_113 : decode cX8_night 113 = .ok (.imul, 1) := by decide +kernel
theorem dX8_night_114 : decode cX8_night 114 = .ok (.iaload, 1) := by decide +kernel
theorem dX8_night_115 : decode cX8_night 115 = .ok (.aload_n 0, 1) := by decide +kernel
theorem dX8_night_116 : decode cX8_night 116 = .ok (.getfield 43, 3) := by decide +kernel
theorem dX8_night_119 : decode cX8_night 119 = .ok (.iconst 3, 1) := by decide +kernel
theorem dX8_night_120 : decode cX8_night 120 = .ok (.iload 5, 2) := by decide +kernel
theorem dX8_night_122 : decode cX8_night 122 = .ok (.imul, 1) := by decide +kernel
theorem dX8_night_123 : decode cX8_night 123 = .ok (.iconst 1, 1) := by decide +kernel
theorem dX8_night_124 : decode cX8_night 124 = .ok (.iadd, 1) := by decide +kernel
theorem dX8_night_125 : decode cX8_night 125 = .ok (.iaload, 1) := by decide +kernel
theorem dX8_night_126 : decode cX8_night 126 = .ok (.iadd, 1) := by decide +kernel
theorem dX8_night_127 : decode cX8_night 127 = .ok (.if_icmp .ge 7, 3) := by decide +kernel
theorem dX8_night_130 : decode cX8_night 130 = .ok (.iconst 1, 1) := by decide +kernel
theorem dX8_night_131 : decode cX8_night 131 = .ok (.goto 4, 3) := by decide +kernel
theorem dX8_night_134 : decode cX8_night 134 = .ok (.iconst 2, 1) := by decide +kernel
theorem dX8_night_135 : decode cX8_night 135 = .ok (.istore 8, 2) := by decide +kernel
theorem dX8_night_137 : decode cX8_night 137 = .ok (.aload_n 0, 1) := by decide +kernel
theorem dX8_night_138 : decode cX8_night 138 = .ok (.iload_n 2, 1) := by decide +kernel
theorem dX8_night_139 : decode cX8_night 139 = .ok (.iload 8, 2) := by decide +kernel
theorem dX8_night_141 : decode cX8_night 141 = .ok (.aload_n 0, 1) := by decide +kernel
theorem dX8_night_142 : decode cX8_night 142 = .ok (.getfield 142, 3) := by decide +kernel
theorem dX8_night_145 : decode cX8_night 145 = .ok (.bipush (-4), 2) := by decide +kernel
theorem dX8_night_147 : decode cX8_night 147 = .ok (.invokevirtual 268, 3) := by decide +kernel
theorem dX8_night_150 : decode cX8_night 150 = .ok (.iload 8, 2) := by decide +kernel
theorem dX8_night_152 : decode cX8_night 152 = .ok (.istore 5, 2) := by decide +kernel
theorem dX8_night_154 : decode cX8_night 154 = .ok (.iconst 0, 1) := by decide +kernel
theorem dX8_night_155 : decode cX8_night 155 = .ok (.istore 9, 2) := by decide +kernel
theorem dX8_night_157 : decode cX8_night 157 = .ok (.iload 9, 2) := by decide +kernel
theorem dX8_night_159 : decode cX8_night 159 = .ok (.aload_n 0, 1) := by decide +kernel
theorem dX8_night_160 : decode cX8_night 160 = .ok (.getfield 82, 3) := by decide +kernel
theorem dX8_night_163 : decode cX8_night 163 = .ok (.if_icmp .ge 76, 3) := by decide +kernel
theorem dX8_night_166 : decode cX8_night 166 = .ok (.aload_n 0, 1) := by decide +kernel
theorem dX8_night_167 : decode cX8_night 167 = .ok (.getfield 194, 3) := by decide +kernel
theorem dX8_night_170 : decode cX8_night 170 = .ok (.iload 9, 2) := by decide +kernel
theorem dX8_night_172 : decode cX8_night 172 = .ok (.invokestatic 204, 3) := by decide +kernel
theorem dX8_night_175 : decode cX8_night 175 = .ok (.ifCond .eq 58, 3) := by decide +kernel
theorem dX8_night_178 : decode cX8_night 178 = .ok (.aload_n 0, 1) := by decide +kernel
theorem dX8_night_179 : decode cX8_night 179 = .ok (.getfield 76, 3) := by decide +kernel
theorem dX8_night_182 : decode cX8_night 182 = .ok (.iload 9, 2) := by decide +kernel
theorem dX8_night_184 : decode cX8_night 184 = .ok (.iaload, 1) := by decide +kernel
theorem dX8_night_185 : decode cX8_night 185 = .ok (.aload_n 0, 1) := by decide +kernel
theorem dX8_night_186 : decode cX8_night 186 = .ok (.iload 9, 2) := by decide +kernel
theorem dX8_night_188 : decode cX8_night 188 = .ok (.iconst 0, 1) := by decide +kernel
theorem dX8_night_189 : decode cX8_night 189 = .ok (.iconst 0, 1) := by decide +kernel
theorem dX8_night_190 : decode cX8_night 190 = .ok (.invokevirtual 215, 3) := by decide +kernel
theorem dX8_night_193 : decode cX8_night 193 = .ok (.if_icmp .ge 40, 3) := by decide +kernel
theorem dX8_night_196 : decode cX8_night 196 = .ok (.aload_n 0, 1) := by decide +kernel
theorem dX8_night_197 : decode cX8_night 197 = .ok (.dup, 1) := by decide +kernel
theorem dX8_night_198 : decode cX8_night 198 = .ok (.getfield 194, 3) := by decide +kernel
theorem dX8_night_201 : decode cX8_night 201 = .ok (.iconst 1, 1) := by decide +kernel
theorem dX8_night_202 : decode cX8_night 202 = .ok (.iload 9, 2) := by decide +kernel
theorem dX8_night_204 : decode cX8_night 204 = .ok (.ishl, 1) := by decide +kernel
theorem dX8_night_205 : decode cX8_night 205 = .ok (.iconst (-1), 1) := by decide +kernel
theorem dX8_night_206 : decode cX8_night 206 = .ok (.ixor, 1) := by decide +kernel
theorem dX8_night_207 : decode cX8_night 207 = .ok (.iand, 1) := by decide +kernel
theorem dX8_night_208 : decode cX8_night 208 = .ok (.putfield 194, 3) := by decide +kernel
theorem dX8_night_211 : decode cX8_night 211 = .ok (.aload_n 0, 1) := by decide +kernel
theorem dX8_night_212 : decode cX8_night 212 = .ok (.getfield 67, 3) := by decide +kernel
theorem dX8_night_215 : decode cX8_night 215 = .ok (.iconst 2, 1) := by decide +kernel
theorem dX8_night_216 : decode cX8_night 216 = .ok (.iload 9, 2) := by decide +kernel
theorem dX8_night_218 : decode cX8_night 218 = .ok (.imul, 1) := by decide +kernel
theorem dX8_night_219 : decode cX8_night 219 = .ok (.iconst 0, 1) := by decide +kernel
theorem dX8_night_220 : decode cX8_night 220 = .ok (.iastore, 1) := by decide +kernel
theorem dX8_night_221 : decode cX8_night 221 = .ok (.aload_n 0, 1) := by decide +kernel
theorem dX8_night_222 : decode cX8_night 222 = .ok (.getfield 67, 3) := by decide +kernel
theorem dX8_night_225 : decode cX8_night 225 = .ok (.iconst 2, 1) := by decide +kernel
theorem dX8_night_226 : decode cX8_night 226 = .ok (.iload 9, 2) := by decide +kernel
theorem dX8_night_228 : decode cX8_night 228 = .ok (.imul, 1) := by decide +kernel
theorem dX8_night_229 : decode cX8_night 229 = .ok (.iconst 1, 1) := by decide +kernel
theorem dX8_night_230 : decode cX8_night 230 = .ok (.iadd, 1) := by decide +kernel
theorem dX8_night_231 : decode cX8_night 231 = .ok (.iconst 0, 1) := by decide +kernel
theorem dX8_night_232 : decode cX8_night 232 = .ok (.iastore, 1) := by decide +kernel
theorem dX8_night_233 : decode cX8_night 233 = .ok (.iinc 9 1, 3) := by decide +kernel
theorem dX8_night_236 : decode cX8_night 236 = .ok (.goto (-79), 3) := by decide +kernel
theorem dX8_night_239 : decode cX8_night 239 = .ok (.iinc 6 1, 3) := by decide +kernel
theorem dX8_night_242 : decode cX8_night 242 = .ok (.goto (-180), 3) := by decide +kernel
theorem dX8_night_245 : decode cX8_night 245 = .ok (.aload_n 0, 1) := by decide +kernel
theorem dX8_night_246 : decode cX8_night 246 = .ok (.getfield 163, 3) := by decide +kernel
theorem dX8_night_249 : decode cX8_night 249 = .ok (.aload_n 0, 1) := by decide +kernel
theorem dX8_night_250 : decode cX8_night 250 = .ok (.getfield 194, 3) := by decide +kernel
theorem dX8_night_253 : decode cX8_night 253 = .ok (.iconst (-1), 1) := by decide +kernel
theorem dX8_night_254 : decode cX8_night 254 = .ok (.ixor, 1) := by decide +kernel
theorem dX8_night_255 : decode cX8_night 255 = .ok (.iand, 1) := by decide +kernel
theorem dX8_night_256 : decode cX8_night 256 = .ok (.istore 6, 2) := by decide +kernel
theorem dX8_night_258 : decode cX8_night 258 = .ok (.iconst 0, 1) := by decide +kernel
theorem dX8_night_259 : decode cX8_night 259 = .ok (.istore 7, 2) := by decide +kernel
theorem dX8_night_261 : decode cX8_night 261 = .ok (.iconst 0, 1) := by decide +kernel
theorem dX8_night_262 : decode cX8_night 262 = .ok (.istore 8, 2) := by decide +kernel
theorem dX8_night_264 : decode cX8_night 264 = .ok (.iload 8, 2) := by decide +kernel
theorem dX8_night_266 : decode cX8_night 266 = .ok (.aload_n 0, 1) := by decide +kernel
theorem dX8_night_267 : decode cX8_night 267 = .ok (.getfield 82, 3) := by decide +kernel
theorem dX8_night_270 : decode cX8_night 270 = .ok (.if_icmp .ge 48, 3) := by decide +kernel
theorem dX8_night_273 : decode cX8_night 273 = .ok (.iload 7, 2) := by decide +kernel
theorem dX8_night_275 : decode cX8_night 275 = .ok (.iload 6, 2) := by decide +kernel
theorem dX8_night_277 : decode cX8_night 277 = .ok (.iload 8, 2) := by decide +kernel
theorem dX8_night_279 : decode cX8_night 279 = .ok (.invokestatic 204, 3) := by decide +kernel
theorem dX8_night_282 : decode cX8_night 282 = .ok (.ifCond .eq 26, 3) := by decide +kernel
theorem dX8_night_285 : decode cX8_night 285 = .ok (.aload_n 0, 1) := by decide +kernel
theorem dX8_night_286 : decode cX8_night 286 = .ok (.getfield 22, 3) := by decide +kernel
theorem dX8_night_289 : decode cX8_night 289 = .ok (.iload 8, 2) := by decide +kernel
theorem dX8_night_291 : decode cX8_night 291 = .ok (.iaload, 1) := by decide +kernel
theorem dX8_night_292 : decode cX8_night 292 = .ok (.aload_n 0, 1) := by decide +kernel
theorem dX8_night_293 : decode cX8_night 293 = .ok (.getfield 157, 3) := by decide +kernel
theorem dX8_night_296 : decode cX8_night 296 = .ok (.aload_n 0, 1) := by decide +kernel
theorem dX8_night_297 : decode cX8_night 297 = .ok (.getfield 28, 3) := by decide +kernel
theorem dX8_night_300 : decode cX8_night 300 = .ok (.iload 8, 2) := by decide +kernel
theorem dX8_night_302 : decode cX8_night 302 = .ok (.iaload, 1) := by decide +kernel
theorem dX8_night_303 : decode cX8_night 303 = .ok (.imul, 1) := by decide +kernel
theorem dX8_night_304 : decode cX8_night 304 = .ok (.iadd, 1) := by decide +kernel
theorem dX8_night_305 : decode cX8_night 305 = .ok (.goto 4, 3) := by decide +kernel
theorem dX8_night_308 : decode cX8_night 308 = .ok (.iconst 0, 1) := by decide +kernel
theorem dX8_night_309 : decode cX8_night 309 = .ok (.iadd, 1) := by decide +kernel
theorem dX8_night_310 : decode cX8_night 310 = .ok (.istore 7, 2) := by decide +kernel
theorem dX8_night_312 : decode cX8_night 312 = .ok (.iinc 8 1, 3) := by decide +kernel
theorem dX8_night_315 : decode cX8_night 315 = .ok (.goto (-51), 3) := by decide +kernel
theorem dX8_night_318 : decode cX8_night 318 = .ok (.iload 4, 2) := by decide +kernel
theorem dX8_night_320 : decode cX8_night 320 = .ok (.ifCond .ne 8, 3) := by decide +kernel
theorem dX8_night_323 : decode cX8_night 323 = .ok (.iload 6, 2) := by decide +kernel
theorem dX8_night_325 : decode cX8_night 325 = .ok (.goto 5, 3) := by decide +kernel
theorem dX8_night_328 : decode cX8_night 328 = .ok (.iload 7, 2) := by decide +kernel
theorem dX8_night_330 : decode cX8_night 330 = .ok (.ireturn, 1) := by decide +kernel
theorem dX8_store_0 : decode cX8_store 0 = .ok (.iconst 0, 1) := by decide +kernel
theorem dX8_store_1 : decode cX8_store 1 = .ok (.istore_n 2, 1) := by decide +kernel
theorem dX8_store_2 : decode cX8_store 2 = .ok (.iload_n 2, 1) := by decide +kernel
theorem dX8_store_3 : decode cX8_store 3 = .ok (.bipush 24, 2) := by decide +kernel
theorem dX8_store_5 : decode cX8_store 5 = .ok (.if_icmp .ge 46, 3) := by decide +kernel
theorem dX8_store_8 : decode cX8_store 8 = .ok (.aload_n 0, 1) := by decide +kernel
theorem dX8_store_9 : decode cX8_store 9 = .ok (.getfield 64, 3) := by decide +kernel
theorem dX8_store_12 : decode cX8_store 12 = .ok (.iload_n 1, 1) := by decide +kernel
theorem dX8_store_13 : decode cX8_store 13 = .ok (.iload_n 2, 1) := by decide +kernel
theorem dX8_store_14 : decode cX8_store 14 = .ok (.iadd, 1) := by decide +kernel
theorem dX8_store_15 : decode cX8_store 15 = .ok (.aload_n 0, 1) := by decide +kernel
theorem dX8_store_16 : decode cX8_store 16 = .ok (.getfield 55, 3) := by decide +kernel
theorem dX8_store_19 : decode cX8_store 19 = .ok (.iload_n 2, 1) := by decide +kernel
theorem dX8_store_20 : decode cX8_store 20 = .ok (.iaload, 1) := by decide +kernel
theorem dX8_store_21 : decode cX8_store 21 = .ok (.iastore, 1) := by decide +kernel
theorem dX8_store_22 : decode cX8_store 22 = .ok (.aload_n 0, 1) := by decide +kernel
theorem dX8_store_23 : decode cX8_store 23 = .ok (.getfield 64, 3) := by decide +kernel
theorem dX8_store_26 : decode cX8_store 26 = .ok (.iload_n 1, 1) := by decide +kernel
theorem dX8_store_27 : decode cX8_store 27 = .ok (.bipush 24, 2) := by decide +kernel
theorem dX8_store_29 : decode cX8_store 29 = .ok (.iadd, 1) := by decide +kernel
theorem dX8_store_30 : decode cX8_store 30 = .ok (.iload_n 2, 1) := by decide +kernel
theorem dX8_store_31 : decode cX8_store 31 = .ok (.bipush 16, 2) := by decide +kernel
theorem dX8_store_33 : decode cX8_store 33 = .ok (.irem, 1) := by decide +kernel
theorem dX8_store_34 : decode cX8_store 34 = .ok (.iadd, 1) := by decide +kernel
theorem dX8_store_35 : decode cX8_store 35 = .ok (.aload_n 0, 1) := by decide +kernel
theorem dX8_store_36 : decode cX8_store 36 = .ok (.getfield 46, 3) := by decide +kernel
theorem dX8_store_39 : decode cX8_store 39 = .ok (.iload_n 2, 1) := by decide +kernel
theorem dX8_store_40 : decode cX8_store 40 = .ok (.bipush 16, 2) := by decide +kernel
theorem dX8_store_42 : decode cX8_store 42 = .ok (.irem, 1) := by decide +kernel
theorem dX8_store_43 : decode cX8_store 43 = .ok (.iaload, 1) := by decide +kernel
theorem dX8_store_44 : decode cX8_store 44 = .ok (.iastore, 1) := by decide +kernel
theorem dX8_store_45 : decode cX8_store 45 = .ok (.iinc 2 1, 3) := by decide +kernel
theorem dX8_store_48 : decode cX8_store 48 = .ok (.goto (-46), 3) := by decide +kernel
theorem dX8_store_51 : decode cX8_store 51 = .ok (.iconst 0, 1) := by decide +kernel
theorem dX8_store_52 : decode cX8_store 52 = .ok (.istore_n 2, 1) := by decide +kernel
theorem dX8_store_53 : decode cX8_store 53 = .ok (.iload_n 2, 1) := by decide +kernel
theorem dX8_store_54 : decode cX8_store 54 = .ok (.bipush 8, 2) := by decide +kernel
theorem dX8_store_56 : decode cX8_store 56 = .ok (.if_icmp .ge 60, 3) := by decide +kernel
theorem dX8_store_59 : decode cX8_store 59 = .ok (.aload_n 0, 1) := by decide +kernel
theorem dX8_store_60 : decode cX8_store 60 = .ok (.getfield 64, 3) := by decide +kernel
theorem dX8_store_63 : decode cX8_store 63 = .ok (.iload_n 1, 1) := by decide +kernel
theorem dX8_store_64 : decode cX8_store 64 = .ok (.bipush 40, 2) := by decide +kernel
theorem dX8_store_66 : decode cX8_store 66 = .ok (.iadd, 1) := by decide +kernel
theorem dX8_store_67 : decode cX8_store 67 = .ok (.iload_n 2, 1) := by decide +kernel
theorem dX8_store_68 : decode cX8_store 68 = .ok (.iadd, 1) := by decide +kernel
theorem dX8_store_69 : decode cX8_store 69 = .ok (.aload_n 0, 1) := by decide +kernel
theorem dX8_store_70 : decode cX8_store 70 = .ok (.getfield 49, 3) := by decide +kernel
theorem dX8_store_73 : decode cX8_store 73 = .ok (.iload_n 2, 1) := by decide +kernel
theorem dX8_store_74 : decode cX8_store 74 = .ok (.iaload, 1) := by decide +kernel
theorem dX8_store_75 : decode cX8_store 75 = .ok (.iastore, 1) := by decide +kernel
theorem dX8_store_76 : decode cX8_store 76 = .ok (.aload_n 0, 1) := by decide +kernel
theorem dX8_store_77 : decode cX8_store 77 = .ok (.getfield 64, 3) := by decide +kernel
theorem dX8_store_80 : decode cX8_store 80 = .ok (.iload_n 1, 1) := by decide +kernel
theorem dX8_store_81 : decode cX8_store 81 = .ok (.bipush 48, 2) := by decide +kernel
theorem dX8_store_83 : decode cX8_store 83 = .ok (.iadd, 1) := by decide +kernel
theorem dX8_store_84 : decode cX8_store 84 = .ok (.iload_n 2, 1) := by decide +kernel
theorem dX8_store_85 : decode cX8_store 85 = .ok (.iadd, 1) := by decide +kernel
theorem dX8_store_86 : decode cX8_store 86 = .ok (.aload_n 0, 1) := by decide +kernel
theorem dX8_store_87 : decode cX8_store 87 = .ok (.getfield 52, 3) := by decide +kernel
theorem dX8_store_90 : decode cX8_store 90 = .ok (.iload_n 2, 1) := by decide +kernel
theorem dX8_store_91 : decode cX8_store 91 = .ok (.iaload, 1) := by decide +kernel
theorem dX8_store_92 : decode cX8_store 92 = .ok (.iastore, 1) := by decide +kernel
theorem dX8_store_93 : decode cX8_store 93 = .ok (.aload_n 0, 1) := by decide +kernel
theorem dX8_store_94 : decode cX8_store 94 = .ok (.getfield 64, 3) := by decide +kernel
theorem dX8_store_97 : decode cX8_store 97 = .ok (.iload_n 1, 1) := by decide +kernel
theorem dX8_store_98 : decode cX8_store 98 = .ok (.bipush 56, 2) := by decide +kernel
theorem dX8_store_100 : decode cX8_store 100 = .ok (.iadd, 1) := by decide +kernel
theorem dX8_store_101 : decode cX8_store 101 = .ok (.iload_n 2, 1) := by decide +kernel
theorem dX8_store_102 : decode cX8_store 102 = .ok (.iadd, 1) := by decide +kernel
theorem dX8_store_103 : decode cX8_store 103 = .ok (.aload_n 0, 1) := by decide +kernel
theorem dX8_store_104 : decode cX8_store 104 = .ok (.getfield 58, 3) := by decide +kernel
theorem dX8_store_107 : decode cX8_store 107 = .ok (.iload_n 2, 1) := by decide +kernel
theorem dX8_store_108 : decode cX8_store 108 = .ok (.iaload, 1) := by decide +kernel
theorem dX8_store_109 : decode cX8_store 109 = .ok (.iastore, 1) := by decide +kernel
theorem dX8_store_110 : decode cX8_store 110 = .ok (.iinc 2 1, 3) := by decide +kernel
theorem dX8_store_113 : decode cX8_store 113 = .ok (.goto (-60), 3) := by decide +kernel
theorem dX8_store_116 : decode cX8_store 116 = .ok (.aload_n 0, 1) := by decide +kernel
theorem dX8_store_117 : decode cX8_store 117 = .ok (.getfield 64, 3) := by decide +kernel
theorem dX8_store_120 : decode cX8_store 120 = .ok (.iload_n 1, 1) := by decide +kernel
theorem dX8_store_121 : decode cX8_store 121 = .ok (.bipush 64, 2) := by decide +kernel
theorem dX8_store_123 : decode cX8_store 123 = .ok (.iadd, 1) := by decide +kernel
theorem dX8_store_124 : decode cX8_store 124 = .ok (.aload_n 0, 1) := by decide +kernel
theorem dX8_store_125 : decode cX8_store 125 = .ok (.getfield 163, 3) := by decide +kernel
theorem dX8_store_128 : decode cX8_store 128 = .ok (.iastore, 1) := by decide +kernel
theorem dX8_store_129 : decode cX8_store 129 = .ok (.aload_n 0, 1) := by decide +kernel
theorem dX8_store_130 : decode cX8_store 130 = .ok (.getfield 64, 3) := by decide +kernel
theorem dX8_store_133 : decode cX8_store 133 = .ok (.iload_n 1, 1) := by decide +kernel
theorem dX8_store_134 : decode cX8_store 134 = .ok (.bipush 65, 2) := by decide +kernel
theorem dX8_store_136 : decode cX8_store 136 = .ok (.iadd, 1) := by decide +kernel
theorem dX8_store_137 : decode cX8_store 137 = .ok (.aload_n 0, 1) := by decide +kernel
theorem dX8_store_138 : decode cX8_store 138 = .ok (.getfield 166, 3) := by decide +kernel
theorem dX8_store_141 : decode cX8_store 141 = .ok (.iastore, 1) := by decide +kernel
theorem dX8_store_142 : decode cX8_store 142 = .ok (.aload_n 0, 1) := by decide +kernel
theorem dX8_store_143 : decode cX8_store 143 = .ok (.getfield 64, 3) := by decide +kernel
theorem dX8_store_146 : decode cX8_store 146 = .ok (.iload_n 1, 1) := by decide +kernel
theorem dX8_store_147 : decode cX8_store 147 = .ok (.bipush 66, 2) := by decide +kernel
theorem dX8_store_149 : decode cX8_store 149 = .ok (.iadd, 1) := by decide +kernel
theorem dX8_store_150 : decode cX8_store 150 = .ok (.aload_n 0, 1) := by decide +kernel
theorem dX8_store_151 : decode cX8_store 151 = .ok (.getfield 160, 3) := by decide +kernel
theorem dX8_store_154 : decode cX8_store 154 = .ok (.iastore, 1) := by decide +kernel
theorem dX8_store_155 : decode cX8_store 155 = .ok (.aload_n 0, 1) := by decide +kernel
theorem dX8_store_156 : decode cX8_store 156 = .ok (.getfield 64, 3) := by decide +kernel
theorem dX8_store_159 : decode cX8_store 159 = .ok (.iload_n 1, 1) := by decide +kernel
theorem dX8_store_160 : decode cX8_store 160 = .ok (.bipush 67, 2) := by decide +kernel
theorem dX8_store_162 : decode cX8_store 162 = .ok (.iadd, 1) := by decide +kernel
theorem dX8_store_163 : decode cX8_store 163 = .ok (.aload_n 0, 1) := by decide +kernel
theorem dX8_store_164 : decode cX8_store 164 = .ok (.getfield 169, 3) := by decide +kernel
theorem dX8_store_167 : decode cX8_store 167 = .ok (.iastore, 1) := by decide +kernel
theorem dX8_store_168 : decode cX8_store 168 = .ok (.aload_n 0, 1) := by decide +kernel
theorem dX8_store_169 : decode cX8_store 169 = .ok (.getfield 64, 3) := by decide +kernel
theorem dX8_store_172 : decode cX8_store 172 = .ok (.iload_n 1, 1) := by decide +kernel
theorem dX8_store_173 : decode cX8_store 173 = .ok (.bipush 68, 2) := by decide +kernel
theorem dX8_store_175 : decode cX8_store 175 = .ok (.iadd, 1) := by decide +kernel
theorem dX8_store_176 : decode cX8_store 176 = .ok (.aload_n 0, 1) := by decide +kernel
theorem dX8_store_177 : decode cX8_store 177 = .ok (.getfield 171, 3) := by decide +kernel
theorem dX8_store_180 : decode cX8_store 180 = .ok (.iastore, 1) := by decide +kernel
theorem dX8_store_181 : decode cX8_store 181 = .ok (.return_, 1) := by decide +kernel
theorem dX8_fetch_0 : decode cX8_fetch 0 = .ok (.iconst 0, 1) := by decide +kernel
theorem dX8_fetch_1 : decode cX8_fetch 1 = .ok (.istore_n 2, 1) := by decide +kernel
theorem dX8_fetch_2 : decode cX8_fetch 2 = .ok (.iload_n 2, 1) := by decide +kernel
theorem dX8_fetch_3 : decode cX8_fetch 3 = .ok (.bipush 24, 2) := by decide +kernel
theorem dX8_fetch_5 : decode cX8_fetch 5 = .ok (.if_icmp .ge 46, 3) := by decide +kernel
theorem dX8_fetch_8 : decode cX8_fetch 8 = .ok (.aload_n 0, 1) := by decide +kernel
theorem dX8_fetch_9 : decode cX8_fetch 9 = .ok (.getfield 55, 3) := by decide +kernel
theorem dX8_fetch_12 : decode cX8_fetch 12 = .ok (.iload_n 2, 1) := by decide +kernel
theorem dX8_fetch_13 : decode cX8_fetch 13 = .ok (.aload_n 0, 1) := by decide +kernel
theorem dX8_fetch_14 : decode cX8_fetch 14 = .ok (.getfield 64, 3) := by decide +kernel
theorem dX8_fetch_17 : decode cX8_fetch 17 = .ok (.iload_n 1, 1) := by decide +kernel
theorem dX8_fetch_18 : decode cX8_fetch 18 = .ok (.iload_n 2, 1) := by decide +kernel
theorem dX8_fetch_19 : decode cX8_fetch 19 = .ok (.iadd, 1) := by decide +kernel
theorem dX8_fetch_20 : decode cX8_fetch 20 = .ok (.iaload, 1) := by decide +kernel
theorem dX8_fetch_21 : decode cX8_fetch 21 = .ok (.iastore, 1) := by decide +kernel
theorem dX8_fetch_22 : decode cX8_fetch 22 = .ok (.aload_n 0, 1) := by decide +kernel
theorem dX8_fetch_23 : decode cX8_fetch 23 = .ok (.getfield 46, 3) := by decide +kernel
theorem dX8_fetch_26 : decode cX8_fetch 26 = .ok (.iload_n 2, 1) := by decide +kernel
theorem dX8_fetch_27 : decode cX8_fetch 27 = .ok (.bipush 16, 2) := by decide +kernel
theorem dX8_fetch_29 : decode cX8_fetch 29 = .ok (.irem, 1) := by decide +kernel
theorem dX8_fetch_30 : decode cX8_fetch 30 = .ok (.aload_n 0, 1) := by decide +kernel
theorem dX8_fetch_31 : decode cX8_fetch 31 = .ok (.getfield 64, 3) := by decide +kernel
theorem dX8_fetch_34 : decode cX8_fetch 34 = .ok (.iload_n 1, 1) := by decide +kernel
theorem dX8_fetch_35 : decode cX8_fetch 35 = .ok (.bipush 24, 2) := by decide +kernel
theorem dX8_fetch_37 : decode cX8_fetch 37 = .ok (.iadd, 1) := by decide +kernel
theorem dX8_fetch_38 : decode cX8_fetch 38 = .ok (.iload_n 2, 1) := by decide +kernel
theorem dX8_fetch_39 : decode cX8_fetch 39 = .ok (.bipush 16, 2) := by decide +kernel
theorem dX8_fetch_41 : decode cX8_fetch 41 = .ok (.irem, 1) := by decide +kernel
theorem dX8_fetch_42 : decode cX8_fetch 42 = .ok (.iadd, 1) := by decide +kernel
theorem dX8_fetch_43 : decode cX8_fetch 43 = .ok (.iaload, 1) := by decide +kernel
theorem dX8_fetch_44 : decode cX8_fetch 44 = .ok (.iastore, 1) := by decide +kernel
theorem dX8_fetch_45 : decode cX8_fetch 45 = .ok (.iinc 2 1, 3) := by decide +kernel
theorem dX8_fetch_48 : decode cX8_fetch 48 = .ok (.goto (-46), 3) := by decide +kernel
theorem dX8_fetch_51 : decode cX8_fetch 51 = .ok (.iconst 0, 1) := by decide +kernel
theorem dX8_fetch_52 : decode cX8_fetch 52 = .ok (.istore_n 2, 1) := by decide +kernel
theorem dX8_fetch_53 : decode cX8_fetch 53 = .ok (.iload_n 2, 1) := by decide +kernel
theorem dX8_fetch_54 : decode cX8_fetch 54 = .ok (.bipush 8, 2) := by decide +kernel
theorem dX8_fetch_56 : decode cX8_fetch 56 = .ok (.if_icmp .ge 60, 3) := by decide +kernel
theorem dX8_fetch_59 : decode cX8_fetch 59 = .ok (.aload_n 0, 1) := by decide +kernel
theorem dX8_fetch_60 : decode cX8_fetch 60 = .ok (.getfield 49, 3) := by decide +kernel
theorem dX8_fetch_63 : decode cX8_fetch 63 = .ok (.iload_n 2, 1) := by decide +kernel
theorem dX8_fetch_64 : decode cX8_fetch 64 = .ok (.aload_n 0, 1) := by decide +kernel
theorem dX8_fetch_65 : decode cX8_fetch 65 = .ok (.getfield 64, 3) := by decide +kernel
theorem dX8_fetch_68 : decode cX8_fetch 68 = .ok (.iload_n 1, 1) := by decide +kernel
theorem dX8_fetch_69 : decode cX8_fetch 69 = .ok (.bipush 40, 2) := by decide +kernel
theorem dX8_fetch_71 : decode cX8_fetch 71 = .ok (.iadd, 1) := by decide +kernel
theorem dX8_fetch_72 : decode cX8_fetch 72 = .ok (.iload_n 2, 1) := by decide +kernel
theorem dX8_fetch_73 : decode cX8_fetch 73 = .ok (.iadd, 1) := by decide +kernel
theorem dX8_fetch_74 : decode cX8_fetch 74 = .ok (.iaload, 1) := by decide +kernel
theorem dX8_fetch_75 : decode cX8_fetch 75 = .ok (.iastore, 1) := by decide +kernel
theorem dX8_fetch_76 : decode cX8_fetch 76 = .ok (.aload_n 0, 1) := by decide +kernel
theorem dX8_fetch_77 : decode cX8_fetch 77 = .ok (.getfield 52, 3) := by decide +kernel
theorem dX8_fetch_80 : decode cX8_fetch 80 = .ok (.iload_n 2, 1) := by decide +kernel
theorem dX8_fetch_81 : decode cX8_fetch 81 = .ok (.aload_n 0, 1) := by decide +kernel
theorem dX8_fetch_82 : decode cX8_fetch 82 = .ok (.getfield 64, 3) := by decide +kernel
theorem dX8_fetch_85 : decode cX8_fetch 85 = .ok (.iload_n 1, 1) := by decide +kernel
theorem dX8_fetch_86 : decode cX8_fetch 86 = .ok (.bipush 48, 2) := by decide +kernel
theorem dX8_fetch_88 : decode cX8_fetch 88 = .ok (.iadd, 1) := by decide +kernel
theorem dX8_fetch_89 : decode cX8_fetch 89 = .ok (.iload_n 2, 1) := by decide +kernel
theorem dX8_fetch_90 : decode cX8_fetch 90 = .ok (.iadd, 1) := by decide +kernel
theorem dX8_fetch_91 : decode cX8_fetch 91 = .ok (.iaload, 1) := by decide +kernel
theorem dX8_fetch_92 : decode cX8_fetch 92 = .ok (.iastore, 1) := by decide +kernel
theorem dX8_fetch_93 : decode cX8_fetch 93 = .ok (.aload_n 0, 1) := by decide +kernel
theorem dX8_fetch_94 : decode cX8_fetch 94 = .ok (.getfield 58, 3) := by decide +kernel
theorem dX8_fetch_97 : decode cX8_fetch 97 = .ok (.iload_n 2, 1) := by decide +kernel
theorem dX8_fetch_98 : decode cX8_fetch 98 = .ok (.aload_n 0, 1) := by decide +kernel
theorem dX8_fetch_99 : decode cX8_fetch 99 = .ok (.getfield 64, 3) := by decide +kernel
theorem dX8_fetch_102 : decode cX8_fetch 102 = .ok (.iload_n 1, 1) := by decide +kernel
theorem dX8_fetch_103 : decode cX8_fetch 103 = .ok (.bipush 56, 2) := by decide +kernel
theorem dX8_fetch_105 : decode cX8_fetch 105 = .ok (.iadd, 1) := by decide +kernel
theorem dX8_fetch_106 : decode cX8_fetch 106 = .ok (.iload_n 2, 1) := by decide +kernel
theorem dX8_fetch_107 : decode cX8_fetch 107 = .ok (.iadd, 1) := by decide +kernel
theorem dX8_fetch_108 : decode cX8_fetch 108 = .ok (.iaload, 1) := by decide +kernel
theorem dX8_fetch_109 : decode cX8_fetch 109 = .ok (.iastore, 1) := by decide +kernel
theorem dX8_fetch_110 : decode cX8_fetch 110 = .ok (.iinc 2 1, 3) := by decide +kernel
theorem dX8_fetch_113 : decode cX8_fetch 113 = .ok (.goto (-60), 3) := by decide +kernel
theorem dX8_fetch_116 : decode cX8_fetch 116 = .ok (.aload_n 0, 1) := by decide +kernel
theorem dX8_fetch_117 : decode cX8_fetch 117 = .ok (.aload_n 0, 1) := by decide +kernel
theorem dX8_fetch_118 : decode cX8_fetch 118 = .ok (.getfield 64, 3) := by decide +kernel
theorem dX8_fetch_121 : decode cX8_fetch 121 = .ok (.iload_n 1, 1) := by decide +kernel
theorem dX8_fetch_122 : decode cX8_fetch 122 = .ok (.bipush 64, 2) := by decide +kernel
theorem dX8_fetch_124 : decode cX8_fetch 124 = .ok (.iadd, 1) := by decide +kernel
theorem dX8_fetch_125 : decode cX8_fetch 125 = .ok (.iaload, 1) := by decide +kernel
theorem dX8_fetch_126 : decode cX8_fetch 126 = .ok (.putfield 163, 3) := by decide +kernel
theorem dX8_fetch_129 : decode cX8_fetch 129 = .ok (.aload_n 0, 1) := by decide +kernel
theorem dX8_fetch_130 : decode cX8_fetch 130 = .ok (.aload_n 0, 1) := by decide +kernel
theorem dX8_fetch_131 : decode cX8_fetch 131 = .ok (.getfield 64, 3) := by decide +kernel
theorem dX8_fetch_134 : decode cX8_fetch 134 = .ok (.iload_n 1, 1) := by decide +kernel
theorem dX8_fetch_135 : decode cX8_fetch 135 = .ok (.bipush 65, 2) := by decide +kernel
theorem dX8_fetch_137 : decode cX8_fetch 137 = .ok (.iadd, 1) := by decide +kernel
theorem dX8_fetch_138 : decode cX8_fetch 138 = .ok (.iaload, 1) := by decide +kernel
theorem dX8_fetch_139 : decode cX8_fetch 139 = .ok (.putfield 166, 3) := by decide +kernel
theorem dX8_fetch_142 : decode cX8_fetch 142 = .ok (.aload_n 0, 1) := by decide +kernel
theorem dX8_fetch_143 : decode cX8_fetch 143 = .ok (.aload_n 0, 1) := by decide +kernel
theorem dX8_fetch_144 : decode cX8_fetch 144 = .ok (.getfield 64, 3) := by decide +kernel
theorem dX8_fetch_147 : decode cX8_fetch 147 = .ok (.iload_n 1, 1) := by decide +kernel
theorem dX8_fetch_148 : decode cX8_fetch 148 = .ok (.bipush 66, 2) := by decide +kernel
theorem dX8_fetch_150 : decode cX8_fetch 150 = .ok (.iadd, 1) := by decide +kernel
theorem dX8_fetch_151 : decode cX8_fetch 151 = .ok (.iaload, 1) := by decide +kernel
theorem dX8_fetch_152 : decode cX8_fetch 152 = .ok (.putfield 160, 3) := by decide +kernel
theorem dX8_fetch_155 : decode cX8_fetch 155 = .ok (.aload_n 0, 1) := by decide +kernel
theorem dX8_fetch_156 : decode cX8_fetch 156 = .ok (.aload_n 0, 1) := by decide +kernel
theorem dX8_fetch_157 : decode cX8_fetch 157 = .ok (.getfield 64, 3) := by decide +kernel
theorem dX8_fetch_160 : decode cX8_fetch 160 = .ok (.iload_n 1, 1) := by decide +kernel
theorem dX8_fetch_161 : decode cX8_fetch 161 = .ok (.bipush 67, 2) := by decide +kernel
theorem dX8_fetch_163 : decode cX8_fetch 163 = .ok (.iadd, 1) := by decide +kernel
theorem dX8_fetch_164 : decode cX8_fetch 164 = .ok (.iaload, 1) := by decide +kernel
theorem dX8_fetch_165 : decode cX8_fetch 165 = .ok (.putfield 169, 3) := by decide +kernel
theorem dX8_fetch_168 : decode cX8_fetch 168 = .ok (.aload_n 0, 1) := by decide +kernel
theorem dX8_fetch_169 : decode cX8_fetch 169 = .ok (.aload_n 0, 1) := by decide +kernel
theorem dX8_fetch_170 : decode cX8_fetch 170 = .ok (.getfield 64, 3) := by decide +kernel
theorem dX8_fetch_173 : decode cX8_fetch 173 = .ok (.iload_n 1, 1) := by decide +kernel
theorem dX8_fetch_174 : decode cX8_fetch 174 = .ok (.bipush 68, 2) := by decide +kernel
theorem dX8_fetch_176 : decode cX8_fetch 176 = .ok (.iadd, 1) := by decide +kernel
theorem dX8_fetch_177 : decode cX8_fetch 177 = .ok (.iaload, 1) := by decide +kernel
theorem dX8_fetch_178 : decode cX8_fetch 178 = .ok (.putfield 171, 3) := by decide +kernel
theorem dX8_fetch_181 : decode cX8_fetch 181 = .ok (.return_, 1) := by decide +kernel
theorem dX8_keep_0 : decode cX8_keep 0 = .ok (.aload_n 0, 1) := by decide +kernel
theorem dX8_keep_1 : decode cX8_keep 1 = .ok (.getfield 177, 3) := by decide +kernel
theorem dX8_keep_4 : decode cX8_keep 4 = .ok (.iconst 2, 1) := by decide +kernel
theorem dX8_keep_5 : decode cX8_keep 5 = .ok (.if_icmp .ne 6, 3) := by decide +kernel
theorem dX8_keep_8 : decode cX8_keep 8 = .ok (.bipush (-3), 2) := by decide +kernel
theorem dX8_keep_10 : decode cX8_keep 10 = .ok (.ireturn, 1) := by decide +kernel
theorem dX8_keep_11 : decode cX8_keep 11 = .ok (.aload_n 0, 1) := by decide +kernel
theorem dX8_keep_12 : decode cX8_keep 12 = .ok (.bipush 100, 2) := by decide +kernel
theorem dX8_keep_14 : decode cX8_keep 14 = .ok (.aload_n 0, 1) := by decide +kernel
theorem dX8_keep_15 : decode cX8_keep 15 = .ok (.getfield 177, 3) := by decide +kernel
theorem dX8_keep_18 : decode cX8_keep 18 = .ok (.imul, 1) := by decide +kernel
theorem dX8_keep_19 : decode cX8_keep 19 = .ok (.invokevirtual 324, 3) := by decide +kernel
theorem dX8_keep_22 : decode cX8_keep 22 = .ok (.aload_n 0, 1) := by decide +kernel
theorem dX8_keep_23 : decode cX8_keep 23 = .ok (.dup, 1) := by decide +kernel
theorem dX8_keep_24 : decode cX8_keep 24 = .ok (.getfield 177, 3) := by decide +kernel
theorem dX8_keep_27 : decode cX8_keep 27 = .ok (.iconst 1, 1) := by decide +kernel
theorem dX8_keep_28 : decode cX8_keep 28 = .ok (.iadd, 1) := by decide +kernel
theorem dX8_keep_29 : decode cX8_keep 29 = .ok (.putfield 177, 3) := by decide +kernel
theorem dX8_keep_32 : decode cX8_keep 32 = .ok (.aload_n 0, 1) := by decide +kernel
theorem dX8_keep_33 : decode cX8_keep 33 = .ok (.getfield 177, 3) := by decide +kernel
theorem dX8_keep_36 : decode cX8_keep 36 = .ok (.ireturn, 1) := by decide +kernel
theorem dX8_back_0 : decode cX8_back 0 = .ok (.aload_n 0, 1) := by decide +kernel
theorem dX8_back_1 : decode cX8_back 1 = .ok (.getfield 177, 3) := by decide +kernel
theorem dX8_back_4 : decode cX8_back 4 = .ok (.ifCond .ne 6, 3) := by decide +kernel
theorem dX8_back_7 : decode cX8_back 7 = .ok (.bipush (-2), 2) := by decide +kernel
theorem dX8_back_9 : decode cX8_back 9 = .ok (.ireturn, 1) := by decide +kernel
theorem dX8_back_10 : decode cX8_back 10 = .ok (.aload_n 0, 1) := by decide +kernel
theorem dX8_back_11 : decode cX8_back 11 = .ok (.dup, 1) := by decide +kernel
theorem dX8_back_12 : decode cX8_back 12 = .ok (.getfield 177, 3) := by decide +kernel
theorem dX8_back_15 : decode cX8_back 15 = .ok (.iconst 1, 1) := by decide +kernel
theorem dX8_back_16 : decode cX8_back 16 = .ok (.isub, 1) := by decide +kernel
theorem dX8_back_17 : decode cX8_back 17 = .ok (.putfield 177, 3) := by decide +kernel
theorem dX8_back_20 : decode cX8_back 20 = .ok (.aload_n 0, 1) := by decide +kernel
theorem dX8_back_21 : decode cX8_back 21 = .ok (.bipush 100, 2) := by decide +kernel
theorem dX8_back_23 : decode cX8_back 23 = .ok (.aload_n 0, 1) := by decide +kernel
theorem dX8_back_24 : decode cX8_back 24 = .ok (.getfield 177, 3) := by decide +kernel
theorem dX8_back_27 : decode cX8_back 27 = .ok (.imul, 1) := by decide +kernel
theorem dX8_back_28 : decode cX8_back 28 = .ok (.invokevirtual 327, 3) := by decide +kernel
theorem dX8_back_31 : decode cX8_back 31 = .ok (.aload_n 0, 1) := by decide +kernel
theorem dX8_back_32 : decode cX8_back 32 = .ok (.getfield 177, 3) := by decide +kernel
theorem dX8_back_35 : decode cX8_back 35 = .ok (.ireturn, 1) := by decide +kernel
theorem dX8_count_0 : decode cX8_count 0 = .ok (.iload_n 1, 1) := by decide +kernel
theorem dX8_count_1 : decode cX8_count 1 = .ok (.tableswitch 60 0 4 #[35, 40, 45, 50, 55], 35) := by decide +kernel
theorem dX8_count_36 : decode cX8_count 36 = .ok (.aload_n 0, 1) := by decide +kernel
theorem dX8_count_37 : decode cX8_count 37 = .ok (.getfield 82, 3) := by decide +kernel
theorem dX8_count_40 : decode cX8_count 40 = .ok (.ireturn, 1) := by decide +kernel
theorem dX8_count_41 : decode cX8_count 41 = .ok (.aload_n 0, 1) := by decide +kernel
theorem dX8_count_42 : decode cX8_count 42 = .ok (.getfield 103, 3) := by decide +kernel
theorem dX8_count_45 : decode cX8_count 45 = .ok (.ireturn, 1) := by decide +kernel
theorem dX8_count_46 : decode cX8_count 46 = .ok (.aload_n 0, 1) := by decide +kernel
theorem dX8_count_47 : decode cX8_count 47 = .ok (.getfield 174, 3) := by decide +kernel
theorem dX8_count_50 : decode cX8_count 50 = .ok (.ireturn, 1) := by decide +kernel
theorem dX8_count_51 : decode cX8_count 51 = .ok (.aload_n 0, 1) := by decide +kernel
theorem dX8_count_52 : decode cX8_count 52 = .ok (.getfield 171, 3) := by decide +kernel
theorem dX8_count_55 : decode cX8_count 55 = .ok (.ireturn, 1) := by decide +kernel
theorem dX8_count_56 : decode cX8_count 56 = .ok (.aload_n 0, 1) := by decide +kernel
theorem dX8_count_57 : decode cX8_count 57 = .ok (.getfield 177, 3) := by decide +kernel
theorem dX8_count_60 : decode cX8_count 60 = .ok (.ireturn, 1) := by decide +kernel
theorem dX8_count_61 : decode cX8_count 61 = .ok (.iconst (-1), 1) := by decide +kernel
theorem dX8_count_62 : decode cX8_count 62 = .ok (.ireturn, 1) := by decide +kernel
