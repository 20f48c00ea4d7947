theorem dX3_square_112 : decode cX3_square 112 = .ok (.invokevirtual 87, 3) := by decide +kernel
theorem dX3_square_115 : decode cX3_square 115 = .ok (.return_, 1) := by decide +kernel
theorem dX3_multiplySmall_0 : decode cX3_multiplySmall 0 = .ok (.iconst 0, 1) := by decide +kernel
theorem dX3_multiplySmall_1 : decode cX3_multiplySmall 1 = .ok (.istore 4, 2) := by decide +kernel
theorem dX3_multiplySmall_3 : decode cX3_multiplySmall 3 = .ok (.iload 4, 2) := by decide +kernel
theorem dX3_multiplySmall_5 : decode cX3_multiplySmall 5 = .ok (.aload_n 0, 1) := by decide +kernel
theorem dX3_multiplySmall_6 : decode cX3_multiplySmall 6 = .ok (.getfield 47, 3) := by decide +kernel
theorem dX3_multiplySmall_9 : decode cX3_multiplySmall 9 = .ok (.if_icmp .ge 20, 3) := by decide +kernel
theorem dX3_multiplySmall_12 : decode cX3_multiplySmall 12 = .ok (.aload_n 1, 1) := by decide +kernel
theorem dX3_multiplySmall_13 : decode cX3_multiplySmall 13 = .ok (.iload 4, 2) := by decide +kernel
theorem dX3_multiplySmall_15 : decode cX3_multiplySmall 15 = .ok (.iload_n 3, 1) := by decide +kernel
theorem dX3_multiplySmall_16 : decode cX3_multiplySmall 16 = .ok (.i2l, 1) := by decide +kernel
theorem dX3_multiplySmall_17 : decode cX3_multiplySmall 17 = .ok (.aload_n 2, 1) := by decide +kernel
theorem dX3_multiplySmall_18 : decode cX3_multiplySmall 18 = .ok (.iload 4, 2) := by decide +kernel
theorem dX3_multiplySmall_20 : decode cX3_multiplySmall 20 = .ok (.laload, 1) := by decide +kernel
theorem dX3_multiplySmall_21 : decode cX3_multiplySmall 21 = .ok (.lmul, 1) := by decide +kernel
theorem dX3_multiplySmall_22 : decode cX3_multiplySmall 22 = .ok (.lastore, 1) := by decide +kernel
theorem dX3_multiplySmall_23 : decode cX3_multiplySmall 23 = .ok (.iinc 4 1, 3) := by decide +kernel
theorem dX3_multiplySmall_26 : decode cX3_multiplySmall 26 = .ok (.goto (-23), 3) := by decide +kernel
theorem dX3_multiplySmall_29 : decode cX3_multiplySmall 29 = .ok (.aload_n 0, 1) := by decide +kernel
theorem dX3_multiplySmall_30 : decode cX3_multiplySmall 30 = .ok (.aload_n 1, 1) := by decide +kernel
theorem dX3_multiplySmall_31 : decode cX3_multiplySmall 31 = .ok (.aload_n 1, 1) := by decide +kernel
theorem dX3_multiplySmall_32 : decode cX3_multiplySmall 32 = .ok (.invokevirtual 87, 3) := by decide +kernel
theorem dX3_multiplySmall_35 : decode cX3_multiplySmall 35 = .ok (.aload_n 0, 1) := by decide +kernel
theorem dX3_multiplySmall_36 : decode cX3_multiplySmall 36 = .ok (.aload_n 1, 1) := by decide +kernel
theorem dX3_multiplySmall_37 : decode cX3_multiplySmall 37 = .ok (.aload_n 1, 1) := by decide +kernel
theorem dX3_multiplySmall_38 : decode cX3_multiplySmall 38 = .ok (.invokevirtual 87, 3) := by decide +kernel
theorem dX3_multiplySmall_41 : decode cX3_multiplySmall 41 = .ok (.return_, 1) := by decide +kernel
theorem dX3_invert_0 : decode cX3_invert 0 = .ok (.aload_n 0, 1) := by decide +kernel
theorem dX3_invert_1 : decode cX3_invert 1 = .ok (.aload_n 0, 1) := by decide +kernel
theorem dX3_invert_2 : decode cX3_invert 2 = .ok (.getfield 33, 3) := by decide +kernel
theorem dX3_invert_5 : decode cX3_invert 5 = .ok (.aload_n 2, 1) := by decide +kernel
theorem dX3_invert_6 : decode cX3_invert 6 = .ok (.invokevirtual 102, 3) := by decide +kernel
theorem dX3_invert_9 : decode cX3_invert 9 = .ok (.aload_n 0, 1) := by decide +kernel
theorem dX3_invert_10 : decode cX3_invert 10 = .ok (.aload_n 0, 1) := by decide +kernel
theorem dX3_invert_11 : decode cX3_invert 11 = .ok (.getfield 33, 3) := by decide +kernel
theorem dX3_invert_14 : decode cX3_invert 14 = .ok (.aload_n 0, 1) := by decide +kernel
theorem dX3_invert_15 : decode cX3_invert 15 = .ok (.getfield 33, 3) := by decide +kernel
theorem dX3_invert_18 : decode cX3_invert 18 = .ok (.invokevirtual 105, 3) := by decide +kernel
theorem dX3_invert_21 : decode cX3_invert 21 = .ok (.aload_n 0, 1) := by decide +kernel
theorem dX3_invert_22 : decode cX3_invert 22 = .ok (.aload_n 0, 1) := by decide +kernel
theorem dX3_invert_23 : decode cX3_invert 23 = .ok (.getfield 33, 3) := by decide +kernel
theorem dX3_invert_26 : decode cX3_invert 26 = .ok (.aload_n 0, 1) := by decide +kernel
theorem dX3_invert_27 : decode cX3_invert 27 = .ok (.getfield 33, 3) := by decide +kernel
theorem dX3_invert_30 : decode cX3_invert 30 = .ok (.invokevirtual 105, 3) := by decide +kernel
theorem dX3_invert_33 : decode cX3_invert 33 = .ok (.aload_n 0, 1) := by decide +kernel
theorem dX3_invert_34 : decode cX3_invert 34 = .ok (.aload_n 0, 1) := by decide +kernel
theorem dX3_invert_35 : decode cX3_invert 35 = .ok (.getfield 33, 3) := by decide +kernel
theorem dX3_invert_38 : decode cX3_invert 38 = .ok (.aload_n 0, 1) := by decide +kernel
theorem dX3_invert_39 : decode cX3_invert 39 = .ok (.getfield 33, 3) := by decide +kernel
theorem dX3_invert_42 : decode cX3_invert 42 = .ok (.aload_n 2, 1) := by decide +kernel
theorem dX3_invert_43 : decode cX3_invert 43 = .ok (.invokevirtual 108, 3) := by decide +kernel
theorem dX3_invert_46 : decode cX3_invert 46 = .ok (.aload_n 0, 1) := by decide +kernel
theorem dX3_invert_47 : decode cX3_invert 47 = .ok (.getfield 39, 3) := by decide +kernel
theorem dX3_invert_50 : decode cX3_invert 50 = .ok (.ifCond .ne 28, 3) := by decide +kernel
theorem dX3_invert_53 : decode cX3_invert 53 = .ok (.aload_n 0, 1) := by decide +kernel
theorem dX3_invert_54 : decode cX3_invert 54 = .ok (.aload_n 0, 1) := by decide +kernel
theorem dX3_invert_55 : decode cX3_invert 55 = .ok (.getfield 33, 3) := by decide +kernel
theorem dX3_invert_58 : decode cX3_invert 58 = .ok (.aload_n 0, 1) := by decide +kernel
theorem dX3_invert_59 : decode cX3_invert 59 = .ok (.getfield 33, 3) := by decide +kernel
theorem dX3_invert_62 : decode cX3_invert 62 = .ok (.invokevirtual 105, 3) := by decide +kernel
theorem dX3_invert_65 : decode cX3_invert 65 = .ok (.aload_n 0, 1) := by decide +kernel
theorem dX3_invert_66 : decode cX3_invert 66 = .ok (.aload_n 0, 1) := by decide +kernel
theorem dX3_invert_67 : decode cX3_invert 67 = .ok (.getfield 33, 3) := by decide +kernel
theorem dX3_invert_70 : decode cX3_invert 70 = .ok (.aload_n 0, 1) := by decide +kernel
theorem dX3_invert_71 : decode cX3_invert 71 = .ok (.getfield 33, 3) := by decide +kernel
theorem dX3_invert_74 : decode cX3_invert 74 = .ok (.aload_n 2, 1) := by decide +kernel
theorem dX3_invert_75 : decode cX3_invert 75 = .ok (.invokevirtual 108, 3) := by decide +kernel
theorem dX3_invert_78 : decode cX3_invert 78 = .ok (.aload_n 0, 1) := by decide +kernel
theorem dX3_invert_79 : decode cX3_invert 79 = .ok (.aload_n 1, 1) := by decide +kernel
theorem dX3_invert_80 : decode cX3_invert 80 = .ok (.aload_n 0, 1) := by decide +kernel
theorem dX3_invert_81 : decode cX3_invert 81 = .ok (.getfield 33, 3) := by decide +kernel
theorem dX3_invert_84 : decode cX3_invert 84 = .ok (.invokevirtual 112, 3) := by decide +kernel
theorem dX3_invert_87 : decode cX3_invert 87 = .ok (.return_, 1) := by decide +kernel
theorem dX3_rootPower_0 : decode cX3_rootPower 0 = .ok (.aload_n 0, 1) := by decide +kernel
theorem dX3_rootPower_1 : decode cX3_rootPower 1 = .ok (.getfield 39, 3) := by decide +kernel
theorem dX3_rootPower_4 : decode cX3_rootPower 4 = .ok (.ifCond .eq 9, 3) := by decide +kernel
theorem dX3_rootPower_7 : decode cX3_rootPower 7 = .ok (.sipush 222, 3) := by decide +kernel
theorem dX3_rootPower_10 : decode cX3_rootPower 10 = .ok (.goto 6, 3) := by decide +kernel
theorem dX3_rootPower_13 : decode cX3_rootPower 13 = .ok (.sipush 250, 3) := by decide +kernel
theorem dX3_rootPower_16 : decode cX3_rootPower 16 = .ok (.istore_n 3, 1) := by decide +kernel
theorem dX3_rootPower_17 : decode cX3_rootPower 17 = .ok (.iconst 1, 1) := by decide +kernel
theorem dX3_rootPower_18 : decode cX3_rootPower 18 = .ok (.istore 4, 2) := by decide +kernel
theorem dX3_rootPower_20 : decode cX3_rootPower 20 = .ok (.aload_n 0, 1) := by decide +kernel
theorem dX3_rootPower_21 : decode cX3_rootPower 21 = .ok (.aload_n 0, 1) := by decide +kernel
theorem dX3_rootPower_22 : decode cX3_rootPower 22 = .ok (.getfield 27, 3) := by decide +kernel
theorem dX3_rootPower_25 : decode cX3_rootPower 25 = .ok (.aload_n 2, 1) := by decide +kernel
theorem dX3_rootPower_26 : decode cX3_rootPower 26 = .ok (.invokevirtual 112, 3) := by decide +kernel
theorem dX3_rootPower_29 : decode cX3_rootPower 29 = .ok (.bipush 6, 2) := by decide +kernel
theorem dX3_rootPower_31 : decode cX3_rootPower 31 = .ok (.istore 5, 2) := by decide +kernel
theorem dX3_rootPower_33 : decode cX3_rootPower 33 = .ok (.iload 5, 2) := by decide +kernel
theorem dX3_rootPower_35 : decode cX3_rootPower 35 = .ok (.ifCond .lt 109, 3) := by decide +kernel
theorem dX3_rootPower_38 : decode cX3_rootPower 38 = .ok (.aload_n 0, 1) := by decide +kernel
theorem dX3_rootPower_39 : decode cX3_rootPower 39 = .ok (.aload_n 0, 1) := by decide +kernel
theorem dX3_rootPower_40 : decode cX3_rootPower 40 = .ok (.getfield 30, 3) := by decide +kernel
theorem dX3_rootPower_43 : decode cX3_rootPower 43 = .ok (.aload_n 0, 1) := by decide +kernel
theorem dX3_rootPower_44 : decode cX3_rootPower 44 = .ok (.getfield 27, 3) := by decide +kernel
theorem dX3_rootPower_47 : decode cX3_rootPower 47 = .ok (.invokevirtual 112, 3) := by decide +kernel
theorem dX3_rootPower_50 : decode cX3_rootPower 50 = .ok (.iconst 0, 1) := by decide +kernel
theorem dX3_rootPower_51 : decode cX3_rootPower 51 = .ok (.istore 6, 2) := by decide +kernel
theorem dX3_rootPower_53 : decode cX3_rootPower 53 = .ok (.iload 6, 2) := by decide +kernel
theorem dX3_rootPower_55 : decode cX3_rootPower 55 = .ok (.iload 4, 2) := by decide +kernel
theorem dX3_rootPower_57 : decode cX3_rootPower 57 = .ok (.if_icmp .ge 21, 3) := by decide +kernel
theorem dX3_rootPower_60 : decode cX3_rootPower 60 = .ok (.aload_n 0, 1) := by decide +kernel
theorem dX3_rootPower_61 : decode cX3_rootPower 61 = .ok (.aload_n 0, 1) := by decide +kernel
theorem dX3_rootPower_62 : decode cX3_rootPower 62 = .ok (.getfield 27, 3) := by decide +kernel
theorem dX3_rootPower_65 : decode cX3_rootPower 65 = .ok (.aload_n 0, 1) := by decide +kernel
theorem dX3_rootPower_66 : decode cX3_rootPower 66 = .ok (.getfield 27, 3) := by decide +kernel
theorem dX3_rootPower_69 : decode cX3_rootPower 69 = .ok (.invokevirtual 105, 3) := by decide +kernel
theorem dX3_rootPower_72 : decode cX3_rootPower 72 = .ok (.iinc 6 1, 3) := by decide +kernel
theorem dX3_rootPower_75 : decode cX3_rootPower 75 = .ok (.goto (-22), 3) := by decide +kernel
theorem dX3_rootPower_78 : decode cX3_rootPower 78 = .ok (.aload_n 0, 1) := by decide +kernel
theorem dX3_rootPower_79 : decode cX3_rootPower 79 = .ok (.aload_n 0, 1) := by decide +kernel
theorem dX3_rootPower_80 : decode cX3_rootPower 80 = .ok (.getfield 27, 3) := by decide +kernel
theorem dX3_rootPower_83 : decode cX3_rootPower 83 = .ok (.aload_n 0, 1) := by decide +kernel
theorem dX3_rootPower_84 : decode cX3_rootPower 84 = .ok (.getfield 27, 3) := by decide +kernel
theorem dX3_rootPower_87 : decode cX3_rootPower 87 = .ok (.aload_n 0, 1) := by decide +kernel
theorem dX3_rootPower_88 : decode cX3_rootPower 88 = .ok (.getfield 30, 3) := by decide +kernel
theorem dX3_rootPower_91 : decode cX3_rootPower 91 = .ok (.invokevirtual 108, 3) := by decide +kernel
theorem dX3_rootPower_94 : decode cX3_rootPower 94 = .ok (.iload 4, 2) := by decide +kernel
theorem dX3_rootPower_96 : decode cX3_rootPower 96 = .ok (.iconst 2, 1) := by decide +kernel
theorem dX3_rootPower_97 : decode cX3_rootPower 97 = .ok (.imul, 1) := by decide +kernel
theorem dX3_rootPower_98 : decode cX3_rootPower 98 = .ok (.istore 4, 2) := by decide +kernel
theorem dX3_rootPower_100 : decode cX3_rootPower 100 = .ok (.iload_n 3, 1) := by decide +kernel
theorem dX3_rootPower_101 : decode cX3_rootPower 101 = .ok (.iload 5, 2) := by decide +kernel
theorem dX3_rootPower_103 : decode cX3_rootPower 103 = .ok (.ishr, 1) := by decide +kernel
theorem dX3_rootPower_104 : decode cX3_rootPower 104 = .ok (.iconst 1, 1) := by decide +kernel
theorem dX3_rootPower_105 : decode cX3_rootPower 105 = .ok (.iand, 1) := by decide +kernel
theorem dX3_rootPower_106 : decode cX3_rootPower 106 = .ok (.iconst 1, 1) := by decide +kernel
theorem dX3_rootPower_107 : decode cX3_rootPower 107 = .ok (.if_icmp .ne 31, 3) := by decide +kernel
theorem dX3_rootPower_110 : decode cX3_rootPower 110 = .ok (.aload_n 0, 1) := by decide +kernel
theorem dX3_rootPower_111 : decode cX3_rootPower 111 = .ok (.aload_n 0, 1) := by decide +kernel
theorem dX3_rootPower_112 : decode cX3_rootPower 112 = .ok (.getfield 27, 3) := by decide +kernel
theorem dX3_rootPower_115 : decode cX3_rootPower 115 = .ok (.aload_n 0, 1) := by decide +kernel
theorem dX3_rootPower_116 : decode cX3_rootPower 116 = .ok (.getfield 27, 3) := by decide +kernel
theorem dX3_rootPower_119 : decode cX3_rootPower 119 = .ok (.invokevirtual 105, 3) := by decide +kernel
theorem dX3_rootPower_122 : decode cX3_rootPower 122 = .ok (.aload_n 0, 1) := by decide +kernel
theorem dX3_rootPower_123 : decode cX3_rootPower 123 = .ok (.aload_n 0, 1) := by decide +kernel
theorem dX3_rootPower_124 : decode cX3_rootPower 124 = .ok (.getfield 27, 3) := by decide +kernel
theorem dX3_rootPower_127 : decode cX3_rootPower 127 = .ok (.aload_n 0, 1) := by decide +kernel
theorem dX3_rootPower_128 : decode cX3_rootPower 128 = .ok (.getfield 27, 3) := by decide +kernel
theorem dX3_rootPower_131 : decode cX3_rootPower 131 = .ok (.aload_n 2, 1) := by decide +kernel
theorem dX3_rootPower_132 : decode cX3_rootPower 132 = .ok (.invokevirtual 108, 3) := by decide +kernel
theorem dX3_rootPower_135 : decode cX3_rootPower 135 = .ok (.iinc 4 1, 3) := by decide +kernel
theorem dX3_rootPower_138 : decode cX3_rootPower 138 = .ok (.iinc 5 (-1), 3) := by decide +kernel
theorem dX3_rootPower_141 : decode cX3_rootPower 141 = .ok (.goto (-108), 3) := by decide +kernel
theorem dX3_rootPower_144 : decode cX3_rootPower 144 = .ok (.aload_n 0, 1) := by decide +kernel
theorem dX3_rootPower_145 : decode cX3_rootPower 145 = .ok (.aload_n 0, 1) := by decide +kernel
theorem dX3_rootPower_146 : decode cX3_rootPower 146 = .ok (.getfield 30, 3) := by decide +kernel
theorem dX3_rootPower_149 : decode cX3_rootPower 149 = .ok (.aload_n 2, 1) := by decide +kernel
theorem dX3_rootPower_150 : decode cX3_rootPower 150 = .ok (.invokevirtual 112, 3) := by decide +kernel
theorem dX3_rootPower_153 : decode cX3_rootPower 153 = .ok (.aload_n 0, 1) := by decide +kernel
theorem dX3_rootPower_154 : decode cX3_rootPower 154 = .ok (.getfield 39, 3) := by decide +kernel
theorem dX3_rootPower_157 : decode cX3_rootPower 157 = .ok (.ifCond .eq 40, 3) := by decide +kernel
theorem dX3_rootPower_160 : decode cX3_rootPower 160 = .ok (.aload_n 0, 1) := by decide +kernel
theorem dX3_rootPower_161 : decode cX3_rootPower 161 = .ok (.aload_n 0, 1) := by decide +kernel
theorem dX3_rootPower_162 : decode cX3_rootPower 162 = .ok (.getfield 30, 3) := by decide +kernel
theorem dX3_rootPower_165 : decode cX3_rootPower 165 = .ok (.aload_n 0, 1) := by decide +kernel
theorem dX3_rootPower_166 : decode cX3_rootPower 166 = .ok (.getfield 27, 3) := by decide +kernel
theorem dX3_rootPower_169 : decode cX3_rootPower 169 = .ok (.invokevirtual 112, 3) := by decide +kernel
theorem dX3_rootPower_172 : decode cX3_rootPower 172 = .ok (.aload_n 0, 1) := by decide +kernel
theorem dX3_rootPower_173 : decode cX3_rootPower 173 = .ok (.aload_n 0, 1) := by decide +kernel
theorem dX3_rootPower_174 : decode cX3_rootPower 174 = .ok (.getfield 27, 3) := by decide +kernel
theorem dX3_rootPower_177 : decode cX3_rootPower 177 = .ok (.aload_n 0, 1) := by decide +kernel
theorem dX3_rootPower_178 : decode cX3_rootPower 178 = .ok (.getfield 27, 3) := by decide +kernel
theorem dX3_rootPower_181 : decode cX3_rootPower 181 = .ok (.invokevirtual 105, 3) := by decide +kernel
theorem dX3_rootPower_184 : decode cX3_rootPower 184 = .ok (.aload_n 0, 1) := by decide +kernel
theorem dX3_rootPower_185 : decode cX3_rootPower 185 = .ok (.aload_n 0, 1) := by decide +kernel
theorem dX3_rootPower_186 : decode cX3_rootPower 186 = .ok (.getfield 27, 3) := by decide +kernel
theorem dX3_rootPower_189 : decode cX3_rootPower 189 = .ok (.aload_n 0, 1) := by decide +kernel
theorem dX3_rootPower_190 : decode cX3_rootPower 190 = .ok (.getfield 27, 3) := by decide +kernel
theorem dX3_rootPower_193 : decode cX3_rootPower 193 = .ok (.aload_n 2, 1) := by decide +kernel
theorem dX3_rootPower_194 : decode cX3_rootPower 194 = .ok (.invokevirtual 108, 3) := by decide +kernel
theorem dX3_rootPower_197 : decode cX3_rootPower 197 = .ok (.aload_n 0, 1) := by decide +kernel
theorem dX3_rootPower_198 : decode cX3_rootPower 198 = .ok (.getfield 39, 3) := by decide +kernel
theorem dX3_rootPower_201 : decode cX3_rootPower 201 = .ok (.ifCond .eq 9, 3) := by decide +kernel
theorem dX3_rootPower_204 : decode cX3_rootPower 204 = .ok (.sipush 223, 3) := by decide +kernel
theorem dX3_rootPower_207 : decode cX3_rootPower 207 = .ok (.goto 4, 3) := by decide +kernel
theorem dX3_rootPower_210 : decode cX3_rootPower 210 = .ok (.iconst 2, 1) := by decide +kernel
theorem dX3_rootPower_211 : decode cX3_rootPower 211 = .ok (.istore 5, 2) := by decide +kernel
theorem dX3_rootPower_213 : decode cX3_rootPower 213 = .ok (.iconst 0, 1) := by decide +kernel
theorem dX3_rootPower_214 : decode cX3_rootPower 214 = .ok (.istore 6, 2) := by decide +kernel
theorem dX3_rootPower_216 : decode cX3_rootPower 216 = .ok (.iload 6, 2) := by decide +kernel
theorem dX3_rootPower_218 : decode cX3_rootPower 218 = .ok (.iload 5, 2) := by decide +kernel
theorem dX3_rootPower_220 : decode cX3_rootPower 220 = .ok (.if_icmp .ge 21, 3) := by decide +kernel
theorem dX3_rootPower_223 : decode cX3_rootPower 223 = .ok (.aload_n 0, 1) := by decide +kernel
theorem dX3_rootPower_224 : decode cX3_rootPower 224 = .ok (.aload_n 0, 1) := by decide +kernel
theorem dX3_rootPower_225 : decode cX3_rootPower 225 = .ok (.getfield 27, 3) := by decide +kernel
theorem dX3_rootPower_228 : decode cX3_rootPower 228 = .ok (.aload_n 0, 1) := by decide +kernel
theorem dX3_rootPower_229 : decode cX3_rootPower 229 = .ok (.getfield 27, 3) := by decide +kernel
theorem dX3_rootPower_232 : decode cX3_rootPower 232 = .ok (.invokevirtual 105, 3) := by decide +kernel
theorem dX3_rootPower_235 : decode cX3_rootPower 235 = .ok (.iinc 6 1, 3) := by decide +kernel
theorem dX3_rootPower_238 : decode cX3_rootPower 238 = .ok (.goto (-22), 3) := by decide +kernel
theorem dX3_rootPower_241 : decode cX3_rootPower 241 = .ok (.aload_n 0, 1) := by decide +kernel
theorem dX3_rootPower_242 : decode cX3_rootPower 242 = .ok (.aload_n 1, 1) := by decide +kernel
theorem dX3_rootPower_243 : decode cX3_rootPower 243 = .ok (.aload_n 0, 1) := by decide +kernel
theorem dX3_rootPower_244 : decode cX3_rootPower 244 = .ok (.getfield 27, 3) := by decide +kernel
theorem dX3_rootPower_247 : decode cX3_rootPower 247 = .ok (.aload_n 0, 1) := by decide +kernel
theorem dX3_rootPower_248 : decode cX3_rootPower 248 = .ok (.getfield 30, 3) := by decide +kernel
theorem dX3_rootPower_251 : decode cX3_rootPower 251 = .ok (.invokevirtual 108, 3) := by decide +kernel
theorem dX3_rootPower_254 : decode cX3_rootPower 254 = .ok (.return_, 1) := by decide +kernel
theorem dX3_isZero_0 : decode cX3_isZero 0 = .ok (.aload_n 0, 1) := by decide +kernel
theorem dX3_isZero_1 : decode cX3_isZero 1 = .ok (.aload_n 1, 1) := by decide +kernel
theorem dX3_isZero_2 : decode cX3_isZero 2 = .ok (.invokevirtual 73, 3) := by decide +kernel
theorem dX3_isZero_5 : decode cX3_isZero 5 = .ok (.aload_n 0, 1) := by decide +kernel
theorem dX3_isZero_6 : decode cX3_isZero 6 = .ok (.invokevirtual 115, 3) := by decide +kernel
theorem dX3_isZero_9 : decode cX3_isZero 9 = .ok (.ireturn, 1) := by decide +kernel
theorem dX3_isOdd_0 : decode cX3_isOdd 0 = .ok (.aload_n 0, 1) := by decide +kernel
theorem dX3_isOdd_1 : decode cX3_isOdd 1 = .ok (.aload_n 1, 1) := by decide +kernel
theorem dX3_isOdd_2 : decode cX3_isOdd 2 = .ok (.invokevirtual 73, 3) := by decide +kernel
theorem dX3_isOdd_5 : decode cX3_isOdd 5 = .ok (.aload_n 0, 1) := by decide +kernel
theorem dX3_isOdd_6 : decode cX3_isOdd 6 = .ok (.getfield 21, 3) := by decide +kernel
theorem dX3_isOdd_9 : decode cX3_isOdd 9 = .ok (.iconst 0, 1) := by decide +kernel
theorem dX3_isOdd_10 : decode cX3_isOdd 10 = .ok (.laload, 1) := by decide +kernel
theorem dX3_isOdd_11 : decode cX3_isOdd 11 = .ok (.lconst 1, 1) := by decide +kernel
theorem dX3_isOdd_12 : decode cX3_isOdd 12 = .ok (.land, 1) := by decide +kernel
theorem dX3_isOdd_13 : decode cX3_isOdd 13 = .ok (.lconst 1, 1) := by decide +kernel
theorem dX3_isOdd_14 : decode cX3_isOdd 14 = .ok (.lcmp, 1) := by decide +kernel
theorem dX3_isOdd_15 : decode cX3_isOdd 15 = .ok (.ifCond .ne 7, 3) := by decide +kernel
theorem dX3_isOdd_18 : decode cX3_isOdd 18 = .ok (.iconst 1, 1) := by decide +kernel
theorem dX3_isOdd_19 : decode cX3_isOdd 19 = .ok (.goto 4, 3) := by decide +kernel
theorem dX3_isOdd_22 : decode cX3_isOdd 22 = .ok (.iconst 0, 1) := by decide +kernel
theorem dX3_isOdd_23 : decode cX3_isOdd 23 = .ok (.ireturn, 1) := by decide +kernel
theorem dX3_areEqual_0 : decode cX3_areEqual 0 = .ok (.aload_n 0, 1) := by decide +kernel
theorem dX3_areEqual_1 : decode cX3_areEqual 1 = .ok (.aload_n 0, 1) := by decide +kernel
theorem dX3_areEqual_2 : decode cX3_areEqual 2 = .ok (.getfield 36, 3) := by decide +kernel
theorem dX3_areEqual_5 : decode cX3_areEqual 5 = .ok (.aload_n 1, 1) := by decide +kernel
theorem dX3_areEqual_6 : decode cX3_areEqual 6 = .ok (.aload_n 2, 1) := by decide +kernel
theorem dX3_areEqual_7 : decode cX3_areEqual 7 = .ok (.invokevirtual 119, 3) := by decide +kernel
theorem dX3_areEqual_10 : decode cX3_areEqual 10 = .ok (.aload_n 0, 1) := by decide +kernel
theorem dX3_areEqual_11 : decode cX3_areEqual 11 = .ok (.aload_n 0, 1) := by decide +kernel
theorem dX3_areEqual_12 : decode cX3_areEqual 12 = .ok (.getfield 36, 3) := by decide +kernel
theorem dX3_areEqual_15 : decode cX3_areEqual 15 = .ok (.invokevirtual 73, 3) := by decide +kernel
theorem dX3_areEqual_18 : decode cX3_areEqual 18 = .ok (.aload_n 0, 1) := by decide +kernel
theorem dX3_areEqual_19 : decode cX3_areEqual 19 = .ok (.invokevirtual 115, 3) := by decide +kernel
theorem dX3_areEqual_22 : decode cX3_areEqual 22 = .ok (.ireturn, 1) := by decide +kernel
theorem dX3_isFrozenZero_0 : decode cX3_isFrozenZero 0 = .ok (.lconst 0, 1) := by decide +kernel
theorem dX3_isFrozenZero_1 : decode cX3_isFrozenZero 1 = .ok (.lstore_n 1, 1) := by decide +kernel
theorem dX3_isFrozenZero_2 : decode cX3_isFrozenZero 2 = .ok (.iconst 0, 1) := by decide +kernel
theorem dX3_isFrozenZero_3 : decode cX3_isFrozenZero 3 = .ok (.istore_n 3, 1) := by decide +kernel
theorem dX3_isFrozenZero_4 : decode cX3_isFrozenZero 4 = .ok (.iload_n 3, 1) := by decide +kernel
theorem dX3_isFrozenZero_5 : decode cX3_isFrozenZero 5 = .ok (.aload_n 0, 1) := by decide +kernel
theorem dX3_isFrozenZero_6 : decode cX3_isFrozenZero 6 = .ok (.getfield 47, 3) := by decide +kernel
theorem dX3_isFrozenZero_9 : decode cX3_isFrozenZero 9 = .ok (.if_icmp .ge 18, 3) := by decide +kernel
theorem dX3_isFrozenZero_12 : decode cX3_isFrozenZero 12 = .ok (.lload_n 1, 1) := by decide +kernel
theorem dX3_isFrozenZero_13 : decode cX3_isFrozenZero 13 = .ok (.aload_n 0, 1) := by decide +kernel
theorem dX3_isFrozenZero_14 : decode cX3_isFrozenZero 14 = .ok (.getfield 21, 3) := by decide +kernel
theorem dX3_isFrozenZero_17 : decode cX3_isFrozenZero 17 = .ok (.iload_n 3, 1) := by decide +kernel
theorem dX3_isFrozenZero_18 : decode cX3_isFrozenZero 18 = .ok (.laload, 1) := by decide +kernel
theorem dX3_isFrozenZero_19 : decode cX3_isFrozenZero 19 = .ok (.lor, 1) := by decide +kernel
theorem dX3_isFrozenZero_20 : decode cX3_isFrozenZero 20 = .ok (.lstore_n 1, 1) := by decide +kernel
theorem dX3_isFrozenZero_21 : decode cX3_isFrozenZero 21 = .ok (.iinc 3 1, 3) := by decide +kernel
theorem dX3_isFrozenZero_24 : decode cX3_isFrozenZero 24 = .ok (.goto (-20), 3) := by decide +kernel
theorem dX3_isFrozenZero_27 : decode cX3_isFrozenZero 27 = .ok (.lload_n 1, 1) := by decide +kernel
theorem dX3_isFrozenZero_28 : decode cX3_isFrozenZero 28 = .ok (.lconst 0, 1) := by decide +kernel
theorem dX3_isFrozenZero_29 : decode cX3_isFrozenZero 29 = .ok (.lcmp, 1) := by decide +kernel
theorem dX3_isFrozenZero_30 : decode cX3_isFrozenZero 30 = .ok (.ifCond .ne 7, 3) := by decide +kernel
theorem dX3_isFrozenZero_33 : decode cX3_isFrozenZero 33 = .ok (.iconst 1, 1) := by decide +kernel
theorem dX3_isFrozenZero_34 : decode cX3_isFrozenZero 34 = .ok (.goto 4, 3) := by decide +kernel
theorem dX3_isFrozenZero_37 : decode cX3_isFrozenZero 37 = .ok (.iconst 0, 1) := by decide +kernel
theorem dX3_isFrozenZero_38 : decode cX3_isFrozenZero 38 = .ok (.ireturn, 1) := by decide +kernel
theorem dX3_fold_0 : decode cX3_fold 0 = .ok (.iconst 2, 1) := by decide +kernel
theorem dX3_fold_1 : decode cX3_fold 1 = .ok (.aload_n 0, 1) := by decide +kernel
theorem dX3_fold_2 : decode cX3_fold 2 = .ok (.getfield 47, 3) := by decide +kernel
theorem dX3_fold_5 : decode cX3_fold 5 = .ok (.imul, 1) := by decide +kernel
theorem dX3_fold_6 : decode cX3_fold 6 = .ok (.iconst 2, 1) := by decide +kernel
theorem dX3_fold_7 : decode cX3_fold 7 = .ok (.isub, 1) := by decide +kernel
theorem dX3_fold_8 : decode cX3_fold 8 = .ok (.istore_n 1, 1) := by decide +kernel
theorem dX3_fold_9 : decode cX3_fold 9 = .ok (.iload_n 1, 1) := by decide +kernel
theorem dX3_fold_10 : decode cX3_fold 10 = .ok (.aload_n 0, 1) := by decide +kernel
theorem dX3_fold_11 : decode cX3_fold 11 = .ok (.getfield 47, 3) := by decide +kernel
theorem dX3_fold_14 : decode cX3_fold 14 = .ok (.if_icmp .lt 104, 3) := by decide +kernel
theorem dX3_fold_17 : decode cX3_fold 17 = .ok (.aload_n 0, 1) := by decide +kernel
theorem dX3_fold_18 : decode cX3_fold 18 = .ok (.getfield 18, 3) := by decide +kernel
theorem dX3_fold_21 : decode cX3_fold 21 = .ok (.iload_n 1, 1) := by decide +kernel
theorem dX3_fold_22 : decode cX3_fold 22 = .ok (.laload, 1) := by decide +kernel
theorem dX3_fold_23 : decode cX3_fold 23 = .ok (.lstore_n 2, 1) := by decide +kernel
theorem dX3_fold_24 : decode cX3_fold 24 = .ok (.aload_n 0, 1) := by decide +kernel
theorem dX3_fold_25 : decode cX3_fold 25 = .ok (.getfield 39, 3) := by decide +kernel
theorem dX3_fold_28 : decode cX3_fold 28 = .ok (.ifCond .eq 34, 3) := by decide +kernel
theorem dX3_fold_31 : decode cX3_fold 31 = .ok (.aload_n 0, 1) := by decide +kernel
theorem dX3_fold_32 : decode cX3_fold 32 = .ok (.getfield 18, 3) := by decide +kernel
theorem dX3_fold_35 : decode cX3_fold 35 = .ok (.iload_n 1, 1) := by decide +kernel
theorem dX3_fold_36 : decode cX3_fold 36 = .ok (.aload_n 0, 1) := by decide +kernel
theorem dX3_fold_37 : decode cX3_fold 37 = .ok (.getfield 47, 3) := by decide +kernel
theorem dX3_fold_40 : decode cX3_fold 40 = .ok (.isub, 1) := by decide +kernel
theorem dX3_fold_41 : decode cX3_fold 41 = .ok (.dup2, 1) := by decide +kernel
theorem dX3_fold_42 : decode cX3_fold 42 = .ok (.laload, 1) := by decide +kernel
theorem dX3_fold_43 : decode cX3_fold 43 = .ok (.lload_n 2, 1) := by decide +kernel
theorem dX3_fold_44 : decode cX3_fold 44 = .ok (.ladd, 1) := by decide +kernel
theorem dX3_fold_45 : decode cX3_fold 45 = .ok (.lastore, 1) := by decide +kernel
theorem dX3_fold_46 : decode cX3_fold 46 = .ok (.aload_n 0, 1) := by decide +kernel
theorem dX3_fold_47 : decode cX3_fold 47 = .ok (.getfield 18, 3) := by decide +kernel
theorem dX3_fold_50 : decode cX3_fold 50 = .ok (.iload_n 1, 1) := by decide +kernel
theorem dX3_fold_51 : decode cX3_fold 51 = .ok (.bipush 8, 2) := by decide +kernel
theorem dX3_fold_53 : decode cX3_fold 53 = .ok (.isub, 1) := by decide +kernel
theorem dX3_fold_54 : decode cX3_fold 54 = .ok (.dup2, 1) := by decide +kernel
theorem dX3_fold_55 : decode cX3_fold 55 = .ok (.laload, 1) := by decide +kernel
theorem dX3_fold_56 : decode cX3_fold 56 = .ok (.lload_n 2, 1) := by decide +kernel
theorem dX3_fold_57 : decode cX3_fold 57 = .ok (.ladd, 1) := by decide +kernel
theorem dX3_fold_58 : decode cX3_fold 58 = .ok (.lastore, 1) := by decide +kernel
theorem dX3_fold_59 : decode cX3_fold 59 = .ok (.goto 53, 3) := by decide +kernel
theorem dX3_fold_62 : decode cX3_fold 62 = .ok (.aload_n 0, 1) := by decide +kernel
theorem dX3_fold_63 : decode cX3_fold 63 = .ok (.getfield 18, 3) := by decide +kernel
theorem dX3_fold_66 : decode cX3_fold 66 = .ok (.iload_n 1, 1) := by decide +kernel
theorem dX3_fold_67 : decode cX3_fold 67 = .ok (.aload_n 0, 1) := by decide +kernel
theorem dX3_fold_68 : decode cX3_fold 68 = .ok (.getfield 47, 3) := by decide +kernel
theorem dX3_fold_71 : decode cX3_fold 71 = .ok (.isub, 1) := by decide +kernel
theorem dX3_fold_72 : decode cX3_fold 72 = .ok (.dup2, 1) := by decide +kernel
theorem dX3_fold_73 : decode cX3_fold 73 = .ok (.laload, 1) := by decide +kernel
theorem dX3_fold_74 : decode cX3_fold 74 = .ok (.ldc2_w 122, 3) := by decide +kernel
theorem dX3_fold_77 : decode cX3_fold 77 = .ok (.lload_n 2, 1) := by decide +kernel
theorem dX3_fold_78 : decode cX3_fold 78 = .ok (.aload_n 0, 1) := by decide +kernel
theorem dX3_fold_79 : decode cX3_fold 79 = .ok (.getfield 56, 3) := by decide +kernel
theorem dX3_fold_82 : decode cX3_fold 82 = .ok (.land, 1) := by decide +kernel
theorem dX3_fold_83 : decode cX3_fold 83 = .ok (.lmul, 1) := by decide +kernel
theorem dX3_fold_84 : decode cX3_fold 84 = .ok (.ladd, 1) := by decide +kernel
theorem dX3_fold_85 : decode cX3_fold 85 = .ok (.lastore, 1) := by decide +kernel
theorem dX3_fold_86 : decode cX3_fold 86 = .ok (.aload_n 0, 1) := by decide +kernel
theorem dX3_fold_87 : decode cX3_fold 87 = .ok (.getfield 18, 3) := by decide +kernel
theorem dX3_fold_90 : decode cX3_fold 90 = .ok (.iload_n 1, 1) := by decide +kernel
theorem dX3_fold_91 : decode cX3_fold 91 = .ok (.aload_n 0, 1) := by decide +kernel
theorem dX3_fold_92 : decode cX3_fold 92 = .ok (.getfield 47, 3) := by decide +kernel
theorem dX3_fold_95 : decode cX3_fold 95 = .ok (.isub, 1) := by decide +kernel
theorem dX3_fold_96 : decode cX3_fold 96 = .ok (.iconst 1, 1) := by decide +kernel
theorem dX3_fold_97 : decode cX3_fold 97 = .ok (.iadd, 1) := by decide +kernel
theorem dX3_fold_98 : decode cX3_fold 98 = .ok (.dup2, 1) := by decide +kernel
theorem dX3_fold_99 : decode cX3_fold 99 = .ok (.laload, 1) := by decide +kernel
theorem dX3_fold_100 : decode cX3_fold 100 = .ok (.ldc2_w 122, 3) := by decide +kernel
theorem dX3_fold_103 : decode cX3_fold 103 = .ok (.lload_n 2, 1) := by decide +kernel
theorem dX3_fold_104 : decode cX3_fold 104 = .ok (.aload_n 0, 1) := by decide +kernel
theorem dX3_fold_105 : decode cX3_fold 105 = .ok (.getfield 50, 3) := by decide +kernel
theorem dX3_fold_108 : decode cX3_fold 108 = .ok (.lshr, 1) := by decide +kernel
theorem dX3_fold_109 : decode cX3_fold 109 = .ok (.lmul, 1) := by decide +kernel
theorem dX3_fold_110 : decode cX3_fold 110 = .ok (.ladd, 1) := by decide +kernel
theorem dX3_fold_111 : decode cX3_fold 111 = .ok (.lastore, 1) := by decide +kernel
theorem dX3_fold_112 : decode cX3_fold 112 = .ok (.iinc 1 (-1), 3) := by decide +kernel
theorem dX3_fold_115 : decode cX3_fold 115 = .ok (.goto (-106), 3) := by decide +kernel
theorem dX3_fold_118 : decode cX3_fold 118 = .ok (.return_, 1) := by decide +kernel
theorem dX3_carry_0 : decode cX3_carry 0 = .ok (.lconst 0, 1) := by decide +kernel
theorem dX3_carry_1 : decode cX3_carry 1 = .ok (.lstore_n 3, 1) := by decide +kernel
theorem dX3_carry_2 : decode cX3_carry 2 = .ok (.aload_n 0, 1) := by decide +kernel
theorem dX3_carry_3 : decode cX3_carry 3 = .ok (.getfield 47, 3) := by decide +kernel
theorem dX3_carry_6 : decode cX3_carry 6 = .ok (.iconst 1, 1) := by decide +kernel
theorem dX3_carry_7 : decode cX3_carry 7 = .ok (.isub, 1) := by decide +kernel
theorem dX3_carry_8 : decode cX3_carry 8 = .ok (.istore 5, 2) := by decide +kernel
theorem dX3_carry_10 : decode cX3_carry 10 = .ok (.iconst 0, 1) := by decide +kernel
theorem dX3_carry_11 : decode cX3_carry 11 = .ok (.istore 6, 2) := by decide +kernel
theorem dX3_carry_13 : decode cX3_carry 13 = .ok (.iload 6, 2) := by decide +kernel
theorem dX3_carry_15 : decode cX3_carry 15 = .ok (.iload 5, 2) := by decide +kernel
theorem dX3_carry_17 : decode cX3_carry 17 = .ok (.if_icmp .ge 36, 3) := by decide +kernel
theorem dX3_carry_20 : decode cX3_carry 20 = .ok (.aload_n 2, 1) := by decide +kernel
theorem dX3_carry_21 : decode cX3_carry 21 = .ok (.iload 6, 2) := by decide +kernel
theorem dX3_carry_23 : decode cX3_carry 23 = .ok (.laload, 1) := by decide +kernel
theorem dX3_carry_24 : decode cX3_carry 24 = .ok (.lload_n 3, 1) := by decide +kernel
theorem dX3_carry_25 : decode cX3_carry 25 = .ok (.ladd, 1) := by decide +kernel
theorem dX3_carry_26 : decode cX3_carry 26 = .ok (.lstore 7, 2) := by decide +kernel
theorem dX3_carry_28 : decode cX3_carry 28 = .ok (.aload_n 1, 1) := by decide +kernel
theorem dX3_carry_29 : decode cX3_carry 29 = .ok (.iload 6, 2) := by decide +kernel
theorem dX3_carry_31 : decode cX3_carry 31 = .ok (.lload 7, 2) := by decide +kernel
theorem dX3_carry_33 : decode cX3_carry 33 = .ok (.aload_n 0, 1) := by decide +kernel
theorem dX3_carry_34 : decode cX3_carry 34 = .ok (.getfield 56, 3) := by decide +kernel
theorem dX3_carry_37 : decode cX3_carry 37 = .ok (.land, 1) := by decide +kernel
theorem dX3_carry_38 : decode cX3_carry 38 = .ok (.lastore, 1) := by decide +kernel
theorem dX3_carry_39 : decode cX3_carry 39 = .ok (.lload 7, 2) := by decide +kernel
theorem dX3_carry_41 : decode cX3_carry 41 = .ok (.aload_n 0, 1) := by decide +kernel
theorem dX3_carry_42 : decode cX3_carry 42 = .ok (.getfield 50, 3) := by decide +kernel
theorem dX3_carry_45 : decode cX3_carry 45 = .ok (.lshr, 1) := by decide +kernel
theorem dX3_carry_46 : decode cX3_carry 46 = .ok (.lstore_n 3, 1) := by decide +kernel
theorem dX3_carry_47 : decode cX3_carry 47 = .ok (.iinc 6 1, 3) := by decide +kernel
theorem dX3_carry_50 : decode cX3_carry 50 = .ok (.goto (-37), 3) := by decide +kernel
theorem dX3_carry_53 : decode cX3_carry 53 = .ok (.aload_n 2, 1) := by decide +kernel
theorem dX3_carry_54 : decode cX3_carry 54 = .ok (.iload 5, 2) := by decide +kernel
theorem dX3_carry_56 : decode cX3_carry 56 = .ok (.laload, 1) := by decide +kernel
theorem dX3_carry_57 : decode cX3_carry 57 = .ok (.lload_n 3, 1) := by decide +kernel
theorem dX3_carry_58 : decode cX3_carry 58 = .ok (.ladd, 1) := by decide +kernel
theorem dX3_carry_59 : decode cX3_carry 59 = .ok (.lstore 6, 2) := by decide +kernel
theorem dX3_carry_61 : decode cX3_carry 61 = .ok (.aload_n 1, 1) := by decide +kernel
theorem dX3_carry_62 : decode cX3_carry 62 = .ok (.iload 5, 2) := by decide +kernel
theorem dX3_carry_64 : decode cX3_carry 64 = .ok (.lload 6, 2) := by decide +kernel
theorem dX3_carry_66 : decode cX3_carry 66 = .ok (.aload_n 0, 1) := by decide +kernel
theorem dX3_carry_67 : decode cX3_carry 67 = .ok (.getfield 60, 3) := by decide +kernel
theorem dX3_carry_70 : decode cX3_carry 70 = .ok (.land, 1) := by decide +kernel
theorem dX3_carry_71 : decode cX3_carry 71 = .ok (.lastore, 1) := by decide +kernel
theorem dX3_carry_72 : decode cX3_carry 72 = .ok (.lload 6, 2) := by decide +kernel
theorem dX3_carry_74 : decode cX3_carry 74 = .ok (.aload_n 0, 1) := by decide +kernel
theorem dX3_carry_75 : decode cX3_carry 75 = .ok (.getfield 53, 3) := by decide +kernel
theorem dX3_carry_78 : decode cX3_carry 78 = .ok (.lshr, 1) := by decide +kernel
theorem dX3_carry_79 : decode cX3_carry 79 = .ok (.lstore_n 3, 1) := by decide +kernel
theorem dX3_carry_80 : decode cX3_carry 80 = .ok (.aload_n 0, 1) := by decide +kernel
theorem dX3_carry_81 : decode cX3_carry 81 = .ok (.getfield 39, 3) := by decide +kernel
theorem dX3_carry_84 : decode cX3_carry 84 = .ok (.ifCond .eq 21, 3) := by decide +kernel
theorem dX3_carry_87 : decode cX3_carry 87 = .ok (.aload_n 1, 1) := by decide +kernel
theorem dX3_carry_88 : decode cX3_carry 88 = .ok (.iconst 0, 1) := by decide +kernel
theorem dX3_carry_89 : decode cX3_carry 89 = .ok (.dup2, 1) := by decide +kernel
theorem dX3_carry_90 : decode cX3_carry 90 = .ok (.laload, 1) := by decide +kernel
theorem dX3_carry_91 : decode cX3_carry 91 = .ok (.lload_n 3, 1) := by decide +kernel
theorem dX3_carry_92 : decode cX3_carry 92 = .ok (.ladd, 1) := by decide +kernel
theorem dX3_carry_93 : decode cX3_carry 93 = .ok (.lastore, 1) := by decide +kernel
theorem dX3_carry_94 : decode cX3_carry 94 = .ok (.aload_n 1, 1) := by decide +kernel
theorem dX3_carry_95 : decode cX3_carry 95 = .ok (.bipush 8, 2) := by decide +kernel
theorem dX3_carry_97 : decode cX3_carry 97 = .ok (.dup2, 1) := by decide +kernel
theorem dX3_carry_98 : decode cX3_carry 98 = .ok (.laload, 1) := by decide +kernel
theorem dX3_carry_99 : decode cX3_carry 99 = .ok (.lload_n 3, 1) := by decide +kernel
theorem dX3_carry_100 : decode cX3_carry 100 = .ok (.ladd, 1) := by decide +kernel
theorem dX3_carry_101 : decode cX3_carry 101 = .ok (.lastore, 1) := by decide +kernel
theorem dX3_carry_102 : decode cX3_carry 102 = .ok (.goto 14, 3) := by decide +kernel
theorem dX3_carry_105 : decode cX3_carry 105 = .ok (.aload_n 1, 1) := by decide +kernel
theorem dX3_carry_106 : decode cX3_carry 106 = .ok (.iconst 0, 1) := by decide +kernel
theorem dX3_carry_107 : decode cX3_carry 107 = .ok (.dup2, 1) := by decide +kernel
theorem dX3_carry_108 : decode cX3_carry 108 = .ok (.laload, 1) := by decide +kernel
theorem dX3_carry_109 : decode cX3_carry 109 = .ok (.ldc2_w 124, 3) := by decide +kernel
theorem dX3_carry_112 : decode cX3_carry 112 = .ok (.lload_n 3, 1) := by decide +kernel
theorem dX3_carry_113 : decode cX3_carry 113 = .ok (.lmul, 1) := by decide +kernel
theorem dX3_carry_114 : decode cX3_carry 114 = .ok (.ladd, 1) := by decide +kernel
theorem dX3_carry_115 : decode cX3_carry 115 = .ok (.lastore, 1) := by decide +kernel
theorem dX3_carry_116 : decode cX3_carry 116 = .ok (.return_, 1) := by decide +kernel
theorem dX3_freeze_0 : decode cX3_freeze 0 = .ok (.iconst 0, 1) := by decide +kernel
theorem dX3_freeze_1 : decode cX3_freeze 1 = .ok (.istore_n 2, 1) := by decide +kernel
theorem dX3_freeze_2 : decode cX3_freeze 2 = .ok (.iload_n 2, 1) := by decide +kernel
theorem dX3_freeze_3 : decode cX3_freeze 3 = .ok (.aload_n 0, 1) := by decide +kernel
theorem dX3_freeze_4 : decode cX3_freeze 4 = .ok (.getfield 47, 3) := by decide +kernel
theorem dX3_freeze_7 : decode cX3_freeze 7 = .ok (.if_icmp .ge 25, 3) := by decide +kernel
theorem dX3_freeze_10 : decode cX3_freeze 10 = .ok (.aload_n 0, 1) := by decide +kernel
theorem dX3_freeze_11 : decode cX3_freeze 11 = .ok (.getfield 21, 3) := by decide +kernel
theorem dX3_freeze_14 : decode cX3_freeze 14 = .ok (.iload_n 2, 1) := by decide +kernel
theorem dX3_freeze_15 : decode cX3_freeze 15 = .ok (.aload_n 1, 1) := by decide +kernel
theorem dX3_freeze_16 : decode cX3_freeze 16 = .ok (.iload_n 2, 1) := by decide +kernel
theorem dX3_freeze_17 : decode cX3_freeze 17 = .ok (.laload, 1) := by decide +kernel
theorem dX3_freeze_18 : decode cX3_freeze 18 = .ok (.aload_n 0, 1) := by decide +kernel
theorem dX3_freeze_19 : decode cX3_freeze 19 = .ok (.getfield 15, 3) := by decide +kernel
theorem dX3_freeze_22 : decode cX3_freeze 22 = .ok (.iload_n 2, 1) := by decide +kernel
theorem dX3_freeze_23 : decode cX3_freeze 23 = .ok (.laload, 1) := by decide +kernel
theorem dX3_freeze_24 : decode cX3_freeze 24 = .ok (.ladd, 1) := by decide +kernel
theorem dX3_freeze_25 : decode cX3_freeze 25 = .ok (.lastore, 1) := by decide +kernel
theorem dX3_freeze_26 : decode cX3_freeze 26 = .ok (.iinc 2 1, 3) := by decide +kernel
theorem dX3_freeze_29 : decode cX3_freeze 29 = .ok (.goto (-27), 3) := by decide +kernel
theorem dX3_freeze_32 : decode cX3_freeze 32 = .ok (.aload_n 0, 1) := by decide +kernel
theorem dX3_freeze_33 : decode cX3_freeze 33 = .ok (.aload_n 0, 1) := by decide +kernel
theorem dX3_freeze_34 : decode cX3_freeze 34 = .ok (.getfield 21, 3) := by decide +kernel
theorem dX3_freeze_37 : decode cX3_freeze 37 = .ok (.aload_n 0, 1) := by decide +kernel
theorem dX3_freeze_38 : decode cX3_freeze 38 = .ok (.getfield 21, 3) := by decide +kernel
theorem dX3_freeze_41 : decode cX3_freeze 41 = .ok (.invokevirtual 87, 3) := by decide +kernel
theorem dX3_freeze_44 : decode cX3_freeze 44 = .ok (.aload_n 0, 1) := by decide +kernel
theorem dX3_freeze_45 : decode cX3_freeze 45 = .ok (.aload_n 0, 1) := by decide +kernel
theorem dX3_freeze_46 : decode cX3_freeze 46 = .ok (.getfield 21, 3) := by decide +kernel
theorem dX3_freeze_49 : decode cX3_freeze 49 = .ok (.aload_n 0, 1) := by decide +kernel
theorem dX3_freeze_50 : decode cX3_freeze 50 = .ok (.getfield 21, 3) := by decide +kernel
theorem dX3_freeze_53 : decode cX3_freeze 53 = .ok (.invokevirtual 87, 3) := by decide +kernel
theorem dX3_freeze_56 : decode cX3_freeze 56 = .ok (.aload_n 0, 1) := by decide +kernel
theorem dX3_freeze_57 : decode cX3_freeze 57 = .ok (.aload_n 0, 1) := by decide +kernel
theorem dX3_freeze_58 : decode cX3_freeze 58 = .ok (.getfield 21, 3) := by decide +kernel
theorem dX3_freeze_61 : decode cX3_freeze 61 = .ok (.aload_n 0, 1) := by decide +kernel
theorem dX3_freeze_62 : decode cX3_freeze 62 = .ok (.getfield 21, 3) := by decide +kernel
theorem dX3_freeze_65 : decode cX3_freeze 65 = .ok (.invokevirtual 87, 3) := by decide +kernel
theorem dX3_freeze_68 : decode cX3_freeze 68 = .ok (.lconst 0, 1) := by decide +kernel
theorem dX3_freeze_69 : decode cX3_freeze 69 = .ok (.lstore_n 2, 1) := by decide +kernel
theorem dX3_freeze_70 : decode cX3_freeze 70 = .ok (.iconst 0, 1) := by decide +kernel
theorem dX3_freeze_71 : decode cX3_freeze 71 = .ok (.istore 4, 2) := by decide +kernel
theorem dX3_freeze_73 : decode cX3_freeze 73 = .ok (.iload 4, 2) := by decide +kernel
theorem dX3_freeze_75 : decode cX3_freeze 75 = .ok (.aload_n 0, 1) := by decide +kernel
theorem dX3_freeze_76 : decode cX3_freeze 76 = .ok (.getfield 47, 3) := by decide +kernel
theorem dX3_freeze_79 : decode cX3_freeze 79 = .ok (.if_icmp .ge 50, 3) := by decide +kernel
theorem dX3_freeze_82 : decode cX3_freeze 82 = .ok (.aload_n 0, 1) := by decide +kernel
theorem dX3_freeze_83 : decode cX3_freeze 83 = .ok (.getfield 21, 3) := by decide +kernel
theorem dX3_freeze_86 : decode cX3_freeze 86 = .ok (.iload 4, 2) := by decide +kernel
theorem dX3_freeze_88 : decode cX3_freeze 88 = .ok (.laload, 1) := by decide +kernel
theorem dX3_freeze_89 : decode cX3_freeze 89 = .ok (.aload_n 0, 1) := by decide +kernel
theorem dX3_freeze_90 : decode cX3_freeze 90 = .ok (.getfield 15, 3) := by decide +kernel
theorem dX3_freeze_93 : decode cX3_freeze 93 = .ok (.iload 4, 2) := by decide +kernel
theorem dX3_freeze_95 : decode cX3_freeze 95 = .ok (.laload, 1) := by decide +kernel
theorem dX3_freeze_96 : decode cX3_freeze 96 = .ok (.lsub, 1) := by decide +kernel
theorem dX3_freeze_97 : decode cX3_freeze 97 = .ok (.lload_n 2, 1) := by decide +kernel
theorem dX3_freeze_98 : decode cX3_freeze 98 = .ok (.ladd, 1) := by decide +kernel
theorem dX3_freeze_99 : decode cX3_freeze 99 = .ok (.lstore 5, 2) := by decide +kernel
theorem dX3_freeze_101 : decode cX3_freeze 101 = .ok (.aload_n 0, 1) := by decide +kernel
theorem dX3_freeze_102 : decode cX3_freeze 102 = .ok (.getfield 24, 3) := by decide +kernel
theorem dX3_freeze_105 : decode cX3_freeze 105 = .ok (.iload 4, 2) := by decide +kernel
theorem dX3_freeze_107 : decode cX3_freeze 107 = .ok (.lload 5, 2) := by decide +kernel
theorem dX3_freeze_109 : decode cX3_freeze 109 = .ok (.aload_n 0, 1) := by decide +kernel
theorem dX3_freeze_110 : decode cX3_freeze 110 = .ok (.getfield 56, 3) := by decide +kernel
theorem dX3_freeze_113 : decode cX3_freeze 113 = .ok (.land, 1) := by decide +kernel
theorem dX3_freeze_114 : decode cX3_freeze 114 = .ok (.lastore, 1) := by decide +kernel
theorem dX3_freeze_115 : decode cX3_freeze 115 = .ok (.lload 5, 2) := by decide +kernel
theorem dX3_freeze_117 : decode cX3_freeze 117 = .ok (.aload_n 0, 1) := by decide +kernel
theorem dX3_freeze_118 : decode cX3_freeze 118 = .ok (.getfield 50, 3) := by decide +kernel
theorem dX3_freeze_121 : decode cX3_freeze 121 = .ok (.lshr, 1) := by decide +kernel
theorem dX3_freeze_122 : decode cX3_freeze 122 = .ok (.lstore_n 2, 1) := by decide +kernel
theorem dX3_freeze_123 : decode cX3_freeze 123 = .ok (.iinc 4 1, 3) := by decide +kernel
theorem dX3_freeze_126 : decode cX3_freeze 126 = .ok (.goto (-53), 3) := by decide +kernel
theorem dX3_freeze_129 : decode cX3_freeze 129 = .ok (.lload_n 2, 1) := by decide +kernel
theorem dX3_freeze_130 : decode cX3_freeze 130 = .ok (.lconst 0, 1) := by decide +kernel
theorem dX3_freeze_131 : decode cX3_freeze 131 = .ok (.lcmp, 1) := by decide +kernel
theorem dX3_freeze_132 : decode cX3_freeze 132 = .ok (.ifCond .ne 15, 3) := by decide +kernel
theorem dX3_freeze_135 : decode cX3_freeze 135 = .ok (.aload_n 0, 1) := by decide +kernel
theorem dX3_freeze_136 : decode cX3_freeze 136 = .ok (.aload_n 0, 1) := by decide +kernel
theorem dX3_freeze_137 : decode cX3_freeze 137 = .ok (.getfield 21, 3) := by decide +kernel
theorem dX3_freeze_140 : decode cX3_freeze 140 = .ok (.aload_n 0, 1) := by decide +kernel
theorem dX3_freeze_141 : decode cX3_freeze 141 = .ok (.getfield 24, 3) := by decide +kernel
theorem dX3_freeze_144 : decode cX3_freeze 144 = .ok (.invokevirtual 112, 3) := by decide +kernel
theorem dX3_freeze_147 : decode cX3_freeze 147 = .ok (.return_, 1) := by decide +kernel
theorem dX4_fromHex_0 : decode cX4_fromHex 0 = .ok (.aload_n 0, 1) := by decide +kernel
theorem dX4_fromHex_1 : decode cX4_fromHex 1 = .ok (.invokevirtual 7, 3) := by decide +kernel
theorem dX4_fromHex_4 : decode cX4_fromHex 4 = .ok (.iconst 2, 1) := by decide +kernel
theorem dX4_fromHex_5 : decode cX4_fromHex 5 = .ok (.idiv, 1) := by decide +kernel
theorem dX4_fromHex_6 : decode cX4_fromHex 6 = .ok (.istore_n 2, 1) := by decide +kernel
theorem dX4_fromHex_7 : decode cX4_fromHex 7 = .ok (.iload_n 2, 1) := by decide +kernel
theorem dX4_fromHex_8 : decode cX4_fromHex 8 = .ok (.newarray .int, 2) := by decide +kernel
theorem dX4_fromHex_10 : decode cX4_fromHex 10 = .ok (.astore_n 3, 1) := by decide +kernel
theorem dX4_fromHex_11 : decode cX4_fromHex 11 = .ok (.iconst 0, 1) := by decide +kernel
theorem dX4_fromHex_12 : decode cX4_fromHex 12 = .ok (.istore 4, 2) := by decide +kernel
theorem dX4_fromHex_14 : decode cX4_fromHex 14 = .ok (.iload 4, 2) := by decide +kernel
theorem dX4_fromHex_16 : decode cX4_fromHex 16 = .ok (.iload_n 2, 1) := by decide +kernel
theorem dX4_fromHex_17 : decode cX4_fromHex 17 = .ok (.if_icmp .ge 47, 3) := by decide +kernel
theorem dX4_fromHex_20 : decode cX4_fromHex 20 = .ok (.iconst 2, 1) := by decide +kernel
theorem dX4_fromHex_21 : decode cX4_fromHex 21 = .ok (.iload_n 2, 1) := by decide +kernel
theorem dX4_fromHex_22 : decode cX4_fromHex 22 = .ok (.iconst 1, 1) := by decide +kernel
theorem dX4_fromHex_23 : decode cX4_fromHex 23 = .ok (.isub, 1) := by decide +kernel
theorem dX4_fromHex_24 : decode cX4_fromHex 24 = .ok (.iload 4, 2) := by decide +kernel
theorem dX4_fromHex_26 : decode cX4_fromHex 26 = .ok (.isub, 1) := by decide +kernel
theorem dX4_fromHex_27 : decode cX4_fromHex 27 = .ok (.imul, 1) := by decide +kernel
theorem dX4_fromHex_28 : decode cX4_fromHex 28 = .ok (.istore 5, 2) := by decide +kernel
theorem dX4_fromHex_30 : decode cX4_fromHex 30 = .ok (.aload_n 3, 1) := by decide +kernel
theorem dX4_fromHex_31 : decode cX4_fromHex 31 = .ok (.iload 4, 2) := by decide +kernel
theorem dX4_fromHex_33 : decode cX4_fromHex 33 = .ok (.bipush 16, 2) := by decide +kernel
theorem dX4_fromHex_35 : decode cX4_fromHex 35 = .ok (.aload_n 0, 1) := by decide +kernel
theorem dX4_fromHex_36 : decode cX4_fromHex 36 = .ok (.iload 5, 2) := by decide +kernel
theorem dX4_fromHex_38 : decode cX4_fromHex 38 = .ok (.invokevirtual 13, 3) := by decide +kernel
theorem dX4_fromHex_41 : decode cX4_fromHex 41 = .ok (.invokestatic 17, 3) := by decide +kernel
theorem dX4_fromHex_44 : decode cX4_fromHex 44 = .ok (.imul, 1) := by decide +kernel
theorem dX4_fromHex_45 : decode cX4_fromHex 45 = .ok (.aload_n 0, 1) := by decide +kernel
theorem dX4_fromHex_46 : decode cX4_fromHex 46 = .ok (.iload 5, 2) := by decide +kernel
theorem dX4_fromHex_48 : decode cX4_fromHex 48 = .ok (.iconst 1, 1) := by decide +kernel
theorem dX4_fromHex_49 : decode cX4_fromHex 49 = .ok (.iadd, 1) := by decide +kernel
theorem dX4_fromHex_50 : decode cX4_fromHex 50 = .ok (.invokevirtual 13, 3) := by decide +kernel
theorem dX4_fromHex_53 : decode cX4_fromHex 53 = .ok (.invokestatic 17, 3) := by decide +kernel
theorem dX4_fromHex_56 : decode cX4_fromHex 56 = .ok (.iadd, 1) := by decide +kernel
theorem dX4_fromHex_57 : decode cX4_fromHex 57 = .ok (.iastore, 1) := by decide +kernel
theorem dX4_fromHex_58 : decode cX4_fromHex 58 = .ok (.iinc 4 1, 3) := by decide +kernel
theorem dX4_fromHex_61 : decode cX4_fromHex 61 = .ok (.goto (-47), 3) := by decide +kernel
theorem dX4_fromHex_64 : decode cX4_fromHex 64 = .ok (.bipush 16, 2) := by decide +kernel
theorem dX4_fromHex_66 : decode cX4_fromHex 66 = .ok (.newarray .long, 2) := by decide +kernel
theorem dX4_fromHex_68 : decode cX4_fromHex 68 = .ok (.astore 4, 2) := by decide +kernel
theorem dX4_fromHex_70 : decode cX4_fromHex 70 = .ok (.aload 4, 2) := by decide +kernel
theorem dX4_fromHex_72 : decode cX4_fromHex 72 = .ok (.iload_n 1, 1) := by decide +kernel
theorem dX4_fromHex_73 : decode cX4_fromHex 73 = .ok (.aload_n 3, 1) := by decide +kernel
theorem dX4_fromHex_74 : decode cX4_fromHex 74 = .ok (.iload_n 2, 1) := by decide +kernel
theorem dX4_fromHex_75 : decode cX4_fromHex 75 = .ok (.invokestatic 23, 3) := by decide +kernel
theorem dX4_fromHex_78 : decode cX4_fromHex 78 = .ok (.aload 4, 2) := by decide +kernel
theorem dX4_fromHex_80 : decode cX4_fromHex 80 = .ok (.areturn, 1) := by decide +kernel
theorem dX4_digit_0 : decode cX4_digit 0 = .ok (.iload_n 0, 1) := by decide +kernel
theorem dX4_digit_1 : decode cX4_digit 1 = .ok (.bipush 57, 2) := by decide +kernel
theorem dX4_digit_3 : decode cX4_digit 3 = .ok (.if_icmp .gt 10, 3) := by decide +kernel
theorem dX4_digit_6 : decode cX4_digit 6 = .ok (.iload_n 0, 1) := by decide +kernel
theorem dX4_digit_7 : decode cX4_digit 7 = .ok (.bipush 48, 2) := by decide +kernel
theorem dX4_digit_9 : decode cX4_digit 9 = .ok (.isub, 1) := by decide +kernel
theorem dX4_digit_10 : decode cX4_digit 10 = .ok (.goto 10, 3) := by decide +kernel
theorem dX4_digit_13 : decode cX4_digit 13 = .ok (.iload_n 0, 1) := by decide +kernel
theorem dX4_digit_14 : decode cX4_digit 14 = .ok (.bipush 97, 2) := by decide +kernel
theorem dX4_digit_16 : decode cX4_digit 16 = .ok (.isub, 1) := by decide +kernel
theorem dX4_digit_17 : decode cX4_digit 17 = .ok (.bipush 10, 2) := by decide +kernel
theorem dX4_digit_19 : decode cX4_digit 19 = .ok (.iadd, 1) := by decide +kernel
theorem dX4_digit_20 : decode cX4_digit 20 = .ok (.ireturn, 1) := by decide +kernel
theorem dX4_fromBytes_0 : decode cX4_fromBytes 0 = .ok (.lconst 1, 1) := by decide +kernel
theorem dX4_fromBytes_1 : decode cX4_fromBytes 1 = .ok (.iload_n 1, 1) := by decide +kernel
theorem dX4_fromBytes_2 : decode cX4_fromBytes 2 = .ok (.lshl, 1) := by decide +kernel
theorem dX4_fromBytes_3 : decode cX4_fromBytes 3 = .ok (.lconst 1, 1) := by decide +kernel
theorem dX4_fromBytes_4 : decode cX4_fromBytes 4 = .ok (.lsub, 1) := by decide +kernel
theorem dX4_fromBytes_5 : decode cX4_fromBytes 5 = .ok (.lstore 4, 2) := by decide +kernel
theorem dX4_fromBytes_7 : decode cX4_fromBytes 7 = .ok (.aload_n 0, 1) := by decide +kernel
theorem dX4_fromBytes_8 : decode cX4_fromBytes 8 = .ok (.lconst 0, 1) := by decide +kernel
theorem dX4_fromBytes_9 : decode cX4_fromBytes 9 = .ok (.invokestatic 27, 3) := by decide +kernel
theorem dX4_fromBytes_12 : decode cX4_fromBytes 12 = .ok (.iconst 0, 1) := by decide +kernel
theorem dX4_fromBytes_13 : decode cX4_fromBytes 13 = .ok (.istore 6, 2) := by decide +kernel
theorem dX4_fromBytes_15 : decode cX4_fromBytes 15 = .ok (.iconst 0, 1) := by decide +kernel
theorem dX4_fromBytes_16 : decode cX4_fromBytes 16 = .ok (.istore 7, 2) := by decide +kernel
theorem dX4_fromBytes_18 : decode cX4_fromBytes 18 = .ok (.iconst 0, 1) := by decide +kernel
theorem dX4_fromBytes_19 : decode cX4_fromBytes 19 = .ok (.istore 8, 2) := by decide +kernel
theorem dX4_fromBytes_21 : decode cX4_fromBytes 21 = .ok (.iload 8, 2) := by decide +kernel
theorem dX4_fromBytes_23 : decode cX4_fromBytes 23 = .ok (.iload_n 3, 1) := by decide +kernel
theorem dX4_fromBytes_24 : decode cX4_fromBytes 24 = .ok (.if_icmp .ge 71, 3) := by decide +kernel
theorem dX4_fromBytes_27 : decode cX4_fromBytes 27 = .ok (.aload_n 2, 1) := by decide +kernel
theorem dX4_fromBytes_28 : decode cX4_fromBytes 28 = .ok (.iload 8, 2) := by decide +kernel
theorem dX4_fromBytes_30 : decode cX4_fromBytes 30 = .ok (.iaload, 1) := by decide +kernel
theorem dX4_fromBytes_31 : decode cX4_fromBytes 31 = .ok (.i2l, 1) := by decide +kernel
theorem dX4_fromBytes_32 : decode cX4_fromBytes 32 = .ok (.iload 7, 2) := by decide +kernel
theorem dX4_fromBytes_34 : decode cX4_fromBytes 34 = .ok (.lshl, 1) := by decide +kernel
theorem dX4_fromBytes_35 : decode cX4_fromBytes 35 = .ok (.lstore 9, 2) := by decide +kernel
theorem dX4_fromBytes_37 : decode cX4_fromBytes 37 = .ok (.iload 6, 2) := by decide +kernel
theorem dX4_fromBytes_39 : decode cX4_fromBytes 39 = .ok (.bipush 16, 2) := by decide +kernel
theorem dX4_fromBytes_41 : decode cX4_fromBytes 41 = .ok (.if_icmp .ge 15, 3) := by decide +kernel
theorem dX4_fromBytes_44 : decode cX4_fromBytes 44 = .ok (.aload_n 0, 1) := by decide +kernel
theorem dX4_fromBytes_45 : decode cX4_fromBytes 45 = .ok (.iload 6, 2) := by decide +kernel
theorem dX4_fromBytes_47 : decode cX4_fromBytes 47 = .ok (.dup2, 1) := by decide +kernel
theorem dX4_fromBytes_48 : decode cX4_fromBytes 48 = .ok (.laload, 1) := by decide +kernel
theorem dX4_fromBytes_49 : decode cX4_fromBytes 49 = .ok (.lload 9, 2) := by decide +kernel
theorem dX4_fromBytes_51 : decode cX4_fromBytes 51 = .ok (.lload 4, 2) := by decide +kernel
theorem dX4_fromBytes_53 : decode cX4_fromBytes 53 = .ok (.land, 1) := by decide +kernel
theorem dX4_fromBytes_54 : decode cX4_fromBytes 54 = .ok (.lor, 1) := by decide +kernel
theorem dX4_fromBytes_55 : decode cX4_fromBytes 55 = .ok (.lastore, 1) := by decide +kernel
theorem dX4_fromBytes_56 : decode cX4_fromBytes 56 = .ok (.iinc 7 8, 3) := by decide +kernel
theorem dX4_fromBytes_59 : decode cX4_fromBytes 59 = .ok (.iload 7, 2) := by decide +kernel
theorem dX4_fromBytes_61 : decode cX4_fromBytes 61 = .ok (.iload_n 1, 1) := by decide +kernel
theorem dX4_fromBytes_62 : decode cX4_fromBytes 62 = .ok (.if_icmp .lt 27, 3) := by decide +kernel
theorem dX4_fromBytes_65 : decode cX4_fromBytes 65 = .ok (.iload 7, 2) := by decide +kernel
theorem dX4_fromBytes_67 : decode cX4_fromBytes 67 = .ok (.iload_n 1, 1) := by decide +kernel
theorem dX4_fromBytes_68 : decode cX4_fromBytes 68 = .ok (.isub, 1) := by decide +kernel
theorem dX4_fromBytes_69 : decode cX4_fromBytes 69 = .ok (.istore 7, 2) := by decide +kernel
theorem dX4_fromBytes_71 : decode cX4_fromBytes 71 = .ok (.iinc 6 1, 3) := by decide +kernel
theorem dX4_fromBytes_74 : decode cX4_fromBytes 74 = .ok (.iload 6, 2) := by decide +kernel
theorem dX4_fromBytes_76 : decode cX4_fromBytes 76 = .ok (.bipush 16, 2) := by decide +kernel
theorem dX4_fromBytes_78 : decode cX4_fromBytes 78 = .ok (.if_icmp .ge 11, 3) := by decide +kernel
theorem dX4_fromBytes_81 : decode cX4_fromBytes 81 = .ok (.aload_n 0, 1) := by decide +kernel
theorem dX4_fromBytes_82 : decode cX4_fromBytes 82 = .ok (.iload 6, 2) := by decide +kernel
theorem dX4_fromBytes_84 : decode cX4_fromBytes 84 = .ok (.lload 9, 2) := by decide +kernel
theorem dX4_fromBytes_86 : decode cX4_fromBytes 86 = .ok (.iload_n 1, 1) := by decide +kernel
theorem dX4_fromBytes_87 : decode cX4_fromBytes 87 = .ok (.lshr, 1) := by decide +kernel
theorem dX4_fromBytes_88 : decode cX4_fromBytes 88 = .ok (.lastore, 1) := by decide +kernel
theorem dX4_fromBytes_89 : decode cX4_fromBytes 89 = .ok (.iinc 8 1, 3) := by decide +kernel
theorem dX4_fromBytes_92 : decode cX4_fromBytes 92 = .ok (.goto (-71), 3) := by decide +kernel
theorem dX4_fromBytes_95 : decode cX4_fromBytes 95 = .ok (.return_, 1) := by decide +kernel
theorem dX4_toBytes_0 : decode cX4_toBytes 0 = .ok (.iconst 0, 1) := by decide +kernel
theorem dX4_toBytes_1 : decode cX4_toBytes 1 = .ok (.istore 5, 2) := by decide +kernel
theorem dX4_toBytes_3 : decode cX4_toBytes 3 = .ok (.iconst 0, 1) := by decide +kernel
theorem dX4_toBytes_4 : decode cX4_toBytes 4 = .ok (.istore 6, 2) := by decide +kernel
theorem dX4_toBytes_6 : decode cX4_toBytes 6 = .ok (.iconst 0, 1) := by decide +kernel
theorem dX4_toBytes_7 : decode cX4_toBytes 7 = .ok (.istore 7, 2) := by decide +kernel
theorem dX4_toBytes_9 : decode cX4_toBytes 9 = .ok (.iload 7, 2) := by decide +kernel
theorem dX4_toBytes_11 : decode cX4_toBytes 11 = .ok (.iload_n 2, 1) := by decide +kernel
theorem dX4_toBytes_12 : decode cX4_toBytes 12 = .ok (.if_icmp .ge 84, 3) := by decide +kernel
theorem dX4_toBytes_15 : decode cX4_toBytes 15 = .ok (.iload 5, 2) := by decide +kernel
theorem dX4_toBytes_17 : decode cX4_toBytes 17 = .ok (.bipush 16, 2) := by decide +kernel
theorem dX4_toBytes_19 : decode cX4_toBytes 19 = .ok (.if_icmp .ge 13, 3) := by decide +kernel
theorem dX4_toBytes_22 : decode cX4_toBytes 22 = .ok (.aload_n 3, 1) := by decide +kernel
theorem dX4_toBytes_23 : decode cX4_toBytes 23 = .ok (.iload 5, 2) := by decide +kernel
theorem dX4_toBytes_25 : decode cX4_toBytes 25 = .ok (.laload, 1) := by decide +kernel
theorem dX4_toBytes_26 : decode cX4_toBytes 26 = .ok (.iload 6, 2) := by decide +kernel
theorem dX4_toBytes_28 : decode cX4_toBytes 28 = .ok (.lshr, 1) := by decide +kernel
theorem dX4_toBytes_29 : decode cX4_toBytes 29 = .ok (.goto 4, 3) := by decide +kernel
theorem dX4_toBytes_32 : decode cX4_toBytes 32 = .ok (.lconst 0, 1) := by decide +kernel
theorem dX4_toBytes_33 : decode cX4_toBytes 33 = .ok (.lstore 8, 2) := by decide +kernel
theorem dX4_toBytes_35 : decode cX4_toBytes 35 = .ok (.iinc 6 8, 3) := by decide +kernel
theorem dX4_toBytes_38 : decode cX4_toBytes 38 = .ok (.iload 6, 2) := by decide +kernel
theorem dX4_toBytes_40 : decode cX4_toBytes 40 = .ok (.iload 4, 2) := by decide +kernel
theorem dX4_toBytes_42 : decode cX4_toBytes 42 = .ok (.if_icmp .lt 35, 3) := by decide +kernel
theorem dX4_toBytes_45 : decode cX4_toBytes 45 = .ok (.iload 6, 2) := by decide +kernel
theorem dX4_toBytes_47 : decode cX4_toBytes 47 = .ok (.iload 4, 2) := by decide +kernel
theorem dX4_toBytes_49 : decode cX4_toBytes 49 = .ok (.isub, 1) := by decide +kernel
theorem dX4_toBytes_50 : decode cX4_toBytes 50 = .ok (.istore 6, 2) := by decide +kernel
theorem dX4_toBytes_52 : decode cX4_toBytes 52 = .ok (.iinc 5 1, 3) := by decide +kernel
theorem dX4_toBytes_55 : decode cX4_toBytes 55 = .ok (.iload 5, 2) := by decide +kernel
theorem dX4_toBytes_57 : decode cX4_toBytes 57 = .ok (.bipush 16, 2) := by decide +kernel
theorem dX4_toBytes_59 : decode cX4_toBytes 59 = .ok (.if_icmp .ge 18, 3) := by decide +kernel
theorem dX4_toBytes_62 : decode cX4_toBytes 62 = .ok (.lload 8, 2) := by decide +kernel
theorem dX4_toBytes_64 : decode cX4_toBytes 64 = .ok (.aload_n 3, 1) := by decide +kernel
theorem dX4_toBytes_65 : decode cX4_toBytes 65 = .ok (.iload 5, 2) := by decide +kernel
theorem dX4_toBytes_67 : decode cX4_toBytes 67 = .ok (.laload, 1) := by decide +kernel
theorem dX4_toBytes_68 : decode cX4_toBytes 68 = .ok (.bipush 8, 2) := by decide +kernel
theorem dX4_toBytes_70 : decode cX4_toBytes 70 = .ok (.iload 6, 2) := by decide +kernel
theorem dX4_toBytes_72 : decode cX4_toBytes 72 = .ok (.isub, 1) := by decide +kernel
theorem dX4_toBytes_73 : decode cX4_toBytes 73 = .ok (.lshl, 1) := by decide +kernel
theorem dX4_toBytes_74 : decode cX4_toBytes 74 = .ok (.lor, 1) := by decide +kernel
theorem dX4_toBytes_75 : decode cX4_toBytes 75 = .ok (.lstore 8, 2) := by decide +kernel
theorem dX4_toBytes_77 : decode cX4_toBytes 77 = .ok (.aload_n 0, 1) := by decide +kernel
theorem dX4_toBytes_78 : decode cX4_toBytes 78 = .ok (.iload_n 1, 1) := by decide +kernel
theorem dX4_toBytes_79 : decode cX4_toBytes 79 = .ok (.iload 7, 2) := by decide +kernel
theorem dX4_toBytes_81 : decode cX4_toBytes 81 = .ok (.iadd, 1) := by decide +kernel
theorem dX4_toBytes_82 : decode cX4_toBytes 82 = .ok (.lload 8, 2) := by decide +kernel
theorem dX4_toBytes_84 : decode cX4_toBytes 84 = .ok (.l2i, 1) := by decide +kernel
theorem dX4_toBytes_85 : decode cX4_toBytes 85 = .ok (.sipush 255, 3) := by decide +kernel
theorem dX4_toBytes_88 : decode cX4_toBytes 88 = .ok (.iand, 1) := by decide +kernel
theorem dX4_toBytes_89 : decode cX4_toBytes 89 = .ok (.iastore, 1) := by decide +kernel
theorem dX4_toBytes_90 : decode cX4_toBytes 90 = .ok (.iinc 7 1, 3) := by decide +kernel
theorem dX4_toBytes_93 : decode cX4_toBytes 93 = .ok (.goto (-84), 3) := by decide +kernel
theorem dX4_toBytes_96 : decode cX4_toBytes 96 = .ok (.return_, 1) := by decide +kernel
theorem dX5_init_0 : decode cX5_init 0 = .ok (.aload_n 0, 1) := by decide +kernel
theorem dX5_init_1 : decode cX5_init 1 = .ok (.invokespecial 1, 3) := by decide +kernel
theorem dX5_init_4 : decode cX5_init 4 = .ok (.aload_n 0, 1) := by decide +kernel
theorem dX5_init_5 : decode cX5_init 5 = .ok (.bipush 16, 2) := by decide +kernel
theorem dX5_init_7 : decode cX5_init 7 = .ok (.newarray .long, 2) := by decide +kernel
theorem dX5_init_9 : decode cX5_init 9 = .ok (.putfield 9, 3) := by decide +kernel
theorem dX5_init_12 : decode cX5_init 12 = .ok (.aload_n 0, 1) := by decide +kernel
theorem dX5_init_13 : decode cX5_init 13 = .ok (.bipush 16, 2) := by decide +kernel
theorem dX5_init_15 : decode cX5_init 15 = .ok (.newarray .long, 2) := by decide +kernel
theorem dX5_init_17 : decode cX5_init 17 = .ok (.putfield 15, 3) := by decide +kernel
theorem dX5_init_20 : decode cX5_init 20 = .ok (.aload_n 0, 1) := by decide +kernel
theorem dX5_init_21 : decode cX5_init 21 = .ok (.bipush 16, 2) := by decide +kernel
theorem dX5_init_23 : decode cX5_init 23 = .ok (.newarray .long, 2) := by decide +kernel
theorem dX5_init_25 : decode cX5_init 25 = .ok (.putfield 18, 3) := by decide +kernel
theorem dX5_init_28 : decode cX5_init 28 = .ok (.aload_n 0, 1) := by decide +kernel
theorem dX5_init_29 : decode cX5_init 29 = .ok (.getfield 15, 3) := by decide +kernel
theorem dX5_init_32 : decode cX5_init 32 = .ok (.iconst 0, 1) := by decide +kernel
theorem dX5_init_33 : decode cX5_init 33 = .ok (.lconst 1, 1) := by decide +kernel
theorem dX5_init_34 : decode cX5_init 34 = .ok (.lastore, 1) := by decide +kernel
theorem dX5_init_35 : decode cX5_init 35 = .ok (.aload_n 0, 1) := by decide +kernel
theorem dX5_init_36 : decode cX5_init 36 = .ok (.getfield 18, 3) := by decide +kernel
theorem dX5_init_39 : decode cX5_init 39 = .ok (.iconst 0, 1) := by decide +kernel
theorem dX5_init_40 : decode cX5_init 40 = .ok (.lconst 1, 1) := by decide +kernel
theorem dX5_init_41 : decode cX5_init 41 = .ok (.lastore, 1) := by decide +kernel
theorem dX5_init_42 : decode cX5_init 42 = .ok (.return_, 1) := by decide +kernel
theorem dX6_init_0 : decode cX6_init 0 = .ok (.aload_n 0, 1) := by decide +kernel
theorem dX6_init_1 : decode cX6_init 1 = .ok (.invokespecial 1, 3) := by decide +kernel
theorem dX6_init_4 : decode cX6_init 4 = .ok (.aload_n 0, 1) := by decide +kernel
theorem dX6_init_5 : decode cX6_init 5 = .ok (.iload_n 1, 1) := by decide +kernel
theorem dX6_init_6 : decode cX6_init 6 = .ok (.newarray .int, 2) := by decide +kernel
theorem dX6_init_8 : decode cX6_init 8 = .ok (.putfield 7, 3) := by decide +kernel
theorem dX6_init_11 : decode cX6_init 11 = .ok (.return_, 1) := by decide +kernel
theorem dX6_append_0 : decode cX6_append 0 = .ok (.aload_n 0, 1) := by decide +kernel
theorem dX6_append_1 : decode cX6_append 1 = .ok (.getfield 13, 3) := by decide +kernel
theorem dX6_append_4 : decode cX6_append 4 = .ok (.aload_n 0, 1) := by decide +kernel
theorem dX6_append_5 : decode cX6_append 5 = .ok (.getfield 7, 3) := by decide +kernel
theorem dX6_append_8 : decode cX6_append 8 = .ok (.arraylength, 1) := by decide +kernel
theorem dX6_append_9 : decode cX6_append 9 = .ok (.if_icmp .ge 23, 3) := by decide +kernel
theorem dX6_append_12 : decode cX6_append 12 = .ok (.aload_n 0, 1) := by decide +kernel
theorem dX6_append_13 : decode cX6_append 13 = .ok (.getfield 7, 3) := by decide +kernel
theorem dX6_append_16 : decode cX6_append 16 = .ok (.aload_n 0, 1) := by decide +kernel
theorem dX6_append_17 : decode cX6_append 17 = .ok (.getfield 13, 3) := by decide +kernel
theorem dX6_append_20 : decode cX6_append 20 = .ok (.iload_n 1, 1) := by decide +kernel
theorem dX6_append_21 : decode cX6_append 21 = .ok (.iastore, 1) := by decide +kernel
theorem dX6_append_22 : decode cX6_append 22 = .ok (.aload_n 0, 1) := by decide +kernel
theorem dX6_append_23 : decode cX6_append 23 = .ok (.dup, 1) := by decide +kernel
theorem dX6_append_24 : decode cX6_append 24 = .ok (.getfield 13, 3) := by decide +kernel
theorem dX6_append_27 : decode cX6_append 27 = .ok (.iconst 1, 1) := by decide +kernel
theorem dX6_append_28 : decode cX6_append 28 = .ok (.iadd, 1) := by decide +kernel
theorem dX6_append_29 : decode cX6_append 29 = .ok (.putfield 13, 3) := by decide +kernel
theorem dX6_append_32 : decode cX6_append 32 = .ok (.return_, 1) := by decide +kernel
theorem dX6_appendPart_0 : decode cX6_appendPart 0 = .ok (.iload_n 2, 1) := by decide +kernel
theorem dX6_appendPart_1 : decode cX6_appendPart 1 = .ok (.istore 4, 2) := by decide +kernel
theorem dX6_appendPart_3 : decode cX6_appendPart 3 = .ok (.iload 4, 2) := by decide +kernel
theorem dX6_appendPart_5 : decode cX6_appendPart 5 = .ok (.iload_n 2, 1) := by decide +kernel
theorem dX6_appendPart_6 : decode cX6_appendPart 6 = .ok (.iload_n 3, 1) := by decide +kernel
theorem dX6_appendPart_7 : decode cX6_appendPart 7 = .ok (.iadd, 1) := by decide +kernel
theorem dX6_appendPart_8 : decode cX6_appendPart 8 = .ok (.if_icmp .ge 17, 3) := by decide +kernel
theorem dX6_appendPart_11 : decode cX6_appendPart 11 = .ok (.aload_n 0, 1) := by decide +kernel
theorem dX6_appendPart_12 : decode cX6_appendPart 12 = .ok (.aload_n 1, 1) := by decide +kernel
theorem dX6_appendPart_13 : decode cX6_appendPart 13 = .ok (.iload 4, 2) := by decide +kernel
theorem dX6_appendPart_15 : decode cX6_appendPart 15 = .ok (.iaload, 1) := by decide +kernel
theorem dX6_appendPart_16 : decode cX6_appendPart 16 = .ok (.invokevirtual 17, 3) := by decide +kernel
theorem dX6_appendPart_19 : decode cX6_appendPart 19 = .ok (.iinc 4 1, 3) := by decide +kernel
theorem dX6_appendPart_22 : decode cX6_appendPart 22 = .ok (.goto (-19), 3) := by decide +kernel
theorem dX6_appendPart_25 : decode cX6_appendPart 25 = .ok (.return_, 1) := by decide +kernel
theorem dX6_appendText_0 : decode cX6_appendText 0 = .ok (.iconst 0, 1) := by decide +kernel
theorem dX6_appendText_1 : decode cX6_appendText 1 = .ok (.istore_n 2, 1) := by decide +kernel
theorem dX6_appendText_2 : decode cX6_appendText 2 = .ok (.iload_n 2, 1) := by decide +kernel
theorem dX6_appendText_3 : decode cX6_appendText 3 = .ok (.aload_n 1, 1) := by decide +kernel
theorem dX6_appendText_4 : decode cX6_appendText 4 = .ok (.invokevirtual 21, 3) := by decide +kernel
theorem dX6_appendText_7 : decode cX6_appendText 7 = .ok (.if_icmp .ge 18, 3) := by decide +kernel
theorem dX6_appendText_10 : decode cX6_appendText 10 = .ok (.aload_n 0, 1) := by decide +kernel
theorem dX6_appendText_11 : decode cX6_appendText 11 = .ok (.aload_n 1, 1) := by decide +kernel
theorem dX6_appendText_12 : decode cX6_appendText 12 = .ok (.iload_n 2, 1) := by decide +kernel
theorem dX6_appendText_13 : decode cX6_appendText 13 = .ok (.invokevirtual 27, 3) := by decide +kernel
theorem dX6_appendText_16 : decode cX6_appendText 16 = .ok (.invokevirtual 17, 3) := by decide +kernel
theorem dX6_appendText_19 : decode cX6_appendText 19 = .ok (.iinc 2 1, 3) := by decide +kernel
theorem dX6_appendText_22 : decode cX6_appendText 22 = .ok (.goto (-20), 3) := by decide +kernel
theorem dX6_appendText_25 : decode cX6_appendText 25 = .ok (.return_, 1) := by decide +kernel
theorem dX7_init_0 : decode cX7_init 0 = .ok (.aload_n 0, 1) := by decide +kernel
theorem dX7_init_1 : decode cX7_init 1 = .ok (.invokespecial 5, 3) := by decide +kernel
theorem dX7_init_4 : decode cX7_init 4 = .ok (.aload_n 0, 1) := by decide +kernel
theorem dX7_init_5 : decode cX7_init 5 = .ok (.bipush 16, 2) := by decide +kernel
theorem dX7_init_7 : decode cX7_init 7 = .ok (.newarray .long, 2) := by decide +kernel
theorem dX7_init_9 : decode cX7_init 9 = .ok (.putfield 13, 3) := by decide +kernel
theorem dX7_init_12 : decode cX7_init 12 = .ok (.aload_n 0, 1) := by decide +kernel
theorem dX7_init_13 : decode cX7_init 13 = .ok (.bipush 16, 2) := by decide +kernel
theorem dX7_init_15 : decode cX7_init 15 = .ok (.newarray .long, 2) := by decide +kernel
theorem dX7_init_17 : decode cX7_init 17 = .ok (.putfield 17, 3) := by decide +kernel
theorem dX7_init_20 : decode cX7_init 20 = .ok (.aload_n 0, 1) := by decide +kernel
theorem dX7_init_21 : decode cX7_init 21 = .ok (.iload_n 1, 1) := by decide +kernel
theorem dX7_init_22 : decode cX7_init 22 = .ok (.ifCond .eq 8, 3) := by decide +kernel
theorem dX7_init_25 : decode cX7_init 25 = .ok (.bipush 57, 2) := by decide +kernel
theorem dX7_init_27 : decode cX7_init 27 = .ok (.goto 5, 3) := by decide +kernel
theorem dX7_init_30 : decode cX7_init 30 = .ok (.bipush 32, 2) := by decide +kernel
theorem dX7_init_32 : decode cX7_init 32 = .ok (.putfield 20, 3) := by decide +kernel
theorem dX7_init_35 : decode cX7_init 35 = .ok (.aload_n 0, 1) := by decide +kernel
theorem dX7_init_36 : decode cX7_init 36 = .ok (.iload_n 1, 1) := by decide +kernel
theorem dX7_init_37 : decode cX7_init 37 = .ok (.ifCond .eq 8, 3) := by decide +kernel
theorem dX7_init_40 : decode cX7_init 40 = .ok (.bipush 16, 2) := by decide +kernel
theorem dX7_init_42 : decode cX7_init 42 = .ok (.goto 5, 3) := by decide +kernel
theorem dX7_init_45 : decode cX7_init 45 = .ok (.bipush 10, 2) := by decide +kernel
theorem dX7_init_47 : decode cX7_init 47 = .ok (.putfield 24, 3) := by decide +kernel
theorem dX7_init_50 : decode cX7_init 50 = .ok (.iload_n 1, 1) := by decide +kernel
theorem dX7_init_51 : decode cX7_init 51 = .ok (.ifCond .eq 8, 3) := by decide +kernel
theorem dX7_init_54 : decode cX7_init 54 = .ok (.ldc 27, 2) := by decide +kernel
theorem dX7_init_56 : decode cX7_init 56 = .ok (.goto 5, 3) := by decide +kernel
theorem dX7_init_59 : decode cX7_init 59 = .ok (.ldc 29, 2) := by decide +kernel
theorem dX7_init_61 : decode cX7_init 61 = .ok (.bipush 28, 2) := by decide +kernel
theorem dX7_init_63 : decode cX7_init 63 = .ok (.invokestatic 31, 3) := by decide +kernel
theorem dX7_init_66 : decode cX7_init 66 = .ok (.astore_n 2, 1) := by decide +kernel
theorem dX7_init_67 : decode cX7_init 67 = .ok (.bipush 57, 2) := by decide +kernel
theorem dX7_init_69 : decode cX7_init 69 = .ok (.newarray .int, 2) := by decide +kernel
theorem dX7_init_71 : decode cX7_init 71 = .ok (.astore_n 3, 1) := by decide +kernel
theorem dX7_init_72 : decode cX7_init 72 = .ok (.aload_n 3, 1) := by decide +kernel
theorem dX7_init_73 : decode cX7_init 73 = .ok (.iconst 0, 1) := by decide +kernel
theorem dX7_init_74 : decode cX7_init 74 = .ok (.aload_n 0, 1) := by decide +kernel
theorem dX7_init_75 : decode cX7_init 75 = .ok (.getfield 20, 3) := by decide +kernel
theorem dX7_init_78 : decode cX7_init 78 = .ok (.aload_n 2, 1) := by decide +kernel
theorem dX7_init_79 : decode cX7_init 79 = .ok (.bipush 28, 2) := by decide +kernel
theorem dX7_init_81 : decode cX7_init 81 = .ok (.invokestatic 35, 3) := by decide +kernel
theorem dX7_init_84 : decode cX7_init 84 = .ok (.aload_n 0, 1) := by decide +kernel
theorem dX7_init_85 : decode cX7_init 85 = .ok (.aload_n 2, 1) := by decide +kernel
theorem dX7_init_86 : decode cX7_init 86 = .ok (.putfield 39, 3) := by decide +kernel
theorem dX7_init_89 : decode cX7_init 89 = .ok (.aload_n 0, 1) := by decide +kernel
theorem dX7_init_90 : decode cX7_init 90 = .ok (.aload_n 3, 1) := by decide +kernel
theorem dX7_init_91 : decode cX7_init 91 = .ok (.putfield 42, 3) := by decide +kernel
theorem dX7_init_94 : decode cX7_init 94 = .ok (.aload_n 0, 1) := by decide +kernel
theorem dX7_init_95 : decode cX7_init 95 = .ok (.getfield 13, 3) := by decide +kernel
theorem dX7_init_98 : decode cX7_init 98 = .ok (.iconst 0, 1) := by decide +kernel
theorem dX7_init_99 : decode cX7_init 99 = .ok (.lconst 1, 1) := by decide +kernel
theorem dX7_init_100 : decode cX7_init 100 = .ok (.lastore, 1) := by decide +kernel
theorem dX7_init_101 : decode cX7_init 101 = .ok (.return_, 1) := by decide +kernel
theorem dX7_isBelowOrder_0 : decode cX7_isBelowOrder 0 = .ok (.aload_n 0, 1) := by decide +kernel
theorem dX7_isBelowOrder_1 : decode cX7_isBelowOrder 1 = .ok (.getfield 20, 3) := by decide +kernel
theorem dX7_isBelowOrder_4 : decode cX7_isBelowOrder 4 = .ok (.iconst 1, 1) := by decide +kernel
theorem dX7_isBelowOrder_5 : decode cX7_isBelowOrder 5 = .ok (.isub, 1) := by decide +kernel
theorem dX7_isBelowOrder_6 : decode cX7_isBelowOrder 6 = .ok (.istore_n 3, 1) := by decide +kernel
theorem dX7_isBelowOrder_7 : decode cX7_isBelowOrder 7 = .ok (.iload_n 3, 1) := by decide +kernel
theorem dX7_isBelowOrder_8 : decode cX7_isBelowOrder 8 = .ok (.ifCond .lt 43, 3) := by decide +kernel
theorem dX7_isBelowOrder_11 : decode cX7_isBelowOrder 11 = .ok (.aload_n 1, 1) := by decide +kernel
theorem dX7_isBelowOrder_12 : decode cX7_isBelowOrder 12 = .ok (.iload_n 2, 1) := by decide +kernel
theorem dX7_isBelowOrder_13 : decode cX7_isBelowOrder 13 = .ok (.iload_n 3, 1) := by decide +kernel
theorem dX7_isBelowOrder_14 : decode cX7_isBelowOrder 14 = .ok (.iadd, 1) := by decide +kernel
theorem dX7_isBelowOrder_15 : decode cX7_isBelowOrder 15 = .ok (.iaload, 1) := by decide +kernel
theorem dX7_isBelowOrder_16 : decode cX7_isBelowOrder 16 = .ok (.aload_n 0, 1) := by decide +kernel
theorem dX7_isBelowOrder_17 : decode cX7_isBelowOrder 17 = .ok (.getfield 42, 3) := by decide +kernel
theorem dX7_isBelowOrder_20 : decode cX7_isBelowOrder 20 = .ok (.iload_n 3, 1) := by decide +kernel
theorem dX7_isBelowOrder_21 : decode cX7_isBelowOrder 21 = .ok (.iaload, 1) := by decide +kernel
theorem dX7_isBelowOrder_22 : decode cX7_isBelowOrder 22 = .ok (.if_icmp .eq 23, 3) := by decide +kernel
theorem dX7_isBelowOrder_25 : decode cX7_isBelowOrder 25 = .ok (.aload_n 1, 1) := by decide +kernel
theorem dX7_isBelowOrder_26 : decode cX7_isBelowOrder 26 = .ok (.iload_n 2, 1) := by decide +kernel
theorem dX7_isBelowOrder_27 : decode cX7_isBelowOrder 27 = .ok (.iload_n 3, 1) := by decide +kernel
theorem dX7_isBelowOrder_28 : decode cX7_isBelowOrder 28 = .ok (.iadd, 1) := by decide +kernel
theorem dX7_isBelowOrder_29 : decode cX7_isBelowOrder 29 = .ok (.iaload, 1) := by decide +kernel
theorem dX7_isBelowOrder_30 : decode cX7_isBelowOrder 30 = .ok (.aload_n 0, 1) := by decide +kernel
theorem dX7_isBelowOrder_31 : decode cX7_isBelowOrder 31 = .ok (.getfield 42, 3) := by decide +kernel
theorem dX7_isBelowOrder_34 : decode cX7_isBelowOrder 34 = .ok (.iload_n 3, 1) := by decide +kernel
theorem dX7_isBelowOrder_35 : decode cX7_isBelowOrder 35 = .ok (.iaload, 1) := by decide +kernel
theorem dX7_isBelowOrder_36 : decode cX7_isBelowOrder 36 = .ok (.if_icmp .ge 7, 3) := by decide +kernel
theorem dX7_isBelowOrder_39 : decode cX7_isBelowOrder 39 = .ok (.iconst 1, 1) := by decide +kernel
theorem dX7_isBelowOrder_40 : decode cX7_isBelowOrder 40 = .ok (.goto 4, 3) := by decide +kernel
theorem dX7_isBelowOrder_43 : decode cX7_isBelowOrder 43 = .ok (.iconst 0, 1) := by decide +kernel
theorem dX7_isBelowOrder_44 : decode cX7_isBelowOrder 44 = .ok (.ireturn, 1) := by decide +kernel
theorem dX7_isBelowOrder_45 : decode cX7_isBelowOrder 45 = .ok (.iinc 3 (-1), 3) := by decide +kernel
theorem dX7_isBelowOrder_48 : decode cX7_isBelowOrder 48 = .ok (.goto (-41), 3) := by decide +kernel
theorem dX7_isBelowOrder_51 : decode cX7_isBelowOrder 51 = .ok (.iconst 0, 1) := by decide +kernel
theorem dX7_isBelowOrder_52 : decode cX7_isBelowOrder 52 = .ok (.ireturn, 1) := by decide +kernel
theorem dX7_reduce_0 : decode cX7_reduce 0 = .ok (.aload_n 0, 1) := by decide +kernel
theorem dX7_reduce_1 : decode cX7_reduce 1 = .ok (.aload_n 1, 1) := by decide +kernel
theorem dX7_reduce_2 : decode cX7_reduce 2 = .ok (.aload_n 2, 1) := by decide +kernel
theorem dX7_reduce_3 : decode cX7_reduce 3 = .ok (.iload_n 3, 1) := by decide +kernel
theorem dX7_reduce_4 : decode cX7_reduce 4 = .ok (.aload_n 0, 1) := by decide +kernel
theorem dX7_reduce_5 : decode cX7_reduce 5 = .ok (.getfield 13, 3) := by decide +kernel
theorem dX7_reduce_8 : decode cX7_reduce 8 = .ok (.invokevirtual 46, 3) := by decide +kernel
theorem dX7_reduce_11 : decode cX7_reduce 11 = .ok (.return_, 1) := by decide +kernel
theorem dX7_multiply_0 : decode cX7_multiply 0 = .ok (.aload_n 1, 1) := by decide +kernel
theorem dX7_multiply_1 : decode cX7_multiply 1 = .ok (.lconst 0, 1) := by decide +kernel
theorem dX7_multiply_2 : decode cX7_multiply 2 = .ok (.invokestatic 50, 3) := by decide +kernel
theorem dX7_multiply_5 : decode cX7_multiply 5 = .ok (.bipush 8, 2) := by decide +kernel
theorem dX7_multiply_7 : decode cX7_multiply 7 = .ok (.iload_n 3, 1) := by decide +kernel
theorem dX7_multiply_8 : decode cX7_multiply 8 = .ok (.imul, 1) := by decide +kernel
theorem dX7_multiply_9 : decode cX7_multiply 9 = .ok (.iconst 1, 1) := by decide +kernel
theorem dX7_multiply_10 : decode cX7_multiply 10 = .ok (.isub, 1) := by decide +kernel
theorem dX7_multiply_11 : decode cX7_multiply 11 = .ok (.istore 5, 2) := by decide +kernel
theorem dX7_multiply_13 : decode cX7_multiply 13 = .ok (.iload 5, 2) := by decide +kernel
theorem dX7_multiply_15 : decode cX7_multiply 15 = .ok (.ifCond .lt 40, 3) := by decide +kernel
theorem dX7_multiply_18 : decode cX7_multiply 18 = .ok (.aload_n 0, 1) := by decide +kernel
theorem dX7_multiply_19 : decode cX7_multiply 19 = .ok (.aload_n 1, 1) := by decide +kernel
theorem dX7_multiply_20 : decode cX7_multiply 20 = .ok (.aload_n 1, 1) := by decide +kernel
theorem dX7_multiply_21 : decode cX7_multiply 21 = .ok (.invokevirtual 56, 3) := by decide +kernel
theorem dX7_multiply_24 : decode cX7_multiply 24 = .ok (.aload_n 2, 1) := by decide +kernel
theorem dX7_multiply_25 : decode cX7_multiply 25 = .ok (.iload 5, 2) := by decide +kernel
theorem dX7_multiply_27 : decode cX7_multiply 27 = .ok (.iconst 3, 1) := by decide +kernel
theorem dX7_multiply_28 : decode cX7_multiply 28 = .ok (.ishr, 1) := by decide +kernel
theorem dX7_multiply_29 : decode cX7_multiply 29 = .ok (.iaload, 1) := by decide +kernel
theorem dX7_multiply_30 : decode cX7_multiply 30 = .ok (.iload 5, 2) := by decide +kernel
theorem dX7_multiply_32 : decode cX7_multiply 32 = .ok (.bipush 7, 2) := by decide +kernel
theorem dX7_multiply_34 : decode cX7_multiply 34 = .ok (.iand, 1) := by decide +kernel
theorem dX7_multiply_35 : decode cX7_multiply 35 = .ok (.ishr, 1) := by decide +kernel
theorem dX7_multiply_36 : decode cX7_multiply 36 = .ok (.iconst 1, 1) := by decide +kernel
theorem dX7_multiply_37 : decode cX7_multiply 37 = .ok (.iand, 1) := by decide +kernel
theorem dX7_multiply_38 : decode cX7_multiply 38 = .ok (.iconst 1, 1) := by decide +kernel
theorem dX7_multiply_39 : decode cX7_multiply 39 = .ok (.if_icmp .ne 10, 3) := by decide +kernel
theorem dX7_multiply_42 : decode cX7_multiply 42 = .ok (.aload_n 0, 1) := by decide +kernel
theorem dX7_multiply_43 : decode cX7_multiply 43 = .ok (.aload_n 1, 1) := by decide +kernel
theorem dX7_multiply_44 : decode cX7_multiply 44 = .ok (.aload 4, 2) := by decide +kernel
theorem dX7_multiply_46 : decode cX7_multiply 46 = .ok (.invokevirtual 56, 3) := by decide +kernel
theorem dX7_multiply_49 : decode cX7_multiply 49 = .ok (.iinc 5 (-1), 3) := by decide +kernel
theorem dX7_multiply_52 : decode cX7_multiply 52 = .ok (.goto (-39), 3) := by decide +kernel
theorem dX7_multiply_55 : decode cX7_multiply 55 = .ok (.return_, 1) := by decide +kernel
theorem dX7_increase_0 : decode cX7_increase 0 = .ok (.lconst 0, 1) := by decide +kernel
theorem dX7_increase_1 : decode cX7_increase 1 = .ok (.lstore_n 3, 1) := by decide +kernel
theorem dX7_increase_2 : decode cX7_increase 2 = .ok (.iconst 0, 1) := by decide +kernel
theorem dX7_increase_3 : decode cX7_increase 3 = .ok (.istore 5, 2) := by decide +kernel
theorem dX7_increase_5 : decode cX7_increase 5 = .ok (.iload 5, 2) := by decide +kernel
theorem dX7_increase_7 : decode cX7_increase 7 = .ok (.aload_n 0, 1) := by decide +kernel
theorem dX7_increase_8 : decode cX7_increase 8 = .ok (.getfield 24, 3) := by decide +kernel
theorem dX7_increase_11 : decode cX7_increase 11 = .ok (.if_icmp .ge 38, 3) := by decide +kernel
theorem dX7_increase_14 : decode cX7_increase 14 = .ok (.aload_n 1, 1) := by decide +kernel
theorem dX7_increase_15 : decode cX7_increase 15 = .ok (.iload 5, 2) := by decide +kernel
theorem dX7_increase_17 : decode cX7_increase 17 = .ok (.laload, 1) := by decide +kernel
theorem dX7_increase_18 : decode cX7_increase 18 = .ok (.aload_n 2, 1) := by decide +kernel
theorem dX7_increase_19 : decode cX7_increase 19 = .ok (.iload 5, 2) := by decide +kernel
theorem dX7_increase_21 : decode cX7_increase 21 = .ok (.laload, 1) := by decide +kernel
theorem dX7_increase_22 : decode cX7_increase 22 = .ok (.ladd, 1) := by decide +kernel
theorem dX7_increase_23 : decode cX7_increase 23 = .ok (.lload_n 3, 1) := by decide +kernel
theorem dX7_increase_24 : decode cX7_increase 24 = .ok (.ladd, 1) := by decide +kernel
theorem dX7_increase_25 : decode cX7_increase 25 = .ok (.lstore 6, 2) := by decide +kernel
theorem dX7_increase_27 : decode cX7_increase 27 = .ok (.aload_n 1, 1) := by decide +kernel
theorem dX7_increase_28 : decode cX7_increase 28 = .ok (.iload 5, 2) := by decide +kernel
theorem dX7_increase_30 : decode cX7_increase 30 = .ok (.lload 6, 2) := by decide +kernel
theorem dX7_increase_32 : decode cX7_increase 32 = .ok (.ldc2_w 60, 3) := by decide +kernel
theorem dX7_increase_35 : decode cX7_increase 35 = .ok (.land, 1) := by decide +kernel
theorem dX7_increase_36 : decode cX7_increase 36 = .ok (.lastore, 1) := by decide +kernel
theorem dX7_increase_37 : decode cX7_increase 37 = .ok (.lload 6, 2) := by decide +kernel
theorem dX7_increase_39 : decode cX7_increase 39 = .ok (.bipush 28, 2) := by decide +kernel
theorem dX7_increase_41 : decode cX7_increase 41 = .ok (.lshr, 1) := by decide +kernel
theorem dX7_increase_42 : decode cX7_increase 42 = .ok (.lstore_n 3, 1) := by decide +kernel
theorem dX7_increase_43 : decode cX7_increase 43 = .ok (.iinc 5 1, 3) := by decide +kernel
theorem dX7_increase_46 : decode cX7_increase 46 = .ok (.goto (-41), 3) := by decide +kernel
theorem dX7_increase_49 : decode cX7_increase 49 = .ok (.lconst 0, 1) := by decide +kernel
theorem dX7_increase_50 : decode cX7_increase 50 = .ok (.lstore_n 3, 1) := by decide +kernel
theorem dX7_increase_51 : decode cX7_increase 51 = .ok (.iconst 0, 1) := by decide +kernel
theorem dX7_increase_52 : decode cX7_increase 52 = .ok (.istore 5, 2) := by decide +kernel
theorem dX7_increase_54 : decode cX7_increase 54 = .ok (.iload 5, 2) := by decide +kernel
theorem dX7_increase_56 : decode cX7_increase 56 = .ok (.aload_n 0, 1) := by decide +kernel
theorem dX7_increase_57 : decode cX7_increase 57 = .ok (.getfield 24, 3) := by decide +kernel
theorem dX7_increase_60 : decode cX7_increase 60 = .ok (.if_icmp .ge 44, 3) := by decide +kernel
theorem dX7_increase_63 : decode cX7_increase 63 = .ok (.aload_n 1, 1) := by decide +kernel
theorem dX7_increase_64 : decode cX7_increase 64 = .ok (.iload 5, 2) := by decide +kernel
theorem dX7_increase_66 : decode cX7_increase 66 = .ok (.laload, 1) := by decide +kernel
theorem dX7_increase_67 : decode cX7_increase 67 = .ok (.aload_n 0, 1) := by decide +kernel
theorem dX7_increase_68 : decode cX7_increase 68 = .ok (.getfield 39, 3) := by decide +kernel
theorem dX7_increase_71 : decode cX7_increase 71 = .ok (.iload 5, 2) := by decide +kernel
theorem dX7_increase_73 : decode cX7_increase 73 = .ok (.laload, 1) := by decide +kernel
theorem dX7_increase_74 : decode cX7_increase 74 = .ok (.lsub, 1) := by decide +kernel
theorem dX7_increase_75 : decode cX7_increase 75 = .ok (.lload_n 3, 1) := by decide +kernel
theorem dX7_increase_76 : decode cX7_increase 76 = .ok (.ladd, 1) := by decide +kernel
theorem dX7_increase_77 : decode cX7_increase 77 = .ok (.lstore 6, 2) := by decide +kernel
theorem dX7_increase_79 : decode cX7_increase 79 = .ok (.aload_n 0, 1) := by decide +kernel
theorem dX7_increase_80 : decode cX7_increase 80 = .ok (.getfield 17, 3) := by decide +kernel
theorem dX7_increase_83 : decode cX7_increase 83 = .ok (.iload 5, 2) := by decide +kernel
theorem dX7_increase_85 : decode cX7_increase 85 = .ok (.lload 6, 2) := by decide +kernel
theorem dX7_increase_87 : decode cX7_increase 87 = .ok (.ldc2_w 60, 3) := by decide +kernel
theorem dX7_increase_90 : decode cX7_increase 90 = .ok (.land, 1) := by decide +kernel
theorem dX7_increase_91 : decode cX7_increase 91 = .ok (.lastore, 1) := by decide +kernel
theorem dX7_increase_92 : decode cX7_increase 92 = .ok (.lload 6, 2) := by decide +kernel
theorem dX7_increase_94 : decode cX7_increase 94 = .ok (.bipush 28, 2) := by decide +kernel
theorem dX7_increase_96 : decode cX7_increase 96 = .ok (.lshr, 1) := by decide +kernel
theorem dX7_increase_97 : decode cX7_increase 97 = .ok (.lstore_n 3, 1) := by decide +kernel
theorem dX7_increase_98 : decode cX7_increase 98 = .ok (.iinc 5 1, 3) := by decide +kernel
theorem dX7_increase_101 : decode cX7_increase 101 = .ok (.goto (-47), 3) := by decide +kernel
theorem dX7_increase_104 : decode cX7_increase 104 = .ok (.lload_n 3, 1) := by decide +kernel
theorem dX7_increase_105 : decode cX7_increase 105 = .ok (.lconst 0, 1) := by decide +kernel
theorem dX7_increase_106 : decode cX7_increase 106 = .ok (.lcmp, 1) := by decide +kernel
theorem dX7_increase_107 : decode cX7_increase 107 = .ok (.ifCond .ne 17, 3) := by decide +kernel
theorem dX7_increase_110 : decode cX7_increase 110 = .ok (.aload_n 0, 1) := by decide +kernel
theorem dX7_increase_111 : decode cX7_increase 111 = .ok (.getfield 17, 3) := by decide +kernel
theorem dX7_increase_114 : decode cX7_increase 114 = .ok (.iconst 0, 1) := by decide +kernel
theorem dX7_increase_115 : decode cX7_increase 115 = .ok (.aload_n 1, 1) := by decide +kernel
theorem dX7_increase_116 : decode cX7_increase 116 = .ok (.iconst 0, 1) := by decide +kernel
theorem dX7_increase_117 : decode cX7_increase 117 = .ok (.aload_n 0, 1) := by decide +kernel
theorem dX7_increase_118 : decode cX7_increase 118 = .ok (.getfield 24, 3) := by decide +kernel
theorem dX7_increase_121 : decode cX7_increase 121 = .ok (.invokestatic 62, 3) := by decide +kernel
theorem dX7_increase_124 : decode cX7_increase 124 = .ok (.return_, 1) := by decide +kernel
theorem dX7_write_0 : decode cX7_write 0 = .ok (.aload_n 1, 1) := by decide +kernel
theorem dX7_write_1 : decode cX7_write 1 = .ok (.iload_n 2, 1) := by decide +kernel
theorem dX7_write_2 : decode cX7_write 2 = .ok (.aload_n 0, 1) := by decide +kernel
theorem dX7_write_3 : decode cX7_write 3 = .ok (.getfield 20, 3) := by decide +kernel
theorem dX7_write_6 : decode cX7_write 6 = .ok (.aload_n 3, 1) := by decide +kernel
theorem dX7_write_7 : decode cX7_write 7 = .ok (.bipush 28, 2) := by decide +kernel
theorem dX7_write_9 : decode cX7_write 9 = .ok (.invokestatic 35, 3) := by decide +kernel
theorem dX7_write_12 : decode cX7_write 12 = .ok (.return_, 1) := by decide +kernel
theorem dX8_init_0 : decode cX8_init 0 = .ok (.aload_n 0, 1) := by decide +kernel
theorem dX8_init_1 : decode cX8_init 1 = .ok (.invokespecial 1, 3) := by decide +kernel
theorem dX8_init_4 : decode cX8_init 4 = .ok (.aload_n 0, 1) := by decide +kernel
theorem dX8_init_5 : decode cX8_init 5 = .ok (.bipush 8, 2) := by decide +kernel
theorem dX8_init_7 : decode cX8_init 7 = .ok (.newarray .long, 2) := by decide +kernel
theorem dX8_init_9 : decode cX8_init 9 = .ok (.putfield 7, 3) := by decide +kernel
theorem dX8_init_12 : decode cX8_init 12 = .ok (.aload_n 0, 1) := by decide +kernel
theorem dX8_init_13 : decode cX8_init 13 = .ok (.bipush 80, 2) := by decide +kernel
theorem dX8_init_15 : decode cX8_init 15 = .ok (.newarray .long, 2) := by decide +kernel
theorem dX8_init_17 : decode cX8_init 17 = .ok (.putfield 13, 3) := by decide +kernel
theorem dX8_init_20 : decode cX8_init 20 = .ok (.return_, 1) := by decide +kernel
theorem dX8_digest_0 : decode cX8_digest 0 = .ok (.getstatic 16, 3) := by decide +kernel
theorem dX8_digest_3 : decode cX8_digest 3 = .ok (.iconst 0, 1) := by decide +kernel
theorem dX8_digest_4 : decode cX8_digest 4 = .ok (.aload_n 0, 1) := by decide +kernel
theorem dX8_digest_5 : decode cX8_digest 5 = .ok (.getfield 7, 3) := by decide +kernel
theorem dX8_digest_8 : decode cX8_digest 8 = .ok (.iconst 0, 1) := by decide +kernel
theorem dX8_digest_9 : decode cX8_digest 9 = .ok (.aload_n 0, 1) := by decide +kernel
theorem dX8_digest_10 : decode cX8_digest 10 = .ok (.getfield 7, 3) := by decide +kernel
theorem dX8_digest_13 : decode cX8_digest 13 = .ok (.arraylength, 1) := by decide +kernel
theorem dX8_digest_14 : decode cX8_digest 14 = .ok (.invokestatic 19, 3) := by decide +kernel
theorem dX8_digest_17 : decode cX8_digest 17 = .ok (.aload_n 2, 1) := by decide +kernel
theorem dX8_digest_18 : decode cX8_digest 18 = .ok (.getfield 25, 3) := by decide +kernel
theorem dX8_digest_21 : decode cX8_digest 21 = .ok (.bipush 16, 2) := by decide +kernel
theorem dX8_digest_23 : decode cX8_digest 23 = .ok (.iadd, 1) := by decide +kernel
theorem dX8_digest_24 : decode cX8_digest 24 = .ok (.sipush 128, 3) := by decide +kernel
theorem dX8_digest_27 : decode cX8_digest 27 = .ok (.idiv, 1) := by decide +kernel
theorem dX8_digest_28 : decode cX8_digest 28 = .ok (.iconst 1, 1) := by decide +kernel
theorem dX8_digest_29 : decode cX8_digest 29 = .ok (.iadd, 1) := by decide +kernel
theorem dX8_digest_30 : decode cX8_digest 30 = .ok (.istore 4, 2) := by decide +kernel
theorem dX8_digest_32 : decode cX8_digest 32 = .ok (.iconst 0, 1) := by decide +kernel
theorem dX8_digest_33 : decode cX8_digest 33 = .ok (.istore 5, 2) := by decide +kernel
theorem dX8_digest_35 : decode cX8_digest 35 = .ok (.iload 5, 2) := by decide +kernel
theorem dX8_digest_37 : decode cX8_digest 37 = .ok (.iload 4, 2) := by decide +kernel
theorem dX8_digest_39 : decode cX8_digest 39 = .ok (.if_icmp .ge 30, 3) := by decide +kernel
theorem dX8_digest_42 : decode cX8_digest 42 = .ok (.aload_n 0, 1) := by decide +kernel
theorem dX8_digest_43 : decode cX8_digest 43 = .ok (.aload_n 2, 1) := by decide +kernel
theorem dX8_digest_44 : decode cX8_digest 44 = .ok (.iload 5, 2) := by decide +kernel
theorem dX8_digest_46 : decode cX8_digest 46 = .ok (.sipush 128, 3) := by decide +kernel
theorem dX8_digest_49 : decode cX8_digest 49 = .ok (.imul, 1) := by decide +kernel
theorem dX8_digest_50 : decode cX8_digest 50 = .ok (.iload 4, 2) := by decide +kernel
theorem dX8_digest_52 : decode cX8_digest 52 = .ok (.sipush 128, 3) := by decide +kernel
theorem dX8_digest_55 : decode cX8_digest 55 = .ok (.imul, 1) := by decide +kernel
theorem dX8_digest_56 : decode cX8_digest 56 = .ok (.invokevirtual 31, 3) := by decide +kernel
theorem dX8_digest_59 : decode cX8_digest 59 = .ok (.aload_n 0, 1) := by decide +kernel
theorem dX8_digest_60 : decode cX8_digest 60 = .ok (.invokevirtual 35, 3) := by decide +kernel
theorem dX8_digest_63 : decode cX8_digest 63 = .ok (.iinc 5 1, 3) := by decide +kernel
theorem dX8_digest_66 : decode cX8_digest 66 = .ok (.goto (-31), 3) := by decide +kernel
theorem dX8_digest_69 : decode cX8_digest 69 = .ok (.iconst 0, 1) := by decide +kernel
theorem dX8_digest_70 : decode cX8_digest 70 = .ok (.istore 5, 2) := by decide +kernel
theorem dX8_digest_72 : decode cX8_digest 72 = .ok (.iload 5, 2) := by decide +kernel
theorem dX8_digest_74 : decode cX8_digest 74 = .ok (.iload_n 3, 1) := by decide +kernel
theorem dX8_digest_75 : decode cX8_digest 75 = .ok (.if_icmp .ge 46, 3) := by decide +kernel
theorem dX8_digest_78 : decode cX8_digest 78 = .ok (.iload 5, 2) := by decide +kernel
theorem dX8_digest_80 : decode cX8_digest 80 = .ok (.bipush 64, 2) := by decide +kernel
theorem dX8_digest_82 : decode cX8_digest 82 = .ok (.if_icmp .ge 39, 3) := by decide +kernel
theorem dX8_digest_85 : decode cX8_digest 85 = .ok (.aload_n 1, 1) := by decide +kernel
theorem dX8_digest_86 : decode cX8_digest 86 = .ok (.iload 5, 2) := by decide +kernel
theorem dX8_digest_88 : decode cX8_digest 88 = .ok (.aload_n 0, 1) := by decide +kernel
theorem dX8_digest_89 : decode cX8_digest 89 = .ok (.getfield 7, 3) := by decide +kernel
theorem dX8_digest_92 : decode cX8_digest 92 = .ok (.iload 5, 2) := by decide +kernel
theorem dX8_digest_94 : decode cX8_digest 94 = .ok (.iconst 3, 1) := by decide +kernel
theorem dX8_digest_95 : decode cX8_digest 95 = .ok (.ishr, 1) := by decide +kernel
theorem dX8_digest_96 : decode cX8_digest 96 = .ok (.laload, 1) := by decide +kernel
theorem dX8_digest_97 : decode cX8_digest 97 = .ok (.bipush 56, 2) := by decide +kernel
theorem dX8_digest_99 : decode cX8_digest 99 = .ok (.bipush 8, 2) := by decide +kernel
theorem dX8_digest_101 : decode cX8_digest 101 = .ok (.iload 5, 2) := by decide +kernel
theorem dX8_digest_103 : decode cX8_digest 103 = .ok (.bipush 7, 2) := by decide +kernel
theorem dX8_digest_105 : decode cX8_digest 105 = .ok (.iand, 1) := by decide +kernel
theorem dX8_digest_106 : decode cX8_digest 106 = .ok (.imul, 1) := by decide +kernel
theorem dX8_digest_107 : decode cX8_digest 107 = .ok (.isub, 1) := by decide +kernel
theorem dX8_digest_108 : decode cX8_digest 108 = .ok (.lushr, 1) := by decide +kernel
theorem dX8_digest_109 : decode cX8_digest 109 = .ok (.l2i, 1) := by decide +kernel
theorem dX8_digest_110 : decode cX8_digest 110 = .ok (.sipush 255, 3) := by decide +kernel
theorem dX8_digest_113 : decode cX8_digest 113 = .ok (.iand, 1) := by decide +kernel
theorem dX8_digest_114 : decode cX8_digest 114 = .ok (.iastore, 1) := by decide +kernel
theorem dX8_digest_115 : decode cX8_digest 115 = .ok (.iinc 5 1, 3) := by decide +kernel
theorem dX8_digest_118 : decode cX8_digest 118 = .ok (.goto (-46), 3) := by decide +kernel
theorem dX8_digest_121 : decode cX8_digest 121 = .ok (.return_, 1) := by decide +kernel
theorem dX8_loadBlock_0 : decode cX8_loadBlock 0 = .ok (.iconst 0, 1) := by decide +kernel
theorem dX8_loadBlock_1 : decode cX8_loadBlock 1 = .ok (.istore 4, 2) := by decide +kernel
theorem dX8_loadBlock_3 : decode cX8_loadBlock 3 = .ok (.iload 4, 2) := by decide +kernel
theorem dX8_loadBlock_5 : decode cX8_loadBlock 5 = .ok (.bipush 16, 2) := by decide +kernel
theorem dX8_loadBlock_7 : decode cX8_loadBlock 7 = .ok (.if_icmp .ge 61, 3) := by decide +kernel
theorem dX8_loadBlock_10 : decode cX8_loadBlock 10 = .ok (.lconst 0, 1) := by decide +kernel
theorem dX8_loadBlock_11 : decode cX8_loadBlock 11 = .ok (.lstore 5, 2) := by decide +kernel
theorem dX8_loadBlock_13 : decode cX8_loadBlock 13 = .ok (.iconst 0, 1) := by decide +kernel
theorem dX8_loadBlock_14 : decode cX8_loadBlock 14 = .ok (.istore 7, 2) := by decide +kernel
theorem dX8_loadBlock_16 : decode cX8_loadBlock 16 = .ok (.iload 7, 2) := by decide +kernel
theorem dX8_loadBlock_18 : decode cX8_loadBlock 18 = .ok (.bipush 8, 2) := by decide +kernel
theorem dX8_loadBlock_20 : decode cX8_loadBlock 20 = .ok (.if_icmp .ge 33, 3) := by decide +kernel
theorem dX8_loadBlock_23 : decode cX8_loadBlock 23 = .ok (.lload 5, 2) := by decide +kernel
theorem dX8_loadBlock_25 : decode cX8_loadBlock 25 = .ok (.bipush 8, 2) := by decide +kernel
theorem dX8_loadBlock_27 : decode cX8_loadBlock 27 = .ok (.lshl, 1) := by decide +kernel
theorem dX8_loadBlock_28 : decode cX8_loadBlock 28 = .ok (.aload_n 1, 1) := by decide +kernel
theorem dX8_loadBlock_29 : decode cX8_loadBlock 29 = .ok (.iload_n 2, 1) := by decide +kernel
theorem dX8_loadBlock_30 : decode cX8_loadBlock 30 = .ok (.bipush 8, 2) := by decide +kernel
theorem dX8_loadBlock_32 : decode cX8_loadBlock 32 = .ok (.iload 4, 2) := by decide +kernel
theorem dX8_loadBlock_34 : decode cX8_loadBlock 34 = .ok (.imul, 1) := by decide +kernel
theorem dX8_loadBlock_35 : decode cX8_loadBlock 35 = .ok (.iadd, 1) := by decide +kernel
theorem dX8_loadBlock_36 : decode cX8_loadBlock 36 = .ok (.iload 7, 2) := by decide +kernel
theorem dX8_loadBlock_38 : decode cX8_loadBlock 38 = .ok (.iadd, 1) := by decide +kernel
theorem dX8_loadBlock_39 : decode cX8_loadBlock 39 = .ok (.iload_n 3, 1) := by decide +kernel
theorem dX8_loadBlock_40 : decode cX8_loadBlock 40 = .ok (.invokestatic 38, 3) := by decide +kernel
theorem dX8_loadBlock_43 : decode cX8_loadBlock 43 = .ok (.i2l, 1) := by decide +kernel
theorem dX8_loadBlock_44 : decode cX8_loadBlock 44 = .ok (.lor, 1) := by decide +kernel
theorem dX8_loadBlock_45 : decode cX8_loadBlock 45 = .ok (.lstore 5, 2) := by decide +kernel
theorem dX8_loadBlock_47 : decode cX8_loadBlock 47 = .ok (.iinc 7 1, 3) := by decide +kernel
theorem dX8_loadBlock_50 : decode cX8_loadBlock 50 = .ok (.goto (-34), 3) := by decide +kernel
theorem dX8_loadBlock_53 : decode cX8_loadBlock 53 = .ok (.aload_n 0, 1) := by decide +kernel
theorem dX8_loadBlock_54 : decode cX8_loadBlock 54 = .ok (.getfield 13, 3) := by decide +kernel
theorem dX8_loadBlock_57 : decode cX8_loadBlock 57 = .ok (.iload 4, 2) := by decide +kernel
theorem dX8_loadBlock_59 : decode cX8_loadBlock 59 = .ok (.lload 5, 2) := by decide +kernel
theorem dX8_loadBlock_61 : decode cX8_loadBlock 61 = .ok (.lastore, 1) := by decide +kernel
theorem dX8_loadBlock_62 : decode cX8_loadBlock 62 = .ok (.iinc 4 1, 3) := by decide +kernel
theorem dX8_loadBlock_65 : decode cX8_loadBlock 65 = .ok (.goto (-62), 3) := by decide +kernel
theorem dX8_loadBlock_68 : decode cX8_loadBlock 68 = .ok (.bipush 16, 2) := by decide +kernel
theorem dX8_loadBlock_70 : decode cX8_loadBlock 70 = .ok (.istore 4, 2) := by decide +kernel
theorem dX8_loadBlock_72 : decode cX8_loadBlock 72 = .ok (.iload 4, 2) := by decide +kernel
theorem dX8_loadBlock_74 : decode cX8_loadBlock 74 = .ok (.bipush 80, 2) := by decide +kernel
theorem dX8_loadBlock_76 : decode cX8_loadBlock 76 = .ok (.if_icmp .ge 64, 3) := by decide +kernel
theorem dX8_loadBlock_79 : decode cX8_loadBlock 79 = .ok (.aload_n 0, 1) := by decide +kernel
theorem dX8_loadBlock_80 : decode cX8_loadBlock 80 = .ok (.getfield 13, 3) := by decide +kernel
theorem dX8_loadBlock_83 : decode cX8_loadBlock 83 = .ok (.iload 4, 2) := by decide +kernel
theorem dX8_loadBlock_85 : decode cX8_loadBlock 85 = .ok (.aload_n 0, 1) := by decide +kernel
theorem dX8_loadBlock_86 : decode cX8_loadBlock 86 = .ok (.getfield 13, 3) := by decide +kernel
theorem dX8_loadBlock_89 : decode cX8_loadBlock 89 = .ok (.iload 4, 2) := by decide +kernel
theorem dX8_loadBlock_91 : decode cX8_loadBlock 91 = .ok (.bipush 16, 2) := by decide +kernel
theorem dX8_loadBlock_93 : decode cX8_loadBlock 93 = .ok (.isub, 1) := by decide +kernel
theorem dX8_loadBlock_94 : decode cX8_loadBlock 94 = .ok (.laload, 1) := by decide +kernel
theorem dX8_loadBlock_95 : decode cX8_loadBlock 95 = .ok (.aload_n 0, 1) := by decide +kernel
theorem dX8_loadBlock_96 : decode cX8_loadBlock 96 = .ok (.getfield 13, 3) := by decide +kernel
theorem dX8_loadBlock_99 : decode cX8_loadBlock 99 = .ok (.iload 4, 2) := by decide +kernel
theorem dX8_loadBlock_101 : decode cX8_loadBlock 101 = .ok (.bipush 15, 2) := by decide +kernel
theorem dX8_loadBlock_103 : decode cX8_loadBlock 103 = .ok (.isub, 1) := by decide +kernel
theorem dX8_loadBlock_104 : decode cX8_loadBlock 104 = .ok (.laload, 1) := by decide +kernel
theorem dX8_loadBlock_105 : decode cX8_loadBlock 105 = .ok (.invokestatic 42, 3) := by decide +kernel
theorem dX8_loadBlock_108 : decode cX8_loadBlock 108 = .ok (.ladd, 1) := by decide +kernel
theorem dX8_loadBlock_109 : decode cX8_loadBlock 109 = .ok (.aload_n 0, 1) := by decide +kernel
theorem dX8_loadBlock_110 : decode cX8_loadBlock 110 = .ok (.getfield 13, 3) := by decide +kernel
theorem dX8_loadBlock_113 : decode cX8_loadBlock 113 = .ok (.iload 4, 2) := by decide +kernel
theorem dX8_loadBlock_115 : decode cX8_loadBlock 115 = .ok (.bipush 7, 2) := by decide +kernel
theorem dX8_loadBlock_117 : decode cX8_loadBlock 117 = .ok (.isub, 1) := by decide +kernel
theorem dX8_loadBlock_118 : decode cX8_loadBlock 118 = .ok (.laload, 1) := by decide +kernel
theorem dX8_loadBlock_119 : decode cX8_loadBlock 119 = .ok (.ladd, 1) := by decide +kernel
theorem dX8_loadBlock_120 : decode cX8_loadBlock 120 = .ok (.aload_n 0, 1) := by decide +kernel
theorem dX8_loadBlock_121 : decode cX8_loadBlock 121 = .ok (.getfield 13, 3) := by decide +kernel
theorem dX8_loadBlock_124 : decode cX8_loadBlock 124 = .ok (.iload 4, 2) := by decide +kernel
theorem dX8_loadBlock_126 : decode cX8_loadBlock 126 = .ok (.iconst 2, 1) := by decide +kernel
theorem dX8_loadBlock_127 : decode cX8_loadBlock 127 = .ok (.isub, 1) := by decide +kernel
theorem dX8_loadBlock_128 : decode cX8_loadBlock 128 = .ok (.laload, 1) := by decide +kernel
theorem dX8_loadBlock_129 : decode cX8_loadBlock 129 = .ok (.invokestatic 46, 3) := by decide +kernel
theorem dX8_loadBlock_132 : decode cX8_loadBlock 132 = .ok (.ladd, 1) := by decide +kernel
theorem dX8_loadBlock_133 : decode cX8_loadBlock 133 = .ok (.lastore, 1) := by decide +kernel
theorem dX8_loadBlock_134 : decode cX8_loadBlock 134 = .ok (.iinc 4 1, 3) := by decide +kernel
theorem dX8_loadBlock_137 : decode cX8_loadBlock 137 = .ok (.goto (-65), 3) := by decide +kernel
theorem dX8_loadBlock_140 : decode cX8_loadBlock 140 = .ok (.return_, 1) := by decide +kernel
theorem dX8_paddedByte_0 : decode cX8_paddedByte 0 = .ok (.iload_n 1, 1) := by decide +kernel
theorem dX8_paddedByte_1 : decode cX8_paddedByte 1 = .ok (.aload_n 0, 1) := by decide +kernel
theorem dX8_paddedByte_2 : decode cX8_paddedByte 2 = .ok (.getfield 25, 3) := by decide +kernel
theorem dX8_paddedByte_5 : decode cX8_paddedByte 5 = .ok (.if_icmp .ge 10, 3) := by decide +kernel
theorem dX8_paddedByte_8 : decode cX8_paddedByte 8 = .ok (.aload_n 0, 1) := by decide +kernel
theorem dX8_paddedByte_9 : decode cX8_paddedByte 9 = .ok (.getfield 49, 3) := by decide +kernel
theorem dX8_paddedByte_12 : decode cX8_paddedByte 12 = .ok (.iload_n 1, 1) := by decide +kernel
theorem dX8_paddedByte_13 : decode cX8_paddedByte 13 = .ok (.iaload, 1) := by decide +kernel
theorem dX8_paddedByte_14 : decode cX8_paddedByte 14 = .ok (.ireturn, 1) := by decide +kernel
theorem dX8_paddedByte_15 : decode cX8_paddedByte 15 = .ok (.iload_n 1, 1) := by decide +kernel
theorem dX8_paddedByte_16 : decode cX8_paddedByte 16 = .ok (.aload_n 0, 1) := by decide +kernel
theorem dX8_paddedByte_17 : decode cX8_paddedByte 17 = .ok (.getfield 25, 3) := by decide +kernel
theorem dX8_paddedByte_20 : decode cX8_paddedByte 20 = .ok (.if_icmp .ne 7, 3) := by decide +kernel
theorem dX8_paddedByte_23 : decode cX8_paddedByte 23 = .ok (.sipush 128, 3) := by decide +kernel
theorem dX8_paddedByte_26 : decode cX8_paddedByte 26 = .ok (.ireturn, 1) := by decide +kernel
theorem dX8_paddedByte_27 : decode cX8_paddedByte 27 = .ok (.iload_n 2, 1) := by decide +kernel
theorem dX8_paddedByte_28 : decode cX8_paddedByte 28 = .ok (.iload_n 1, 1) := by decide +kernel
theorem dX8_paddedByte_29 : decode cX8_paddedByte 29 = .ok (.isub, 1) := by decide +kernel
theorem dX8_paddedByte_30 : decode cX8_paddedByte 30 = .ok (.istore_n 3, 1) := by decide +kernel
theorem dX8_paddedByte_31 : decode cX8_paddedByte 31 = .ok (.iload_n 3, 1) := by decide +kernel
theorem dX8_paddedByte_32 : decode cX8_paddedByte 32 = .ok (.iconst 1, 1) := by decide +kernel
theorem dX8_paddedByte_33 : decode cX8_paddedByte 33 = .ok (.if_icmp .ne 17, 3) := by decide +kernel
theorem dX8_paddedByte_36 : decode cX8_paddedByte 36 = .ok (.bipush 8, 2) := by decide +kernel
theorem dX8_paddedByte_38 : decode cX8_paddedByte 38 = .ok (.aload_n 0, 1) := by decide +kernel
theorem dX8_paddedByte_39 : decode cX8_paddedByte 39 = .ok (.getfield 25, 3) := by decide +kernel
theorem dX8_paddedByte_42 : decode cX8_paddedByte 42 = .ok (.imul, 1) := by decide +kernel
theorem dX8_paddedByte_43 : decode cX8_paddedByte 43 = .ok (.sipush 255, 3) := by decide +kernel
theorem dX8_paddedByte_46 : decode cX8_paddedByte 46 = .ok (.iand, 1) := by decide +kernel
theorem dX8_paddedByte_47 : decode cX8_paddedByte 47 = .ok (.goto 26, 3) := by decide +kernel
theorem dX8_paddedByte_50 : decode cX8_paddedByte 50 = .ok (.iload_n 3, 1) := by decide +kernel
theorem dX8_paddedByte_51 : decode cX8_paddedByte 51 = .ok (.iconst 2, 1) := by decide +kernel
theorem dX8_paddedByte_52 : decode cX8_paddedByte 52 = .ok (.if_icmp .ne 20, 3) := by decide +kernel
theorem dX8_paddedByte_55 : decode cX8_paddedByte 55 = .ok (.bipush 8, 2) := by decide +kernel
theorem dX8_paddedByte_57 : decode cX8_paddedByte 57 = .ok (.aload_n 0, 1) := by decide +kernel
theorem dX8_paddedByte_58 : decode cX8_paddedByte 58 = .ok (.getfield 25, 3) := by decide +kernel
theorem dX8_paddedByte_61 : decode cX8_paddedByte 61 = .ok (.imul, 1) := by decide +kernel
theorem dX8_paddedByte_62 : decode cX8_paddedByte 62 = .ok (.bipush 8, 2) := by decide +kernel
theorem dX8_paddedByte_64 : decode cX8_paddedByte 64 = .ok (.ishr, 1) := by decide +kernel
theorem dX8_paddedByte_65 : decode cX8_paddedByte 65 = .ok (.sipush 255, 3) := by decide +kernel
theorem dX8_paddedByte_68 : decode cX8_paddedByte 68 = .ok (.iand, 1) := by decide +kernel
theorem dX8_paddedByte_69 : decode cX8_paddedByte 69 = .ok (.goto 4, 3) := by decide +kernel
theorem dX8_paddedByte_72 : decode cX8_paddedByte 72 = .ok (.iconst 0, 1) := by decide +kernel
theorem dX8_paddedByte_73 : decode cX8_paddedByte 73 = .ok (.ireturn, 1) := by decide +kernel
theorem dX8_compress_0 : decode cX8_compress 0 = .ok (.aload_n 0, 1) := by decide +kernel
theorem dX8_compress_1 : decode cX8_compress 1 = .ok (.getfield 7, 3) := by decide +kernel
theorem dX8_compress_4 : decode cX8_compress 4 = .ok (.iconst 0, 1) := by decide +kernel
theorem dX8_compress_5 : decode cX8_compress 5 = .ok (.laload, 1) := by decide +kernel
theorem dX8_compress_6 : decode cX8_compress 6 = .ok (.lstore_n 1, 1) := by decide +kernel
theorem dX8_compress_7 : decode cX8_compress 7 = .ok (.aload_n 0, 1) := by decide +kernel
theorem dX8_compress_8 : decode cX8_compress 8 = .ok (.getfield 7, 3) := by decide +kernel
theorem dX8_compress_11 : decode cX8_compress 11 = .ok (.iconst 1, 1) := by decide +kernel
theorem dX8_compress_12 : decode cX8_compress 12 = .ok (.laload, 1) := by decide +kernel
theorem dX8_compress_13 : decode cX8_compress 13 = .ok (.lstore_n 3, 1) := by decide +kernel
theorem dX8_compress_14 : decode cX8_compress 14 = .ok (.aload_n 0, 1) := by decide +kernel
theorem dX8_compress_15 : decode cX8_compress 15 = .ok (.getfield 7, 3) := by decide +kernel
theorem dX8_compress_18 : decode cX8_compress 18 = .ok (.iconst 2, 1) := by decide +kernel
theorem dX8_compress_19 : decode cX8_compress 19 = .ok (.laload, 1) := by decide +kernel
theorem dX8_compress_20 : decode cX8_compress 20 = .ok (.lstore 5, 2) := by decide +kernel
theorem dX8_compress_22 : decode cX8_compress 22 = .ok (.aload_n 0, 1) := by decide +kernel
theorem dX8_compress_23 : decode cX8_compress 23 = .ok (.getfield 7, 3) := by decide +kernel
theorem dX8_compress_26 : decode cX8_compress 26 = .ok (.iconst 3, 1) := by decide +kernel
theorem dX8_compress_27 : decode cX8_compress 27 = .ok (.laload, 1) := by decide +kernel
theorem dX8_compress_28 : decode cX8_compress 28 = .ok (.lstore 7, 2) := by decide +kernel
theorem dX8_compress_30 : decode cX8_compress 30 = .ok (.aload_n 0, 1) := by decide +kernel
theorem dX8_compress_31 : decode cX8_compress 31 = .ok (.getfield 7, 3) := by decide +kernel
theorem dX8_compress_34 : decode cX8_compress 34 = .ok (.iconst 4, 1) := by decide +kernel
theorem dX8_compress_35 : decode cX8_compress 35 = .ok (.laload, 1) := by decide +kernel
theorem dX8_compress_36 : decode cX8_compress 36 = .ok (.lstore 9, 2) := by decide +kernel
theorem dX8_compress_38 : decode cX8_compress 38 = .ok (.aload_n 0, 1) := by decide +kernel
theorem dX8_compress_39 : decode cX8_compress 39 = .ok (.getfield 7, 3) := by decide +kernel
theorem dX8_compress_42 : decode cX8_compress 42 = .ok (.iconst 5, 1) := by decide +kernel
theorem dX8_compress_43 : decode cX8_compress 43 = .ok (.laload, 1) := by decide +kernel
theorem dX8_compress_44 : decode cX8_compress 44 = .ok (.lstore 11, 2) := by decide +kernel
theorem dX8_compress_46 : decode cX8_compress 46 = .ok (.aload_n 0, 1) := by decide +kernel
theorem dX8_compress_47 : decode cX8_compress 47 = .ok (.getfield 7, 3) := by decide +kernel
theorem dX8_compress_50 : decode cX8_compress 50 = .ok (.bipush 6, 2) := by decide +kernel
theorem dX8_compress_52 : decode cX8_compress 52 = .ok (.laload, 1) := by decide +kernel
theorem dX8_compress_53 : decode cX8_compress 53 = .ok (.lstore 13, 2) := by decide +kernel
theorem dX8_compress_55 : decode cX8_compress 55 = .ok (.aload_n 0, 1) := by decide +kernel
theorem dX8_compress_56 : decode cX8_compress 56 = .ok (.getfield 7, 3) := by decide +kernel
theorem dX8_compress_59 : decode cX8_compress 59 = .ok (.bipush 7, 2) := by decide +kernel
theorem dX8_compress_61 : decode cX8_compress 61 = .ok (.laload, 1) := by decide +kernel
theorem dX8_compress_62 : decode cX8_compress 62 = .ok (.lstore 15, 2) := by decide +kernel
theorem dX8_compress_64 : decode cX8_compress 64 = .ok (.iconst 0, 1) := by decide +kernel
theorem dX8_compress_65 : decode cX8_compress 65 = .ok (.istore 17, 2) := by decide +kernel
theorem dX8_compress_67 : decode cX8_compress 67 = .ok (.iload 17, 2) := by decide +kernel
theorem dX8_compress_69 : decode cX8_compress 69 = .ok (.bipush 80, 2) := by decide +kernel
theorem dX8_compress_71 : decode cX8_compress 71 = .ok (.if_icmp .ge 104, 3) := by decide +kernel
theorem dX8_compress_74 : decode cX8_compress 74 = .ok (.lload 15, 2) := by decide +kernel
theorem dX8_compress_76 : decode cX8_compress 76 = .ok (.lload 9, 2) := by decide +kernel
theorem dX8_compress_78 : decode cX8_compress 78 = .ok (.invokestatic 53, 3) := by decide +kernel
theorem dX8_compress_81 : decode cX8_compress 81 = .ok (.ladd, 1) := by decide +kernel
theorem dX8_compress_82 : decode cX8_compress 82 = .ok (.lload 9, 2) := by decide +kernel
theorem dX8_compress_84 : decode cX8_compress 84 = .ok (.lload 11, 2) := by decide +kernel
theorem dX8_compress_86 : decode cX8_compress 86 = .ok (.land, 1) := by decide +kernel
theorem dX8_compress_87 : decode cX8_compress 87 = .ok (.lload 9, 2) := by decide +kernel
theorem dX8_compress_89 : decode cX8_compress 89 = .ok (.ldc2_w 56, 3) := by decide +kernel
theorem dX8_compress_92 : decode cX8_compress 92 = .ok (.lxor, 1) := by decide +kernel
theorem dX8_compress_93 : decode cX8_compress 93 = .ok (.lload 13, 2) := by decide +kernel
theorem dX8_compress_95 : decode cX8_compress 95 = .ok (.land, 1) := by decide +kernel
theorem dX8_compress_96 : decode cX8_compress 96 = .ok (.lxor, 1) := by decide +kernel
theorem dX8_compress_97 : decode cX8_compress 97 = .ok (.ladd, 1) := by decide +kernel
theorem dX8_compress_98 : decode cX8_compress 98 = .ok (.getstatic 58, 3) := by decide +kernel
theorem dX8_compress_101 : decode cX8_compress 101 = .ok (.iload 17, 2) := by decide +kernel
theorem dX8_compress_103 : decode cX8_compress 103 = .ok (.laload, 1) := by decide +kernel
theorem dX8_compress_104 : decode cX8_compress 104 = .ok (.ladd, 1) := by decide +kernel
theorem dX8_compress_105 : decode cX8_compress 105 = .ok (.aload_n 0, 1) := by decide +kernel
theorem dX8_compress_106 : decode cX8_compress 106 = .ok (.getfield 13, 3) := by decide +kernel
theorem dX8_compress_109 : decode cX8_compress 109 = .ok (.iload 17, 2) := by decide +kernel
theorem dX8_compress_111 : decode cX8_compress 111 = .ok (.laload, 1) := by decide +kernel
theorem dX8_compress_112 : decode cX8_compress 112 = .ok (.ladd, 1) := by decide +kernel
theorem dX8_compress_113 : decode cX8_compress 113 = .ok (.lstore 18, 2) := by decide +kernel
theorem dX8_compress_115 : decode cX8_compress 115 = .ok (.lload_n 1, 1) := by decide +kernel
theorem dX8_compress_116 : decode cX8_compress 116 = .ok (.invokestatic 61, 3) := by decide +kernel
theorem dX8_compress_119 : decode cX8_compress 119 = .ok (.lload_n 1, 1) := by decide +kernel
theorem dX8_compress_120 : decode cX8_compress 120 = .ok (.lload_n 3, 1) := by decide +kernel
theorem dX8_compress_121 : decode cX8_compress 121 = .ok (.land, 1) := by decide +kernel
theorem dX8_compress_122 : decode cX8_compress 122 = .ok (.lload_n 1, 1) := by decide +kernel
theorem dX8_compress_123 : decode cX8_compress 123 = .ok (.lload 5, 2) := by decide +kernel
theorem dX8_compress_125 : decode cX8_compress 125 = .ok (.land, 1) := by decide +kernel
theorem dX8_compress_126 : decode cX8_compress 126 = .ok (.lxor, 1) := by decide +kernel
theorem dX8_compress_127 : decode cX8_compress 127 = .ok (.lload_n 3, 1) := by decide +kernel
theorem dX8_compress_128 : decode cX8_compress 128 = .ok (.lload 5, 2) := by decide +kernel
theorem dX8_compress_130 : decode cX8_compress 130 = .ok (.land, 1) := by decide +kernel
theorem dX8_compress_131 : decode cX8_compress 131 = .ok (.lxor, 1) := by decide +kernel
theorem dX8_compress_132 : decode cX8_compress 132 = .ok (.ladd, 1) := by decide +kernel
theorem dX8_compress_133 : decode cX8_compress 133 = .ok (.lstore 20, 2) := by decide +kernel
theorem dX8_compress_135 : decode cX8_compress 135 = .ok (.lload 13, 2) := by decide +kernel
theorem dX8_compress_137 : decode cX8_compress 137 = .ok (.lstore 15, 2) := by decide +kernel
theorem dX8_compress_139 : decode cX8_compress 139 = .ok (.lload 11, 2) := by decide +kernel
theorem dX8_compress_141 : decode cX8_compress 141 = .ok (.lstore 13, 2) := by decide +kernel
theorem dX8_compress_143 : decode cX8_compress 143 = .ok (.lload 9, 2) := by decide +kernel
theorem dX8_compress_145 : decode cX8_compress 145 = .ok (.lstore 11, 2) := by decide +kernel
theorem dX8_compress_147 : decode cX8_compress 147 = .ok (.lload 7, 2) := by decide +kernel
theorem dX8_compress_149 : decode cX8_compress 149 = .ok (.lload 18, 2) := by decide +kernel
theorem dX8_compress_151 : decode cX8_compress 151 = .ok (.ladd, 1) := by decide +kernel
theorem dX8_compress_152 : decode cX8_compress 152 = .ok (.lstore 9, 2) := by decide +kernel
theorem dX8_compress_154 : decode cX8_compress 154 = .ok (.lload 5, 2) := by decide +kernel
theorem dX8_compress_156 : decode cX8_compress 156 = .ok (.lstore 7, 2) := by decide +kernel
theorem dX8_compress_158 : decode cX8_compress 158 = .ok (.lload_n 3, 1) := by decide +kernel
theorem dX8_compress_159 : decode cX8_compress 159 = .ok (.lstore 5, 2) := by decide +kernel
theorem dX8_compress_161 : decode cX8_compress 161 = .ok (.lload_n 1, 1) := by decide +kernel
theorem dX8_compress_162 : decode cX8_compress 162 = .ok (.lstore_n 3, 1) := by decide +kernel
theorem dX8_compress_163 : decode cX8_compress 163 = .ok (.lload 18, 2) := by decide +kernel
theorem dX8_compress_165 : decode cX8_compress 165 = .ok (.lload 20, 2) := by decide +kernel
theorem dX8_compress_167 : decode cX8_compress 167 = .ok (.ladd, 1) := by decide +kernel
theorem dX8_compress_168 : decode cX8_compress 168 = .ok (.lstore_n 1, 1) := by decide +kernel
theorem dX8_compress_169 : decode cX8_compress 169 = .ok (.iinc 17 1, 3) := by decide +kernel
theorem dX8_compress_172 : decode cX8_compress 172 = .ok (.goto (-105), 3) := by decide +kernel
theorem dX8_compress_175 : decode cX8_compress 175 = .ok (.aload_n 0, 1) := by decide +kernel
theorem dX8_compress_176 : decode cX8_compress 176 = .ok (.getfield 7, 3) := by decide +kernel
theorem dX8_compress_179 : decode cX8_compress 179 = .ok (.iconst 0, 1) := by decide +kernel
theorem dX8_compress_180 : decode cX8_compress 180 = .ok (.dup2, 1) := by decide +kernel
theorem dX8_compress_181 : decode cX8_compress 181 = .ok (.laload, 1) := by decide +kernel
theorem dX8_compress_182 : decode cX8_compress 182 = .ok (.lload_n 1, 1) := by decide +kernel
theorem dX8_compress_183 : decode cX8_compress 183 = .ok (.ladd, 1) := by decide +kernel
theorem dX8_compress_184 : decode cX8_compress 184 = .ok (.lastore, 1) := by decide +kernel
theorem dX8_compress_185 : decode cX8_compress 185 = .ok (.aload_n 0, 1) := by decide +kernel
theorem dX8_compress_186 : decode cX8_compress 186 = .ok (.getfield 7, 3) := by decide +kernel
theorem dX8_compress_189 : decode cX8_compress 189 = .ok (.iconst 1, 1) := by decide +kernel
theorem dX8_compress_190 : decode cX8_compress 190 = .ok (.dup2, 1) := by decide +kernel
theorem dX8_compress_191 : decode cX8_compress 191 = .ok (.laload, 1) := by decide +kernel
theorem dX8_compress_192 : decode cX8_compress 192 = .ok (.lload_n 3, 1) := by decide +kernel
theorem dX8_compress_193 : decode cX8_compress 193 = .ok (.ladd, 1) := by decide +kernel
theorem dX8_compress_194 : decode cX8_compress 194 = .ok (.lastore, 1) := by decide +kernel
theorem dX8_compress_195 : decode cX8_compress 195 = .ok (.aload_n 0, 1) := by decide +kernel
theorem dX8_compress_196 : decode cX8_compress 196 = .ok (.getfield 7, 3) := by decide +kernel
theorem dX8_compress_199 : decode cX8_compress 199 = .ok (.iconst 2, 1) := by decide +kernel
theorem dX8_compress_200 : decode cX8_compress 200 = .ok (.dup2, 1) := by decide +kernel
theorem dX8_compress_201 : decode cX8_compress 201 = .ok (.laload, 1) := by decide +kernel
theorem dX8_compress_202 : decode cX8_compress 202 = .ok (.lload 5, 2) := by decide +kernel
theorem dX8_compress_204 : decode cX8_compress 204 = .ok (.ladd, 1) := by decide +kernel
theorem dX8_compress_205 : decode cX8_compress 205 = .ok (.lastore, 1) := by decide +kernel
theorem dX8_compress_206 : decode cX8_compress 206 = .ok (.aload_n 0, 1) := by decide +kernel
theorem dX8_compress_207 : decode cX8_compress 207 = .ok (.getfield 7, 3) := by decide +kernel
theorem dX8_compress_210 : decode cX8_compress 210 = .ok (.iconst 3, 1) := by decide +kernel
theorem dX8_compress_211 : decode cX8_compress 211 = .ok (.dup2, 1) := by decide +kernel
theorem dX8_compress_212 : decode cX8_compress 212 = .ok (.laload, 1) := by decide +kernel
theorem dX8_compress_213 : decode cX8_compress 213 = .ok (.lload 7, 2) := by decide +kernel
theorem dX8_compress_215 : decode cX8_compress 215 = .ok (.ladd, 1) := by decide +kernel
theorem dX8_compress_216 : decode cX8_compress 216 = .ok (.lastore, 1) := by decide +kernel
theorem dX8_compress_217 : decode cX8_compress 217 = .ok (.aload_n 0, 1) := by decide +kernel
theorem dX8_compress_218 : decode cX8_compress 218 = .ok (.getfield 7, 3) := by decide +kernel
theorem dX8_compress_221 : decode cX8_compress 221 = .ok (.iconst 4, 1) := by decide +kernel
theorem dX8_compress_222 : decode cX8_compress 222 = .ok (.dup2, 1) := by decide +kernel
theorem dX8_compress_223 : decode cX8_compress 223 = .ok (.laload, 1) := by decide +kernel
theorem dX8_compress_224 : decode cX8_compress 224 = .ok (.lload 9, 2) := by decide +kernel
theorem dX8_compress_226 : decode cX8_compress 226 = .ok (.ladd, 1) := by decide +kernel
theorem dX8_compress_227 : decode cX8_compress 227 = .ok (.lastore, 1) := by decide +kernel
theorem dX8_compress_228 : decode cX8_compress 228 = .ok (.aload_n 0, 1) := by decide +kernel
theorem dX8_compress_229 : decode cX8_compress 229 = .ok (.getfield 7, 3) := by decide +kernel
theorem dX8_compress_232 : decode cX8_compress 232 = .ok (.iconst 5, 1) := by decide +kernel
theorem dX8_compress_233 : decode cX8_compress 233 = .ok (.dup2, 1) := by decide +kernel
theorem dX8_compress_234 : decode cX8_compress 234 = .ok (.laload, 1) := by decide +kernel
theorem dX8_compress_235 : decode cX8_compress 235 = .ok (.lload 11, 2) := by decide +kernel
theorem dX8_compress_237 : decode cX8_compress 237 = .ok (.ladd, 1) := by decide +kernel
theorem dX8_compress_238 : decode cX8_compress 238 = .ok (.lastore, 1) := by decide +kernel
theorem dX8_compress_239 : decode cX8_compress 239 = .ok (.aload_n 0, 1) := by decide +kernel
theorem dX8_compress_240 : decode cX8_compress 240 = .ok (.getfield 7, 3) := by decide +kernel
theorem dX8_compress_243 : decode cX8_compress 243 = .ok (.bipush 6, 2) := by decide +kernel
theorem dX8_compress_245 : decode cX8_compress 245 = .ok (.dup2, 1) := by decide +kernel
theorem dX8_compress_246 : decode cX8_compress 246 = .ok (.laload, 1) := by decide +kernel
theorem dX8_compress_247 : decode cX8_compress 247 = .ok (.lload 13, 2) := by decide +kernel
theorem dX8_compress_249 : decode cX8_compress 249 = .ok (.ladd, 1) := by decide +kernel
theorem dX8_compress_250 : decode cX8_compress 250 = .ok (.lastore, 1) := by decide +kernel
theorem dX8_compress_251 : decode cX8_compress 251 = .ok (.aload_n 0, 1) := by decide +kernel
theorem dX8_compress_252 : decode cX8_compress 252 = .ok (.getfield 7, 3) := by decide +kernel
theorem dX8_compress_255 : decode cX8_compress 255 = .ok (.bipush 7, 2) := by decide +kernel
theorem dX8_compress_257 : decode cX8_compress 257 = .ok (.dup2, 1) := by decide +kernel
theorem dX8_compress_258 : decode cX8_compress 258 = .ok (.laload, 1) := by decide +kernel
theorem dX8_compress_259 : decode cX8_compress 259 = .ok (.lload 15, 2) := by decide +kernel
theorem dX8_compress_261 : decode cX8_compress 261 = .ok (.ladd, 1) := by decide +kernel
theorem dX8_compress_262 : decode cX8_compress 262 = .ok (.lastore, 1) := by decide +kernel
theorem dX8_compress_263 : decode cX8_compress 263 = .ok (.return_, 1) := by decide +kernel
theorem dX8_bigSigma0_0 : decode cX8_bigSigma0 0 = .ok (.lload_n 0, 1) := by decide +kernel
theorem dX8_bigSigma0_1 : decode cX8_bigSigma0 1 = .ok (.bipush 28, 2) := by decide +kernel
theorem dX8_bigSigma0_3 : decode cX8_bigSigma0 3 = .ok (.invokestatic 64, 3) := by decide +kernel
theorem dX8_bigSigma0_6 : decode cX8_bigSigma0 6 = .ok (.lload_n 0, 1) := by decide +kernel
theorem dX8_bigSigma0_7 : decode cX8_bigSigma0 7 = .ok (.bipush 34, 2) := by decide +kernel
theorem dX8_bigSigma0_9 : decode cX8_bigSigma0 9 = .ok (.invokestatic 64, 3) := by decide +kernel
theorem dX8_bigSigma0_12 : decode cX8_bigSigma0 12 = .ok (.lxor, 1) := by decide +kernel
theorem dX8_bigSigma0_13 : decode cX8_bigSigma0 13 = .ok (.lload_n 0, 1) := by decide +kernel
theorem dX8_bigSigma0_14 : decode cX8_bigSigma0 14 = .ok (.bipush 39, 2) := by decide +kernel
theorem dX8_bigSigma0_16 : decode cX8_bigSigma0 16 = .ok (.invokestatic 64, 3) := by decide +kernel
theorem dX8_bigSigma0_19 : decode cX8_bigSigma0 19 = .ok (.lxor, 1) := by decide +kernel
theorem dX8_bigSigma0_20 : decode cX8_bigSigma0 20 = .ok (.lreturn, 1) := by decide +kernel
theorem dX8_bigSigma1_0 : decode cX8_bigSigma1 0 = .ok (.lload_n 0, 1) := by decide +kernel
theorem dX8_bigSigma1_1 : decode cX8_bigSigma1 1 = .ok (.bipush 14, 2) := by decide +kernel
theorem dX8_bigSigma1_3 : decode cX8_bigSigma1 3 = .ok (.invokestatic 64, 3) := by decide +kernel
theorem dX8_bigSigma1_6 : decode cX8_bigSigma1 6 = .ok (.lload_n 0, 1) := by decide +kernel
theorem dX8_bigSigma1_7 : decode cX8_bigSigma1 7 = .ok (.bipush 18, 2) := by decide +kernel
theorem dX8_bigSigma1_9 : decode cX8_bigSigma1 9 = .ok (.invokestatic 64, 3) := by decide +kernel
theorem dX8_bigSigma1_12 : decode cX8_bigSigma1 12 = .ok (.lxor, 1) := by decide +kernel
theorem dX8_bigSigma1_13 : decode cX8_bigSigma1 13 = .ok (.lload_n 0, 1) := by decide +kernel
theorem dX8_bigSigma1_14 : decode cX8_bigSigma1 14 = .ok (.bipush 41, 2) := by decide +kernel
theorem dX8_bigSigma1_16 : decode cX8_bigSigma1 16 = .ok (.invokestatic 64, 3) := by decide +kernel
theorem dX8_bigSigma1_19 : decode cX8_bigSigma1 19 = .ok (.lxor, 1) := by decide +kernel
theorem dX8_bigSigma1_20 : decode cX8_bigSigma1 20 = .ok (.lreturn, 1) := by decide +kernel
theorem dX8_smallSigma0_0 : decode cX8_smallSigma0 0 = .ok (.lload_n 0, 1) := by decide +kernel
theorem dX8_smallSigma0_1 : decode cX8_smallSigma0 1 = .ok (.iconst 1, 1) := by decide +kernel
theorem dX8_smallSigma0_2 : decode cX8_smallSigma0 2 = .ok (.invokestatic 64, 3) := by decide +kernel
theorem dX8_smallSigma0_5 : decode cX8_smallSigma0 5 = .ok (.lload_n 0, 1) := by decide +kernel
theorem dX8_smallSigma0_6 : decode cX8_smallSigma0 6 = .ok (.bipush 8, 2) := by decide +kernel
theorem dX8_smallSigma0_8 : decode cX8_smallSigma0 8 = .ok (.invokestatic 64, 3) := by decide +kernel
theorem dX8_smallSigma0_11 : decode cX8_smallSigma0 11 = .ok (.lxor, 1) := by decide +kernel
theorem dX8_smallSigma0_12 : decode cX8_smallSigma0 12 = .ok (.lload_n 0, 1) := by decide +kernel
theorem dX8_smallSigma0_13 : decode cX8_smallSigma0 13 = .ok (.bipush 7, 2) := by decide +kernel
theorem dX8_smallSigma0_15 : decode cX8_smallSigma0 15 = .ok (.lushr, 1) := by decide +kernel
theorem dX8_smallSigma0_16 : decode cX8_smallSigma0 16 = .ok (.lxor, 1) := by decide +kernel
theorem dX8_smallSigma0_17 : decode cX8_smallSigma0 17 = .ok (.lreturn, 1) := by decide +kernel
theorem dX8_smallSigma1_0 : decode cX8_smallSigma1 0 = .ok (.lload_n 0, 1) := by decide +kernel
theorem dX8_smallSigma1_1 : decode cX8_smallSigma1 1 = .ok (.bipush 19, 2) := by decide +kernel
theorem dX8_smallSigma1_3 : decode cX8_smallSigma1 3 = .ok (.invokestatic 64, 3) := by decide +kernel
theorem dX8_smallSigma1_6 : decode cX8_smallSigma1 6 = .ok (.lload_n 0, 1) := by decide +kernel
theorem dX8_smallSigma1_7 : decode cX8_smallSigma1 7 = .ok (.bipush 61, 2) := by decide +kernel
theorem dX8_smallSigma1_9 : decode cX8_smallSigma1 9 = .ok (.invokestatic 64, 3) := by decide +kernel
theorem dX8_smallSigma1_12 : decode cX8_smallSigma1 12 = .ok (.lxor, 1) := by decide +kernel
theorem dX8_smallSigma1_13 : decode cX8_smallSigma1 13 = .ok (.lload_n 0, 1) := by decide +kernel
theorem dX8_smallSigma1_14 : decode cX8_smallSigma1 14 = .ok (.bipush 6, 2) := by decide +kernel
theorem dX8_smallSigma1_16 : decode cX8_smallSigma1 16 = .ok (.lushr, 1) := by decide +kernel
theorem dX8_smallSigma1_17 : decode cX8_smallSigma1 17 = .ok (.lxor, 1) := by decide +kernel
theorem dX8_smallSigma1_18 : decode cX8_smallSigma1 18 = .ok (.lreturn, 1) := by decide +kernel
theorem dX8_turn_0 : decode cX8_turn 0 = .ok (.lload_n 0, 1) := by decide +kernel
theorem dX8_turn_1 : decode cX8_turn 1 = .ok (.iload_n 2, 1) := by decide +kernel
theorem dX8_turn_2 : decode cX8_turn 2 = .ok (.lushr, 1) := by decide +kernel
theorem dX8_turn_3 : decode cX8_turn 3 = .ok (.lload_n 0, 1) := by decide +kernel
theorem dX8_turn_4 : decode cX8_turn 4 = .ok (.bipush 64, 2) := by decide +kernel
theorem dX8_turn_6 : decode cX8_turn 6 = .ok (.iload_n 2, 1) := by decide +kernel
theorem dX8_turn_7 : decode cX8_turn 7 = .ok (.isub, 1) := by decide +kernel
theorem dX8_turn_8 : decode cX8_turn 8 = .ok (.lshl, 1) := by decide +kernel
theorem dX8_turn_9 : decode cX8_turn 9 = .ok (.lor, 1) := by decide +kernel
theorem dX8_turn_10 : decode cX8_turn 10 = .ok (.lreturn, 1) := by decide +kernel
theorem dX9_init_0 : decode cX9_init 0 = .ok (.aload_n 0, 1) := by decide +kernel
theorem dX9_init_1 : decode cX9_init 1 = .ok (.invokespecial 1, 3) := by decide +kernel
theorem dX9_init_4 : decode cX9_init 4 = .ok (.aload_n 0, 1) := by decide +kernel
theorem dX9_init_5 : decode cX9_init 5 = .ok (.bipush 25, 2) := by decide +kernel
theorem dX9_init_7 : decode cX9_init 7 = .ok (.newarray .long, 2) := by decide +kernel
theorem dX9_init_9 : decode cX9_init 9 = .ok (.putfield 7, 3) := by decide +kernel
theorem dX9_init_12 : decode cX9_init 12 = .ok (.aload_n 0, 1) := by decide +kernel
theorem dX9_init_13 : decode cX9_init 13 = .ok (.iconst 5, 1) := by decide +kernel
theorem dX9_init_14 : decode cX9_init 14 = .ok (.newarray .long, 2) := by decide +kernel
theorem dX9_init_16 : decode cX9_init 16 = .ok (.putfield 13, 3) := by decide +kernel
theorem dX9_init_19 : decode cX9_init 19 = .ok (.return_, 1) := by decide +kernel
theorem dX9_digest_0 : decode cX9_digest 0 = .ok (.aload_n 0, 1) := by decide +kernel
theorem dX9_digest_1 : decode cX9_digest 1 = .ok (.getfield 7, 3) := by decide +kernel
theorem dX9_digest_4 : decode cX9_digest 4 = .ok (.lconst 0, 1) := by decide +kernel
theorem dX9_digest_5 : decode cX9_digest 5 = .ok (.invokestatic 16, 3) := by decide +kernel
theorem dX9_digest_8 : decode cX9_digest 8 = .ok (.iconst 0, 1) := by decide +kernel
theorem dX9_digest_9 : decode cX9_digest 9 = .ok (.istore 4, 2) := by decide +kernel
theorem dX9_digest_11 : decode cX9_digest 11 = .ok (.iconst 0, 1) := by decide +kernel
theorem dX9_digest_12 : decode cX9_digest 12 = .ok (.istore 5, 2) := by decide +kernel
theorem dX9_digest_14 : decode cX9_digest 14 = .ok (.iload 5, 2) := by decide +kernel
theorem dX9_digest_16 : decode cX9_digest 16 = .ok (.aload_n 2, 1) := by decide +kernel
theorem dX9_digest_17 : decode cX9_digest 17 = .ok (.getfield 22, 3) := by decide +kernel
theorem dX9_digest_20 : decode cX9_digest 20 = .ok (.if_icmp .ge 40, 3) := by decide +kernel
theorem dX9_digest_23 : decode cX9_digest 23 = .ok (.aload_n 0, 1) := by decide +kernel
theorem dX9_digest_24 : decode cX9_digest 24 = .ok (.iload 4, 2) := by decide +kernel
theorem dX9_digest_26 : decode cX9_digest 26 = .ok (.aload_n 2, 1) := by decide +kernel
theorem dX9_digest_27 : decode cX9_digest 27 = .ok (.getfield 28, 3) := by decide +kernel
theorem dX9_digest_30 : decode cX9_digest 30 = .ok (.iload 5, 2) := by decide +kernel
theorem dX9_digest_32 : decode cX9_digest 32 = .ok (.iaload, 1) := by decide +kernel
theorem dX9_digest_33 : decode cX9_digest 33 = .ok (.invokevirtual 32, 3) := by decide +kernel
theorem dX9_digest_36 : decode cX9_digest 36 = .ok (.iinc 4 1, 3) := by decide +kernel
theorem dX9_digest_39 : decode cX9_digest 39 = .ok (.iload 4, 2) := by decide +kernel
theorem dX9_digest_41 : decode cX9_digest 41 = .ok (.sipush 136, 3) := by decide +kernel
theorem dX9_digest_44 : decode cX9_digest 44 = .ok (.if_icmp .ne 10, 3) := by decide +kernel
theorem dX9_digest_47 : decode cX9_digest 47 = .ok (.aload_n 0, 1) := by decide +kernel
theorem dX9_digest_48 : decode cX9_digest 48 = .ok (.invokevirtual 36, 3) := by decide +kernel
theorem dX9_digest_51 : decode cX9_digest 51 = .ok (.iconst 0, 1) := by decide +kernel
theorem dX9_digest_52 : decode cX9_digest 52 = .ok (.istore 4, 2) := by decide +kernel
theorem dX9_digest_54 : decode cX9_digest 54 = .ok (.iinc 5 1, 3) := by decide +kernel
theorem dX9_digest_57 : decode cX9_digest 57 = .ok (.goto (-43), 3) := by decide +kernel
theorem dX9_digest_60 : decode cX9_digest 60 = .ok (.aload_n 0, 1) := by decide +kernel
theorem dX9_digest_61 : decode cX9_digest 61 = .ok (.iload 4, 2) := by decide +kernel
theorem dX9_digest_63 : decode cX9_digest 63 = .ok (.bipush 31, 2) := by decide +kernel
theorem dX9_digest_65 : decode cX9_digest 65 = .ok (.invokevirtual 32, 3) := by decide +kernel
theorem dX9_digest_68 : decode cX9_digest 68 = .ok (.aload_n 0, 1) := by decide +kernel
theorem dX9_digest_69 : decode cX9_digest 69 = .ok (.sipush 135, 3) := by decide +kernel
theorem dX9_digest_72 : decode cX9_digest 72 = .ok (.sipush 128, 3) := by decide +kernel
theorem dX9_digest_75 : decode cX9_digest 75 = .ok (.invokevirtual 32, 3) := by decide +kernel
theorem dX9_digest_78 : decode cX9_digest 78 = .ok (.aload_n 0, 1) := by decide +kernel
theorem dX9_digest_79 : decode cX9_digest 79 = .ok (.invokevirtual 36, 3) := by decide +kernel
theorem dX9_digest_82 : decode cX9_digest 82 = .ok (.iconst 0, 1) := by decide +kernel
theorem dX9_digest_83 : decode cX9_digest 83 = .ok (.istore 5, 2) := by decide +kernel
theorem dX9_digest_85 : decode cX9_digest 85 = .ok (.iload 5, 2) := by decide +kernel
theorem dX9_digest_87 : decode cX9_digest 87 = .ok (.iload_n 3, 1) := by decide +kernel
theorem dX9_digest_88 : decode cX9_digest 88 = .ok (.if_icmp .ge 44, 3) := by decide +kernel
theorem dX9_digest_91 : decode cX9_digest 91 = .ok (.iload 5, 2) := by decide +kernel
theorem dX9_digest_93 : decode cX9_digest 93 = .ok (.sipush 136, 3) := by decide +kernel
theorem dX9_digest_96 : decode cX9_digest 96 = .ok (.if_icmp .ge 36, 3) := by decide +kernel
theorem dX9_digest_99 : decode cX9_digest 99 = .ok (.aload_n 1, 1) := by decide +kernel
theorem dX9_digest_100 : decode cX9_digest 100 = .ok (.iload 5, 2) := by decide +kernel
theorem dX9_digest_102 : decode cX9_digest 102 = .ok (.aload_n 0, 1) := by decide +kernel
theorem dX9_digest_103 : decode cX9_digest 103 = .ok (.getfield 7, 3) := by decide +kernel
theorem dX9_digest_106 : decode cX9_digest 106 = .ok (.iload 5, 2) := by decide +kernel
theorem dX9_digest_108 : decode cX9_digest 108 = .ok (.iconst 3, 1) := by decide +kernel
theorem dX9_digest_109 : decode cX9_digest 109 = .ok (.ishr, 1) := by decide +kernel
theorem dX9_digest_110 : decode cX9_digest 110 = .ok (.laload, 1) := by decide +kernel
theorem dX9_digest_111 : decode cX9_digest 111 = .ok (.bipush 8, 2) := by decide +kernel
theorem dX9_digest_113 : decode cX9_digest 113 = .ok (.iload 5, 2) := by decide +kernel
theorem dX9_digest_115 : decode cX9_digest 115 = .ok (.bipush 7, 2) := by decide +kernel
theorem dX9_digest_117 : decode cX9_digest 117 = .ok (.iand, 1) := by decide +kernel
theorem dX9_digest_118 : decode cX9_digest 118 = .ok (.imul, 1) := by decide +kernel
theorem dX9_digest_119 : decode cX9_digest 119 = .ok (.lushr, 1) := by decide +kernel
theorem dX9_digest_120 : decode cX9_digest 120 = .ok (.l2i, 1) := by decide +kernel
theorem dX9_digest_121 : decode cX9_digest 121 = .ok (.sipush 255, 3) := by decide +kernel
theorem dX9_digest_124 : decode cX9_digest 124 = .ok (.iand, 1) := by decide +kernel
theorem dX9_digest_125 : decode cX9_digest 125 = .ok (.iastore, 1) := by decide +kernel
theorem dX9_digest_126 : decode cX9_digest 126 = .ok (.iinc 5 1, 3) := by decide +kernel
theorem dX9_digest_129 : decode cX9_digest 129 = .ok (.goto (-44), 3) := by decide +kernel
theorem dX9_digest_132 : decode cX9_digest 132 = .ok (.return_, 1) := by decide +kernel
theorem dX9_mix_0 : decode cX9_mix 0 = .ok (.aload_n 0, 1) := by decide +kernel
theorem dX9_mix_1 : decode cX9_mix 1 = .ok (.getfield 7, 3) := by decide +kernel
theorem dX9_mix_4 : decode cX9_mix 4 = .ok (.iload_n 1, 1) := by decide +kernel
theorem dX9_mix_5 : decode cX9_mix 5 = .ok (.iconst 3, 1) := by decide +kernel
theorem dX9_mix_6 : decode cX9_mix 6 = .ok (.ishr, 1) := by decide +kernel
theorem dX9_mix_7 : decode cX9_mix 7 = .ok (.dup2, 1) := by decide +kernel
theorem dX9_mix_8 : decode cX9_mix 8 = .ok (.laload, 1) := by decide +kernel
theorem dX9_mix_9 : decode cX9_mix 9 = .ok (.iload_n 2, 1) := by decide +kernel
theorem dX9_mix_10 : decode cX9_mix 10 = .ok (.i2l, 1) := by decide +kernel
theorem dX9_mix_11 : decode cX9_mix 11 = .ok (.bipush 8, 2) := by decide +kernel
theorem dX9_mix_13 : decode cX9_mix 13 = .ok (.iload_n 1, 1) := by decide +kernel
theorem dX9_mix_14 : decode cX9_mix 14 = .ok (.bipush 7, 2) := by decide +kernel
theorem dX9_mix_16 : decode cX9_mix 16 = .ok (.iand, 1) := by decide +kernel
theorem dX9_mix_17 : decode cX9_mix 17 = .ok (.imul, 1) := by decide +kernel
theorem dX9_mix_18 : decode cX9_mix 18 = .ok (.lshl, 1) := by decide +kernel
theorem dX9_mix_19 : decode cX9_mix 19 = .ok (.lxor, 1) := by decide +kernel
theorem dX9_mix_20 : decode cX9_mix 20 = .ok (.lastore, 1) := by decide +kernel
theorem dX9_mix_21 : decode cX9_mix 21 = .ok (.return_, 1) := by decide +kernel
theorem dX9_permute_0 : decode cX9_permute 0 = .ok (.iconst 0, 1) := by decide +kernel
theorem dX9_permute_1 : decode cX9_permute 1 = .ok (.istore_n 1, 1) := by decide +kernel
theorem dX9_permute_2 : decode cX9_permute 2 = .ok (.iload_n 1, 1) := by decide +kernel
theorem dX9_permute_3 : decode cX9_permute 3 = .ok (.getstatic 39, 3) := by decide +kernel
theorem dX9_permute_6 : decode cX9_permute 6 = .ok (.arraylength, 1) := by decide +kernel
theorem dX9_permute_7 : decode cX9_permute 7 = .ok (.if_icmp .ge 35, 3) := by decide +kernel
theorem dX9_permute_10 : decode cX9_permute 10 = .ok (.aload_n 0, 1) := by decide +kernel
theorem dX9_permute_11 : decode cX9_permute 11 = .ok (.invokevirtual 42, 3) := by decide +kernel
theorem dX9_permute_14 : decode cX9_permute 14 = .ok (.aload_n 0, 1) := by decide +kernel
theorem dX9_permute_15 : decode cX9_permute 15 = .ok (.invokevirtual 45, 3) := by decide +kernel
theorem dX9_permute_18 : decode cX9_permute 18 = .ok (.aload_n 0, 1) := by decide +kernel
theorem dX9_permute_19 : decode cX9_permute 19 = .ok (.invokevirtual 48, 3) := by decide +kernel
theorem dX9_permute_22 : decode cX9_permute 22 = .ok (.aload_n 0, 1) := by decide +kernel
theorem dX9_permute_23 : decode cX9_permute 23 = .ok (.getfield 7, 3) := by decide +kernel
theorem dX9_permute_26 : decode cX9_permute 26 = .ok (.iconst 0, 1) := by decide +kernel
theorem dX9_permute_27 : decode cX9_permute 27 = .ok (.dup2, 1) := by decide +kernel
theorem dX9_permute_28 : decode cX9_permute 28 = .ok (.laload, 1) := by decide +kernel
theorem dX9_permute_29 : decode cX9_permute 29 = .ok (.getstatic 39, 3) := by decide +kernel
theorem dX9_permute_32 : decode cX9_permute 32 = .ok (.iload_n 1, 1) := by decide +kernel
theorem dX9_permute_33 : decode cX9_permute 33 = .ok (.laload, 1) := by decide +kernel
theorem dX9_permute_34 : decode cX9_permute 34 = .ok (.lxor, 1) := by decide +kernel
theorem dX9_permute_35 : decode cX9_permute 35 = .ok (.lastore, 1) := by decide +kernel
theorem dX9_permute_36 : decode cX9_permute 36 = .ok (.iinc 1 1, 3) := by decide +kernel
theorem dX9_permute_39 : decode cX9_permute 39 = .ok (.goto (-37), 3) := by decide +kernel
theorem dX9_permute_42 : decode cX9_permute 42 = .ok (.return_, 1) := by decide +kernel
theorem dX9_mixColumns_0 : decode cX9_mixColumns 0 = .ok (.iconst 0, 1) := by decide +kernel
theorem dX9_mixColumns_1 : decode cX9_mixColumns 1 = .ok (.istore_n 1, 1) := by decide +kernel
theorem dX9_mixColumns_2 : decode cX9_mixColumns 2 = .ok (.iload_n 1, 1) := by decide +kernel
theorem dX9_mixColumns_3 : decode cX9_mixColumns 3 = .ok (.iconst 5, 1) := by decide +kernel
theorem dX9_mixColumns_4 : decode cX9_mixColumns 4 = .ok (.if_icmp .ge 60, 3) := by decide +kernel
theorem dX9_mixColumns_7 : decode cX9_mixColumns 7 = .ok (.aload_n 0, 1) := by decide +kernel
theorem dX9_mixColumns_8 : decode cX9_mixColumns 8 = .ok (.getfield 13, 3) := by decide +kernel
theorem dX9_mixColumns_11 : decode cX9_mixColumns 11 = .ok (.iload_n 1, 1) := by decide +kernel
theorem dX9_mixColumns_12 : decode cX9_mixColumns 12 = .ok (.aload_n 0, 1) := by decide +kernel
theorem dX9_mixColumns_13 : decode cX9_mixColumns 13 = .ok (.getfield 7, 3) := by decide +kernel
theorem dX9_mixColumns_16 : decode cX9_mixColumns 16 = .ok (.iload_n 1, 1) := by decide +kernel
theorem dX9_mixColumns_17 : decode cX9_mixColumns 17 = .ok (.laload, 1) := by decide +kernel
theorem dX9_mixColumns_18 : decode cX9_mixColumns 18 = .ok (.aload_n 0, 1) := by decide +kernel
theorem dX9_mixColumns_19 : decode cX9_mixColumns 19 = .ok (.getfield 7, 3) := by decide +kernel
theorem dX9_mixColumns_22 : decode cX9_mixColumns 22 = .ok (.iload_n 1, 1) := by decide +kernel
theorem dX9_mixColumns_23 : decode cX9_mixColumns 23 = .ok (.iconst 5, 1) := by decide +kernel
theorem dX9_mixColumns_24 : decode cX9_mixColumns 24 = .ok (.iadd, 1) := by decide +kernel
theorem dX9_mixColumns_25 : decode cX9_mixColumns 25 = .ok (.laload, 1) := by decide +kernel
theorem dX9_mixColumns_26 : decode cX9_mixColumns 26 = .ok (.lxor, 1) := by decide +kernel
theorem dX9_mixColumns_27 : decode cX9_mixColumns 27 = .ok (.aload_n 0, 1) := by decide +kernel
theorem dX9_mixColumns_28 : decode cX9_mixColumns 28 = .ok (.getfield 7, 3) := by decide +kernel
theorem dX9_mixColumns_31 : decode cX9_mixColumns 31 = .ok (.iload_n 1, 1) := by decide +kernel
theorem dX9_mixColumns_32 : decode cX9_mixColumns 32 = .ok (.bipush 10, 2) := by decide +kernel
theorem dX9_mixColumns_34 : decode cX9_mixColumns 34 = .ok (.iadd, 1) := by decide +kernel
theorem dX9_mixColumns_35 : decode cX9_mixColumns 35 = .ok (.laload, 1) := by decide +kernel
theorem dX9_mixColumns_36 : decode cX9_mixColumns 36 = .ok (.lxor, 1) := by decide +kernel
theorem dX9_mixColumns_37 : decode cX9_mixColumns 37 = .ok (.aload_n 0, 1) := by decide +kernel
theorem dX9_mixColumns_38 : decode cX9_mixColumns 38 = .ok (.getfield 7, 3) := by decide +kernel
theorem dX9_mixColumns_41 : decode cX9_mixColumns 41 = .ok (.iload_n 1, 1) := by decide +kernel
theorem dX9_mixColumns_42 : decode cX9_mixColumns 42 = .ok (.bipush 15, 2) := by decide +kernel
theorem dX9_mixColumns_44 : decode cX9_mixColumns 44 = .ok (.iadd, 1) := by decide +kernel
theorem dX9_mixColumns_45 : decode cX9_mixColumns 45 = .ok (.laload, 1) := by decide +kernel
theorem dX9_mixColumns_46 : decode cX9_mixColumns 46 = .ok (.lxor, 1) := by decide +kernel
theorem dX9_mixColumns_47 : decode cX9_mixColumns 47 = .ok (.aload_n 0, 1) := by decide +kernel
theorem dX9_mixColumns_48 : decode cX9_mixColumns 48 = .ok (.getfield 7, 3) := by decide +kernel
theorem dX9_mixColumns_51 : decode cX9_mixColumns 51 = .ok (.iload_n 1, 1) := by decide +kernel
theorem dX9_mixColumns_52 : decode cX9_mixColumns 52 = .ok (.bipush 20, 2) := by decide +kernel
theorem dX9_mixColumns_54 : decode cX9_mixColumns 54 = .ok (.iadd, 1) := by decide +kernel
theorem dX9_mixColumns_55 : decode cX9_mixColumns 55 = .ok (.laload, 1) := by decide +kernel
theorem dX9_mixColumns_56 : decode cX9_mixColumns 56 = .ok (.lxor, 1) := by decide +kernel
theorem dX9_mixColumns_57 : decode cX9_mixColumns 57 = .ok (.lastore, 1) := by decide +kernel
theorem dX9_mixColumns_58 : decode cX9_mixColumns 58 = .ok (.iinc 1 1, 3) := by decide +kernel
theorem dX9_mixColumns_61 : decode cX9_mixColumns 61 = .ok (.goto (-59), 3) := by decide +kernel
theorem dX9_mixColumns_64 : decode cX9_mixColumns 64 = .ok (.iconst 0, 1) := by decide +kernel
theorem dX9_mixColumns_65 : decode cX9_mixColumns 65 = .ok (.istore_n 1, 1) := by decide +kernel
theorem dX9_mixColumns_66 : decode cX9_mixColumns 66 = .ok (.iload_n 1, 1) := by decide +kernel
theorem dX9_mixColumns_67 : decode cX9_mixColumns 67 = .ok (.iconst 5, 1) := by decide +kernel
theorem dX9_mixColumns_68 : decode cX9_mixColumns 68 = .ok (.if_icmp .ge 64, 3) := by decide +kernel
theorem dX9_mixColumns_71 : decode cX9_mixColumns 71 = .ok (.aload_n 0, 1) := by decide +kernel
theorem dX9_mixColumns_72 : decode cX9_mixColumns 72 = .ok (.getfield 13, 3) := by decide +kernel
theorem dX9_mixColumns_75 : decode cX9_mixColumns 75 = .ok (.iload_n 1, 1) := by decide +kernel
theorem dX9_mixColumns_76 : decode cX9_mixColumns 76 = .ok (.iconst 4, 1) := by decide +kernel
theorem dX9_mixColumns_77 : decode cX9_mixColumns 77 = .ok (.iadd, 1) := by decide +kernel
theorem dX9_mixColumns_78 : decode cX9_mixColumns 78 = .ok (.iconst 5, 1) := by decide +kernel
theorem dX9_mixColumns_79 : decode cX9_mixColumns 79 = .ok (.irem, 1) := by decide +kernel
theorem dX9_mixColumns_80 : decode cX9_mixColumns 80 = .ok (.laload, 1) := by decide +kernel
theorem dX9_mixColumns_81 : decode cX9_mixColumns 81 = .ok (.aload_n 0, 1) := by decide +kernel
theorem dX9_mixColumns_82 : decode cX9_mixColumns 82 = .ok (.getfield 13, 3) := by decide +kernel
theorem dX9_mixColumns_85 : decode cX9_mixColumns 85 = .ok (.iload_n 1, 1) := by decide +kernel
theorem dX9_mixColumns_86 : decode cX9_mixColumns 86 = .ok (.iconst 1, 1) := by decide +kernel
theorem dX9_mixColumns_87 : decode cX9_mixColumns 87 = .ok (.iadd, 1) := by decide +kernel
theorem dX9_mixColumns_88 : decode cX9_mixColumns 88 = .ok (.iconst 5, 1) := by decide +kernel
theorem dX9_mixColumns_89 : decode cX9_mixColumns 89 = .ok (.irem, 1) := by decide +kernel
theorem dX9_mixColumns_90 : decode cX9_mixColumns 90 = .ok (.laload, 1) := by decide +kernel
theorem dX9_mixColumns_91 : decode cX9_mixColumns 91 = .ok (.iconst 1, 1) := by decide +kernel
theorem dX9_mixColumns_92 : decode cX9_mixColumns 92 = .ok (.invokestatic 51, 3) := by decide +kernel
theorem dX9_mixColumns_95 : decode cX9_mixColumns 95 = .ok (.lxor, 1) := by decide +kernel
theorem dX9_mixColumns_96 : decode cX9_mixColumns 96 = .ok (.lstore_n 2, 1) := by decide +kernel
theorem dX9_mixColumns_97 : decode cX9_mixColumns 97 = .ok (.iconst 0, 1) := by decide +kernel
theorem dX9_mixColumns_98 : decode cX9_mixColumns 98 = .ok (.istore 4, 2) := by decide +kernel
theorem dX9_mixColumns_100 : decode cX9_mixColumns 100 = .ok (.iload 4, 2) := by decide +kernel
theorem dX9_mixColumns_102 : decode cX9_mixColumns 102 = .ok (.bipush 25, 2) := by decide +kernel
theorem dX9_mixColumns_104 : decode cX9_mixColumns 104 = .ok (.if_icmp .ge 22, 3) := by decide +kernel
theorem dX9_mixColumns_107 : decode cX9_mixColumns 107 = .ok (.aload_n 0, 1) := by decide +kernel
theorem dX9_mixColumns_108 : decode cX9_mixColumns 108 = .ok (.getfield 7, 3) := by decide +kernel
theorem dX9_mixColumns_111 : decode cX9_mixColumns 111 = .ok (.iload 4, 2) := by decide +kernel
theorem dX9_mixColumns_113 : decode cX9_mixColumns 113 = .ok (.iload_n 1, 1) := by decide +kernel
theorem dX9_mixColumns_114 : decode cX9_mixColumns 114 = .ok (.iadd, 1) := by decide +kernel
theorem dX9_mixColumns_115 : decode cX9_mixColumns 115 = .ok (.dup2, 1) := by decide +kernel
theorem dX9_mixColumns_116 : decode cX9_mixColumns 116 = .ok (.laload, 1) := by decide +kernel
theorem dX9_mixColumns_117 : decode cX9_mixColumns 117 = .ok (.lload_n 2, 1) := by decide +kernel
theorem dX9_mixColumns_118 : decode cX9_mixColumns 118 = .ok (.lxor, 1) := by decide +kernel
theorem dX9_mixColumns_119 : decode cX9_mixColumns 119 = .ok (.lastore, 1) := by decide +kernel
theorem dX9_mixColumns_120 : decode cX9_mixColumns 120 = .ok (.iinc 4 5, 3) := by decide +kernel
theorem dX9_mixColumns_123 : decode cX9_mixColumns 123 = .ok (.goto (-23), 3) := by decide +kernel
theorem dX9_mixColumns_126 : decode cX9_mixColumns 126 = .ok (.iinc 1 1, 3) := by decide +kernel
theorem dX9_mixColumns_129 : decode cX9_mixColumns 129 = .ok (.goto (-63), 3) := by decide +kernel
theorem dX9_mixColumns_132 : decode cX9_mixColumns 132 = .ok (.return_, 1) := by decide +kernel
theorem dX9_moveLanes_0 : decode cX9_moveLanes 0 = .ok (.aload_n 0, 1) := by decide +kernel
theorem dX9_moveLanes_1 : decode cX9_moveLanes 1 = .ok (.getfield 7, 3) := by decide +kernel
theorem dX9_moveLanes_4 : decode cX9_moveLanes 4 = .ok (.iconst 1, 1) := by decide +kernel
theorem dX9_moveLanes_5 : decode cX9_moveLanes 5 = .ok (.laload, 1) := by decide +kernel
theorem dX9_moveLanes_6 : decode cX9_moveLanes 6 = .ok (.lstore_n 1, 1) := by decide +kernel
theorem dX9_moveLanes_7 : decode cX9_moveLanes 7 = .ok (.iconst 0, 1) := by decide +kernel
theorem dX9_moveLanes_8 : decode cX9_moveLanes 8 = .ok (.istore_n 3, 1) := by decide +kernel
theorem dX9_moveLanes_9 : decode cX9_moveLanes 9 = .ok (.iload_n 3, 1) := by decide +kernel
theorem dX9_moveLanes_10 : decode cX9_moveLanes 10 = .ok (.getstatic 55, 3) := by decide +kernel
theorem dX9_moveLanes_13 : decode cX9_moveLanes 13 = .ok (.arraylength, 1) := by decide +kernel
theorem dX9_moveLanes_14 : decode cX9_moveLanes 14 = .ok (.if_icmp .ge 44, 3) := by decide +kernel
theorem dX9_moveLanes_17 : decode cX9_moveLanes 17 = .ok (.getstatic 55, 3) := by decide +kernel
theorem dX9_moveLanes_20 : decode cX9_moveLanes 20 = .ok (.iload_n 3, 1) := by decide +kernel
theorem dX9_moveLanes_21 : decode cX9_moveLanes 21 = .ok (.iaload, 1) := by decide +kernel
theorem dX9_moveLanes_22 : decode cX9_moveLanes 22 = .ok (.istore 4, 2) := by decide +kernel
theorem dX9_moveLanes_24 : decode cX9_moveLanes 24 = .ok (.aload_n 0, 1) := by decide +kernel
theorem dX9_moveLanes_25 : decode cX9_moveLanes 25 = .ok (.getfield 7, 3) := by decide +kernel
theorem dX9_moveLanes_28 : decode cX9_moveLanes 28 = .ok (.iload 4, 2) := by decide +kernel
theorem dX9_moveLanes_30 : decode cX9_moveLanes 30 = .ok (.laload, 1) := by decide +kernel
theorem dX9_moveLanes_31 : decode cX9_moveLanes 31 = .ok (.lstore 5, 2) := by decide +kernel
theorem dX9_moveLanes_33 : decode cX9_moveLanes 33 = .ok (.aload_n 0, 1) := by decide +kernel
theorem dX9_moveLanes_34 : decode cX9_moveLanes 34 = .ok (.getfield 7, 3) := by decide +kernel
theorem dX9_moveLanes_37 : decode cX9_moveLanes 37 = .ok (.iload 4, 2) := by decide +kernel
theorem dX9_moveLanes_39 : decode cX9_moveLanes 39 = .ok (.lload_n 1, 1) := by decide +kernel
theorem dX9_moveLanes_40 : decode cX9_moveLanes 40 = .ok (.getstatic 58, 3) := by decide +kernel
theorem dX9_moveLanes_43 : decode cX9_moveLanes 43 = .ok (.iload_n 3, 1) := by decide +kernel
theorem dX9_moveLanes_44 : decode cX9_moveLanes 44 = .ok (.iaload, 1) := by decide +kernel
theorem dX9_moveLanes_45 : decode cX9_moveLanes 45 = .ok (.invokestatic 51, 3) := by decide +kernel
theorem dX9_moveLanes_48 : decode cX9_moveLanes 48 = .ok (.lastore, 1) := by decide +kernel
theorem dX9_moveLanes_49 : decode cX9_moveLanes 49 = .ok (.lload 5, 2) := by decide +kernel
theorem dX9_moveLanes_51 : decode cX9_moveLanes 51 = .ok (.lstore_n 1, 1) := by decide +kernel
theorem dX9_moveLanes_52 : decode cX9_moveLanes 52 = .ok (.iinc 3 1, 3) := by decide +kernel
theorem dX9_moveLanes_55 : decode cX9_moveLanes 55 = .ok (.goto (-46), 3) := by decide +kernel
theorem dX9_moveLanes_58 : decode cX9_moveLanes 58 = .ok (.return_, 1) := by decide +kernel
theorem dX9_mixRows_0 : decode cX9_mixRows 0 = .ok (.iconst 0, 1) := by decide +kernel
theorem dX9_mixRows_1 : decode cX9_mixRows 1 = .ok (.istore_n 1, 1) := by decide +kernel
theorem dX9_mixRows_2 : decode cX9_mixRows 2 = .ok (.iload_n 1, 1) := by decide +kernel
theorem dX9_mixRows_3 : decode cX9_mixRows 3 = .ok (.bipush 25, 2) := by decide +kernel
theorem dX9_mixRows_5 : decode cX9_mixRows 5 = .ok (.if_icmp .ge 76, 3) := by decide +kernel
theorem dX9_mixRows_8 : decode cX9_mixRows 8 = .ok (.aload_n 0, 1) := by decide +kernel
theorem dX9_mixRows_9 : decode cX9_mixRows 9 = .ok (.getfield 7, 3) := by decide +kernel
theorem dX9_mixRows_12 : decode cX9_mixRows 12 = .ok (.iload_n 1, 1) := by decide +kernel
theorem dX9_mixRows_13 : decode cX9_mixRows 13 = .ok (.aload_n 0, 1) := by decide +kernel
theorem dX9_mixRows_14 : decode cX9_mixRows 14 = .ok (.getfield 13, 3) := by decide +kernel
theorem dX9_mixRows_17 : decode cX9_mixRows 17 = .ok (.iconst 0, 1) := by decide +kernel
theorem dX9_mixRows_18 : decode cX9_mixRows 18 = .ok (.iconst 5, 1) := by decide +kernel
theorem dX9_mixRows_19 : decode cX9_mixRows 19 = .ok (.invokestatic 61, 3) := by decide +kernel
theorem dX9_mixRows_22 : decode cX9_mixRows 22 = .ok (.iconst 0, 1) := by decide +kernel
theorem dX9_mixRows_23 : decode cX9_mixRows 23 = .ok (.istore_n 2, 1) := by decide +kernel
theorem dX9_mixRows_24 : decode cX9_mixRows 24 = .ok (.iload_n 2, 1) := by decide +kernel
theorem dX9_mixRows_25 : decode cX9_mixRows 25 = .ok (.iconst 5, 1) := by decide +kernel
theorem dX9_mixRows_26 : decode cX9_mixRows 26 = .ok (.if_icmp .ge 49, 3) := by decide +kernel
theorem dX9_mixRows_29 : decode cX9_mixRows 29 = .ok (.aload_n 0, 1) := by decide +kernel
theorem dX9_mixRows_30 : decode cX9_mixRows 30 = .ok (.getfield 7, 3) := by decide +kernel
theorem dX9_mixRows_33 : decode cX9_mixRows 33 = .ok (.iload_n 1, 1) := by decide +kernel
theorem dX9_mixRows_34 : decode cX9_mixRows 34 = .ok (.iload_n 2, 1) := by decide +kernel
theorem dX9_mixRows_35 : decode cX9_mixRows 35 = .ok (.iadd, 1) := by decide +kernel
theorem dX9_mixRows_36 : decode cX9_mixRows 36 = .ok (.aload_n 0, 1) := by decide +kernel
theorem dX9_mixRows_37 : decode cX9_mixRows 37 = .ok (.getfield 13, 3) := by decide +kernel
theorem dX9_mixRows_40 : decode cX9_mixRows 40 = .ok (.iload_n 2, 1) := by decide +kernel
theorem dX9_mixRows_41 : decode cX9_mixRows 41 = .ok (.laload, 1) := by decide +kernel
theorem dX9_mixRows_42 : decode cX9_mixRows 42 = .ok (.aload_n 0, 1) := by decide +kernel
theorem dX9_mixRows_43 : decode cX9_mixRows 43 = .ok (.getfield 13, 3) := by decide +kernel
theorem dX9_mixRows_46 : decode cX9_mixRows 46 = .ok (.iload_n 2, 1) := by decide +kernel
theorem dX9_mixRows_47 : decode cX9_mixRows 47 = .ok (.iconst 1, 1) := by decide +kernel
theorem dX9_mixRows_48 : decode cX9_mixRows 48 = .ok (.iadd, 1) := by decide +kernel
theorem dX9_mixRows_49 : decode cX9_mixRows 49 = .ok (.iconst 5, 1) := by decide +kernel
theorem dX9_mixRows_50 : decode cX9_mixRows 50 = .ok (.irem, 1) := by decide +kernel
theorem dX9_mixRows_51 : decode cX9_mixRows 51 = .ok (.laload, 1) := by decide +kernel
theorem dX9_mixRows_52 : decode cX9_mixRows 52 = .ok (.ldc2_w 67, 3) := by decide +kernel
theorem dX9_mixRows_55 : decode cX9_mixRows 55 = .ok (.lxor, 1) := by decide +kernel
theorem dX9_mixRows_56 : decode cX9_mixRows 56 = .ok (.aload_n 0, 1) := by decide +kernel
theorem dX9_mixRows_57 : decode cX9_mixRows 57 = .ok (.getfield 13, 3) := by decide +kernel
theorem dX9_mixRows_60 : decode cX9_mixRows 60 = .ok (.iload_n 2, 1) := by decide +kernel
theorem dX9_mixRows_61 : decode cX9_mixRows 61 = .ok (.iconst 2, 1) := by decide +kernel
theorem dX9_mixRows_62 : decode cX9_mixRows 62 = .ok (.iadd, 1) := by decide +kernel
theorem dX9_mixRows_63 : decode cX9_mixRows 63 = .ok (.iconst 5, 1) := by decide +kernel
theorem dX9_mixRows_64 : decode cX9_mixRows 64 = .ok (.irem, 1) := by decide +kernel
theorem dX9_mixRows_65 : decode cX9_mixRows 65 = .ok (.laload, 1) := by decide +kernel
theorem dX9_mixRows_66 : decode cX9_mixRows 66 = .ok (.land, 1) := by decide +kernel
theorem dX9_mixRows_67 : decode cX9_mixRows 67 = .ok (.lxor, 1) := by decide +kernel
theorem dX9_mixRows_68 : decode cX9_mixRows 68 = .ok (.lastore, 1) := by decide +kernel
theorem dX9_mixRows_69 : decode cX9_mixRows 69 = .ok (.iinc 2 1, 3) := by decide +kernel
theorem dX9_mixRows_72 : decode cX9_mixRows 72 = .ok (.goto (-48), 3) := by decide +kernel
theorem dX9_mixRows_75 : decode cX9_mixRows 75 = .ok (.iinc 1 5, 3) := by decide +kernel
theorem dX9_mixRows_78 : decode cX9_mixRows 78 = .ok (.goto (-76), 3) := by decide +kernel
theorem dX9_mixRows_81 : decode cX9_mixRows 81 = .ok (.return_, 1) := by decide +kernel
theorem dX9_turn_0 : decode cX9_turn 0 = .ok (.lload_n 0, 1) := by decide +kernel
theorem dX9_turn_1 : decode cX9_turn 1 = .ok (.iload_n 2, 1) := by decide +kernel
theorem dX9_turn_2 : decode cX9_turn 2 = .ok (.lshl, 1) := by decide +kernel
theorem dX9_turn_3 : decode cX9_turn 3 = .ok (.lload_n 0, 1) := by decide +kernel
theorem dX9_turn_4 : decode cX9_turn 4 = .ok (.bipush 64, 2) := by decide +kernel
theorem dX9_turn_6 : decode cX9_turn 6 = .ok (.iload_n 2, 1) := by decide +kernel
theorem dX9_turn_7 : decode cX9_turn 7 = .ok (.isub, 1) := by decide +kernel
theorem dX9_turn_8 : decode cX9_turn 8 = .ok (.lushr, 1) := by decide +kernel
theorem dX9_turn_9 : decode cX9_turn 9 = .ok (.lor, 1) := by decide +kernel
theorem dX9_turn_10 : decode cX9_turn 10 = .ok (.lreturn, 1) := by decide +kernel
theorem dX10_init_0 : decode cX10_init 0 = .ok (.aload_n 0, 1) := by decide +kernel
theorem dX10_init_1 : decode cX10_init 1 = .ok (.invokespecial 3, 3) := by decide +kernel
theorem dX10_init_4 : decode cX10_init 4 = .ok (.aload_n 0, 1) := by decide +kernel
theorem dX10_init_5 : decode cX10_init 5 = .ok (.new 9, 3) := by decide +kernel
theorem dX10_init_8 : decode cX10_init 8 = .ok (.dup, 1) := by decide +kernel
theorem dX10_init_9 : decode cX10_init 9 = .ok (.sipush 512, 3) := by decide +kernel
theorem dX10_init_12 : decode cX10_init 12 = .ok (.invokespecial 13, 3) := by decide +kernel
theorem dX10_init_15 : decode cX10_init 15 = .ok (.putfield 16, 3) := by decide +kernel
theorem dX10_init_18 : decode cX10_init 18 = .ok (.aload_n 0, 1) := by decide +kernel
theorem dX10_init_19 : decode cX10_init 19 = .ok (.new 9, 3) := by decide +kernel
theorem dX10_init_22 : decode cX10_init 22 = .ok (.dup, 1) := by decide +kernel
theorem dX10_init_23 : decode cX10_init 23 = .ok (.sipush 256, 3) := by decide +kernel
theorem dX10_init_26 : decode cX10_init 26 = .ok (.invokespecial 13, 3) := by decide +kernel
theorem dX10_init_29 : decode cX10_init 29 = .ok (.putfield 20, 3) := by decide +kernel
theorem dX10_init_32 : decode cX10_init 32 = .ok (.aload_n 0, 1) := by decide +kernel
theorem dX10_init_33 : decode cX10_init 33 = .ok (.new 9, 3) := by decide +kernel
theorem dX10_init_36 : decode cX10_init 36 = .ok (.dup, 1) := by decide +kernel
theorem dX10_init_37 : decode cX10_init 37 = .ok (.sipush 512, 3) := by decide +kernel
theorem dX10_init_40 : decode cX10_init 40 = .ok (.invokespecial 13, 3) := by decide +kernel
theorem dX10_init_43 : decode cX10_init 43 = .ok (.putfield 23, 3) := by decide +kernel
theorem dX10_init_46 : decode cX10_init 46 = .ok (.aload_n 0, 1) := by decide +kernel
theorem dX10_init_47 : decode cX10_init 47 = .ok (.bipush 114, 2) := by decide +kernel
theorem dX10_init_49 : decode cX10_init 49 = .ok (.newarray .int, 2) := by decide +kernel
theorem dX10_init_51 : decode cX10_init 51 = .ok (.putfield 26, 3) := by decide +kernel
theorem dX10_init_54 : decode cX10_init 54 = .ok (.aload_n 0, 1) := by decide +kernel
theorem dX10_init_55 : decode cX10_init 55 = .ok (.bipush 114, 2) := by decide +kernel
theorem dX10_init_57 : decode cX10_init 57 = .ok (.newarray .int, 2) := by decide +kernel
theorem dX10_init_59 : decode cX10_init 59 = .ok (.putfield 30, 3) := by decide +kernel
theorem dX10_init_62 : decode cX10_init 62 = .ok (.aload_n 0, 1) := by decide +kernel
theorem dX10_init_63 : decode cX10_init 63 = .ok (.bipush 57, 2) := by decide +kernel
theorem dX10_init_65 : decode cX10_init 65 = .ok (.newarray .int, 2) := by decide +kernel
theorem dX10_init_67 : decode cX10_init 67 = .ok (.putfield 33, 3) := by decide +kernel
theorem dX10_init_70 : decode cX10_init 70 = .ok (.aload_n 0, 1) := by decide +kernel
theorem dX10_init_71 : decode cX10_init 71 = .ok (.bipush 57, 2) := by decide +kernel
theorem dX10_init_73 : decode cX10_init 73 = .ok (.newarray .int, 2) := by decide +kernel
theorem dX10_init_75 : decode cX10_init 75 = .ok (.putfield 36, 3) := by decide +kernel
theorem dX10_init_78 : decode cX10_init 78 = .ok (.aload_n 0, 1) := by decide +kernel
theorem dX10_init_79 : decode cX10_init 79 = .ok (.bipush 57, 2) := by decide +kernel
theorem dX10_init_81 : decode cX10_init 81 = .ok (.newarray .int, 2) := by decide +kernel
theorem dX10_init_83 : decode cX10_init 83 = .ok (.putfield 39, 3) := by decide +kernel
theorem dX10_init_86 : decode cX10_init 86 = .ok (.aload_n 0, 1) := by decide +kernel
theorem dX10_init_87 : decode cX10_init 87 = .ok (.bipush 16, 2) := by decide +kernel
theorem dX10_init_89 : decode cX10_init 89 = .ok (.newarray .long, 2) := by decide +kernel
theorem dX10_init_91 : decode cX10_init 91 = .ok (.putfield 44, 3) := by decide +kernel
theorem dX10_init_94 : decode cX10_init 94 = .ok (.aload_n 0, 1) := by decide +kernel
theorem dX10_init_95 : decode cX10_init 95 = .ok (.bipush 16, 2) := by decide +kernel
theorem dX10_init_97 : decode cX10_init 97 = .ok (.newarray .long, 2) := by decide +kernel
theorem dX10_init_99 : decode cX10_init 99 = .ok (.putfield 48, 3) := by decide +kernel
theorem dX10_init_102 : decode cX10_init 102 = .ok (.aload_n 0, 1) := by decide +kernel
theorem dX10_init_103 : decode cX10_init 103 = .ok (.bipush 16, 2) := by decide +kernel
theorem dX10_init_105 : decode cX10_init 105 = .ok (.newarray .long, 2) := by decide +kernel
theorem dX10_init_107 : decode cX10_init 107 = .ok (.putfield 51, 3) := by decide +kernel
theorem dX10_init_110 : decode cX10_init 110 = .ok (.aload_n 0, 1) := by decide +kernel
theorem dX10_init_111 : decode cX10_init 111 = .ok (.new 54, 3) := by decide +kernel
theorem dX10_init_114 : decode cX10_init 114 = .ok (.dup, 1) := by decide +kernel
theorem dX10_init_115 : decode cX10_init 115 = .ok (.invokespecial 56, 3) := by decide +kernel
theorem dX10_init_118 : decode cX10_init 118 = .ok (.putfield 57, 3) := by decide +kernel
theorem dX10_init_121 : decode cX10_init 121 = .ok (.aload_n 0, 1) := by decide +kernel
theorem dX10_init_122 : decode cX10_init 122 = .ok (.new 54, 3) := by decide +kernel
theorem dX10_init_125 : decode cX10_init 125 = .ok (.dup, 1) := by decide +kernel
theorem dX10_init_126 : decode cX10_init 126 = .ok (.invokespecial 56, 3) := by decide +kernel
theorem dX10_init_129 : decode cX10_init 129 = .ok (.putfield 61, 3) := by decide +kernel
theorem dX10_init_132 : decode cX10_init 132 = .ok (.aload_n 0, 1) := by decide +kernel
theorem dX10_init_133 : decode cX10_init 133 = .ok (.new 54, 3) := by decide +kernel
theorem dX10_init_136 : decode cX10_init 136 = .ok (.dup, 1) := by decide +kernel
theorem dX10_init_137 : decode cX10_init 137 = .ok (.invokespecial 56, 3) := by decide +kernel
theorem dX10_init_140 : decode cX10_init 140 = .ok (.putfield 64, 3) := by decide +kernel
theorem dX10_init_143 : decode cX10_init 143 = .ok (.aload_n 0, 1) := by decide +kernel
theorem dX10_init_144 : decode cX10_init 144 = .ok (.iload_n 1, 1) := by decide +kernel
theorem dX10_init_145 : decode cX10_init 145 = .ok (.putfield 67, 3) := by decide +kernel
theorem dX10_init_148 : decode cX10_init 148 = .ok (.aload_n 0, 1) := by decide +kernel
theorem dX10_init_149 : decode cX10_init 149 = .ok (.aload_n 2, 1) := by decide +kernel
theorem dX10_init_150 : decode cX10_init 150 = .ok (.putfield 71, 3) := by decide +kernel
theorem dX10_init_153 : decode cX10_init 153 = .ok (.aload_n 0, 1) := by decide +kernel
theorem dX10_init_154 : decode cX10_init 154 = .ok (.aload_n 3, 1) := by decide +kernel
theorem dX10_init_155 : decode cX10_init 155 = .ok (.putfield 75, 3) := by decide +kernel
theorem dX10_init_158 : decode cX10_init 158 = .ok (.aload_n 0, 1) := by decide +kernel
theorem dX10_init_159 : decode cX10_init 159 = .ok (.aload_n 2, 1) := by decide +kernel
theorem dX10_init_160 : decode cX10_init 160 = .ok (.getfield 79, 3) := by decide +kernel
theorem dX10_init_163 : decode cX10_init 163 = .ok (.putfield 85, 3) := by decide +kernel
theorem dX10_init_166 : decode cX10_init 166 = .ok (.aload_n 0, 1) := by decide +kernel
theorem dX10_init_167 : decode cX10_init 167 = .ok (.new 86, 3) := by decide +kernel
theorem dX10_init_170 : decode cX10_init 170 = .ok (.dup, 1) := by decide +kernel
theorem dX10_init_171 : decode cX10_init 171 = .ok (.iload_n 1, 1) := by decide +kernel
theorem dX10_init_172 : decode cX10_init 172 = .ok (.invokespecial 88, 3) := by decide +kernel
theorem dX10_init_175 : decode cX10_init 175 = .ok (.putfield 91, 3) := by decide +kernel
theorem dX10_init_178 : decode cX10_init 178 = .ok (.return_, 1) := by decide +kernel
theorem dX10_choose_0 : decode cX10_choose 0 = .ok (.aload_n 0, 1) := by decide +kernel
theorem dX10_choose_1 : decode cX10_choose 1 = .ok (.getfield 16, 3) := by decide +kernel
theorem dX10_choose_4 : decode cX10_choose 4 = .ok (.iconst 0, 1) := by decide +kernel
theorem dX10_choose_5 : decode cX10_choose 5 = .ok (.putfield 95, 3) := by decide +kernel
theorem dX10_choose_8 : decode cX10_choose 8 = .ok (.aload_n 0, 1) := by decide +kernel
theorem dX10_choose_9 : decode cX10_choose 9 = .ok (.getfield 67, 3) := by decide +kernel
theorem dX10_choose_12 : decode cX10_choose 12 = .ok (.ifCond .ne 14, 3) := by decide +kernel
theorem dX10_choose_15 : decode cX10_choose 15 = .ok (.iload_n 3, 1) := by decide +kernel
