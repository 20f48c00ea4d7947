theorem dX12_isZero_2 : decode cX12_isZero 2 = .ok (.iload_n 2, 1) := by decide +kernel
theorem dX12_isZero_3 : decode cX12_isZero 3 = .ok (.bipush 28, 2) := by decide +kernel
theorem dX12_isZero_5 : decode cX12_isZero 5 = .ok (.if_icmp .ge 25, 3) := by decide +kernel
theorem dX12_isZero_8 : decode cX12_isZero 8 = .ok (.aload_n 0, 1) := by decide +kernel
theorem dX12_isZero_9 : decode cX12_isZero 9 = .ok (.getfield 41, 3) := by decide +kernel
theorem dX12_isZero_12 : decode cX12_isZero 12 = .ok (.bipush 32, 2) := by decide +kernel
theorem dX12_isZero_14 : decode cX12_isZero 14 = .ok (.iload_n 1, 1) := by decide +kernel
theorem dX12_isZero_15 : decode cX12_isZero 15 = .ok (.imul, 1) := by decide +kernel
theorem dX12_isZero_16 : decode cX12_isZero 16 = .ok (.iload_n 2, 1) := by decide +kernel
theorem dX12_isZero_17 : decode cX12_isZero 17 = .ok (.iadd, 1) := by decide +kernel
theorem dX12_isZero_18 : decode cX12_isZero 18 = .ok (.iaload, 1) := by decide +kernel
theorem dX12_isZero_19 : decode cX12_isZero 19 = .ok (.ifCond .eq 5, 3) := by decide +kernel
theorem dX12_isZero_22 : decode cX12_isZero 22 = .ok (.iconst 0, 1) := by decide +kernel
theorem dX12_isZero_23 : decode cX12_isZero 23 = .ok (.ireturn, 1) := by decide +kernel
theorem dX12_isZero_24 : decode cX12_isZero 24 = .ok (.iinc 2 1, 3) := by decide +kernel
theorem dX12_isZero_27 : decode cX12_isZero 27 = .ok (.goto (-25), 3) := by decide +kernel
theorem dX12_isZero_30 : decode cX12_isZero 30 = .ok (.iconst 1, 1) := by decide +kernel
theorem dX12_isZero_31 : decode cX12_isZero 31 = .ok (.ireturn, 1) := by decide +kernel
theorem dX12_takeOff_0 : decode cX12_takeOff 0 = .ok (.iconst 0, 1) := by decide +kernel
theorem dX12_takeOff_1 : decode cX12_takeOff 1 = .ok (.istore_n 3, 1) := by decide +kernel
theorem dX12_takeOff_2 : decode cX12_takeOff 2 = .ok (.iconst 0, 1) := by decide +kernel
theorem dX12_takeOff_3 : decode cX12_takeOff 3 = .ok (.istore 4, 2) := by decide +kernel
theorem dX12_takeOff_5 : decode cX12_takeOff 5 = .ok (.iload 4, 2) := by decide +kernel
theorem dX12_takeOff_7 : decode cX12_takeOff 7 = .ok (.bipush 28, 2) := by decide +kernel
theorem dX12_takeOff_9 : decode cX12_takeOff 9 = .ok (.if_icmp .ge 66, 3) := by decide +kernel
theorem dX12_takeOff_12 : decode cX12_takeOff 12 = .ok (.aload_n 0, 1) := by decide +kernel
theorem dX12_takeOff_13 : decode cX12_takeOff 13 = .ok (.getfield 41, 3) := by decide +kernel
theorem dX12_takeOff_16 : decode cX12_takeOff 16 = .ok (.bipush 32, 2) := by decide +kernel
theorem dX12_takeOff_18 : decode cX12_takeOff 18 = .ok (.iload_n 1, 1) := by decide +kernel
theorem dX12_takeOff_19 : decode cX12_takeOff 19 = .ok (.imul, 1) := by decide +kernel
theorem dX12_takeOff_20 : decode cX12_takeOff 20 = .ok (.iload 4, 2) := by decide +kernel
theorem dX12_takeOff_22 : decode cX12_takeOff 22 = .ok (.iadd, 1) := by decide +kernel
theorem dX12_takeOff_23 : decode cX12_takeOff 23 = .ok (.iaload, 1) := by decide +kernel
theorem dX12_takeOff_24 : decode cX12_takeOff 24 = .ok (.aload_n 0, 1) := by decide +kernel
theorem dX12_takeOff_25 : decode cX12_takeOff 25 = .ok (.getfield 41, 3) := by decide +kernel
theorem dX12_takeOff_28 : decode cX12_takeOff 28 = .ok (.bipush 32, 2) := by decide +kernel
theorem dX12_takeOff_30 : decode cX12_takeOff 30 = .ok (.iload_n 2, 1) := by decide +kernel
theorem dX12_takeOff_31 : decode cX12_takeOff 31 = .ok (.imul, 1) := by decide +kernel
theorem dX12_takeOff_32 : decode cX12_takeOff 32 = .ok (.iload 4, 2) := by decide +kernel
theorem dX12_takeOff_34 : decode cX12_takeOff 34 = .ok (.iadd, 1) := by decide +kernel
theorem dX12_takeOff_35 : decode cX12_takeOff 35 = .ok (.iaload, 1) := by decide +kernel
theorem dX12_takeOff_36 : decode cX12_takeOff 36 = .ok (.isub, 1) := by decide +kernel
theorem dX12_takeOff_37 : decode cX12_takeOff 37 = .ok (.iload_n 3, 1) := by decide +kernel
theorem dX12_takeOff_38 : decode cX12_takeOff 38 = .ok (.isub, 1) := by decide +kernel
theorem dX12_takeOff_39 : decode cX12_takeOff 39 = .ok (.istore 5, 2) := by decide +kernel
theorem dX12_takeOff_41 : decode cX12_takeOff 41 = .ok (.iload 5, 2) := by decide +kernel
theorem dX12_takeOff_43 : decode cX12_takeOff 43 = .ok (.ifCond .ge 7, 3) := by decide +kernel
theorem dX12_takeOff_46 : decode cX12_takeOff 46 = .ok (.iconst 1, 1) := by decide +kernel
theorem dX12_takeOff_47 : decode cX12_takeOff 47 = .ok (.goto 4, 3) := by decide +kernel
theorem dX12_takeOff_50 : decode cX12_takeOff 50 = .ok (.iconst 0, 1) := by decide +kernel
theorem dX12_takeOff_51 : decode cX12_takeOff 51 = .ok (.istore_n 3, 1) := by decide +kernel
theorem dX12_takeOff_52 : decode cX12_takeOff 52 = .ok (.aload_n 0, 1) := by decide +kernel
theorem dX12_takeOff_53 : decode cX12_takeOff 53 = .ok (.getfield 41, 3) := by decide +kernel
theorem dX12_takeOff_56 : decode cX12_takeOff 56 = .ok (.bipush 32, 2) := by decide +kernel
theorem dX12_takeOff_58 : decode cX12_takeOff 58 = .ok (.iload_n 1, 1) := by decide +kernel
theorem dX12_takeOff_59 : decode cX12_takeOff 59 = .ok (.imul, 1) := by decide +kernel
theorem dX12_takeOff_60 : decode cX12_takeOff 60 = .ok (.iload 4, 2) := by decide +kernel
theorem dX12_takeOff_62 : decode cX12_takeOff 62 = .ok (.iadd, 1) := by decide +kernel
theorem dX12_takeOff_63 : decode cX12_takeOff 63 = .ok (.iload 5, 2) := by decide +kernel
theorem dX12_takeOff_65 : decode cX12_takeOff 65 = .ok (.ldc 117, 2) := by decide +kernel
theorem dX12_takeOff_67 : decode cX12_takeOff 67 = .ok (.iand, 1) := by decide +kernel
theorem dX12_takeOff_68 : decode cX12_takeOff 68 = .ok (.iastore, 1) := by decide +kernel
theorem dX12_takeOff_69 : decode cX12_takeOff 69 = .ok (.iinc 4 1, 3) := by decide +kernel
theorem dX12_takeOff_72 : decode cX12_takeOff 72 = .ok (.goto (-67), 3) := by decide +kernel
theorem dX12_takeOff_75 : decode cX12_takeOff 75 = .ok (.return_, 1) := by decide +kernel
theorem dX12_fold_0 : decode cX12_fold 0 = .ok (.aload_n 0, 1) := by decide +kernel
theorem dX12_fold_1 : decode cX12_fold 1 = .ok (.getfield 54, 3) := by decide +kernel
theorem dX12_fold_4 : decode cX12_fold 4 = .ok (.istore_n 2, 1) := by decide +kernel
theorem dX12_fold_5 : decode cX12_fold 5 = .ok (.iconst 2, 1) := by decide +kernel
theorem dX12_fold_6 : decode cX12_fold 6 = .ok (.iload_n 2, 1) := by decide +kernel
theorem dX12_fold_7 : decode cX12_fold 7 = .ok (.imul, 1) := by decide +kernel
theorem dX12_fold_8 : decode cX12_fold 8 = .ok (.iconst 1, 1) := by decide +kernel
theorem dX12_fold_9 : decode cX12_fold 9 = .ok (.isub, 1) := by decide +kernel
theorem dX12_fold_10 : decode cX12_fold 10 = .ok (.istore_n 3, 1) := by decide +kernel
theorem dX12_fold_11 : decode cX12_fold 11 = .ok (.iload_n 3, 1) := by decide +kernel
theorem dX12_fold_12 : decode cX12_fold 12 = .ok (.iload_n 2, 1) := by decide +kernel
theorem dX12_fold_13 : decode cX12_fold 13 = .ok (.if_icmp .lt 80, 3) := by decide +kernel
theorem dX12_fold_16 : decode cX12_fold 16 = .ok (.aload_n 0, 1) := by decide +kernel
theorem dX12_fold_17 : decode cX12_fold 17 = .ok (.getfield 44, 3) := by decide +kernel
theorem dX12_fold_20 : decode cX12_fold 20 = .ok (.iload_n 3, 1) := by decide +kernel
theorem dX12_fold_21 : decode cX12_fold 21 = .ok (.laload, 1) := by decide +kernel
theorem dX12_fold_22 : decode cX12_fold 22 = .ok (.lstore 4, 2) := by decide +kernel
theorem dX12_fold_24 : decode cX12_fold 24 = .ok (.aload_n 0, 1) := by decide +kernel
theorem dX12_fold_25 : decode cX12_fold 25 = .ok (.getfield 44, 3) := by decide +kernel
theorem dX12_fold_28 : decode cX12_fold 28 = .ok (.iload_n 3, 1) := by decide +kernel
theorem dX12_fold_29 : decode cX12_fold 29 = .ok (.lconst 0, 1) := by decide +kernel
theorem dX12_fold_30 : decode cX12_fold 30 = .ok (.lastore, 1) := by decide +kernel
theorem dX12_fold_31 : decode cX12_fold 31 = .ok (.aload_n 0, 1) := by decide +kernel
theorem dX12_fold_32 : decode cX12_fold 32 = .ok (.getfield 51, 3) := by decide +kernel
theorem dX12_fold_35 : decode cX12_fold 35 = .ok (.ifCond .ne 24, 3) := by decide +kernel
theorem dX12_fold_38 : decode cX12_fold 38 = .ok (.aload_n 0, 1) := by decide +kernel
theorem dX12_fold_39 : decode cX12_fold 39 = .ok (.getfield 44, 3) := by decide +kernel
theorem dX12_fold_42 : decode cX12_fold 42 = .ok (.iload_n 3, 1) := by decide +kernel
theorem dX12_fold_43 : decode cX12_fold 43 = .ok (.bipush 16, 2) := by decide +kernel
theorem dX12_fold_45 : decode cX12_fold 45 = .ok (.isub, 1) := by decide +kernel
theorem dX12_fold_46 : decode cX12_fold 46 = .ok (.dup2, 1) := by decide +kernel
theorem dX12_fold_47 : decode cX12_fold 47 = .ok (.laload, 1) := by decide +kernel
theorem dX12_fold_48 : decode cX12_fold 48 = .ok (.ldc2_w 179, 3) := by decide +kernel
theorem dX12_fold_51 : decode cX12_fold 51 = .ok (.lload 4, 2) := by decide +kernel
theorem dX12_fold_53 : decode cX12_fold 53 = .ok (.lmul, 1) := by decide +kernel
theorem dX12_fold_54 : decode cX12_fold 54 = .ok (.ladd, 1) := by decide +kernel
theorem dX12_fold_55 : decode cX12_fold 55 = .ok (.lastore, 1) := by decide +kernel
theorem dX12_fold_56 : decode cX12_fold 56 = .ok (.goto 31, 3) := by decide +kernel
theorem dX12_fold_59 : decode cX12_fold 59 = .ok (.aload_n 0, 1) := by decide +kernel
theorem dX12_fold_60 : decode cX12_fold 60 = .ok (.getfield 44, 3) := by decide +kernel
theorem dX12_fold_63 : decode cX12_fold 63 = .ok (.iload_n 3, 1) := by decide +kernel
theorem dX12_fold_64 : decode cX12_fold 64 = .ok (.bipush 28, 2) := by decide +kernel
theorem dX12_fold_66 : decode cX12_fold 66 = .ok (.isub, 1) := by decide +kernel
theorem dX12_fold_67 : decode cX12_fold 67 = .ok (.dup2, 1) := by decide +kernel
theorem dX12_fold_68 : decode cX12_fold 68 = .ok (.laload, 1) := by decide +kernel
theorem dX12_fold_69 : decode cX12_fold 69 = .ok (.lload 4, 2) := by decide +kernel
theorem dX12_fold_71 : decode cX12_fold 71 = .ok (.ladd, 1) := by decide +kernel
theorem dX12_fold_72 : decode cX12_fold 72 = .ok (.lastore, 1) := by decide +kernel
theorem dX12_fold_73 : decode cX12_fold 73 = .ok (.aload_n 0, 1) := by decide +kernel
theorem dX12_fold_74 : decode cX12_fold 74 = .ok (.getfield 44, 3) := by decide +kernel
theorem dX12_fold_77 : decode cX12_fold 77 = .ok (.iload_n 3, 1) := by decide +kernel
theorem dX12_fold_78 : decode cX12_fold 78 = .ok (.bipush 14, 2) := by decide +kernel
theorem dX12_fold_80 : decode cX12_fold 80 = .ok (.isub, 1) := by decide +kernel
theorem dX12_fold_81 : decode cX12_fold 81 = .ok (.dup2, 1) := by decide +kernel
theorem dX12_fold_82 : decode cX12_fold 82 = .ok (.laload, 1) := by decide +kernel
theorem dX12_fold_83 : decode cX12_fold 83 = .ok (.lload 4, 2) := by decide +kernel
theorem dX12_fold_85 : decode cX12_fold 85 = .ok (.ladd, 1) := by decide +kernel
theorem dX12_fold_86 : decode cX12_fold 86 = .ok (.lastore, 1) := by decide +kernel
theorem dX12_fold_87 : decode cX12_fold 87 = .ok (.iinc 3 (-1), 3) := by decide +kernel
theorem dX12_fold_90 : decode cX12_fold 90 = .ok (.goto (-79), 3) := by decide +kernel
theorem dX12_fold_93 : decode cX12_fold 93 = .ok (.lconst 1, 1) := by decide +kernel
theorem dX12_fold_94 : decode cX12_fold 94 = .ok (.lstore_n 3, 1) := by decide +kernel
theorem dX12_fold_95 : decode cX12_fold 95 = .ok (.iconst 0, 1) := by decide +kernel
theorem dX12_fold_96 : decode cX12_fold 96 = .ok (.istore 5, 2) := by decide +kernel
theorem dX12_fold_98 : decode cX12_fold 98 = .ok (.iload 5, 2) := by decide +kernel
theorem dX12_fold_100 : decode cX12_fold 100 = .ok (.bipush 10, 2) := by decide +kernel
theorem dX12_fold_102 : decode cX12_fold 102 = .ok (.if_icmp .ge 104, 3) := by decide +kernel
theorem dX12_fold_105 : decode cX12_fold 105 = .ok (.lload_n 3, 1) := by decide +kernel
theorem dX12_fold_106 : decode cX12_fold 106 = .ok (.lconst 0, 1) := by decide +kernel
theorem dX12_fold_107 : decode cX12_fold 107 = .ok (.lcmp, 1) := by decide +kernel
theorem dX12_fold_108 : decode cX12_fold 108 = .ok (.ifCond .eq 98, 3) := by decide +kernel
theorem dX12_fold_111 : decode cX12_fold 111 = .ok (.lconst 0, 1) := by decide +kernel
theorem dX12_fold_112 : decode cX12_fold 112 = .ok (.lstore_n 3, 1) := by decide +kernel
theorem dX12_fold_113 : decode cX12_fold 113 = .ok (.iconst 0, 1) := by decide +kernel
theorem dX12_fold_114 : decode cX12_fold 114 = .ok (.istore 6, 2) := by decide +kernel
theorem dX12_fold_116 : decode cX12_fold 116 = .ok (.iload 6, 2) := by decide +kernel
theorem dX12_fold_118 : decode cX12_fold 118 = .ok (.iload_n 2, 1) := by decide +kernel
theorem dX12_fold_119 : decode cX12_fold 119 = .ok (.if_icmp .ge 36, 3) := by decide +kernel
theorem dX12_fold_122 : decode cX12_fold 122 = .ok (.lload_n 3, 1) := by decide +kernel
theorem dX12_fold_123 : decode cX12_fold 123 = .ok (.aload_n 0, 1) := by decide +kernel
theorem dX12_fold_124 : decode cX12_fold 124 = .ok (.getfield 44, 3) := by decide +kernel
theorem dX12_fold_127 : decode cX12_fold 127 = .ok (.iload 6, 2) := by decide +kernel
theorem dX12_fold_129 : decode cX12_fold 129 = .ok (.laload, 1) := by decide +kernel
theorem dX12_fold_130 : decode cX12_fold 130 = .ok (.ladd, 1) := by decide +kernel
theorem dX12_fold_131 : decode cX12_fold 131 = .ok (.lstore_n 3, 1) := by decide +kernel
theorem dX12_fold_132 : decode cX12_fold 132 = .ok (.aload_n 0, 1) := by decide +kernel
theorem dX12_fold_133 : decode cX12_fold 133 = .ok (.getfield 44, 3) := by decide +kernel
theorem dX12_fold_136 : decode cX12_fold 136 = .ok (.iload 6, 2) := by decide +kernel
theorem dX12_fold_138 : decode cX12_fold 138 = .ok (.lload_n 3, 1) := by decide +kernel
theorem dX12_fold_139 : decode cX12_fold 139 = .ok (.ldc2_w 181, 3) := by decide +kernel
theorem dX12_fold_142 : decode cX12_fold 142 = .ok (.land, 1) := by decide +kernel
theorem dX12_fold_143 : decode cX12_fold 143 = .ok (.lastore, 1) := by decide +kernel
theorem dX12_fold_144 : decode cX12_fold 144 = .ok (.lload_n 3, 1) := by decide +kernel
theorem dX12_fold_145 : decode cX12_fold 145 = .ok (.bipush 16, 2) := by decide +kernel
theorem dX12_fold_147 : decode cX12_fold 147 = .ok (.lshr, 1) := by decide +kernel
theorem dX12_fold_148 : decode cX12_fold 148 = .ok (.lstore_n 3, 1) := by decide +kernel
theorem dX12_fold_149 : decode cX12_fold 149 = .ok (.iinc 6 1, 3) := by decide +kernel
theorem dX12_fold_152 : decode cX12_fold 152 = .ok (.goto (-36), 3) := by decide +kernel
theorem dX12_fold_155 : decode cX12_fold 155 = .ok (.aload_n 0, 1) := by decide +kernel
theorem dX12_fold_156 : decode cX12_fold 156 = .ok (.getfield 51, 3) := by decide +kernel
theorem dX12_fold_159 : decode cX12_fold 159 = .ok (.ifCond .ne 20, 3) := by decide +kernel
theorem dX12_fold_162 : decode cX12_fold 162 = .ok (.aload_n 0, 1) := by decide +kernel
theorem dX12_fold_163 : decode cX12_fold 163 = .ok (.getfield 44, 3) := by decide +kernel
theorem dX12_fold_166 : decode cX12_fold 166 = .ok (.iconst 0, 1) := by decide +kernel
theorem dX12_fold_167 : decode cX12_fold 167 = .ok (.dup2, 1) := by decide +kernel
theorem dX12_fold_168 : decode cX12_fold 168 = .ok (.laload, 1) := by decide +kernel
theorem dX12_fold_169 : decode cX12_fold 169 = .ok (.ldc2_w 179, 3) := by decide +kernel
theorem dX12_fold_172 : decode cX12_fold 172 = .ok (.lload_n 3, 1) := by decide +kernel
theorem dX12_fold_173 : decode cX12_fold 173 = .ok (.lmul, 1) := by decide +kernel
theorem dX12_fold_174 : decode cX12_fold 174 = .ok (.ladd, 1) := by decide +kernel
theorem dX12_fold_175 : decode cX12_fold 175 = .ok (.lastore, 1) := by decide +kernel
theorem dX12_fold_176 : decode cX12_fold 176 = .ok (.goto 24, 3) := by decide +kernel
theorem dX12_fold_179 : decode cX12_fold 179 = .ok (.aload_n 0, 1) := by decide +kernel
theorem dX12_fold_180 : decode cX12_fold 180 = .ok (.getfield 44, 3) := by decide +kernel
theorem dX12_fold_183 : decode cX12_fold 183 = .ok (.iconst 0, 1) := by decide +kernel
theorem dX12_fold_184 : decode cX12_fold 184 = .ok (.dup2, 1) := by decide +kernel
theorem dX12_fold_185 : decode cX12_fold 185 = .ok (.laload, 1) := by decide +kernel
theorem dX12_fold_186 : decode cX12_fold 186 = .ok (.lload_n 3, 1) := by decide +kernel
theorem dX12_fold_187 : decode cX12_fold 187 = .ok (.ladd, 1) := by decide +kernel
theorem dX12_fold_188 : decode cX12_fold 188 = .ok (.lastore, 1) := by decide +kernel
theorem dX12_fold_189 : decode cX12_fold 189 = .ok (.aload_n 0, 1) := by decide +kernel
theorem dX12_fold_190 : decode cX12_fold 190 = .ok (.getfield 44, 3) := by decide +kernel
theorem dX12_fold_193 : decode cX12_fold 193 = .ok (.bipush 14, 2) := by decide +kernel
theorem dX12_fold_195 : decode cX12_fold 195 = .ok (.dup2, 1) := by decide +kernel
theorem dX12_fold_196 : decode cX12_fold 196 = .ok (.laload, 1) := by decide +kernel
theorem dX12_fold_197 : decode cX12_fold 197 = .ok (.lload_n 3, 1) := by decide +kernel
theorem dX12_fold_198 : decode cX12_fold 198 = .ok (.ladd, 1) := by decide +kernel
theorem dX12_fold_199 : decode cX12_fold 199 = .ok (.lastore, 1) := by decide +kernel
theorem dX12_fold_200 : decode cX12_fold 200 = .ok (.iinc 5 1, 3) := by decide +kernel
theorem dX12_fold_203 : decode cX12_fold 203 = .ok (.goto (-105), 3) := by decide +kernel
theorem dX12_fold_206 : decode cX12_fold 206 = .ok (.aload_n 0, 1) := by decide +kernel
theorem dX12_fold_207 : decode cX12_fold 207 = .ok (.iload_n 1, 1) := by decide +kernel
theorem dX12_fold_208 : decode cX12_fold 208 = .ok (.invokevirtual 168, 3) := by decide +kernel
theorem dX12_fold_211 : decode cX12_fold 211 = .ok (.iconst 0, 1) := by decide +kernel
theorem dX12_fold_212 : decode cX12_fold 212 = .ok (.istore 5, 2) := by decide +kernel
theorem dX12_fold_214 : decode cX12_fold 214 = .ok (.iload 5, 2) := by decide +kernel
theorem dX12_fold_216 : decode cX12_fold 216 = .ok (.iload_n 2, 1) := by decide +kernel
theorem dX12_fold_217 : decode cX12_fold 217 = .ok (.if_icmp .ge 29, 3) := by decide +kernel
theorem dX12_fold_220 : decode cX12_fold 220 = .ok (.aload_n 0, 1) := by decide +kernel
theorem dX12_fold_221 : decode cX12_fold 221 = .ok (.getfield 41, 3) := by decide +kernel
theorem dX12_fold_224 : decode cX12_fold 224 = .ok (.bipush 32, 2) := by decide +kernel
theorem dX12_fold_226 : decode cX12_fold 226 = .ok (.iload_n 1, 1) := by decide +kernel
theorem dX12_fold_227 : decode cX12_fold 227 = .ok (.imul, 1) := by decide +kernel
theorem dX12_fold_228 : decode cX12_fold 228 = .ok (.iload 5, 2) := by decide +kernel
theorem dX12_fold_230 : decode cX12_fold 230 = .ok (.iadd, 1) := by decide +kernel
theorem dX12_fold_231 : decode cX12_fold 231 = .ok (.aload_n 0, 1) := by decide +kernel
theorem dX12_fold_232 : decode cX12_fold 232 = .ok (.getfield 44, 3) := by decide +kernel
theorem dX12_fold_235 : decode cX12_fold 235 = .ok (.iload 5, 2) := by decide +kernel
theorem dX12_fold_237 : decode cX12_fold 237 = .ok (.laload, 1) := by decide +kernel
theorem dX12_fold_238 : decode cX12_fold 238 = .ok (.l2i, 1) := by decide +kernel
theorem dX12_fold_239 : decode cX12_fold 239 = .ok (.iastore, 1) := by decide +kernel
theorem dX12_fold_240 : decode cX12_fold 240 = .ok (.iinc 5 1, 3) := by decide +kernel
theorem dX12_fold_243 : decode cX12_fold 243 = .ok (.goto (-29), 3) := by decide +kernel
theorem dX12_fold_246 : decode cX12_fold 246 = .ok (.iconst 0, 1) := by decide +kernel
theorem dX12_fold_247 : decode cX12_fold 247 = .ok (.istore 5, 2) := by decide +kernel
theorem dX12_fold_249 : decode cX12_fold 249 = .ok (.iload 5, 2) := by decide +kernel
theorem dX12_fold_251 : decode cX12_fold 251 = .ok (.iconst 4, 1) := by decide +kernel
theorem dX12_fold_252 : decode cX12_fold 252 = .ok (.if_icmp .ge 36, 3) := by decide +kernel
theorem dX12_fold_255 : decode cX12_fold 255 = .ok (.aload_n 0, 1) := by decide +kernel
theorem dX12_fold_256 : decode cX12_fold 256 = .ok (.iload_n 1, 1) := by decide +kernel
theorem dX12_fold_257 : decode cX12_fold 257 = .ok (.bipush 9, 2) := by decide +kernel
theorem dX12_fold_259 : decode cX12_fold 259 = .ok (.aload_n 0, 1) := by decide +kernel
theorem dX12_fold_260 : decode cX12_fold 260 = .ok (.getfield 51, 3) := by decide +kernel
theorem dX12_fold_263 : decode cX12_fold 263 = .ok (.iadd, 1) := by decide +kernel
theorem dX12_fold_264 : decode cX12_fold 264 = .ok (.invokevirtual 183, 3) := by decide +kernel
theorem dX12_fold_267 : decode cX12_fold 267 = .ok (.ifCond .eq 21, 3) := by decide +kernel
theorem dX12_fold_270 : decode cX12_fold 270 = .ok (.aload_n 0, 1) := by decide +kernel
theorem dX12_fold_271 : decode cX12_fold 271 = .ok (.iload_n 1, 1) := by decide +kernel
theorem dX12_fold_272 : decode cX12_fold 272 = .ok (.bipush 9, 2) := by decide +kernel
theorem dX12_fold_274 : decode cX12_fold 274 = .ok (.aload_n 0, 1) := by decide +kernel
theorem dX12_fold_275 : decode cX12_fold 275 = .ok (.getfield 51, 3) := by decide +kernel
theorem dX12_fold_278 : decode cX12_fold 278 = .ok (.iadd, 1) := by decide +kernel
theorem dX12_fold_279 : decode cX12_fold 279 = .ok (.invokevirtual 186, 3) := by decide +kernel
theorem dX12_fold_282 : decode cX12_fold 282 = .ok (.iinc 5 1, 3) := by decide +kernel
theorem dX12_fold_285 : decode cX12_fold 285 = .ok (.goto (-36), 3) := by decide +kernel
theorem dX12_fold_288 : decode cX12_fold 288 = .ok (.return_, 1) := by decide +kernel
theorem dX12_mul_0 : decode cX12_mul 0 = .ok (.iconst 0, 1) := by decide +kernel
theorem dX12_mul_1 : decode cX12_mul 1 = .ok (.istore 4, 2) := by decide +kernel
theorem dX12_mul_3 : decode cX12_mul 3 = .ok (.iload 4, 2) := by decide +kernel
theorem dX12_mul_5 : decode cX12_mul 5 = .ok (.bipush 64, 2) := by decide +kernel
theorem dX12_mul_7 : decode cX12_mul 7 = .ok (.if_icmp .ge 17, 3) := by decide +kernel
theorem dX12_mul_10 : decode cX12_mul 10 = .ok (.aload_n 0, 1) := by decide +kernel
theorem dX12_mul_11 : decode cX12_mul 11 = .ok (.getfield 44, 3) := by decide +kernel
theorem dX12_mul_14 : decode cX12_mul 14 = .ok (.iload 4, 2) := by decide +kernel
theorem dX12_mul_16 : decode cX12_mul 16 = .ok (.lconst 0, 1) := by decide +kernel
theorem dX12_mul_17 : decode cX12_mul 17 = .ok (.lastore, 1) := by decide +kernel
theorem dX12_mul_18 : decode cX12_mul 18 = .ok (.iinc 4 1, 3) := by decide +kernel
theorem dX12_mul_21 : decode cX12_mul 21 = .ok (.goto (-18), 3) := by decide +kernel
theorem dX12_mul_24 : decode cX12_mul 24 = .ok (.iconst 0, 1) := by decide +kernel
theorem dX12_mul_25 : decode cX12_mul 25 = .ok (.istore 4, 2) := by decide +kernel
theorem dX12_mul_27 : decode cX12_mul 27 = .ok (.iload 4, 2) := by decide +kernel
theorem dX12_mul_29 : decode cX12_mul 29 = .ok (.aload_n 0, 1) := by decide +kernel
theorem dX12_mul_30 : decode cX12_mul 30 = .ok (.getfield 54, 3) := by decide +kernel
theorem dX12_mul_33 : decode cX12_mul 33 = .ok (.if_icmp .ge 71, 3) := by decide +kernel
theorem dX12_mul_36 : decode cX12_mul 36 = .ok (.aload_n 0, 1) := by decide +kernel
theorem dX12_mul_37 : decode cX12_mul 37 = .ok (.getfield 41, 3) := by decide +kernel
theorem dX12_mul_40 : decode cX12_mul 40 = .ok (.bipush 32, 2) := by decide +kernel
theorem dX12_mul_42 : decode cX12_mul 42 = .ok (.iload_n 2, 1) := by decide +kernel
theorem dX12_mul_43 : decode cX12_mul 43 = .ok (.imul, 1) := by decide +kernel
theorem dX12_mul_44 : decode cX12_mul 44 = .ok (.iload 4, 2) := by decide +kernel
theorem dX12_mul_46 : decode cX12_mul 46 = .ok (.iadd, 1) := by decide +kernel
theorem dX12_mul_47 : decode cX12_mul 47 = .ok (.iaload, 1) := by decide +kernel
theorem dX12_mul_48 : decode cX12_mul 48 = .ok (.i2l, 1) := by decide +kernel
theorem dX12_mul_49 : decode cX12_mul 49 = .ok (.lstore 5, 2) := by decide +kernel
theorem dX12_mul_51 : decode cX12_mul 51 = .ok (.iconst 0, 1) := by decide +kernel
theorem dX12_mul_52 : decode cX12_mul 52 = .ok (.istore 7, 2) := by decide +kernel
theorem dX12_mul_54 : decode cX12_mul 54 = .ok (.iload 7, 2) := by decide +kernel
theorem dX12_mul_56 : decode cX12_mul 56 = .ok (.aload_n 0, 1) := by decide +kernel
theorem dX12_mul_57 : decode cX12_mul 57 = .ok (.getfield 54, 3) := by decide +kernel
theorem dX12_mul_60 : decode cX12_mul 60 = .ok (.if_icmp .ge 38, 3) := by decide +kernel
theorem dX12_mul_63 : decode cX12_mul 63 = .ok (.aload_n 0, 1) := by decide +kernel
theorem dX12_mul_64 : decode cX12_mul 64 = .ok (.getfield 44, 3) := by decide +kernel
theorem dX12_mul_67 : decode cX12_mul 67 = .ok (.iload 4, 2) := by decide +kernel
theorem dX12_mul_69 : decode cX12_mul 69 = .ok (.iload 7, 2) := by decide +kernel
theorem dX12_mul_71 : decode cX12_mul 71 = .ok (.iadd, 1) := by decide +kernel
theorem dX12_mul_72 : decode cX12_mul 72 = .ok (.dup2, 1) := by decide +kernel
theorem dX12_mul_73 : decode cX12_mul 73 = .ok (.laload, 1) := by decide +kernel
theorem dX12_mul_74 : decode cX12_mul 74 = .ok (.lload 5, 2) := by decide +kernel
theorem dX12_mul_76 : decode cX12_mul 76 = .ok (.aload_n 0, 1) := by decide +kernel
theorem dX12_mul_77 : decode cX12_mul 77 = .ok (.getfield 41, 3) := by decide +kernel
theorem dX12_mul_80 : decode cX12_mul 80 = .ok (.bipush 32, 2) := by decide +kernel
theorem dX12_mul_82 : decode cX12_mul 82 = .ok (.iload_n 3, 1) := by decide +kernel
theorem dX12_mul_83 : decode cX12_mul 83 = .ok (.imul, 1) := by decide +kernel
theorem dX12_mul_84 : decode cX12_mul 84 = .ok (.iload 7, 2) := by decide +kernel
theorem dX12_mul_86 : decode cX12_mul 86 = .ok (.iadd, 1) := by decide +kernel
theorem dX12_mul_87 : decode cX12_mul 87 = .ok (.iaload, 1) := by decide +kernel
theorem dX12_mul_88 : decode cX12_mul 88 = .ok (.i2l, 1) := by decide +kernel
theorem dX12_mul_89 : decode cX12_mul 89 = .ok (.lmul, 1) := by decide +kernel
theorem dX12_mul_90 : decode cX12_mul 90 = .ok (.ladd, 1) := by decide +kernel
theorem dX12_mul_91 : decode cX12_mul 91 = .ok (.lastore, 1) := by decide +kernel
theorem dX12_mul_92 : decode cX12_mul 92 = .ok (.iinc 7 1, 3) := by decide +kernel
theorem dX12_mul_95 : decode cX12_mul 95 = .ok (.goto (-41), 3) := by decide +kernel
theorem dX12_mul_98 : decode cX12_mul 98 = .ok (.iinc 4 1, 3) := by decide +kernel
theorem dX12_mul_101 : decode cX12_mul 101 = .ok (.goto (-74), 3) := by decide +kernel
theorem dX12_mul_104 : decode cX12_mul 104 = .ok (.aload_n 0, 1) := by decide +kernel
theorem dX12_mul_105 : decode cX12_mul 105 = .ok (.iload_n 1, 1) := by decide +kernel
theorem dX12_mul_106 : decode cX12_mul 106 = .ok (.invokevirtual 189, 3) := by decide +kernel
theorem dX12_mul_109 : decode cX12_mul 109 = .ok (.return_, 1) := by decide +kernel
theorem dX12_plus_0 : decode cX12_plus 0 = .ok (.iconst 0, 1) := by decide +kernel
theorem dX12_plus_1 : decode cX12_plus 1 = .ok (.istore 4, 2) := by decide +kernel
theorem dX12_plus_3 : decode cX12_plus 3 = .ok (.iload 4, 2) := by decide +kernel
theorem dX12_plus_5 : decode cX12_plus 5 = .ok (.bipush 64, 2) := by decide +kernel
theorem dX12_plus_7 : decode cX12_plus 7 = .ok (.if_icmp .ge 55, 3) := by decide +kernel
theorem dX12_plus_10 : decode cX12_plus 10 = .ok (.aload_n 0, 1) := by decide +kernel
theorem dX12_plus_11 : decode cX12_plus 11 = .ok (.getfield 44, 3) := by decide +kernel
theorem dX12_plus_14 : decode cX12_plus 14 = .ok (.iload 4, 2) := by decide +kernel
theorem dX12_plus_16 : decode cX12_plus 16 = .ok (.iload 4, 2) := by decide +kernel
theorem dX12_plus_18 : decode cX12_plus 18 = .ok (.aload_n 0, 1) := by decide +kernel
theorem dX12_plus_19 : decode cX12_plus 19 = .ok (.getfield 54, 3) := by decide +kernel
theorem dX12_plus_22 : decode cX12_plus 22 = .ok (.if_icmp .ge 32, 3) := by decide +kernel
theorem dX12_plus_25 : decode cX12_plus 25 = .ok (.aload_n 0, 1) := by decide +kernel
theorem dX12_plus_26 : decode cX12_plus 26 = .ok (.getfield 41, 3) := by decide +kernel
theorem dX12_plus_29 : decode cX12_plus 29 = .ok (.bipush 32, 2) := by decide +kernel
theorem dX12_plus_31 : decode cX12_plus 31 = .ok (.iload_n 2, 1) := by decide +kernel
theorem dX12_plus_32 : decode cX12_plus 32 = .ok (.imul, 1) := by decide +kernel
theorem dX12_plus_33 : decode cX12_plus 33 = .ok (.iload 4, 2) := by decide +kernel
theorem dX12_plus_35 : decode cX12_plus 35 = .ok (.iadd, 1) := by decide +kernel
theorem dX12_plus_36 : decode cX12_plus 36 = .ok (.iaload, 1) := by decide +kernel
theorem dX12_plus_37 : decode cX12_plus 37 = .ok (.aload_n 0, 1) := by decide +kernel
theorem dX12_plus_38 : decode cX12_plus 38 = .ok (.getfield 41, 3) := by decide +kernel
theorem dX12_plus_41 : decode cX12_plus 41 = .ok (.bipush 32, 2) := by decide +kernel
theorem dX12_plus_43 : decode cX12_plus 43 = .ok (.iload_n 3, 1) := by decide +kernel
theorem dX12_plus_44 : decode cX12_plus 44 = .ok (.imul, 1) := by decide +kernel
theorem dX12_plus_45 : decode cX12_plus 45 = .ok (.iload 4, 2) := by decide +kernel
theorem dX12_plus_47 : decode cX12_plus 47 = .ok (.iadd, 1) := by decide +kernel
theorem dX12_plus_48 : decode cX12_plus 48 = .ok (.iaload, 1) := by decide +kernel
theorem dX12_plus_49 : decode cX12_plus 49 = .ok (.iadd, 1) := by decide +kernel
theorem dX12_plus_50 : decode cX12_plus 50 = .ok (.i2l, 1) := by decide +kernel
theorem dX12_plus_51 : decode cX12_plus 51 = .ok (.goto 4, 3) := by decide +kernel
theorem dX12_plus_54 : decode cX12_plus 54 = .ok (.lconst 0, 1) := by decide +kernel
theorem dX12_plus_55 : decode cX12_plus 55 = .ok (.lastore, 1) := by decide +kernel
theorem dX12_plus_56 : decode cX12_plus 56 = .ok (.iinc 4 1, 3) := by decide +kernel
theorem dX12_plus_59 : decode cX12_plus 59 = .ok (.goto (-56), 3) := by decide +kernel
theorem dX12_plus_62 : decode cX12_plus 62 = .ok (.aload_n 0, 1) := by decide +kernel
theorem dX12_plus_63 : decode cX12_plus 63 = .ok (.iload_n 1, 1) := by decide +kernel
theorem dX12_plus_64 : decode cX12_plus 64 = .ok (.invokevirtual 189, 3) := by decide +kernel
theorem dX12_plus_67 : decode cX12_plus 67 = .ok (.return_, 1) := by decide +kernel
theorem dX12_minus_0 : decode cX12_minus 0 = .ok (.bipush 9, 2) := by decide +kernel
theorem dX12_minus_2 : decode cX12_minus 2 = .ok (.aload_n 0, 1) := by decide +kernel
theorem dX12_minus_3 : decode cX12_minus 3 = .ok (.getfield 51, 3) := by decide +kernel
theorem dX12_minus_6 : decode cX12_minus 6 = .ok (.iadd, 1) := by decide +kernel
theorem dX12_minus_7 : decode cX12_minus 7 = .ok (.istore 4, 2) := by decide +kernel
theorem dX12_minus_9 : decode cX12_minus 9 = .ok (.iconst 0, 1) := by decide +kernel
theorem dX12_minus_10 : decode cX12_minus 10 = .ok (.istore 5, 2) := by decide +kernel
theorem dX12_minus_12 : decode cX12_minus 12 = .ok (.iload 5, 2) := by decide +kernel
theorem dX12_minus_14 : decode cX12_minus 14 = .ok (.bipush 64, 2) := by decide +kernel
theorem dX12_minus_16 : decode cX12_minus 16 = .ok (.if_icmp .ge 75, 3) := by decide +kernel
theorem dX12_minus_19 : decode cX12_minus 19 = .ok (.aload_n 0, 1) := by decide +kernel
theorem dX12_minus_20 : decode cX12_minus 20 = .ok (.getfield 44, 3) := by decide +kernel
theorem dX12_minus_23 : decode cX12_minus 23 = .ok (.iload 5, 2) := by decide +kernel
theorem dX12_minus_25 : decode cX12_minus 25 = .ok (.iload 5, 2) := by decide +kernel
theorem dX12_minus_27 : decode cX12_minus 27 = .ok (.aload_n 0, 1) := by decide +kernel
theorem dX12_minus_28 : decode cX12_minus 28 = .ok (.getfield 54, 3) := by decide +kernel
theorem dX12_minus_31 : decode cX12_minus 31 = .ok (.if_icmp .ge 52, 3) := by decide +kernel
theorem dX12_minus_34 : decode cX12_minus 34 = .ok (.aload_n 0, 1) := by decide +kernel
theorem dX12_minus_35 : decode cX12_minus 35 = .ok (.getfield 41, 3) := by decide +kernel
theorem dX12_minus_38 : decode cX12_minus 38 = .ok (.bipush 32, 2) := by decide +kernel
theorem dX12_minus_40 : decode cX12_minus 40 = .ok (.iload_n 2, 1) := by decide +kernel
theorem dX12_minus_41 : decode cX12_minus 41 = .ok (.imul, 1) := by decide +kernel
theorem dX12_minus_42 : decode cX12_minus 42 = .ok (.iload 5, 2) := by decide +kernel
theorem dX12_minus_44 : decode cX12_minus 44 = .ok (.iadd, 1) := by decide +kernel
theorem dX12_minus_45 : decode cX12_minus 45 = .ok (.iaload, 1) := by decide +kernel
theorem dX12_minus_46 : decode cX12_minus 46 = .ok (.i2l, 1) := by decide +kernel
theorem dX12_minus_47 : decode cX12_minus 47 = .ok (.ldc2_w 192, 3) := by decide +kernel
theorem dX12_minus_50 : decode cX12_minus 50 = .ok (.aload_n 0, 1) := by decide +kernel
theorem dX12_minus_51 : decode cX12_minus 51 = .ok (.getfield 41, 3) := by decide +kernel
theorem dX12_minus_54 : decode cX12_minus 54 = .ok (.bipush 32, 2) := by decide +kernel
theorem dX12_minus_56 : decode cX12_minus 56 = .ok (.iload 4, 2) := by decide +kernel
theorem dX12_minus_58 : decode cX12_minus 58 = .ok (.imul, 1) := by decide +kernel
theorem dX12_minus_59 : decode cX12_minus 59 = .ok (.iload 5, 2) := by decide +kernel
theorem dX12_minus_61 : decode cX12_minus 61 = .ok (.iadd, 1) := by decide +kernel
theorem dX12_minus_62 : decode cX12_minus 62 = .ok (.iaload, 1) := by decide +kernel
theorem dX12_minus_63 : decode cX12_minus 63 = .ok (.i2l, 1) := by decide +kernel
theorem dX12_minus_64 : decode cX12_minus 64 = .ok (.lmul, 1) := by decide +kernel
theorem dX12_minus_65 : decode cX12_minus 65 = .ok (.ladd, 1) := by decide +kernel
theorem dX12_minus_66 : decode cX12_minus 66 = .ok (.aload_n 0, 1) := by decide +kernel
theorem dX12_minus_67 : decode cX12_minus 67 = .ok (.getfield 41, 3) := by decide +kernel
theorem dX12_minus_70 : decode cX12_minus 70 = .ok (.bipush 32, 2) := by decide +kernel
theorem dX12_minus_72 : decode cX12_minus 72 = .ok (.iload_n 3, 1) := by decide +kernel
theorem dX12_minus_73 : decode cX12_minus 73 = .ok (.imul, 1) := by decide +kernel
theorem dX12_minus_74 : decode cX12_minus 74 = .ok (.iload 5, 2) := by decide +kernel
theorem dX12_minus_76 : decode cX12_minus 76 = .ok (.iadd, 1) := by decide +kernel
theorem dX12_minus_77 : decode cX12_minus 77 = .ok (.iaload, 1) := by decide +kernel
theorem dX12_minus_78 : decode cX12_minus 78 = .ok (.i2l, 1) := by decide +kernel
theorem dX12_minus_79 : decode cX12_minus 79 = .ok (.lsub, 1) := by decide +kernel
theorem dX12_minus_80 : decode cX12_minus 80 = .ok (.goto 4, 3) := by decide +kernel
theorem dX12_minus_83 : decode cX12_minus 83 = .ok (.lconst 0, 1) := by decide +kernel
theorem dX12_minus_84 : decode cX12_minus 84 = .ok (.lastore, 1) := by decide +kernel
theorem dX12_minus_85 : decode cX12_minus 85 = .ok (.iinc 5 1, 3) := by decide +kernel
theorem dX12_minus_88 : decode cX12_minus 88 = .ok (.goto (-76), 3) := by decide +kernel
theorem dX12_minus_91 : decode cX12_minus 91 = .ok (.aload_n 0, 1) := by decide +kernel
theorem dX12_minus_92 : decode cX12_minus 92 = .ok (.iload_n 1, 1) := by decide +kernel
theorem dX12_minus_93 : decode cX12_minus 93 = .ok (.invokevirtual 189, 3) := by decide +kernel
theorem dX12_minus_96 : decode cX12_minus 96 = .ok (.return_, 1) := by decide +kernel
theorem dX12_power_0 : decode cX12_power 0 = .ok (.bipush 9, 2) := by decide +kernel
theorem dX12_power_2 : decode cX12_power 2 = .ok (.aload_n 0, 1) := by decide +kernel
theorem dX12_power_3 : decode cX12_power 3 = .ok (.getfield 51, 3) := by decide +kernel
theorem dX12_power_6 : decode cX12_power 6 = .ok (.iadd, 1) := by decide +kernel
theorem dX12_power_7 : decode cX12_power 7 = .ok (.istore 5, 2) := by decide +kernel
theorem dX12_power_9 : decode cX12_power 9 = .ok (.iload_n 3, 1) := by decide +kernel
theorem dX12_power_10 : decode cX12_power 10 = .ok (.istore 6, 2) := by decide +kernel
theorem dX12_power_12 : decode cX12_power 12 = .ok (.iconst 0, 1) := by decide +kernel
theorem dX12_power_13 : decode cX12_power 13 = .ok (.istore 7, 2) := by decide +kernel
theorem dX12_power_15 : decode cX12_power 15 = .ok (.iload 7, 2) := by decide +kernel
theorem dX12_power_17 : decode cX12_power 17 = .ok (.bipush 32, 2) := by decide +kernel
theorem dX12_power_19 : decode cX12_power 19 = .ok (.if_icmp .ge 46, 3) := by decide +kernel
theorem dX12_power_22 : decode cX12_power 22 = .ok (.aload_n 0, 1) := by decide +kernel
theorem dX12_power_23 : decode cX12_power 23 = .ok (.getfield 41, 3) := by decide +kernel
theorem dX12_power_26 : decode cX12_power 26 = .ok (.bipush 32, 2) := by decide +kernel
theorem dX12_power_28 : decode cX12_power 28 = .ok (.iload 5, 2) := by decide +kernel
theorem dX12_power_30 : decode cX12_power 30 = .ok (.imul, 1) := by decide +kernel
theorem dX12_power_31 : decode cX12_power 31 = .ok (.iload 7, 2) := by decide +kernel
theorem dX12_power_33 : decode cX12_power 33 = .ok (.iadd, 1) := by decide +kernel
theorem dX12_power_34 : decode cX12_power 34 = .ok (.iaload, 1) := by decide +kernel
theorem dX12_power_35 : decode cX12_power 35 = .ok (.iload 6, 2) := by decide +kernel
theorem dX12_power_37 : decode cX12_power 37 = .ok (.iadd, 1) := by decide +kernel
theorem dX12_power_38 : decode cX12_power 38 = .ok (.istore 8, 2) := by decide +kernel
theorem dX12_power_40 : decode cX12_power 40 = .ok (.aload_n 0, 1) := by decide +kernel
theorem dX12_power_41 : decode cX12_power 41 = .ok (.getfield 48, 3) := by decide +kernel
theorem dX12_power_44 : decode cX12_power 44 = .ok (.iload 7, 2) := by decide +kernel
theorem dX12_power_46 : decode cX12_power 46 = .ok (.iload 8, 2) := by decide +kernel
theorem dX12_power_48 : decode cX12_power 48 = .ok (.ldc 117, 2) := by decide +kernel
theorem dX12_power_50 : decode cX12_power 50 = .ok (.iand, 1) := by decide +kernel
theorem dX12_power_51 : decode cX12_power 51 = .ok (.iastore, 1) := by decide +kernel
theorem dX12_power_52 : decode cX12_power 52 = .ok (.iload 8, 2) := by decide +kernel
theorem dX12_power_54 : decode cX12_power 54 = .ok (.bipush 16, 2) := by decide +kernel
theorem dX12_power_56 : decode cX12_power 56 = .ok (.ishr, 1) := by decide +kernel
theorem dX12_power_57 : decode cX12_power 57 = .ok (.istore 6, 2) := by decide +kernel
theorem dX12_power_59 : decode cX12_power 59 = .ok (.iinc 7 1, 3) := by decide +kernel
theorem dX12_power_62 : decode cX12_power 62 = .ok (.goto (-47), 3) := by decide +kernel
theorem dX12_power_65 : decode cX12_power 65 = .ok (.aload_n 0, 1) := by decide +kernel
theorem dX12_power_66 : decode cX12_power 66 = .ok (.bipush 23, 2) := by decide +kernel
theorem dX12_power_68 : decode cX12_power 68 = .ok (.iload_n 2, 1) := by decide +kernel
theorem dX12_power_69 : decode cX12_power 69 = .ok (.invokevirtual 194, 3) := by decide +kernel
theorem dX12_power_72 : decode cX12_power 72 = .ok (.aload_n 0, 1) := by decide +kernel
theorem dX12_power_73 : decode cX12_power 73 = .ok (.bipush 24, 2) := by decide +kernel
theorem dX12_power_75 : decode cX12_power 75 = .ok (.iconst 1, 1) := by decide +kernel
theorem dX12_power_76 : decode cX12_power 76 = .ok (.invokevirtual 136, 3) := by decide +kernel
theorem dX12_power_79 : decode cX12_power 79 = .ok (.bipush 16, 2) := by decide +kernel
theorem dX12_power_81 : decode cX12_power 81 = .ok (.aload_n 0, 1) := by decide +kernel
theorem dX12_power_82 : decode cX12_power 82 = .ok (.getfield 54, 3) := by decide +kernel
theorem dX12_power_85 : decode cX12_power 85 = .ok (.imul, 1) := by decide +kernel
theorem dX12_power_86 : decode cX12_power 86 = .ok (.iconst 1, 1) := by decide +kernel
theorem dX12_power_87 : decode cX12_power 87 = .ok (.isub, 1) := by decide +kernel
theorem dX12_power_88 : decode cX12_power 88 = .ok (.istore 7, 2) := by decide +kernel
theorem dX12_power_90 : decode cX12_power 90 = .ok (.iload 7, 2) := by decide +kernel
theorem dX12_power_92 : decode cX12_power 92 = .ok (.iload 4, 2) := by decide +kernel
theorem dX12_power_94 : decode cX12_power 94 = .ok (.if_icmp .lt 50, 3) := by decide +kernel
theorem dX12_power_97 : decode cX12_power 97 = .ok (.aload_n 0, 1) := by decide +kernel
theorem dX12_power_98 : decode cX12_power 98 = .ok (.bipush 24, 2) := by decide +kernel
theorem dX12_power_100 : decode cX12_power 100 = .ok (.bipush 24, 2) := by decide +kernel
theorem dX12_power_102 : decode cX12_power 102 = .ok (.bipush 24, 2) := by decide +kernel
theorem dX12_power_104 : decode cX12_power 104 = .ok (.invokevirtual 144, 3) := by decide +kernel
theorem dX12_power_107 : decode cX12_power 107 = .ok (.aload_n 0, 1) := by decide +kernel
theorem dX12_power_108 : decode cX12_power 108 = .ok (.getfield 48, 3) := by decide +kernel
theorem dX12_power_111 : decode cX12_power 111 = .ok (.iload 7, 2) := by decide +kernel
theorem dX12_power_113 : decode cX12_power 113 = .ok (.iconst 4, 1) := by decide +kernel
theorem dX12_power_114 : decode cX12_power 114 = .ok (.ishr, 1) := by decide +kernel
theorem dX12_power_115 : decode cX12_power 115 = .ok (.iaload, 1) := by decide +kernel
theorem dX12_power_116 : decode cX12_power 116 = .ok (.iload 7, 2) := by decide +kernel
theorem dX12_power_118 : decode cX12_power 118 = .ok (.bipush 15, 2) := by decide +kernel
theorem dX12_power_120 : decode cX12_power 120 = .ok (.iand, 1) := by decide +kernel
theorem dX12_power_121 : decode cX12_power 121 = .ok (.ishr, 1) := by decide +kernel
theorem dX12_power_122 : decode cX12_power 122 = .ok (.iconst 1, 1) := by decide +kernel
theorem dX12_power_123 : decode cX12_power 123 = .ok (.iand, 1) := by decide +kernel
theorem dX12_power_124 : decode cX12_power 124 = .ok (.iconst 1, 1) := by decide +kernel
theorem dX12_power_125 : decode cX12_power 125 = .ok (.if_icmp .ne 13, 3) := by decide +kernel
theorem dX12_power_128 : decode cX12_power 128 = .ok (.aload_n 0, 1) := by decide +kernel
theorem dX12_power_129 : decode cX12_power 129 = .ok (.bipush 24, 2) := by decide +kernel
theorem dX12_power_131 : decode cX12_power 131 = .ok (.bipush 24, 2) := by decide +kernel
theorem dX12_power_133 : decode cX12_power 133 = .ok (.bipush 23, 2) := by decide +kernel
theorem dX12_power_135 : decode cX12_power 135 = .ok (.invokevirtual 144, 3) := by decide +kernel
theorem dX12_power_138 : decode cX12_power 138 = .ok (.iinc 7 (-1), 3) := by decide +kernel
theorem dX12_power_141 : decode cX12_power 141 = .ok (.goto (-51), 3) := by decide +kernel
theorem dX12_power_144 : decode cX12_power 144 = .ok (.aload_n 0, 1) := by decide +kernel
theorem dX12_power_145 : decode cX12_power 145 = .ok (.iload_n 1, 1) := by decide +kernel
theorem dX12_power_146 : decode cX12_power 146 = .ok (.bipush 24, 2) := by decide +kernel
theorem dX12_power_148 : decode cX12_power 148 = .ok (.invokevirtual 194, 3) := by decide +kernel
theorem dX12_power_151 : decode cX12_power 151 = .ok (.return_, 1) := by decide +kernel
theorem dX12_inverse_0 : decode cX12_inverse 0 = .ok (.aload_n 0, 1) := by decide +kernel
theorem dX12_inverse_1 : decode cX12_inverse 1 = .ok (.iload_n 1, 1) := by decide +kernel
theorem dX12_inverse_2 : decode cX12_inverse 2 = .ok (.iload_n 2, 1) := by decide +kernel
theorem dX12_inverse_3 : decode cX12_inverse 3 = .ok (.bipush (-2), 2) := by decide +kernel
theorem dX12_inverse_5 : decode cX12_inverse 5 = .ok (.iconst 0, 1) := by decide +kernel
theorem dX12_inverse_6 : decode cX12_inverse 6 = .ok (.invokevirtual 197, 3) := by decide +kernel
theorem dX12_inverse_9 : decode cX12_inverse 9 = .ok (.return_, 1) := by decide +kernel
theorem dX12_rootOf_0 : decode cX12_rootOf 0 = .ok (.aload_n 0, 1) := by decide +kernel
theorem dX12_rootOf_1 : decode cX12_rootOf 1 = .ok (.bipush 25, 2) := by decide +kernel
theorem dX12_rootOf_3 : decode cX12_rootOf 3 = .ok (.iconst 1, 1) := by decide +kernel
theorem dX12_rootOf_4 : decode cX12_rootOf 4 = .ok (.invokevirtual 136, 3) := by decide +kernel
theorem dX12_rootOf_7 : decode cX12_rootOf 7 = .ok (.aload_n 0, 1) := by decide +kernel
theorem dX12_rootOf_8 : decode cX12_rootOf 8 = .ok (.bipush 26, 2) := by decide +kernel
theorem dX12_rootOf_10 : decode cX12_rootOf 10 = .ok (.iload_n 2, 1) := by decide +kernel
theorem dX12_rootOf_11 : decode cX12_rootOf 11 = .ok (.iload_n 2, 1) := by decide +kernel
theorem dX12_rootOf_12 : decode cX12_rootOf 12 = .ok (.invokevirtual 144, 3) := by decide +kernel
theorem dX12_rootOf_15 : decode cX12_rootOf 15 = .ok (.aload_n 0, 1) := by decide +kernel
theorem dX12_rootOf_16 : decode cX12_rootOf 16 = .ok (.bipush 27, 2) := by decide +kernel
theorem dX12_rootOf_18 : decode cX12_rootOf 18 = .ok (.bipush 26, 2) := by decide +kernel
theorem dX12_rootOf_20 : decode cX12_rootOf 20 = .ok (.bipush 25, 2) := by decide +kernel
theorem dX12_rootOf_22 : decode cX12_rootOf 22 = .ok (.invokevirtual 151, 3) := by decide +kernel
theorem dX12_rootOf_25 : decode cX12_rootOf 25 = .ok (.aload_n 0, 1) := by decide +kernel
theorem dX12_rootOf_26 : decode cX12_rootOf 26 = .ok (.bipush 28, 2) := by decide +kernel
theorem dX12_rootOf_28 : decode cX12_rootOf 28 = .ok (.bipush 26, 2) := by decide +kernel
theorem dX12_rootOf_30 : decode cX12_rootOf 30 = .ok (.bipush 11, 2) := by decide +kernel
theorem dX12_rootOf_32 : decode cX12_rootOf 32 = .ok (.aload_n 0, 1) := by decide +kernel
theorem dX12_rootOf_33 : decode cX12_rootOf 33 = .ok (.getfield 51, 3) := by decide +kernel
theorem dX12_rootOf_36 : decode cX12_rootOf 36 = .ok (.iadd, 1) := by decide +kernel
theorem dX12_rootOf_37 : decode cX12_rootOf 37 = .ok (.invokevirtual 144, 3) := by decide +kernel
theorem dX12_rootOf_40 : decode cX12_rootOf 40 = .ok (.aload_n 0, 1) := by decide +kernel
theorem dX12_rootOf_41 : decode cX12_rootOf 41 = .ok (.getfield 51, 3) := by decide +kernel
theorem dX12_rootOf_44 : decode cX12_rootOf 44 = .ok (.ifCond .ne 16, 3) := by decide +kernel
theorem dX12_rootOf_47 : decode cX12_rootOf 47 = .ok (.aload_n 0, 1) := by decide +kernel
theorem dX12_rootOf_48 : decode cX12_rootOf 48 = .ok (.bipush 28, 2) := by decide +kernel
theorem dX12_rootOf_50 : decode cX12_rootOf 50 = .ok (.bipush 28, 2) := by decide +kernel
theorem dX12_rootOf_52 : decode cX12_rootOf 52 = .ok (.bipush 25, 2) := by decide +kernel
theorem dX12_rootOf_54 : decode cX12_rootOf 54 = .ok (.invokevirtual 201, 3) := by decide +kernel
theorem dX12_rootOf_57 : decode cX12_rootOf 57 = .ok (.goto 13, 3) := by decide +kernel
theorem dX12_rootOf_60 : decode cX12_rootOf 60 = .ok (.aload_n 0, 1) := by decide +kernel
theorem dX12_rootOf_61 : decode cX12_rootOf 61 = .ok (.bipush 28, 2) := by decide +kernel
theorem dX12_rootOf_63 : decode cX12_rootOf 63 = .ok (.bipush 28, 2) := by decide +kernel
theorem dX12_rootOf_65 : decode cX12_rootOf 65 = .ok (.bipush 25, 2) := by decide +kernel
theorem dX12_rootOf_67 : decode cX12_rootOf 67 = .ok (.invokevirtual 151, 3) := by decide +kernel
theorem dX12_rootOf_70 : decode cX12_rootOf 70 = .ok (.aload_n 0, 1) := by decide +kernel
theorem dX12_rootOf_71 : decode cX12_rootOf 71 = .ok (.bipush 28, 2) := by decide +kernel
theorem dX12_rootOf_73 : decode cX12_rootOf 73 = .ok (.bipush 28, 2) := by decide +kernel
theorem dX12_rootOf_75 : decode cX12_rootOf 75 = .ok (.invokevirtual 141, 3) := by decide +kernel
theorem dX12_rootOf_78 : decode cX12_rootOf 78 = .ok (.aload_n 0, 1) := by decide +kernel
theorem dX12_rootOf_79 : decode cX12_rootOf 79 = .ok (.bipush 27, 2) := by decide +kernel
theorem dX12_rootOf_81 : decode cX12_rootOf 81 = .ok (.bipush 27, 2) := by decide +kernel
theorem dX12_rootOf_83 : decode cX12_rootOf 83 = .ok (.bipush 28, 2) := by decide +kernel
theorem dX12_rootOf_85 : decode cX12_rootOf 85 = .ok (.invokevirtual 144, 3) := by decide +kernel
theorem dX12_rootOf_88 : decode cX12_rootOf 88 = .ok (.aload_n 0, 1) := by decide +kernel
theorem dX12_rootOf_89 : decode cX12_rootOf 89 = .ok (.iload_n 1, 1) := by decide +kernel
theorem dX12_rootOf_90 : decode cX12_rootOf 90 = .ok (.bipush 27, 2) := by decide +kernel
theorem dX12_rootOf_92 : decode cX12_rootOf 92 = .ok (.aload_n 0, 1) := by decide +kernel
theorem dX12_rootOf_93 : decode cX12_rootOf 93 = .ok (.getfield 51, 3) := by decide +kernel
theorem dX12_rootOf_96 : decode cX12_rootOf 96 = .ok (.ifCond .ne 7, 3) := by decide +kernel
theorem dX12_rootOf_99 : decode cX12_rootOf 99 = .ok (.iconst 3, 1) := by decide +kernel
theorem dX12_rootOf_100 : decode cX12_rootOf 100 = .ok (.goto 4, 3) := by decide +kernel
theorem dX12_rootOf_103 : decode cX12_rootOf 103 = .ok (.iconst 1, 1) := by decide +kernel
theorem dX12_rootOf_104 : decode cX12_rootOf 104 = .ok (.aload_n 0, 1) := by decide +kernel
theorem dX12_rootOf_105 : decode cX12_rootOf 105 = .ok (.getfield 51, 3) := by decide +kernel
theorem dX12_rootOf_108 : decode cX12_rootOf 108 = .ok (.ifCond .ne 7, 3) := by decide +kernel
theorem dX12_rootOf_111 : decode cX12_rootOf 111 = .ok (.iconst 3, 1) := by decide +kernel
theorem dX12_rootOf_112 : decode cX12_rootOf 112 = .ok (.goto 4, 3) := by decide +kernel
theorem dX12_rootOf_115 : decode cX12_rootOf 115 = .ok (.iconst 2, 1) := by decide +kernel
theorem dX12_rootOf_116 : decode cX12_rootOf 116 = .ok (.invokevirtual 197, 3) := by decide +kernel
theorem dX12_rootOf_119 : decode cX12_rootOf 119 = .ok (.aload_n 0, 1) := by decide +kernel
theorem dX12_rootOf_120 : decode cX12_rootOf 120 = .ok (.bipush 28, 2) := by decide +kernel
theorem dX12_rootOf_122 : decode cX12_rootOf 122 = .ok (.iload_n 1, 1) := by decide +kernel
theorem dX12_rootOf_123 : decode cX12_rootOf 123 = .ok (.iload_n 1, 1) := by decide +kernel
theorem dX12_rootOf_124 : decode cX12_rootOf 124 = .ok (.invokevirtual 144, 3) := by decide +kernel
theorem dX12_rootOf_127 : decode cX12_rootOf 127 = .ok (.aload_n 0, 1) := by decide +kernel
theorem dX12_rootOf_128 : decode cX12_rootOf 128 = .ok (.bipush 28, 2) := by decide +kernel
theorem dX12_rootOf_130 : decode cX12_rootOf 130 = .ok (.bipush 27, 2) := by decide +kernel
theorem dX12_rootOf_132 : decode cX12_rootOf 132 = .ok (.invokevirtual 204, 3) := by decide +kernel
theorem dX12_rootOf_135 : decode cX12_rootOf 135 = .ok (.ifCond .eq 5, 3) := by decide +kernel
theorem dX12_rootOf_138 : decode cX12_rootOf 138 = .ok (.iconst 1, 1) := by decide +kernel
theorem dX12_rootOf_139 : decode cX12_rootOf 139 = .ok (.ireturn, 1) := by decide +kernel
theorem dX12_rootOf_140 : decode cX12_rootOf 140 = .ok (.aload_n 0, 1) := by decide +kernel
theorem dX12_rootOf_141 : decode cX12_rootOf 141 = .ok (.getfield 51, 3) := by decide +kernel
theorem dX12_rootOf_144 : decode cX12_rootOf 144 = .ok (.iconst 1, 1) := by decide +kernel
theorem dX12_rootOf_145 : decode cX12_rootOf 145 = .ok (.if_icmp .ne 5, 3) := by decide +kernel
theorem dX12_rootOf_148 : decode cX12_rootOf 148 = .ok (.iconst 0, 1) := by decide +kernel
theorem dX12_rootOf_149 : decode cX12_rootOf 149 = .ok (.ireturn, 1) := by decide +kernel
theorem dX12_rootOf_150 : decode cX12_rootOf 150 = .ok (.aload_n 0, 1) := by decide +kernel
theorem dX12_rootOf_151 : decode cX12_rootOf 151 = .ok (.bipush 28, 2) := by decide +kernel
theorem dX12_rootOf_153 : decode cX12_rootOf 153 = .ok (.iconst 2, 1) := by decide +kernel
theorem dX12_rootOf_154 : decode cX12_rootOf 154 = .ok (.invokevirtual 136, 3) := by decide +kernel
theorem dX12_rootOf_157 : decode cX12_rootOf 157 = .ok (.aload_n 0, 1) := by decide +kernel
theorem dX12_rootOf_158 : decode cX12_rootOf 158 = .ok (.bipush 28, 2) := by decide +kernel
theorem dX12_rootOf_160 : decode cX12_rootOf 160 = .ok (.bipush 28, 2) := by decide +kernel
theorem dX12_rootOf_162 : decode cX12_rootOf 162 = .ok (.iconst (-1), 1) := by decide +kernel
theorem dX12_rootOf_163 : decode cX12_rootOf 163 = .ok (.iconst 2, 1) := by decide +kernel
theorem dX12_rootOf_164 : decode cX12_rootOf 164 = .ok (.invokevirtual 197, 3) := by decide +kernel
theorem dX12_rootOf_167 : decode cX12_rootOf 167 = .ok (.aload_n 0, 1) := by decide +kernel
theorem dX12_rootOf_168 : decode cX12_rootOf 168 = .ok (.iload_n 1, 1) := by decide +kernel
theorem dX12_rootOf_169 : decode cX12_rootOf 169 = .ok (.iload_n 1, 1) := by decide +kernel
theorem dX12_rootOf_170 : decode cX12_rootOf 170 = .ok (.bipush 28, 2) := by decide +kernel
theorem dX12_rootOf_172 : decode cX12_rootOf 172 = .ok (.invokevirtual 144, 3) := by decide +kernel
theorem dX12_rootOf_175 : decode cX12_rootOf 175 = .ok (.aload_n 0, 1) := by decide +kernel
theorem dX12_rootOf_176 : decode cX12_rootOf 176 = .ok (.bipush 28, 2) := by decide +kernel
theorem dX12_rootOf_178 : decode cX12_rootOf 178 = .ok (.iload_n 1, 1) := by decide +kernel
theorem dX12_rootOf_179 : decode cX12_rootOf 179 = .ok (.iload_n 1, 1) := by decide +kernel
theorem dX12_rootOf_180 : decode cX12_rootOf 180 = .ok (.invokevirtual 144, 3) := by decide +kernel
theorem dX12_rootOf_183 : decode cX12_rootOf 183 = .ok (.aload_n 0, 1) := by decide +kernel
theorem dX12_rootOf_184 : decode cX12_rootOf 184 = .ok (.bipush 28, 2) := by decide +kernel
theorem dX12_rootOf_186 : decode cX12_rootOf 186 = .ok (.bipush 27, 2) := by decide +kernel
theorem dX12_rootOf_188 : decode cX12_rootOf 188 = .ok (.invokevirtual 204, 3) := by decide +kernel
theorem dX12_rootOf_191 : decode cX12_rootOf 191 = .ok (.ireturn, 1) := by decide +kernel
theorem dX12_baseOf_0 : decode cX12_baseOf 0 = .ok (.aload_n 0, 1) := by decide +kernel
theorem dX12_baseOf_1 : decode cX12_baseOf 1 = .ok (.getfield 41, 3) := by decide +kernel
theorem dX12_baseOf_4 : decode cX12_baseOf 4 = .ok (.bipush 32, 2) := by decide +kernel
theorem dX12_baseOf_6 : decode cX12_baseOf 6 = .ok (.iload_n 1, 1) := by decide +kernel
theorem dX12_baseOf_7 : decode cX12_baseOf 7 = .ok (.imul, 1) := by decide +kernel
theorem dX12_baseOf_8 : decode cX12_baseOf 8 = .ok (.iaload, 1) := by decide +kernel
theorem dX12_baseOf_9 : decode cX12_baseOf 9 = .ok (.iconst 1, 1) := by decide +kernel
theorem dX12_baseOf_10 : decode cX12_baseOf 10 = .ok (.iand, 1) := by decide +kernel
theorem dX12_baseOf_11 : decode cX12_baseOf 11 = .ok (.iload_n 2, 1) := by decide +kernel
theorem dX12_baseOf_12 : decode cX12_baseOf 12 = .ok (.if_icmp .eq 17, 3) := by decide +kernel
theorem dX12_baseOf_15 : decode cX12_baseOf 15 = .ok (.aload_n 0, 1) := by decide +kernel
theorem dX12_baseOf_16 : decode cX12_baseOf 16 = .ok (.bipush 25, 2) := by decide +kernel
theorem dX12_baseOf_18 : decode cX12_baseOf 18 = .ok (.invokevirtual 148, 3) := by decide +kernel
theorem dX12_baseOf_21 : decode cX12_baseOf 21 = .ok (.aload_n 0, 1) := by decide +kernel
theorem dX12_baseOf_22 : decode cX12_baseOf 22 = .ok (.iload_n 1, 1) := by decide +kernel
theorem dX12_baseOf_23 : decode cX12_baseOf 23 = .ok (.bipush 25, 2) := by decide +kernel
theorem dX12_baseOf_25 : decode cX12_baseOf 25 = .ok (.iload_n 1, 1) := by decide +kernel
theorem dX12_baseOf_26 : decode cX12_baseOf 26 = .ok (.invokevirtual 151, 3) := by decide +kernel
theorem dX12_baseOf_29 : decode cX12_baseOf 29 = .ok (.aload_n 0, 1) := by decide +kernel
theorem dX12_baseOf_30 : decode cX12_baseOf 30 = .ok (.iload_n 1, 1) := by decide +kernel
theorem dX12_baseOf_31 : decode cX12_baseOf 31 = .ok (.iconst 2, 1) := by decide +kernel
theorem dX12_baseOf_32 : decode cX12_baseOf 32 = .ok (.iadd, 1) := by decide +kernel
theorem dX12_baseOf_33 : decode cX12_baseOf 33 = .ok (.iconst 1, 1) := by decide +kernel
theorem dX12_baseOf_34 : decode cX12_baseOf 34 = .ok (.invokevirtual 136, 3) := by decide +kernel
theorem dX12_baseOf_37 : decode cX12_baseOf 37 = .ok (.return_, 1) := by decide +kernel
theorem dX12_base448_0 : decode cX12_base448 0 = .ok (.aload_n 0, 1) := by decide +kernel
theorem dX12_base448_1 : decode cX12_base448 1 = .ok (.bipush 17, 2) := by decide +kernel
theorem dX12_base448_3 : decode cX12_base448 3 = .ok (.invokevirtual 168, 3) := by decide +kernel
theorem dX12_base448_6 : decode cX12_base448 6 = .ok (.aload_n 0, 1) := by decide +kernel
theorem dX12_base448_7 : decode cX12_base448 7 = .ok (.bipush 17, 2) := by decide +kernel
theorem dX12_base448_9 : decode cX12_base448 9 = .ok (.iconst 0, 1) := by decide +kernel
theorem dX12_base448_10 : decode cX12_base448 10 = .ok (.ldc2_w 207, 3) := by decide +kernel
theorem dX12_base448_13 : decode cX12_base448 13 = .ok (.invokevirtual 122, 3) := by decide +kernel
theorem dX12_base448_16 : decode cX12_base448 16 = .ok (.aload_n 0, 1) := by decide +kernel
theorem dX12_base448_17 : decode cX12_base448 17 = .ok (.bipush 17, 2) := by decide +kernel
theorem dX12_base448_19 : decode cX12_base448 19 = .ok (.iconst 4, 1) := by decide +kernel
theorem dX12_base448_20 : decode cX12_base448 20 = .ok (.ldc2_w 209, 3) := by decide +kernel
theorem dX12_base448_23 : decode cX12_base448 23 = .ok (.invokevirtual 122, 3) := by decide +kernel
theorem dX12_base448_26 : decode cX12_base448 26 = .ok (.aload_n 0, 1) := by decide +kernel
theorem dX12_base448_27 : decode cX12_base448 27 = .ok (.bipush 17, 2) := by decide +kernel
theorem dX12_base448_29 : decode cX12_base448 29 = .ok (.bipush 8, 2) := by decide +kernel
theorem dX12_base448_31 : decode cX12_base448 31 = .ok (.ldc2_w 211, 3) := by decide +kernel
theorem dX12_base448_34 : decode cX12_base448 34 = .ok (.invokevirtual 122, 3) := by decide +kernel
theorem dX12_base448_37 : decode cX12_base448 37 = .ok (.aload_n 0, 1) := by decide +kernel
theorem dX12_base448_38 : decode cX12_base448 38 = .ok (.bipush 17, 2) := by decide +kernel
theorem dX12_base448_40 : decode cX12_base448 40 = .ok (.bipush 12, 2) := by decide +kernel
theorem dX12_base448_42 : decode cX12_base448 42 = .ok (.ldc2_w 213, 3) := by decide +kernel
theorem dX12_base448_45 : decode cX12_base448 45 = .ok (.invokevirtual 122, 3) := by decide +kernel
theorem dX12_base448_48 : decode cX12_base448 48 = .ok (.aload_n 0, 1) := by decide +kernel
theorem dX12_base448_49 : decode cX12_base448 49 = .ok (.bipush 17, 2) := by decide +kernel
theorem dX12_base448_51 : decode cX12_base448 51 = .ok (.bipush 16, 2) := by decide +kernel
theorem dX12_base448_53 : decode cX12_base448 53 = .ok (.ldc2_w 215, 3) := by decide +kernel
theorem dX12_base448_56 : decode cX12_base448 56 = .ok (.invokevirtual 122, 3) := by decide +kernel
theorem dX12_base448_59 : decode cX12_base448 59 = .ok (.aload_n 0, 1) := by decide +kernel
theorem dX12_base448_60 : decode cX12_base448 60 = .ok (.bipush 17, 2) := by decide +kernel
theorem dX12_base448_62 : decode cX12_base448 62 = .ok (.bipush 20, 2) := by decide +kernel
theorem dX12_base448_64 : decode cX12_base448 64 = .ok (.ldc2_w 217, 3) := by decide +kernel
theorem dX12_base448_67 : decode cX12_base448 67 = .ok (.invokevirtual 122, 3) := by decide +kernel
theorem dX12_base448_70 : decode cX12_base448 70 = .ok (.aload_n 0, 1) := by decide +kernel
theorem dX12_base448_71 : decode cX12_base448 71 = .ok (.bipush 17, 2) := by decide +kernel
theorem dX12_base448_73 : decode cX12_base448 73 = .ok (.bipush 24, 2) := by decide +kernel
theorem dX12_base448_75 : decode cX12_base448 75 = .ok (.ldc2_w 219, 3) := by decide +kernel
theorem dX12_base448_78 : decode cX12_base448 78 = .ok (.invokevirtual 122, 3) := by decide +kernel
theorem dX12_base448_81 : decode cX12_base448 81 = .ok (.aload_n 0, 1) := by decide +kernel
theorem dX12_base448_82 : decode cX12_base448 82 = .ok (.bipush 16, 2) := by decide +kernel
theorem dX12_base448_84 : decode cX12_base448 84 = .ok (.bipush 17, 2) := by decide +kernel
theorem dX12_base448_86 : decode cX12_base448 86 = .ok (.invokevirtual 154, 3) := by decide +kernel
theorem dX12_base448_89 : decode cX12_base448 89 = .ok (.pop, 1) := by decide +kernel
theorem dX12_base448_90 : decode cX12_base448 90 = .ok (.aload_n 0, 1) := by decide +kernel
theorem dX12_base448_91 : decode cX12_base448 91 = .ok (.bipush 16, 2) := by decide +kernel
theorem dX12_base448_93 : decode cX12_base448 93 = .ok (.iconst 0, 1) := by decide +kernel
theorem dX12_base448_94 : decode cX12_base448 94 = .ok (.invokevirtual 158, 3) := by decide +kernel
theorem dX12_base448_97 : decode cX12_base448 97 = .ok (.return_, 1) := by decide +kernel
theorem dX12_neutral_0 : decode cX12_neutral 0 = .ok (.aload_n 0, 1) := by decide +kernel
theorem dX12_neutral_1 : decode cX12_neutral 1 = .ok (.iload_n 1, 1) := by decide +kernel
theorem dX12_neutral_2 : decode cX12_neutral 2 = .ok (.invokevirtual 148, 3) := by decide +kernel
theorem dX12_neutral_5 : decode cX12_neutral 5 = .ok (.aload_n 0, 1) := by decide +kernel
theorem dX12_neutral_6 : decode cX12_neutral 6 = .ok (.iload_n 1, 1) := by decide +kernel
theorem dX12_neutral_7 : decode cX12_neutral 7 = .ok (.iconst 1, 1) := by decide +kernel
theorem dX12_neutral_8 : decode cX12_neutral 8 = .ok (.iadd, 1) := by decide +kernel
theorem dX12_neutral_9 : decode cX12_neutral 9 = .ok (.iconst 1, 1) := by decide +kernel
theorem dX12_neutral_10 : decode cX12_neutral 10 = .ok (.invokevirtual 136, 3) := by decide +kernel
theorem dX12_neutral_13 : decode cX12_neutral 13 = .ok (.aload_n 0, 1) := by decide +kernel
theorem dX12_neutral_14 : decode cX12_neutral 14 = .ok (.iload_n 1, 1) := by decide +kernel
theorem dX12_neutral_15 : decode cX12_neutral 15 = .ok (.iconst 2, 1) := by decide +kernel
theorem dX12_neutral_16 : decode cX12_neutral 16 = .ok (.iadd, 1) := by decide +kernel
theorem dX12_neutral_17 : decode cX12_neutral 17 = .ok (.iconst 1, 1) := by decide +kernel
theorem dX12_neutral_18 : decode cX12_neutral 18 = .ok (.invokevirtual 136, 3) := by decide +kernel
theorem dX12_neutral_21 : decode cX12_neutral 21 = .ok (.return_, 1) := by decide +kernel
theorem dX12_copyPoint_0 : decode cX12_copyPoint 0 = .ok (.iconst 0, 1) := by decide +kernel
theorem dX12_copyPoint_1 : decode cX12_copyPoint 1 = .ok (.istore_n 3, 1) := by decide +kernel
theorem dX12_copyPoint_2 : decode cX12_copyPoint 2 = .ok (.iload_n 3, 1) := by decide +kernel
theorem dX12_copyPoint_3 : decode cX12_copyPoint 3 = .ok (.iconst 3, 1) := by decide +kernel
theorem dX12_copyPoint_4 : decode cX12_copyPoint 4 = .ok (.if_icmp .ge 19, 3) := by decide +kernel
theorem dX12_copyPoint_7 : decode cX12_copyPoint 7 = .ok (.aload_n 0, 1) := by decide +kernel
theorem dX12_copyPoint_8 : decode cX12_copyPoint 8 = .ok (.iload_n 1, 1) := by decide +kernel
theorem dX12_copyPoint_9 : decode cX12_copyPoint 9 = .ok (.iload_n 3, 1) := by decide +kernel
theorem dX12_copyPoint_10 : decode cX12_copyPoint 10 = .ok (.iadd, 1) := by decide +kernel
theorem dX12_copyPoint_11 : decode cX12_copyPoint 11 = .ok (.iload_n 2, 1) := by decide +kernel
theorem dX12_copyPoint_12 : decode cX12_copyPoint 12 = .ok (.iload_n 3, 1) := by decide +kernel
theorem dX12_copyPoint_13 : decode cX12_copyPoint 13 = .ok (.iadd, 1) := by decide +kernel
theorem dX12_copyPoint_14 : decode cX12_copyPoint 14 = .ok (.invokevirtual 194, 3) := by decide +kernel
theorem dX12_copyPoint_17 : decode cX12_copyPoint 17 = .ok (.iinc 3 1, 3) := by decide +kernel
theorem dX12_copyPoint_20 : decode cX12_copyPoint 20 = .ok (.goto (-18), 3) := by decide +kernel
theorem dX12_copyPoint_23 : decode cX12_copyPoint 23 = .ok (.return_, 1) := by decide +kernel
theorem dX12_sum_0 : decode cX12_sum 0 = .ok (.aload_n 0, 1) := by decide +kernel
theorem dX12_sum_1 : decode cX12_sum 1 = .ok (.bipush 30, 2) := by decide +kernel
theorem dX12_sum_3 : decode cX12_sum 3 = .ok (.iload_n 2, 1) := by decide +kernel
theorem dX12_sum_4 : decode cX12_sum 4 = .ok (.iconst 2, 1) := by decide +kernel
theorem dX12_sum_5 : decode cX12_sum 5 = .ok (.iadd, 1) := by decide +kernel
theorem dX12_sum_6 : decode cX12_sum 6 = .ok (.iload_n 3, 1) := by decide +kernel
theorem dX12_sum_7 : decode cX12_sum 7 = .ok (.iconst 2, 1) := by decide +kernel
theorem dX12_sum_8 : decode cX12_sum 8 = .ok (.iadd, 1) := by decide +kernel
theorem dX12_sum_9 : decode cX12_sum 9 = .ok (.invokevirtual 144, 3) := by decide +kernel
theorem dX12_sum_12 : decode cX12_sum 12 = .ok (.aload_n 0, 1) := by decide +kernel
theorem dX12_sum_13 : decode cX12_sum 13 = .ok (.bipush 31, 2) := by decide +kernel
theorem dX12_sum_15 : decode cX12_sum 15 = .ok (.bipush 30, 2) := by decide +kernel
theorem dX12_sum_17 : decode cX12_sum 17 = .ok (.bipush 30, 2) := by decide +kernel
theorem dX12_sum_19 : decode cX12_sum 19 = .ok (.invokevirtual 144, 3) := by decide +kernel
theorem dX12_sum_22 : decode cX12_sum 22 = .ok (.aload_n 0, 1) := by decide +kernel
theorem dX12_sum_23 : decode cX12_sum 23 = .ok (.bipush 32, 2) := by decide +kernel
theorem dX12_sum_25 : decode cX12_sum 25 = .ok (.iload_n 2, 1) := by decide +kernel
theorem dX12_sum_26 : decode cX12_sum 26 = .ok (.iload_n 3, 1) := by decide +kernel
theorem dX12_sum_27 : decode cX12_sum 27 = .ok (.invokevirtual 144, 3) := by decide +kernel
theorem dX12_sum_30 : decode cX12_sum 30 = .ok (.aload_n 0, 1) := by decide +kernel
theorem dX12_sum_31 : decode cX12_sum 31 = .ok (.bipush 33, 2) := by decide +kernel
theorem dX12_sum_33 : decode cX12_sum 33 = .ok (.iload_n 2, 1) := by decide +kernel
theorem dX12_sum_34 : decode cX12_sum 34 = .ok (.iconst 1, 1) := by decide +kernel
theorem dX12_sum_35 : decode cX12_sum 35 = .ok (.iadd, 1) := by decide +kernel
theorem dX12_sum_36 : decode cX12_sum 36 = .ok (.iload_n 3, 1) := by decide +kernel
theorem dX12_sum_37 : decode cX12_sum 37 = .ok (.iconst 1, 1) := by decide +kernel
theorem dX12_sum_38 : decode cX12_sum 38 = .ok (.iadd, 1) := by decide +kernel
theorem dX12_sum_39 : decode cX12_sum 39 = .ok (.invokevirtual 144, 3) := by decide +kernel
theorem dX12_sum_42 : decode cX12_sum 42 = .ok (.aload_n 0, 1) := by decide +kernel
theorem dX12_sum_43 : decode cX12_sum 43 = .ok (.bipush 34, 2) := by decide +kernel
theorem dX12_sum_45 : decode cX12_sum 45 = .ok (.bipush 32, 2) := by decide +kernel
theorem dX12_sum_47 : decode cX12_sum 47 = .ok (.bipush 33, 2) := by decide +kernel
theorem dX12_sum_49 : decode cX12_sum 49 = .ok (.invokevirtual 144, 3) := by decide +kernel
theorem dX12_sum_52 : decode cX12_sum 52 = .ok (.aload_n 0, 1) := by decide +kernel
theorem dX12_sum_53 : decode cX12_sum 53 = .ok (.bipush 34, 2) := by decide +kernel
theorem dX12_sum_55 : decode cX12_sum 55 = .ok (.bipush 34, 2) := by decide +kernel
theorem dX12_sum_57 : decode cX12_sum 57 = .ok (.bipush 11, 2) := by decide +kernel
theorem dX12_sum_59 : decode cX12_sum 59 = .ok (.aload_n 0, 1) := by decide +kernel
theorem dX12_sum_60 : decode cX12_sum 60 = .ok (.getfield 51, 3) := by decide +kernel
theorem dX12_sum_63 : decode cX12_sum 63 = .ok (.iadd, 1) := by decide +kernel
theorem dX12_sum_64 : decode cX12_sum 64 = .ok (.invokevirtual 144, 3) := by decide +kernel
theorem dX12_sum_67 : decode cX12_sum 67 = .ok (.aload_n 0, 1) := by decide +kernel
theorem dX12_sum_68 : decode cX12_sum 68 = .ok (.bipush 35, 2) := by decide +kernel
theorem dX12_sum_70 : decode cX12_sum 70 = .ok (.bipush 31, 2) := by decide +kernel
theorem dX12_sum_72 : decode cX12_sum 72 = .ok (.bipush 34, 2) := by decide +kernel
theorem dX12_sum_74 : decode cX12_sum 74 = .ok (.invokevirtual 151, 3) := by decide +kernel
theorem dX12_sum_77 : decode cX12_sum 77 = .ok (.aload_n 0, 1) := by decide +kernel
theorem dX12_sum_78 : decode cX12_sum 78 = .ok (.bipush 36, 2) := by decide +kernel
theorem dX12_sum_80 : decode cX12_sum 80 = .ok (.bipush 31, 2) := by decide +kernel
theorem dX12_sum_82 : decode cX12_sum 82 = .ok (.bipush 34, 2) := by decide +kernel
theorem dX12_sum_84 : decode cX12_sum 84 = .ok (.invokevirtual 201, 3) := by decide +kernel
theorem dX12_sum_87 : decode cX12_sum 87 = .ok (.aload_n 0, 1) := by decide +kernel
theorem dX12_sum_88 : decode cX12_sum 88 = .ok (.bipush 37, 2) := by decide +kernel
theorem dX12_sum_90 : decode cX12_sum 90 = .ok (.iload_n 2, 1) := by decide +kernel
theorem dX12_sum_91 : decode cX12_sum 91 = .ok (.iload_n 2, 1) := by decide +kernel
theorem dX12_sum_92 : decode cX12_sum 92 = .ok (.iconst 1, 1) := by decide +kernel
theorem dX12_sum_93 : decode cX12_sum 93 = .ok (.iadd, 1) := by decide +kernel
theorem dX12_sum_94 : decode cX12_sum 94 = .ok (.invokevirtual 201, 3) := by decide +kernel
theorem dX12_sum_97 : decode cX12_sum 97 = .ok (.aload_n 0, 1) := by decide +kernel
theorem dX12_sum_98 : decode cX12_sum 98 = .ok (.bipush 38, 2) := by decide +kernel
theorem dX12_sum_100 : decode cX12_sum 100 = .ok (.iload_n 3, 1) := by decide +kernel
theorem dX12_sum_101 : decode cX12_sum 101 = .ok (.iload_n 3, 1) := by decide +kernel
theorem dX12_sum_102 : decode cX12_sum 102 = .ok (.iconst 1, 1) := by decide +kernel
theorem dX12_sum_103 : decode cX12_sum 103 = .ok (.iadd, 1) := by decide +kernel
theorem dX12_sum_104 : decode cX12_sum 104 = .ok (.invokevirtual 201, 3) := by decide +kernel
theorem dX12_sum_107 : decode cX12_sum 107 = .ok (.aload_n 0, 1) := by decide +kernel
theorem dX12_sum_108 : decode cX12_sum 108 = .ok (.bipush 37, 2) := by decide +kernel
theorem dX12_sum_110 : decode cX12_sum 110 = .ok (.bipush 37, 2) := by decide +kernel
theorem dX12_sum_112 : decode cX12_sum 112 = .ok (.bipush 38, 2) := by decide +kernel
theorem dX12_sum_114 : decode cX12_sum 114 = .ok (.invokevirtual 144, 3) := by decide +kernel
theorem dX12_sum_117 : decode cX12_sum 117 = .ok (.aload_n 0, 1) := by decide +kernel
theorem dX12_sum_118 : decode cX12_sum 118 = .ok (.bipush 37, 2) := by decide +kernel
theorem dX12_sum_120 : decode cX12_sum 120 = .ok (.bipush 37, 2) := by decide +kernel
theorem dX12_sum_122 : decode cX12_sum 122 = .ok (.bipush 32, 2) := by decide +kernel
theorem dX12_sum_124 : decode cX12_sum 124 = .ok (.invokevirtual 151, 3) := by decide +kernel
theorem dX12_sum_127 : decode cX12_sum 127 = .ok (.aload_n 0, 1) := by decide +kernel
theorem dX12_sum_128 : decode cX12_sum 128 = .ok (.bipush 37, 2) := by decide +kernel
theorem dX12_sum_130 : decode cX12_sum 130 = .ok (.bipush 37, 2) := by decide +kernel
theorem dX12_sum_132 : decode cX12_sum 132 = .ok (.bipush 33, 2) := by decide +kernel
theorem dX12_sum_134 : decode cX12_sum 134 = .ok (.invokevirtual 151, 3) := by decide +kernel
theorem dX12_sum_137 : decode cX12_sum 137 = .ok (.aload_n 0, 1) := by decide +kernel
theorem dX12_sum_138 : decode cX12_sum 138 = .ok (.getfield 51, 3) := by decide +kernel
theorem dX12_sum_141 : decode cX12_sum 141 = .ok (.ifCond .ne 16, 3) := by decide +kernel
theorem dX12_sum_144 : decode cX12_sum 144 = .ok (.aload_n 0, 1) := by decide +kernel
theorem dX12_sum_145 : decode cX12_sum 145 = .ok (.bipush 38, 2) := by decide +kernel
theorem dX12_sum_147 : decode cX12_sum 147 = .ok (.bipush 33, 2) := by decide +kernel
theorem dX12_sum_149 : decode cX12_sum 149 = .ok (.bipush 32, 2) := by decide +kernel
theorem dX12_sum_151 : decode cX12_sum 151 = .ok (.invokevirtual 201, 3) := by decide +kernel
theorem dX12_sum_154 : decode cX12_sum 154 = .ok (.goto 13, 3) := by decide +kernel
theorem dX12_sum_157 : decode cX12_sum 157 = .ok (.aload_n 0, 1) := by decide +kernel
theorem dX12_sum_158 : decode cX12_sum 158 = .ok (.bipush 38, 2) := by decide +kernel
theorem dX12_sum_160 : decode cX12_sum 160 = .ok (.bipush 33, 2) := by decide +kernel
theorem dX12_sum_162 : decode cX12_sum 162 = .ok (.bipush 32, 2) := by decide +kernel
theorem dX12_sum_164 : decode cX12_sum 164 = .ok (.invokevirtual 151, 3) := by decide +kernel
theorem dX12_sum_167 : decode cX12_sum 167 = .ok (.aload_n 0, 1) := by decide +kernel
theorem dX12_sum_168 : decode cX12_sum 168 = .ok (.bipush 39, 2) := by decide +kernel
theorem dX12_sum_170 : decode cX12_sum 170 = .ok (.bipush 30, 2) := by decide +kernel
theorem dX12_sum_172 : decode cX12_sum 172 = .ok (.bipush 35, 2) := by decide +kernel
theorem dX12_sum_174 : decode cX12_sum 174 = .ok (.invokevirtual 144, 3) := by decide +kernel
theorem dX12_sum_177 : decode cX12_sum 177 = .ok (.aload_n 0, 1) := by decide +kernel
theorem dX12_sum_178 : decode cX12_sum 178 = .ok (.iload_n 1, 1) := by decide +kernel
theorem dX12_sum_179 : decode cX12_sum 179 = .ok (.bipush 39, 2) := by decide +kernel
theorem dX12_sum_181 : decode cX12_sum 181 = .ok (.bipush 37, 2) := by decide +kernel
theorem dX12_sum_183 : decode cX12_sum 183 = .ok (.invokevirtual 144, 3) := by decide +kernel
theorem dX12_sum_186 : decode cX12_sum 186 = .ok (.aload_n 0, 1) := by decide +kernel
theorem dX12_sum_187 : decode cX12_sum 187 = .ok (.bipush 39, 2) := by decide +kernel
theorem dX12_sum_189 : decode cX12_sum 189 = .ok (.bipush 30, 2) := by decide +kernel
theorem dX12_sum_191 : decode cX12_sum 191 = .ok (.bipush 36, 2) := by decide +kernel
theorem dX12_sum_193 : decode cX12_sum 193 = .ok (.invokevirtual 144, 3) := by decide +kernel
theorem dX12_sum_196 : decode cX12_sum 196 = .ok (.aload_n 0, 1) := by decide +kernel
theorem dX12_sum_197 : decode cX12_sum 197 = .ok (.iload_n 1, 1) := by decide +kernel
theorem dX12_sum_198 : decode cX12_sum 198 = .ok (.iconst 1, 1) := by decide +kernel
theorem dX12_sum_199 : decode cX12_sum 199 = .ok (.iadd, 1) := by decide +kernel
theorem dX12_sum_200 : decode cX12_sum 200 = .ok (.bipush 39, 2) := by decide +kernel
theorem dX12_sum_202 : decode cX12_sum 202 = .ok (.bipush 38, 2) := by decide +kernel
theorem dX12_sum_204 : decode cX12_sum 204 = .ok (.invokevirtual 144, 3) := by decide +kernel
theorem dX12_sum_207 : decode cX12_sum 207 = .ok (.aload_n 0, 1) := by decide +kernel
theorem dX12_sum_208 : decode cX12_sum 208 = .ok (.iload_n 1, 1) := by decide +kernel
theorem dX12_sum_209 : decode cX12_sum 209 = .ok (.iconst 2, 1) := by decide +kernel
theorem dX12_sum_210 : decode cX12_sum 210 = .ok (.iadd, 1) := by decide +kernel
theorem dX12_sum_211 : decode cX12_sum 211 = .ok (.bipush 35, 2) := by decide +kernel
theorem dX12_sum_213 : decode cX12_sum 213 = .ok (.bipush 36, 2) := by decide +kernel
theorem dX12_sum_215 : decode cX12_sum 215 = .ok (.invokevirtual 144, 3) := by decide +kernel
theorem dX12_sum_218 : decode cX12_sum 218 = .ok (.return_, 1) := by decide +kernel
theorem dX12_negate_0 : decode cX12_negate 0 = .ok (.aload_n 0, 1) := by decide +kernel
theorem dX12_negate_1 : decode cX12_negate 1 = .ok (.bipush 30, 2) := by decide +kernel
theorem dX12_negate_3 : decode cX12_negate 3 = .ok (.invokevirtual 148, 3) := by decide +kernel
theorem dX12_negate_6 : decode cX12_negate 6 = .ok (.aload_n 0, 1) := by decide +kernel
theorem dX12_negate_7 : decode cX12_negate 7 = .ok (.iload_n 1, 1) := by decide +kernel
theorem dX12_negate_8 : decode cX12_negate 8 = .ok (.bipush 30, 2) := by decide +kernel
theorem dX12_negate_10 : decode cX12_negate 10 = .ok (.iload_n 1, 1) := by decide +kernel
theorem dX12_negate_11 : decode cX12_negate 11 = .ok (.invokevirtual 151, 3) := by decide +kernel
theorem dX12_negate_14 : decode cX12_negate 14 = .ok (.return_, 1) := by decide +kernel
theorem dX12_many_0 : decode cX12_many 0 = .ok (.aload_n 0, 1) := by decide +kernel
theorem dX12_many_1 : decode cX12_many 1 = .ok (.bipush 43, 2) := by decide +kernel
theorem dX12_many_3 : decode cX12_many 3 = .ok (.iload_n 2, 1) := by decide +kernel
theorem dX12_many_4 : decode cX12_many 4 = .ok (.invokevirtual 221, 3) := by decide +kernel
theorem dX12_many_7 : decode cX12_many 7 = .ok (.aload_n 0, 1) := by decide +kernel
theorem dX12_many_8 : decode cX12_many 8 = .ok (.bipush 40, 2) := by decide +kernel
theorem dX12_many_10 : decode cX12_many 10 = .ok (.invokevirtual 165, 3) := by decide +kernel
theorem dX12_many_13 : decode cX12_many 13 = .ok (.bipush 8, 2) := by decide +kernel
theorem dX12_many_15 : decode cX12_many 15 = .ok (.iload 4, 2) := by decide +kernel
theorem dX12_many_17 : decode cX12_many 17 = .ok (.imul, 1) := by decide +kernel
theorem dX12_many_18 : decode cX12_many 18 = .ok (.iconst 1, 1) := by decide +kernel
theorem dX12_many_19 : decode cX12_many 19 = .ok (.isub, 1) := by decide +kernel
theorem dX12_many_20 : decode cX12_many 20 = .ok (.istore 5, 2) := by decide +kernel
theorem dX12_many_22 : decode cX12_many 22 = .ok (.iload 5, 2) := by decide +kernel
theorem dX12_many_24 : decode cX12_many 24 = .ok (.ifCond .lt 47, 3) := by decide +kernel
theorem dX12_many_27 : decode cX12_many 27 = .ok (.aload_n 0, 1) := by decide +kernel
theorem dX12_many_28 : decode cX12_many 28 = .ok (.bipush 40, 2) := by decide +kernel
theorem dX12_many_30 : decode cX12_many 30 = .ok (.bipush 40, 2) := by decide +kernel
theorem dX12_many_32 : decode cX12_many 32 = .ok (.bipush 40, 2) := by decide +kernel
theorem dX12_many_34 : decode cX12_many 34 = .ok (.invokevirtual 224, 3) := by decide +kernel
theorem dX12_many_37 : decode cX12_many 37 = .ok (.aload_n 3, 1) := by decide +kernel
theorem dX12_many_38 : decode cX12_many 38 = .ok (.iload 5, 2) := by decide +kernel
theorem dX12_many_40 : decode cX12_many 40 = .ok (.iconst 3, 1) := by decide +kernel
theorem dX12_many_41 : decode cX12_many 41 = .ok (.ishr, 1) := by decide +kernel
theorem dX12_many_42 : decode cX12_many 42 = .ok (.iaload, 1) := by decide +kernel
theorem dX12_many_43 : decode cX12_many 43 = .ok (.iload 5, 2) := by decide +kernel
theorem dX12_many_45 : decode cX12_many 45 = .ok (.bipush 7, 2) := by decide +kernel
theorem dX12_many_47 : decode cX12_many 47 = .ok (.iand, 1) := by decide +kernel
theorem dX12_many_48 : decode cX12_many 48 = .ok (.ishr, 1) := by decide +kernel
theorem dX12_many_49 : decode cX12_many 49 = .ok (.iconst 1, 1) := by decide +kernel
theorem dX12_many_50 : decode cX12_many 50 = .ok (.iand, 1) := by decide +kernel
theorem dX12_many_51 : decode cX12_many 51 = .ok (.iconst 1, 1) := by decide +kernel
theorem dX12_many_52 : decode cX12_many 52 = .ok (.if_icmp .ne 13, 3) := by decide +kernel
theorem dX12_many_55 : decode cX12_many 55 = .ok (.aload_n 0, 1) := by decide +kernel
theorem dX12_many_56 : decode cX12_many 56 = .ok (.bipush 40, 2) := by decide +kernel
theorem dX12_many_58 : decode cX12_many 58 = .ok (.bipush 40, 2) := by decide +kernel
theorem dX12_many_60 : decode cX12_many 60 = .ok (.bipush 43, 2) := by decide +kernel
theorem dX12_many_62 : decode cX12_many 62 = .ok (.invokevirtual 224, 3) := by decide +kernel
theorem dX12_many_65 : decode cX12_many 65 = .ok (.iinc 5 (-1), 3) := by decide +kernel
theorem dX12_many_68 : decode cX12_many 68 = .ok (.goto (-46), 3) := by decide +kernel
theorem dX12_many_71 : decode cX12_many 71 = .ok (.aload_n 0, 1) := by decide +kernel
theorem dX12_many_72 : decode cX12_many 72 = .ok (.iload_n 1, 1) := by decide +kernel
theorem dX12_many_73 : decode cX12_many 73 = .ok (.bipush 40, 2) := by decide +kernel
theorem dX12_many_75 : decode cX12_many 75 = .ok (.invokevirtual 221, 3) := by decide +kernel
theorem dX12_many_78 : decode cX12_many 78 = .ok (.return_, 1) := by decide +kernel
theorem dX12_isNeutral_0 : decode cX12_isNeutral 0 = .ok (.aload_n 0, 1) := by decide +kernel
theorem dX12_isNeutral_1 : decode cX12_isNeutral 1 = .ok (.iload_n 1, 1) := by decide +kernel
theorem dX12_isNeutral_2 : decode cX12_isNeutral 2 = .ok (.invokevirtual 227, 3) := by decide +kernel
theorem dX12_isNeutral_5 : decode cX12_isNeutral 5 = .ok (.ifCond .eq 20, 3) := by decide +kernel
theorem dX12_isNeutral_8 : decode cX12_isNeutral 8 = .ok (.aload_n 0, 1) := by decide +kernel
theorem dX12_isNeutral_9 : decode cX12_isNeutral 9 = .ok (.iload_n 1, 1) := by decide +kernel
theorem dX12_isNeutral_10 : decode cX12_isNeutral 10 = .ok (.iconst 1, 1) := by decide +kernel
theorem dX12_isNeutral_11 : decode cX12_isNeutral 11 = .ok (.iadd, 1) := by decide +kernel
theorem dX12_isNeutral_12 : decode cX12_isNeutral 12 = .ok (.iload_n 1, 1) := by decide +kernel
theorem dX12_isNeutral_13 : decode cX12_isNeutral 13 = .ok (.iconst 2, 1) := by decide +kernel
theorem dX12_isNeutral_14 : decode cX12_isNeutral 14 = .ok (.iadd, 1) := by decide +kernel
theorem dX12_isNeutral_15 : decode cX12_isNeutral 15 = .ok (.invokevirtual 204, 3) := by decide +kernel
theorem dX12_isNeutral_18 : decode cX12_isNeutral 18 = .ok (.ifCond .eq 7, 3) := by decide +kernel
theorem dX12_isNeutral_21 : decode cX12_isNeutral 21 = .ok (.iconst 1, 1) := by decide +kernel
theorem dX12_isNeutral_22 : decode cX12_isNeutral 22 = .ok (.goto 4, 3) := by decide +kernel
theorem dX12_isNeutral_25 : decode cX12_isNeutral 25 = .ok (.iconst 0, 1) := by decide +kernel
theorem dX12_isNeutral_26 : decode cX12_isNeutral 26 = .ok (.ireturn, 1) := by decide +kernel
theorem dX12_alike_0 : decode cX12_alike 0 = .ok (.aload_n 0, 1) := by decide +kernel
theorem dX12_alike_1 : decode cX12_alike 1 = .ok (.bipush 30, 2) := by decide +kernel
theorem dX12_alike_3 : decode cX12_alike 3 = .ok (.iload_n 1, 1) := by decide +kernel
theorem dX12_alike_4 : decode cX12_alike 4 = .ok (.iload_n 2, 1) := by decide +kernel
theorem dX12_alike_5 : decode cX12_alike 5 = .ok (.iconst 2, 1) := by decide +kernel
theorem dX12_alike_6 : decode cX12_alike 6 = .ok (.iadd, 1) := by decide +kernel
theorem dX12_alike_7 : decode cX12_alike 7 = .ok (.invokevirtual 144, 3) := by decide +kernel
theorem dX12_alike_10 : decode cX12_alike 10 = .ok (.aload_n 0, 1) := by decide +kernel
theorem dX12_alike_11 : decode cX12_alike 11 = .ok (.bipush 31, 2) := by decide +kernel
theorem dX12_alike_13 : decode cX12_alike 13 = .ok (.iload_n 2, 1) := by decide +kernel
theorem dX12_alike_14 : decode cX12_alike 14 = .ok (.iload_n 1, 1) := by decide +kernel
theorem dX12_alike_15 : decode cX12_alike 15 = .ok (.iconst 2, 1) := by decide +kernel
theorem dX12_alike_16 : decode cX12_alike 16 = .ok (.iadd, 1) := by decide +kernel
theorem dX12_alike_17 : decode cX12_alike 17 = .ok (.invokevirtual 144, 3) := by decide +kernel
theorem dX12_alike_20 : decode cX12_alike 20 = .ok (.aload_n 0, 1) := by decide +kernel
theorem dX12_alike_21 : decode cX12_alike 21 = .ok (.bipush 32, 2) := by decide +kernel
theorem dX12_alike_23 : decode cX12_alike 23 = .ok (.iload_n 1, 1) := by decide +kernel
theorem dX12_alike_24 : decode cX12_alike 24 = .ok (.iconst 1, 1) := by decide +kernel
theorem dX12_alike_25 : decode cX12_alike 25 = .ok (.iadd, 1) := by decide +kernel
theorem dX12_alike_26 : decode cX12_alike 26 = .ok (.iload_n 2, 1) := by decide +kernel
theorem dX12_alike_27 : decode cX12_alike 27 = .ok (.iconst 2, 1) := by decide +kernel
theorem dX12_alike_28 : decode cX12_alike 28 = .ok (.iadd, 1) := by decide +kernel
theorem dX12_alike_29 : decode cX12_alike 29 = .ok (.invokevirtual 144, 3) := by decide +kernel
theorem dX12_alike_32 : decode cX12_alike 32 = .ok (.aload_n 0, 1) := by decide +kernel
theorem dX12_alike_33 : decode cX12_alike 33 = .ok (.bipush 33, 2) := by decide +kernel
theorem dX12_alike_35 : decode cX12_alike 35 = .ok (.iload_n 2, 1) := by decide +kernel
theorem dX12_alike_36 : decode cX12_alike 36 = .ok (.iconst 1, 1) := by decide +kernel
theorem dX12_alike_37 : decode cX12_alike 37 = .ok (.iadd, 1) := by decide +kernel
theorem dX12_alike_38 : decode cX12_alike 38 = .ok (.iload_n 1, 1) := by decide +kernel
theorem dX12_alike_39 : decode cX12_alike 39 = .ok (.iconst 2, 1) := by decide +kernel
theorem dX12_alike_40 : decode cX12_alike 40 = .ok (.iadd, 1) := by decide +kernel
theorem dX12_alike_41 : decode cX12_alike 41 = .ok (.invokevirtual 144, 3) := by decide +kernel
theorem dX12_alike_44 : decode cX12_alike 44 = .ok (.aload_n 0, 1) := by decide +kernel
theorem dX12_alike_45 : decode cX12_alike 45 = .ok (.bipush 30, 2) := by decide +kernel
theorem dX12_alike_47 : decode cX12_alike 47 = .ok (.bipush 31, 2) := by decide +kernel
theorem dX12_alike_49 : decode cX12_alike 49 = .ok (.invokevirtual 204, 3) := by decide +kernel
theorem dX12_alike_52 : decode cX12_alike 52 = .ok (.ifCond .eq 18, 3) := by decide +kernel
theorem dX12_alike_55 : decode cX12_alike 55 = .ok (.aload_n 0, 1) := by decide +kernel
theorem dX12_alike_56 : decode cX12_alike 56 = .ok (.bipush 32, 2) := by decide +kernel
theorem dX12_alike_58 : decode cX12_alike 58 = .ok (.bipush 33, 2) := by decide +kernel
theorem dX12_alike_60 : decode cX12_alike 60 = .ok (.invokevirtual 204, 3) := by decide +kernel
theorem dX12_alike_63 : decode cX12_alike 63 = .ok (.ifCond .eq 7, 3) := by decide +kernel
theorem dX12_alike_66 : decode cX12_alike 66 = .ok (.iconst 1, 1) := by decide +kernel
theorem dX12_alike_67 : decode cX12_alike 67 = .ok (.goto 4, 3) := by decide +kernel
theorem dX12_alike_70 : decode cX12_alike 70 = .ok (.iconst 0, 1) := by decide +kernel
theorem dX12_alike_71 : decode cX12_alike 71 = .ok (.ireturn, 1) := by decide +kernel
theorem dX12_keyBytes_0 : decode cX12_keyBytes 0 = .ok (.aload_n 0, 1) := by decide +kernel
theorem dX12_keyBytes_1 : decode cX12_keyBytes 1 = .ok (.getfield 51, 3) := by decide +kernel
theorem dX12_keyBytes_4 : decode cX12_keyBytes 4 = .ok (.ifCond .ne 8, 3) := by decide +kernel
theorem dX12_keyBytes_7 : decode cX12_keyBytes 7 = .ok (.bipush 32, 2) := by decide +kernel
theorem dX12_keyBytes_9 : decode cX12_keyBytes 9 = .ok (.goto 5, 3) := by decide +kernel
theorem dX12_keyBytes_12 : decode cX12_keyBytes 12 = .ok (.bipush 57, 2) := by decide +kernel
theorem dX12_keyBytes_14 : decode cX12_keyBytes 14 = .ok (.ireturn, 1) := by decide +kernel
theorem dX12_encode_0 : decode cX12_encode 0 = .ok (.aload_n 0, 1) := by decide +kernel
theorem dX12_encode_1 : decode cX12_encode 1 = .ok (.bipush 50, 2) := by decide +kernel
theorem dX12_encode_3 : decode cX12_encode 3 = .ok (.iload_n 1, 1) := by decide +kernel
theorem dX12_encode_4 : decode cX12_encode 4 = .ok (.iconst 2, 1) := by decide +kernel
theorem dX12_encode_5 : decode cX12_encode 5 = .ok (.iadd, 1) := by decide +kernel
theorem dX12_encode_6 : decode cX12_encode 6 = .ok (.invokevirtual 141, 3) := by decide +kernel
theorem dX12_encode_9 : decode cX12_encode 9 = .ok (.aload_n 0, 1) := by decide +kernel
theorem dX12_encode_10 : decode cX12_encode 10 = .ok (.bipush 51, 2) := by decide +kernel
theorem dX12_encode_12 : decode cX12_encode 12 = .ok (.iload_n 1, 1) := by decide +kernel
theorem dX12_encode_13 : decode cX12_encode 13 = .ok (.bipush 50, 2) := by decide +kernel
theorem dX12_encode_15 : decode cX12_encode 15 = .ok (.invokevirtual 144, 3) := by decide +kernel
theorem dX12_encode_18 : decode cX12_encode 18 = .ok (.aload_n 0, 1) := by decide +kernel
theorem dX12_encode_19 : decode cX12_encode 19 = .ok (.bipush 52, 2) := by decide +kernel
theorem dX12_encode_21 : decode cX12_encode 21 = .ok (.iload_n 1, 1) := by decide +kernel
theorem dX12_encode_22 : decode cX12_encode 22 = .ok (.iconst 1, 1) := by decide +kernel
theorem dX12_encode_23 : decode cX12_encode 23 = .ok (.iadd, 1) := by decide +kernel
theorem dX12_encode_24 : decode cX12_encode 24 = .ok (.bipush 50, 2) := by decide +kernel
theorem dX12_encode_26 : decode cX12_encode 26 = .ok (.invokevirtual 144, 3) := by decide +kernel
theorem dX12_encode_29 : decode cX12_encode 29 = .ok (.iconst 0, 1) := by decide +kernel
theorem dX12_encode_30 : decode cX12_encode 30 = .ok (.istore_n 2, 1) := by decide +kernel
theorem dX12_encode_31 : decode cX12_encode 31 = .ok (.iload_n 2, 1) := by decide +kernel
theorem dX12_encode_32 : decode cX12_encode 32 = .ok (.bipush 57, 2) := by decide +kernel
theorem dX12_encode_34 : decode cX12_encode 34 = .ok (.if_icmp .ge 52, 3) := by decide +kernel
theorem dX12_encode_37 : decode cX12_encode 37 = .ok (.aload_n 0, 1) := by decide +kernel
theorem dX12_encode_38 : decode cX12_encode 38 = .ok (.getfield 111, 3) := by decide +kernel
theorem dX12_encode_41 : decode cX12_encode 41 = .ok (.iload_n 2, 1) := by decide +kernel
theorem dX12_encode_42 : decode cX12_encode 42 = .ok (.iload_n 2, 1) := by decide +kernel
theorem dX12_encode_43 : decode cX12_encode 43 = .ok (.iconst 2, 1) := by decide +kernel
theorem dX12_encode_44 : decode cX12_encode 44 = .ok (.aload_n 0, 1) := by decide +kernel
theorem dX12_encode_45 : decode cX12_encode 45 = .ok (.getfield 54, 3) := by decide +kernel
theorem dX12_encode_48 : decode cX12_encode 48 = .ok (.imul, 1) := by decide +kernel
theorem dX12_encode_49 : decode cX12_encode 49 = .ok (.if_icmp .ge 29, 3) := by decide +kernel
theorem dX12_encode_52 : decode cX12_encode 52 = .ok (.aload_n 0, 1) := by decide +kernel
theorem dX12_encode_53 : decode cX12_encode 53 = .ok (.getfield 41, 3) := by decide +kernel
theorem dX12_encode_56 : decode cX12_encode 56 = .ok (.sipush 1664, 3) := by decide +kernel
theorem dX12_encode_59 : decode cX12_encode 59 = .ok (.iload_n 2, 1) := by decide +kernel
theorem dX12_encode_60 : decode cX12_encode 60 = .ok (.iconst 1, 1) := by decide +kernel
theorem dX12_encode_61 : decode cX12_encode 61 = .ok (.ishr, 1) := by decide +kernel
theorem dX12_encode_62 : decode cX12_encode 62 = .ok (.iadd, 1) := by decide +kernel
theorem dX12_encode_63 : decode cX12_encode 63 = .ok (.iaload, 1) := by decide +kernel
theorem dX12_encode_64 : decode cX12_encode 64 = .ok (.bipush 8, 2) := by decide +kernel
theorem dX12_encode_66 : decode cX12_encode 66 = .ok (.iload_n 2, 1) := by decide +kernel
theorem dX12_encode_67 : decode cX12_encode 67 = .ok (.iconst 1, 1) := by decide +kernel
theorem dX12_encode_68 : decode cX12_encode 68 = .ok (.iand, 1) := by decide +kernel
theorem dX12_encode_69 : decode cX12_encode 69 = .ok (.imul, 1) := by decide +kernel
theorem dX12_encode_70 : decode cX12_encode 70 = .ok (.ishr, 1) := by decide +kernel
theorem dX12_encode_71 : decode cX12_encode 71 = .ok (.sipush 255, 3) := by decide +kernel
theorem dX12_encode_74 : decode cX12_encode 74 = .ok (.iand, 1) := by decide +kernel
theorem dX12_encode_75 : decode cX12_encode 75 = .ok (.goto 4, 3) := by decide +kernel
theorem dX12_encode_78 : decode cX12_encode 78 = .ok (.iconst 0, 1) := by decide +kernel
theorem dX12_encode_79 : decode cX12_encode 79 = .ok (.iastore, 1) := by decide +kernel
theorem dX12_encode_80 : decode cX12_encode 80 = .ok (.iinc 2 1, 3) := by decide +kernel
theorem dX12_encode_83 : decode cX12_encode 83 = .ok (.goto (-52), 3) := by decide +kernel
theorem dX12_encode_86 : decode cX12_encode 86 = .ok (.aload_n 0, 1) := by decide +kernel
theorem dX12_encode_87 : decode cX12_encode 87 = .ok (.invokevirtual 231, 3) := by decide +kernel
theorem dX12_encode_90 : decode cX12_encode 90 = .ok (.iconst 1, 1) := by decide +kernel
theorem dX12_encode_91 : decode cX12_encode 91 = .ok (.isub, 1) := by decide +kernel
theorem dX12_encode_92 : decode cX12_encode 92 = .ok (.istore_n 2, 1) := by decide +kernel
theorem dX12_encode_93 : decode cX12_encode 93 = .ok (.aload_n 0, 1) := by decide +kernel
theorem dX12_encode_94 : decode cX12_encode 94 = .ok (.getfield 111, 3) := by decide +kernel
theorem dX12_encode_97 : decode cX12_encode 97 = .ok (.iload_n 2, 1) := by decide +kernel
theorem dX12_encode_98 : decode cX12_encode 98 = .ok (.aload_n 0, 1) := by decide +kernel
theorem dX12_encode_99 : decode cX12_encode 99 = .ok (.getfield 111, 3) := by decide +kernel
theorem dX12_encode_102 : decode cX12_encode 102 = .ok (.iload_n 2, 1) := by decide +kernel
theorem dX12_encode_103 : decode cX12_encode 103 = .ok (.iaload, 1) := by decide +kernel
theorem dX12_encode_104 : decode cX12_encode 104 = .ok (.aload_n 0, 1) := by decide +kernel
theorem dX12_encode_105 : decode cX12_encode 105 = .ok (.getfield 41, 3) := by decide +kernel
theorem dX12_encode_108 : decode cX12_encode 108 = .ok (.sipush 1632, 3) := by decide +kernel
theorem dX12_encode_111 : decode cX12_encode 111 = .ok (.iaload, 1) := by decide +kernel
theorem dX12_encode_112 : decode cX12_encode 112 = .ok (.iconst 1, 1) := by decide +kernel
theorem dX12_encode_113 : decode cX12_encode 113 = .ok (.iand, 1) := by decide +kernel
theorem dX12_encode_114 : decode cX12_encode 114 = .ok (.bipush 7, 2) := by decide +kernel
theorem dX12_encode_116 : decode cX12_encode 116 = .ok (.ishl, 1) := by decide +kernel
theorem dX12_encode_117 : decode cX12_encode 117 = .ok (.ior, 1) := by decide +kernel
theorem dX12_encode_118 : decode cX12_encode 118 = .ok (.iastore, 1) := by decide +kernel
theorem dX12_encode_119 : decode cX12_encode 119 = .ok (.return_, 1) := by decide +kernel
theorem dX12_decode_0 : decode cX12_decode 0 = .ok (.aload_n 0, 1) := by decide +kernel
theorem dX12_decode_1 : decode cX12_decode 1 = .ok (.invokevirtual 231, 3) := by decide +kernel
theorem dX12_decode_4 : decode cX12_decode 4 = .ok (.iconst 1, 1) := by decide +kernel
theorem dX12_decode_5 : decode cX12_decode 5 = .ok (.isub, 1) := by decide +kernel
theorem dX12_decode_6 : decode cX12_decode 6 = .ok (.istore 4, 2) := by decide +kernel
theorem dX12_decode_8 : decode cX12_decode 8 = .ok (.aload_n 2, 1) := by decide +kernel
theorem dX12_decode_9 : decode cX12_decode 9 = .ok (.iload_n 3, 1) := by decide +kernel
theorem dX12_decode_10 : decode cX12_decode 10 = .ok (.iload 4, 2) := by decide +kernel
theorem dX12_decode_12 : decode cX12_decode 12 = .ok (.iadd, 1) := by decide +kernel
theorem dX12_decode_13 : decode cX12_decode 13 = .ok (.iaload, 1) := by decide +kernel
theorem dX12_decode_14 : decode cX12_decode 14 = .ok (.bipush 7, 2) := by decide +kernel
theorem dX12_decode_16 : decode cX12_decode 16 = .ok (.ishr, 1) := by decide +kernel
theorem dX12_decode_17 : decode cX12_decode 17 = .ok (.istore 5, 2) := by decide +kernel
theorem dX12_decode_19 : decode cX12_decode 19 = .ok (.aload_n 0, 1) := by decide +kernel
theorem dX12_decode_20 : decode cX12_decode 20 = .ok (.bipush 50, 2) := by decide +kernel
theorem dX12_decode_22 : decode cX12_decode 22 = .ok (.invokevirtual 148, 3) := by decide +kernel
theorem dX12_decode_25 : decode cX12_decode 25 = .ok (.iconst 0, 1) := by decide +kernel
theorem dX12_decode_26 : decode cX12_decode 26 = .ok (.istore 6, 2) := by decide +kernel
theorem dX12_decode_28 : decode cX12_decode 28 = .ok (.iload 6, 2) := by decide +kernel
theorem dX12_decode_30 : decode cX12_decode 30 = .ok (.iload 4, 2) := by decide +kernel
theorem dX12_decode_32 : decode cX12_decode 32 = .ok (.if_icmp .gt 73, 3) := by decide +kernel
theorem dX12_decode_35 : decode cX12_decode 35 = .ok (.iload 6, 2) := by decide +kernel
theorem dX12_decode_37 : decode cX12_decode 37 = .ok (.iload 4, 2) := by decide +kernel
theorem dX12_decode_39 : decode cX12_decode 39 = .ok (.if_icmp .ne 15, 3) := by decide +kernel
theorem dX12_decode_42 : decode cX12_decode 42 = .ok (.aload_n 2, 1) := by decide +kernel
theorem dX12_decode_43 : decode cX12_decode 43 = .ok (.iload_n 3, 1) := by decide +kernel
theorem dX12_decode_44 : decode cX12_decode 44 = .ok (.iload 6, 2) := by decide +kernel
theorem dX12_decode_46 : decode cX12_decode 46 = .ok (.iadd, 1) := by decide +kernel
theorem dX12_decode_47 : decode cX12_decode 47 = .ok (.iaload, 1) := by decide +kernel
theorem dX12_decode_48 : decode cX12_decode 48 = .ok (.bipush 127, 2) := by decide +kernel
theorem dX12_decode_50 : decode cX12_decode 50 = .ok (.iand, 1) := by decide +kernel
theorem dX12_decode_51 : decode cX12_decode 51 = .ok (.goto 9, 3) := by decide +kernel
theorem dX12_decode_54 : decode cX12_decode 54 = .ok (.aload_n 2, 1) := by decide +kernel
theorem dX12_decode_55 : decode cX12_decode 55 = .ok (.iload_n 3, 1) := by decide +kernel
theorem dX12_decode_56 : decode cX12_decode 56 = .ok (.iload 6, 2) := by decide +kernel
theorem dX12_decode_58 : decode cX12_decode 58 = .ok (.iadd, 1) := by decide +kernel
theorem dX12_decode_59 : decode cX12_decode 59 = .ok (.iaload, 1) := by decide +kernel
theorem dX12_decode_60 : decode cX12_decode 60 = .ok (.istore 7, 2) := by decide +kernel
theorem dX12_decode_62 : decode cX12_decode 62 = .ok (.aload_n 0, 1) := by decide +kernel
theorem dX12_decode_63 : decode cX12_decode 63 = .ok (.getfield 41, 3) := by decide +kernel
theorem dX12_decode_66 : decode cX12_decode 66 = .ok (.sipush 1600, 3) := by decide +kernel
theorem dX12_decode_69 : decode cX12_decode 69 = .ok (.iload 6, 2) := by decide +kernel
theorem dX12_decode_71 : decode cX12_decode 71 = .ok (.iconst 1, 1) := by decide +kernel
theorem dX12_decode_72 : decode cX12_decode 72 = .ok (.ishr, 1) := by decide +kernel
theorem dX12_decode_73 : decode cX12_decode 73 = .ok (.iadd, 1) := by decide +kernel
theorem dX12_decode_74 : decode cX12_decode 74 = .ok (.aload_n 0, 1) := by decide +kernel
theorem dX12_decode_75 : decode cX12_decode 75 = .ok (.getfield 41, 3) := by decide +kernel
theorem dX12_decode_78 : decode cX12_decode 78 = .ok (.sipush 1600, 3) := by decide +kernel
theorem dX12_decode_81 : decode cX12_decode 81 = .ok (.iload 6, 2) := by decide +kernel
theorem dX12_decode_83 : decode cX12_decode 83 = .ok (.iconst 1, 1) := by decide +kernel
theorem dX12_decode_84 : decode cX12_decode 84 = .ok (.ishr, 1) := by decide +kernel
theorem dX12_decode_85 : decode cX12_decode 85 = .ok (.iadd, 1) := by decide +kernel
theorem dX12_decode_86 : decode cX12_decode 86 = .ok (.iaload, 1) := by decide +kernel
theorem dX12_decode_87 : decode cX12_decode 87 = .ok (.iload 7, 2) := by decide +kernel
theorem dX12_decode_89 : decode cX12_decode 89 = .ok (.bipush 8, 2) := by decide +kernel
theorem dX12_decode_91 : decode cX12_decode 91 = .ok (.iload 6, 2) := by decide +kernel
theorem dX12_decode_93 : decode cX12_decode 93 = .ok (.iconst 1, 1) := by decide +kernel
theorem dX12_decode_94 : decode cX12_decode 94 = .ok (.iand, 1) := by decide +kernel
theorem dX12_decode_95 : decode cX12_decode 95 = .ok (.imul, 1) := by decide +kernel
theorem dX12_decode_96 : decode cX12_decode 96 = .ok (.ishl, 1) := by decide +kernel
theorem dX12_decode_97 : decode cX12_decode 97 = .ok (.ior, 1) := by decide +kernel
theorem dX12_decode_98 : decode cX12_decode 98 = .ok (.iastore, 1) := by decide +kernel
theorem dX12_decode_99 : decode cX12_decode 99 = .ok (.iinc 6 1, 3) := by decide +kernel
theorem dX12_decode_102 : decode cX12_decode 102 = .ok (.goto (-74), 3) := by decide +kernel
theorem dX12_decode_105 : decode cX12_decode 105 = .ok (.aload_n 0, 1) := by decide +kernel
theorem dX12_decode_106 : decode cX12_decode 106 = .ok (.getfield 41, 3) := by decide +kernel
theorem dX12_decode_109 : decode cX12_decode 109 = .ok (.sipush 1628, 3) := by decide +kernel
theorem dX12_decode_112 : decode cX12_decode 112 = .ok (.iaload, 1) := by decide +kernel
theorem dX12_decode_113 : decode cX12_decode 113 = .ok (.ifCond .ne 30, 3) := by decide +kernel
theorem dX12_decode_116 : decode cX12_decode 116 = .ok (.aload_n 0, 1) := by decide +kernel
theorem dX12_decode_117 : decode cX12_decode 117 = .ok (.bipush 50, 2) := by decide +kernel
theorem dX12_decode_119 : decode cX12_decode 119 = .ok (.bipush 9, 2) := by decide +kernel
theorem dX12_decode_121 : decode cX12_decode 121 = .ok (.aload_n 0, 1) := by decide +kernel
theorem dX12_decode_122 : decode cX12_decode 122 = .ok (.getfield 51, 3) := by decide +kernel
theorem dX12_decode_125 : decode cX12_decode 125 = .ok (.iadd, 1) := by decide +kernel
theorem dX12_decode_126 : decode cX12_decode 126 = .ok (.invokevirtual 183, 3) := by decide +kernel
theorem dX12_decode_129 : decode cX12_decode 129 = .ok (.ifCond .ne 14, 3) := by decide +kernel
theorem dX12_decode_132 : decode cX12_decode 132 = .ok (.aload_n 0, 1) := by decide +kernel
theorem dX12_decode_133 : decode cX12_decode 133 = .ok (.bipush 51, 2) := by decide +kernel
theorem dX12_decode_135 : decode cX12_decode 135 = .ok (.bipush 50, 2) := by decide +kernel
theorem dX12_decode_137 : decode cX12_decode 137 = .ok (.invokevirtual 154, 3) := by decide +kernel
theorem dX12_decode_140 : decode cX12_decode 140 = .ok (.ifCond .ne 5, 3) := by decide +kernel
theorem dX12_decode_143 : decode cX12_decode 143 = .ok (.iconst 0, 1) := by decide +kernel
theorem dX12_decode_144 : decode cX12_decode 144 = .ok (.ireturn, 1) := by decide +kernel
theorem dX12_decode_145 : decode cX12_decode 145 = .ok (.aload_n 0, 1) := by decide +kernel
theorem dX12_decode_146 : decode cX12_decode 146 = .ok (.bipush 51, 2) := by decide +kernel
theorem dX12_decode_148 : decode cX12_decode 148 = .ok (.invokevirtual 227, 3) := by decide +kernel
theorem dX12_decode_151 : decode cX12_decode 151 = .ok (.ifCond .eq 11, 3) := by decide +kernel
theorem dX12_decode_154 : decode cX12_decode 154 = .ok (.iload 5, 2) := by decide +kernel
theorem dX12_decode_156 : decode cX12_decode 156 = .ok (.iconst 1, 1) := by decide +kernel
theorem dX12_decode_157 : decode cX12_decode 157 = .ok (.if_icmp .ne 5, 3) := by decide +kernel
theorem dX12_decode_160 : decode cX12_decode 160 = .ok (.iconst 0, 1) := by decide +kernel
theorem dX12_decode_161 : decode cX12_decode 161 = .ok (.ireturn, 1) := by decide +kernel
theorem dX12_decode_162 : decode cX12_decode 162 = .ok (.aload_n 0, 1) := by decide +kernel
theorem dX12_decode_163 : decode cX12_decode 163 = .ok (.getfield 41, 3) := by decide +kernel
theorem dX12_decode_166 : decode cX12_decode 166 = .ok (.sipush 1632, 3) := by decide +kernel
theorem dX12_decode_169 : decode cX12_decode 169 = .ok (.iaload, 1) := by decide +kernel
theorem dX12_decode_170 : decode cX12_decode 170 = .ok (.iconst 1, 1) := by decide +kernel
theorem dX12_decode_171 : decode cX12_decode 171 = .ok (.iand, 1) := by decide +kernel
theorem dX12_decode_172 : decode cX12_decode 172 = .ok (.iload 5, 2) := by decide +kernel
theorem dX12_decode_174 : decode cX12_decode 174 = .ok (.if_icmp .eq 19, 3) := by decide +kernel
theorem dX12_decode_177 : decode cX12_decode 177 = .ok (.aload_n 0, 1) := by decide +kernel
theorem dX12_decode_178 : decode cX12_decode 178 = .ok (.bipush 25, 2) := by decide +kernel
theorem dX12_decode_180 : decode cX12_decode 180 = .ok (.invokevirtual 148, 3) := by decide +kernel
theorem dX12_decode_183 : decode cX12_decode 183 = .ok (.aload_n 0, 1) := by decide +kernel
theorem dX12_decode_184 : decode cX12_decode 184 = .ok (.bipush 51, 2) := by decide +kernel
theorem dX12_decode_186 : decode cX12_decode 186 = .ok (.bipush 25, 2) := by decide +kernel
theorem dX12_decode_188 : decode cX12_decode 188 = .ok (.bipush 51, 2) := by decide +kernel
theorem dX12_decode_190 : decode cX12_decode 190 = .ok (.invokevirtual 151, 3) := by decide +kernel
theorem dX12_decode_193 : decode cX12_decode 193 = .ok (.aload_n 0, 1) := by decide +kernel
theorem dX12_decode_194 : decode cX12_decode 194 = .ok (.iload_n 1, 1) := by decide +kernel
theorem dX12_decode_195 : decode cX12_decode 195 = .ok (.bipush 51, 2) := by decide +kernel
theorem dX12_decode_197 : decode cX12_decode 197 = .ok (.invokevirtual 194, 3) := by decide +kernel
theorem dX12_decode_200 : decode cX12_decode 200 = .ok (.aload_n 0, 1) := by decide +kernel
theorem dX12_decode_201 : decode cX12_decode 201 = .ok (.iload_n 1, 1) := by decide +kernel
theorem dX12_decode_202 : decode cX12_decode 202 = .ok (.iconst 1, 1) := by decide +kernel
theorem dX12_decode_203 : decode cX12_decode 203 = .ok (.iadd, 1) := by decide +kernel
theorem dX12_decode_204 : decode cX12_decode 204 = .ok (.bipush 50, 2) := by decide +kernel
theorem dX12_decode_206 : decode cX12_decode 206 = .ok (.invokevirtual 194, 3) := by decide +kernel
theorem dX12_decode_209 : decode cX12_decode 209 = .ok (.aload_n 0, 1) := by decide +kernel
theorem dX12_decode_210 : decode cX12_decode 210 = .ok (.iload_n 1, 1) := by decide +kernel
theorem dX12_decode_211 : decode cX12_decode 211 = .ok (.iconst 2, 1) := by decide +kernel
theorem dX12_decode_212 : decode cX12_decode 212 = .ok (.iadd, 1) := by decide +kernel
theorem dX12_decode_213 : decode cX12_decode 213 = .ok (.iconst 1, 1) := by decide +kernel
theorem dX12_decode_214 : decode cX12_decode 214 = .ok (.invokevirtual 136, 3) := by decide +kernel
theorem dX12_decode_217 : decode cX12_decode 217 = .ok (.iconst 1, 1) := by decide +kernel
theorem dX12_decode_218 : decode cX12_decode 218 = .ok (.ireturn, 1) := by decide +kernel
theorem dX12_modulo_0 : decode cX12_modulo 0 = .ok (.bipush 19, 2) := by decide +kernel
theorem dX12_modulo_2 : decode cX12_modulo 2 = .ok (.aload_n 0, 1) := by decide +kernel
theorem dX12_modulo_3 : decode cX12_modulo 3 = .ok (.getfield 51, 3) := by decide +kernel
theorem dX12_modulo_6 : decode cX12_modulo 6 = .ok (.iadd, 1) := by decide +kernel
theorem dX12_modulo_7 : decode cX12_modulo 7 = .ok (.istore 4, 2) := by decide +kernel
theorem dX12_modulo_9 : decode cX12_modulo 9 = .ok (.aload_n 0, 1) := by decide +kernel
theorem dX12_modulo_10 : decode cX12_modulo 10 = .ok (.bipush 53, 2) := by decide +kernel
theorem dX12_modulo_12 : decode cX12_modulo 12 = .ok (.invokevirtual 168, 3) := by decide +kernel
theorem dX12_modulo_15 : decode cX12_modulo 15 = .ok (.bipush 8, 2) := by decide +kernel
theorem dX12_modulo_17 : decode cX12_modulo 17 = .ok (.iload_n 3, 1) := by decide +kernel
theorem dX12_modulo_18 : decode cX12_modulo 18 = .ok (.imul, 1) := by decide +kernel
theorem dX12_modulo_19 : decode cX12_modulo 19 = .ok (.iconst 1, 1) := by decide +kernel
theorem dX12_modulo_20 : decode cX12_modulo 20 = .ok (.isub, 1) := by decide +kernel
theorem dX12_modulo_21 : decode cX12_modulo 21 = .ok (.istore 5, 2) := by decide +kernel
theorem dX12_modulo_23 : decode cX12_modulo 23 = .ok (.iload 5, 2) := by decide +kernel
theorem dX12_modulo_25 : decode cX12_modulo 25 = .ok (.ifCond .lt 101, 3) := by decide +kernel
theorem dX12_modulo_28 : decode cX12_modulo 28 = .ok (.aload_n 2, 1) := by decide +kernel
theorem dX12_modulo_29 : decode cX12_modulo 29 = .ok (.iload 5, 2) := by decide +kernel
theorem dX12_modulo_31 : decode cX12_modulo 31 = .ok (.iconst 3, 1) := by decide +kernel
theorem dX12_modulo_32 : decode cX12_modulo 32 = .ok (.ishr, 1) := by decide +kernel
theorem dX12_modulo_33 : decode cX12_modulo 33 = .ok (.iaload, 1) := by decide +kernel
theorem dX12_modulo_34 : decode cX12_modulo 34 = .ok (.iload 5, 2) := by decide +kernel
theorem dX12_modulo_36 : decode cX12_modulo 36 = .ok (.bipush 7, 2) := by decide +kernel
theorem dX12_modulo_38 : decode cX12_modulo 38 = .ok (.iand, 1) := by decide +kernel
theorem dX12_modulo_39 : decode cX12_modulo 39 = .ok (.ishr, 1) := by decide +kernel
theorem dX12_modulo_40 : decode cX12_modulo 40 = .ok (.iconst 1, 1) := by decide +kernel
theorem dX12_modulo_41 : decode cX12_modulo 41 = .ok (.iand, 1) := by decide +kernel
theorem dX12_modulo_42 : decode cX12_modulo 42 = .ok (.istore 6, 2) := by decide +kernel
theorem dX12_modulo_44 : decode cX12_modulo 44 = .ok (.iconst 0, 1) := by decide +kernel
theorem dX12_modulo_45 : decode cX12_modulo 45 = .ok (.istore 7, 2) := by decide +kernel
theorem dX12_modulo_47 : decode cX12_modulo 47 = .ok (.iload 7, 2) := by decide +kernel
theorem dX12_modulo_49 : decode cX12_modulo 49 = .ok (.bipush 28, 2) := by decide +kernel
theorem dX12_modulo_51 : decode cX12_modulo 51 = .ok (.if_icmp .ge 50, 3) := by decide +kernel
theorem dX12_modulo_54 : decode cX12_modulo 54 = .ok (.iconst 2, 1) := by decide +kernel
theorem dX12_modulo_55 : decode cX12_modulo 55 = .ok (.aload_n 0, 1) := by decide +kernel
theorem dX12_modulo_56 : decode cX12_modulo 56 = .ok (.getfield 41, 3) := by decide +kernel
theorem dX12_modulo_59 : decode cX12_modulo 59 = .ok (.sipush 1696, 3) := by decide +kernel
theorem dX12_modulo_62 : decode cX12_modulo 62 = .ok (.iload 7, 2) := by decide +kernel
theorem dX12_modulo_64 : decode cX12_modulo 64 = .ok (.iadd, 1) := by decide +kernel
theorem dX12_modulo_65 : decode cX12_modulo 65 = .ok (.iaload, 1) := by decide +kernel
theorem dX12_modulo_66 : decode cX12_modulo 66 = .ok (.imul, 1) := by decide +kernel
theorem dX12_modulo_67 : decode cX12_modulo 67 = .ok (.iload 6, 2) := by decide +kernel
theorem dX12_modulo_69 : decode cX12_modulo 69 = .ok (.iadd, 1) := by decide +kernel
theorem dX12_modulo_70 : decode cX12_modulo 70 = .ok (.istore 8, 2) := by decide +kernel
theorem dX12_modulo_72 : decode cX12_modulo 72 = .ok (.aload_n 0, 1) := by decide +kernel
theorem dX12_modulo_73 : decode cX12_modulo 73 = .ok (.getfield 41, 3) := by decide +kernel
theorem dX12_modulo_76 : decode cX12_modulo 76 = .ok (.sipush 1696, 3) := by decide +kernel
theorem dX12_modulo_79 : decode cX12_modulo 79 = .ok (.iload 7, 2) := by decide +kernel
theorem dX12_modulo_81 : decode cX12_modulo 81 = .ok (.iadd, 1) := by decide +kernel
theorem dX12_modulo_82 : decode cX12_modulo 82 = .ok (.iload 8, 2) := by decide +kernel
theorem dX12_modulo_84 : decode cX12_modulo 84 = .ok (.ldc 117, 2) := by decide +kernel
theorem dX12_modulo_86 : decode cX12_modulo 86 = .ok (.iand, 1) := by decide +kernel
theorem dX12_modulo_87 : decode cX12_modulo 87 = .ok (.iastore, 1) := by decide +kernel
theorem dX12_modulo_88 : decode cX12_modulo 88 = .ok (.iload 8, 2) := by decide +kernel
theorem dX12_modulo_90 : decode cX12_modulo 90 = .ok (.bipush 16, 2) := by decide +kernel
theorem dX12_modulo_92 : decode cX12_modulo 92 = .ok (.ishr, 1) := by decide +kernel
theorem dX12_modulo_93 : decode cX12_modulo 93 = .ok (.istore 6, 2) := by decide +kernel
theorem dX12_modulo_95 : decode cX12_modulo 95 = .ok (.iinc 7 1, 3) := by decide +kernel
theorem dX12_modulo_98 : decode cX12_modulo 98 = .ok (.goto (-51), 3) := by decide +kernel
theorem dX12_modulo_101 : decode cX12_modulo 101 = .ok (.aload_n 0, 1) := by decide +kernel
theorem dX12_modulo_102 : decode cX12_modulo 102 = .ok (.bipush 53, 2) := by decide +kernel
theorem dX12_modulo_104 : decode cX12_modulo 104 = .ok (.iload 4, 2) := by decide +kernel
theorem dX12_modulo_106 : decode cX12_modulo 106 = .ok (.invokevirtual 183, 3) := by decide +kernel
theorem dX12_modulo_109 : decode cX12_modulo 109 = .ok (.ifCond .eq 11, 3) := by decide +kernel
theorem dX12_modulo_112 : decode cX12_modulo 112 = .ok (.aload_n 0, 1) := by decide +kernel
theorem dX12_modulo_113 : decode cX12_modulo 113 = .ok (.bipush 53, 2) := by decide +kernel
theorem dX12_modulo_115 : decode cX12_modulo 115 = .ok (.iload 4, 2) := by decide +kernel
theorem dX12_modulo_117 : decode cX12_modulo 117 = .ok (.invokevirtual 186, 3) := by decide +kernel
theorem dX12_modulo_120 : decode cX12_modulo 120 = .ok (.iinc 5 (-1), 3) := by decide +kernel
theorem dX12_modulo_123 : decode cX12_modulo 123 = .ok (.goto (-100), 3) := by decide +kernel
theorem dX12_modulo_126 : decode cX12_modulo 126 = .ok (.iconst 0, 1) := by decide +kernel
theorem dX12_modulo_127 : decode cX12_modulo 127 = .ok (.istore 5, 2) := by decide +kernel
theorem dX12_modulo_129 : decode cX12_modulo 129 = .ok (.iload 5, 2) := by decide +kernel
theorem dX12_modulo_131 : decode cX12_modulo 131 = .ok (.bipush 57, 2) := by decide +kernel
theorem dX12_modulo_133 : decode cX12_modulo 133 = .ok (.if_icmp .ge 49, 3) := by decide +kernel
theorem dX12_modulo_136 : decode cX12_modulo 136 = .ok (.aload_n 1, 1) := by decide +kernel
theorem dX12_modulo_137 : decode cX12_modulo 137 = .ok (.iload 5, 2) := by decide +kernel
theorem dX12_modulo_139 : decode cX12_modulo 139 = .ok (.iload 5, 2) := by decide +kernel
theorem dX12_modulo_141 : decode cX12_modulo 141 = .ok (.bipush 56, 2) := by decide +kernel
theorem dX12_modulo_143 : decode cX12_modulo 143 = .ok (.if_icmp .ge 31, 3) := by decide +kernel
theorem dX12_modulo_146 : decode cX12_modulo 146 = .ok (.aload_n 0, 1) := by decide +kernel
theorem dX12_modulo_147 : decode cX12_modulo 147 = .ok (.getfield 41, 3) := by decide +kernel
theorem dX12_modulo_150 : decode cX12_modulo 150 = .ok (.sipush 1696, 3) := by decide +kernel
theorem dX12_modulo_153 : decode cX12_modulo 153 = .ok (.iload 5, 2) := by decide +kernel
theorem dX12_modulo_155 : decode cX12_modulo 155 = .ok (.iconst 1, 1) := by decide +kernel
theorem dX12_modulo_156 : decode cX12_modulo 156 = .ok (.ishr, 1) := by decide +kernel
theorem dX12_modulo_157 : decode cX12_modulo 157 = .ok (.iadd, 1) := by decide +kernel
theorem dX12_modulo_158 : decode cX12_modulo 158 = .ok (.iaload, 1) := by decide +kernel
theorem dX12_modulo_159 : decode cX12_modulo 159 = .ok (.bipush 8, 2) := by decide +kernel
theorem dX12_modulo_161 : decode cX12_modulo 161 = .ok (.iload 5, 2) := by decide +kernel
theorem dX12_modulo_163 : decode cX12_modulo 163 = .ok (.iconst 1, 1) := by decide +kernel
theorem dX12_modulo_164 : decode cX12_modulo 164 = .ok (.iand, 1) := by decide +kernel
theorem dX12_modulo_165 : decode cX12_modulo 165 = .ok (.imul, 1) := by decide +kernel
theorem dX12_modulo_166 : decode cX12_modulo 166 = .ok (.ishr, 1) := by decide +kernel
theorem dX12_modulo_167 : decode cX12_modulo 167 = .ok (.sipush 255, 3) := by decide +kernel
theorem dX12_modulo_170 : decode cX12_modulo 170 = .ok (.iand, 1) := by decide +kernel
theorem dX12_modulo_171 : decode cX12_modulo 171 = .ok (.goto 4, 3) := by decide +kernel
theorem dX12_modulo_174 : decode cX12_modulo 174 = .ok (.iconst 0, 1) := by decide +kernel
theorem dX12_modulo_175 : decode cX12_modulo 175 = .ok (.iastore, 1) := by decide +kernel
theorem dX12_modulo_176 : decode cX12_modulo 176 = .ok (.iinc 5 1, 3) := by decide +kernel
theorem dX12_modulo_179 : decode cX12_modulo 179 = .ok (.goto (-50), 3) := by decide +kernel
theorem dX12_modulo_182 : decode cX12_modulo 182 = .ok (.return_, 1) := by decide +kernel
theorem dX12_combine_0 : decode cX12_combine 0 = .ok (.iconst 0, 1) := by decide +kernel
theorem dX12_combine_1 : decode cX12_combine 1 = .ok (.istore_n 1, 1) := by decide +kernel
theorem dX12_combine_2 : decode cX12_combine 2 = .ok (.iload_n 1, 1) := by decide +kernel
theorem dX12_combine_3 : decode cX12_combine 3 = .ok (.sipush 128, 3) := by decide +kernel
theorem dX12_combine_6 : decode cX12_combine 6 = .ok (.if_icmp .ge 16, 3) := by decide +kernel
theorem dX12_combine_9 : decode cX12_combine 9 = .ok (.aload_n 0, 1) := by decide +kernel
theorem dX12_combine_10 : decode cX12_combine 10 = .ok (.getfield 108, 3) := by decide +kernel
theorem dX12_combine_13 : decode cX12_combine 13 = .ok (.iload_n 1, 1) := by decide +kernel
theorem dX12_combine_14 : decode cX12_combine 14 = .ok (.iconst 0, 1) := by decide +kernel
theorem dX12_combine_15 : decode cX12_combine 15 = .ok (.iastore, 1) := by decide +kernel
theorem dX12_combine_16 : decode cX12_combine 16 = .ok (.iinc 1 1, 3) := by decide +kernel
theorem dX12_combine_19 : decode cX12_combine 19 = .ok (.goto (-17), 3) := by decide +kernel
theorem dX12_combine_22 : decode cX12_combine 22 = .ok (.iconst 0, 1) := by decide +kernel
theorem dX12_combine_23 : decode cX12_combine 23 = .ok (.istore_n 1, 1) := by decide +kernel
theorem dX12_combine_24 : decode cX12_combine 24 = .ok (.iload_n 1, 1) := by decide +kernel
theorem dX12_combine_25 : decode cX12_combine 25 = .ok (.bipush 57, 2) := by decide +kernel
theorem dX12_combine_27 : decode cX12_combine 27 = .ok (.if_icmp .ge 81, 3) := by decide +kernel
theorem dX12_combine_30 : decode cX12_combine 30 = .ok (.iconst 0, 1) := by decide +kernel
theorem dX12_combine_31 : decode cX12_combine 31 = .ok (.istore_n 2, 1) := by decide +kernel
theorem dX12_combine_32 : decode cX12_combine 32 = .ok (.iconst 0, 1) := by decide +kernel
theorem dX12_combine_33 : decode cX12_combine 33 = .ok (.istore_n 3, 1) := by decide +kernel
theorem dX12_combine_34 : decode cX12_combine 34 = .ok (.iload_n 3, 1) := by decide +kernel
theorem dX12_combine_35 : decode cX12_combine 35 = .ok (.bipush 57, 2) := by decide +kernel
theorem dX12_combine_37 : decode cX12_combine 37 = .ok (.if_icmp .ge 55, 3) := by decide +kernel
theorem dX12_combine_40 : decode cX12_combine 40 = .ok (.aload_n 0, 1) := by decide +kernel
theorem dX12_combine_41 : decode cX12_combine 41 = .ok (.getfield 108, 3) := by decide +kernel
theorem dX12_combine_44 : decode cX12_combine 44 = .ok (.iload_n 1, 1) := by decide +kernel
theorem dX12_combine_45 : decode cX12_combine 45 = .ok (.iload_n 3, 1) := by decide +kernel
theorem dX12_combine_46 : decode cX12_combine 46 = .ok (.iadd, 1) := by decide +kernel
theorem dX12_combine_47 : decode cX12_combine 47 = .ok (.iaload, 1) := by decide +kernel
theorem dX12_combine_48 : decode cX12_combine 48 = .ok (.aload_n 0, 1) := by decide +kernel
theorem dX12_combine_49 : decode cX12_combine 49 = .ok (.getfield 102, 3) := by decide +kernel
theorem dX12_combine_52 : decode cX12_combine 52 = .ok (.iload_n 1, 1) := by decide +kernel
theorem dX12_combine_53 : decode cX12_combine 53 = .ok (.iaload, 1) := by decide +kernel
theorem dX12_combine_54 : decode cX12_combine 54 = .ok (.aload_n 0, 1) := by decide +kernel
theorem dX12_combine_55 : decode cX12_combine 55 = .ok (.getfield 90, 3) := by decide +kernel
theorem dX12_combine_58 : decode cX12_combine 58 = .ok (.iload_n 3, 1) := by decide +kernel
theorem dX12_combine_59 : decode cX12_combine 59 = .ok (.iaload, 1) := by decide +kernel
theorem dX12_combine_60 : decode cX12_combine 60 = .ok (.imul, 1) := by decide +kernel
theorem dX12_combine_61 : decode cX12_combine 61 = .ok (.iadd, 1) := by decide +kernel
theorem dX12_combine_62 : decode cX12_combine 62 = .ok (.iload_n 2, 1) := by decide +kernel
theorem dX12_combine_63 : decode cX12_combine 63 = .ok (.iadd, 1) := by decide +kernel
theorem dX12_combine_64 : decode cX12_combine 64 = .ok (.istore 4, 2) := by decide +kernel
theorem dX12_combine_66 : decode cX12_combine 66 = .ok (.aload_n 0, 1) := by decide +kernel
theorem dX12_combine_67 : decode cX12_combine 67 = .ok (.getfield 108, 3) := by decide +kernel
theorem dX12_combine_70 : decode cX12_combine 70 = .ok (.iload_n 1, 1) := by decide +kernel
theorem dX12_combine_71 : decode cX12_combine 71 = .ok (.iload_n 3, 1) := by decide +kernel
theorem dX12_combine_72 : decode cX12_combine 72 = .ok (.iadd, 1) := by decide +kernel
theorem dX12_combine_73 : decode cX12_combine 73 = .ok (.iload 4, 2) := by decide +kernel
theorem dX12_combine_75 : decode cX12_combine 75 = .ok (.sipush 255, 3) := by decide +kernel
theorem dX12_combine_78 : decode cX12_combine 78 = .ok (.iand, 1) := by decide +kernel
theorem dX12_combine_79 : decode cX12_combine 79 = .ok (.iastore, 1) := by decide +kernel
theorem dX12_combine_80 : decode cX12_combine 80 = .ok (.iload 4, 2) := by decide +kernel
theorem dX12_combine_82 : decode cX12_combine 82 = .ok (.bipush 8, 2) := by decide +kernel
theorem dX12_combine_84 : decode cX12_combine 84 = .ok (.ishr, 1) := by decide +kernel
theorem dX12_combine_85 : decode cX12_combine 85 = .ok (.istore_n 2, 1) := by decide +kernel
theorem dX12_combine_86 : decode cX12_combine 86 = .ok (.iinc 3 1, 3) := by decide +kernel
theorem dX12_combine_89 : decode cX12_combine 89 = .ok (.goto (-55), 3) := by decide +kernel
theorem dX12_combine_92 : decode cX12_combine 92 = .ok (.aload_n 0, 1) := by decide +kernel
theorem dX12_combine_93 : decode cX12_combine 93 = .ok (.getfield 108, 3) := by decide +kernel
theorem dX12_combine_96 : decode cX12_combine 96 = .ok (.iload_n 1, 1) := by decide +kernel
theorem dX12_combine_97 : decode cX12_combine 97 = .ok (.bipush 57, 2) := by decide +kernel
theorem dX12_combine_99 : decode cX12_combine 99 = .ok (.iadd, 1) := by decide +kernel
theorem dX12_combine_100 : decode cX12_combine 100 = .ok (.iload_n 2, 1) := by decide +kernel
theorem dX12_combine_101 : decode cX12_combine 101 = .ok (.iastore, 1) := by decide +kernel
theorem dX12_combine_102 : decode cX12_combine 102 = .ok (.iinc 1 1, 3) := by decide +kernel
theorem dX12_combine_105 : decode cX12_combine 105 = .ok (.goto (-81), 3) := by decide +kernel
theorem dX12_combine_108 : decode cX12_combine 108 = .ok (.iconst 0, 1) := by decide +kernel
theorem dX12_combine_109 : decode cX12_combine 109 = .ok (.istore_n 1, 1) := by decide +kernel
theorem dX12_combine_110 : decode cX12_combine 110 = .ok (.iconst 0, 1) := by decide +kernel
theorem dX12_combine_111 : decode cX12_combine 111 = .ok (.istore_n 2, 1) := by decide +kernel
theorem dX12_combine_112 : decode cX12_combine 112 = .ok (.iload_n 2, 1) := by decide +kernel
theorem dX12_combine_113 : decode cX12_combine 113 = .ok (.sipush 128, 3) := by decide +kernel
theorem dX12_combine_116 : decode cX12_combine 116 = .ok (.if_icmp .ge 51, 3) := by decide +kernel
theorem dX12_combine_119 : decode cX12_combine 119 = .ok (.aload_n 0, 1) := by decide +kernel
theorem dX12_combine_120 : decode cX12_combine 120 = .ok (.getfield 108, 3) := by decide +kernel
theorem dX12_combine_123 : decode cX12_combine 123 = .ok (.iload_n 2, 1) := by decide +kernel
theorem dX12_combine_124 : decode cX12_combine 124 = .ok (.iaload, 1) := by decide +kernel
theorem dX12_combine_125 : decode cX12_combine 125 = .ok (.iload_n 2, 1) := by decide +kernel
theorem dX12_combine_126 : decode cX12_combine 126 = .ok (.bipush 57, 2) := by decide +kernel
theorem dX12_combine_128 : decode cX12_combine 128 = .ok (.if_icmp .ge 12, 3) := by decide +kernel
theorem dX12_combine_131 : decode cX12_combine 131 = .ok (.aload_n 0, 1) := by decide +kernel
theorem dX12_combine_132 : decode cX12_combine 132 = .ok (.getfield 99, 3) := by decide +kernel
theorem dX12_combine_135 : decode cX12_combine 135 = .ok (.iload_n 2, 1) := by decide +kernel
theorem dX12_combine_136 : decode cX12_combine 136 = .ok (.iaload, 1) := by decide +kernel
theorem dX12_combine_137 : decode cX12_combine 137 = .ok (.goto 4, 3) := by decide +kernel
theorem dX12_combine_140 : decode cX12_combine 140 = .ok (.iconst 0, 1) := by decide +kernel
theorem dX12_combine_141 : decode cX12_combine 141 = .ok (.iadd, 1) := by decide +kernel
theorem dX12_combine_142 : decode cX12_combine 142 = .ok (.iload_n 1, 1) := by decide +kernel
theorem dX12_combine_143 : decode cX12_combine 143 = .ok (.iadd, 1) := by decide +kernel
theorem dX12_combine_144 : decode cX12_combine 144 = .ok (.istore_n 3, 1) := by decide +kernel
theorem dX12_combine_145 : decode cX12_combine 145 = .ok (.aload_n 0, 1) := by decide +kernel
theorem dX12_combine_146 : decode cX12_combine 146 = .ok (.getfield 108, 3) := by decide +kernel
theorem dX12_combine_149 : decode cX12_combine 149 = .ok (.iload_n 2, 1) := by decide +kernel
theorem dX12_combine_150 : decode cX12_combine 150 = .ok (.iload_n 3, 1) := by decide +kernel
theorem dX12_combine_151 : decode cX12_combine 151 = .ok (.sipush 255, 3) := by decide +kernel
theorem dX12_combine_154 : decode cX12_combine 154 = .ok (.iand, 1) := by decide +kernel
theorem dX12_combine_155 : decode cX12_combine 155 = .ok (.iastore, 1) := by decide +kernel
theorem dX12_combine_156 : decode cX12_combine 156 = .ok (.iload_n 3, 1) := by decide +kernel
theorem dX12_combine_157 : decode cX12_combine 157 = .ok (.bipush 8, 2) := by decide +kernel
theorem dX12_combine_159 : decode cX12_combine 159 = .ok (.ishr, 1) := by decide +kernel
theorem dX12_combine_160 : decode cX12_combine 160 = .ok (.istore_n 1, 1) := by decide +kernel
theorem dX12_combine_161 : decode cX12_combine 161 = .ok (.iinc 2 1, 3) := by decide +kernel
theorem dX12_combine_164 : decode cX12_combine 164 = .ok (.goto (-52), 3) := by decide +kernel
theorem dX12_combine_167 : decode cX12_combine 167 = .ok (.aload_n 0, 1) := by decide +kernel
theorem dX12_combine_168 : decode cX12_combine 168 = .ok (.aload_n 0, 1) := by decide +kernel
theorem dX12_combine_169 : decode cX12_combine 169 = .ok (.getfield 102, 3) := by decide +kernel
theorem dX12_combine_172 : decode cX12_combine 172 = .ok (.aload_n 0, 1) := by decide +kernel
theorem dX12_combine_173 : decode cX12_combine 173 = .ok (.getfield 108, 3) := by decide +kernel
theorem dX12_combine_176 : decode cX12_combine 176 = .ok (.bipush 115, 2) := by decide +kernel
theorem dX12_combine_178 : decode cX12_combine 178 = .ok (.invokevirtual 235, 3) := by decide +kernel
theorem dX12_combine_181 : decode cX12_combine 181 = .ok (.return_, 1) := by decide +kernel
theorem dX12_rootConstants_0 : decode cX12_rootConstants 0 = .ok (.iconst 1, 1) := by decide +kernel
theorem dX12_rootConstants_1 : decode cX12_rootConstants 1 = .ok (.istore_n 1, 1) := by decide +kernel
theorem dX12_rootConstants_2 : decode cX12_rootConstants 2 = .ok (.iconst 0, 1) := by decide +kernel
theorem dX12_rootConstants_3 : decode cX12_rootConstants 3 = .ok (.istore_n 2, 1) := by decide +kernel
theorem dX12_rootConstants_4 : decode cX12_rootConstants 4 = .ok (.iload_n 2, 1) := by decide +kernel
theorem dX12_rootConstants_5 : decode cX12_rootConstants 5 = .ok (.bipush 80, 2) := by decide +kernel
theorem dX12_rootConstants_7 : decode cX12_rootConstants 7 = .ok (.if_icmp .ge 44, 3) := by decide +kernel
theorem dX12_rootConstants_10 : decode cX12_rootConstants 10 = .ok (.iload_n 1, 1) := by decide +kernel
theorem dX12_rootConstants_11 : decode cX12_rootConstants 11 = .ok (.invokestatic 239, 3) := by decide +kernel
theorem dX12_rootConstants_14 : decode cX12_rootConstants 14 = .ok (.istore_n 1, 1) := by decide +kernel
theorem dX12_rootConstants_15 : decode cX12_rootConstants 15 = .ok (.aload_n 0, 1) := by decide +kernel
theorem dX12_rootConstants_16 : decode cX12_rootConstants 16 = .ok (.getfield 75, 3) := by decide +kernel
theorem dX12_rootConstants_19 : decode cX12_rootConstants 19 = .ok (.iload_n 2, 1) := by decide +kernel
theorem dX12_rootConstants_20 : decode cX12_rootConstants 20 = .ok (.aload_n 0, 1) := by decide +kernel
theorem dX12_rootConstants_21 : decode cX12_rootConstants 21 = .ok (.iload_n 1, 1) := by decide +kernel
theorem dX12_rootConstants_22 : decode cX12_rootConstants 22 = .ok (.iconst 3, 1) := by decide +kernel
theorem dX12_rootConstants_23 : decode cX12_rootConstants 23 = .ok (.invokevirtual 243, 3) := by decide +kernel
theorem dX12_rootConstants_26 : decode cX12_rootConstants 26 = .ok (.lastore, 1) := by decide +kernel
theorem dX12_rootConstants_27 : decode cX12_rootConstants 27 = .ok (.iload_n 2, 1) := by decide +kernel
theorem dX12_rootConstants_28 : decode cX12_rootConstants 28 = .ok (.bipush 8, 2) := by decide +kernel
theorem dX12_rootConstants_30 : decode cX12_rootConstants 30 = .ok (.if_icmp .ge 15, 3) := by decide +kernel
theorem dX12_rootConstants_33 : decode cX12_rootConstants 33 = .ok (.aload_n 0, 1) := by decide +kernel
theorem dX12_rootConstants_34 : decode cX12_rootConstants 34 = .ok (.getfield 72, 3) := by decide +kernel
theorem dX12_rootConstants_37 : decode cX12_rootConstants 37 = .ok (.iload_n 2, 1) := by decide +kernel
theorem dX12_rootConstants_38 : decode cX12_rootConstants 38 = .ok (.aload_n 0, 1) := by decide +kernel
theorem dX12_rootConstants_39 : decode cX12_rootConstants 39 = .ok (.iload_n 1, 1) := by decide +kernel
theorem dX12_rootConstants_40 : decode cX12_rootConstants 40 = .ok (.iconst 2, 1) := by decide +kernel
theorem dX12_rootConstants_41 : decode cX12_rootConstants 41 = .ok (.invokevirtual 243, 3) := by decide +kernel
theorem dX12_rootConstants_44 : decode cX12_rootConstants 44 = .ok (.lastore, 1) := by decide +kernel
theorem dX12_rootConstants_45 : decode cX12_rootConstants 45 = .ok (.iinc 2 1, 3) := by decide +kernel
theorem dX12_rootConstants_48 : decode cX12_rootConstants 48 = .ok (.goto (-44), 3) := by decide +kernel
theorem dX12_rootConstants_51 : decode cX12_rootConstants 51 = .ok (.return_, 1) := by decide +kernel
theorem dX12_nextPrime_0 : decode cX12_nextPrime 0 = .ok (.iload_n 0, 1) := by decide +kernel
theorem dX12_nextPrime_1 : decode cX12_nextPrime 1 = .ok (.iconst 1, 1) := by decide +kernel
theorem dX12_nextPrime_2 : decode cX12_nextPrime 2 = .ok (.iadd, 1) := by decide +kernel
theorem dX12_nextPrime_3 : decode cX12_nextPrime 3 = .ok (.istore_n 1, 1) := by decide +kernel
theorem dX12_nextPrime_4 : decode cX12_nextPrime 4 = .ok (.iconst 0, 1) := by decide +kernel
theorem dX12_nextPrime_5 : decode cX12_nextPrime 5 = .ok (.istore_n 2, 1) := by decide +kernel
theorem dX12_nextPrime_6 : decode cX12_nextPrime 6 = .ok (.iload_n 2, 1) := by decide +kernel
theorem dX12_nextPrime_7 : decode cX12_nextPrime 7 = .ok (.ifCond .ne 45, 3) := by decide +kernel
theorem dX12_nextPrime_10 : decode cX12_nextPrime 10 = .ok (.iload_n 1, 1) := by decide +kernel
theorem dX12_nextPrime_11 : decode cX12_nextPrime 11 = .ok (.sipush 1000, 3) := by decide +kernel
theorem dX12_nextPrime_14 : decode cX12_nextPrime 14 = .ok (.if_icmp .ge 38, 3) := by decide +kernel
theorem dX12_nextPrime_17 : decode cX12_nextPrime 17 = .ok (.iconst 1, 1) := by decide +kernel
theorem dX12_nextPrime_18 : decode cX12_nextPrime 18 = .ok (.istore_n 2, 1) := by decide +kernel
theorem dX12_nextPrime_19 : decode cX12_nextPrime 19 = .ok (.iconst 2, 1) := by decide +kernel
theorem dX12_nextPrime_20 : decode cX12_nextPrime 20 = .ok (.istore_n 3, 1) := by decide +kernel
theorem dX12_nextPrime_21 : decode cX12_nextPrime 21 = .ok (.iload_n 3, 1) := by decide +kernel
theorem dX12_nextPrime_22 : decode cX12_nextPrime 22 = .ok (.iload_n 3, 1) := by decide +kernel
theorem dX12_nextPrime_23 : decode cX12_nextPrime 23 = .ok (.imul, 1) := by decide +kernel
theorem dX12_nextPrime_24 : decode cX12_nextPrime 24 = .ok (.iload_n 1, 1) := by decide +kernel
theorem dX12_nextPrime_25 : decode cX12_nextPrime 25 = .ok (.if_icmp .gt 17, 3) := by decide +kernel
theorem dX12_nextPrime_28 : decode cX12_nextPrime 28 = .ok (.iload_n 1, 1) := by decide +kernel
theorem dX12_nextPrime_29 : decode cX12_nextPrime 29 = .ok (.iload_n 3, 1) := by decide +kernel
theorem dX12_nextPrime_30 : decode cX12_nextPrime 30 = .ok (.irem, 1) := by decide +kernel
theorem dX12_nextPrime_31 : decode cX12_nextPrime 31 = .ok (.ifCond .ne 5, 3) := by decide +kernel
theorem dX12_nextPrime_34 : decode cX12_nextPrime 34 = .ok (.iconst 0, 1) := by decide +kernel
theorem dX12_nextPrime_35 : decode cX12_nextPrime 35 = .ok (.istore_n 2, 1) := by decide +kernel
theorem dX12_nextPrime_36 : decode cX12_nextPrime 36 = .ok (.iinc 3 1, 3) := by decide +kernel
theorem dX12_nextPrime_39 : decode cX12_nextPrime 39 = .ok (.goto (-18), 3) := by decide +kernel
theorem dX12_nextPrime_42 : decode cX12_nextPrime 42 = .ok (.iload_n 2, 1) := by decide +kernel
theorem dX12_nextPrime_43 : decode cX12_nextPrime 43 = .ok (.ifCond .ne (-37), 3) := by decide +kernel
theorem dX12_nextPrime_46 : decode cX12_nextPrime 46 = .ok (.iinc 1 1, 3) := by decide +kernel
theorem dX12_nextPrime_49 : decode cX12_nextPrime 49 = .ok (.goto (-43), 3) := by decide +kernel
theorem dX12_nextPrime_52 : decode cX12_nextPrime 52 = .ok (.iload_n 1, 1) := by decide +kernel
theorem dX12_nextPrime_53 : decode cX12_nextPrime 53 = .ok (.ireturn, 1) := by decide +kernel
theorem dX12_rootBits_0 : decode cX12_rootBits 0 = .ok (.aload_n 0, 1) := by decide +kernel
theorem dX12_rootBits_1 : decode cX12_rootBits 1 = .ok (.bipush 21, 2) := by decide +kernel
theorem dX12_rootBits_3 : decode cX12_rootBits 3 = .ok (.invokevirtual 168, 3) := by decide +kernel
theorem dX12_rootBits_6 : decode cX12_rootBits 6 = .ok (.bipush 69, 2) := by decide +kernel
theorem dX12_rootBits_8 : decode cX12_rootBits 8 = .ok (.istore_n 3, 1) := by decide +kernel
theorem dX12_rootBits_9 : decode cX12_rootBits 9 = .ok (.iload_n 3, 1) := by decide +kernel
theorem dX12_rootBits_10 : decode cX12_rootBits 10 = .ok (.ifCond .lt 106, 3) := by decide +kernel
theorem dX12_rootBits_13 : decode cX12_rootBits 13 = .ok (.aload_n 0, 1) := by decide +kernel
theorem dX12_rootBits_14 : decode cX12_rootBits 14 = .ok (.getfield 41, 3) := by decide +kernel
theorem dX12_rootBits_17 : decode cX12_rootBits 17 = .ok (.sipush 672, 3) := by decide +kernel
theorem dX12_rootBits_20 : decode cX12_rootBits 20 = .ok (.iload_n 3, 1) := by decide +kernel
theorem dX12_rootBits_21 : decode cX12_rootBits 21 = .ok (.iconst 4, 1) := by decide +kernel
theorem dX12_rootBits_22 : decode cX12_rootBits 22 = .ok (.ishr, 1) := by decide +kernel
theorem dX12_rootBits_23 : decode cX12_rootBits 23 = .ok (.iadd, 1) := by decide +kernel
theorem dX12_rootBits_24 : decode cX12_rootBits 24 = .ok (.dup2, 1) := by decide +kernel
theorem dX12_rootBits_25 : decode cX12_rootBits 25 = .ok (.iaload, 1) := by decide +kernel
theorem dX12_rootBits_26 : decode cX12_rootBits 26 = .ok (.iconst 1, 1) := by decide +kernel
theorem dX12_rootBits_27 : decode cX12_rootBits 27 = .ok (.iload_n 3, 1) := by decide +kernel
theorem dX12_rootBits_28 : decode cX12_rootBits 28 = .ok (.bipush 15, 2) := by decide +kernel
theorem dX12_rootBits_30 : decode cX12_rootBits 30 = .ok (.iand, 1) := by decide +kernel
theorem dX12_rootBits_31 : decode cX12_rootBits 31 = .ok (.ishl, 1) := by decide +kernel
theorem dX12_rootBits_32 : decode cX12_rootBits 32 = .ok (.iadd, 1) := by decide +kernel
theorem dX12_rootBits_33 : decode cX12_rootBits 33 = .ok (.iastore, 1) := by decide +kernel
theorem dX12_rootBits_34 : decode cX12_rootBits 34 = .ok (.aload_n 0, 1) := by decide +kernel
theorem dX12_rootBits_35 : decode cX12_rootBits 35 = .ok (.bipush 22, 2) := by decide +kernel
theorem dX12_rootBits_37 : decode cX12_rootBits 37 = .ok (.bipush 21, 2) := by decide +kernel
theorem dX12_rootBits_39 : decode cX12_rootBits 39 = .ok (.bipush 21, 2) := by decide +kernel
theorem dX12_rootBits_41 : decode cX12_rootBits 41 = .ok (.invokevirtual 247, 3) := by decide +kernel
theorem dX12_rootBits_44 : decode cX12_rootBits 44 = .ok (.iload_n 2, 1) := by decide +kernel
theorem dX12_rootBits_45 : decode cX12_rootBits 45 = .ok (.iconst 3, 1) := by decide +kernel
theorem dX12_rootBits_46 : decode cX12_rootBits 46 = .ok (.if_icmp .ne 13, 3) := by decide +kernel
theorem dX12_rootBits_49 : decode cX12_rootBits 49 = .ok (.aload_n 0, 1) := by decide +kernel
theorem dX12_rootBits_50 : decode cX12_rootBits 50 = .ok (.bipush 22, 2) := by decide +kernel
theorem dX12_rootBits_52 : decode cX12_rootBits 52 = .ok (.bipush 22, 2) := by decide +kernel
theorem dX12_rootBits_54 : decode cX12_rootBits 54 = .ok (.bipush 21, 2) := by decide +kernel
theorem dX12_rootBits_56 : decode cX12_rootBits 56 = .ok (.invokevirtual 247, 3) := by decide +kernel
theorem dX12_rootBits_59 : decode cX12_rootBits 59 = .ok (.aload_n 0, 1) := by decide +kernel
theorem dX12_rootBits_60 : decode cX12_rootBits 60 = .ok (.bipush 23, 2) := by decide +kernel
theorem dX12_rootBits_62 : decode cX12_rootBits 62 = .ok (.invokevirtual 168, 3) := by decide +kernel
theorem dX12_rootBits_65 : decode cX12_rootBits 65 = .ok (.aload_n 0, 1) := by decide +kernel
theorem dX12_rootBits_66 : decode cX12_rootBits 66 = .ok (.getfield 41, 3) := by decide +kernel
theorem dX12_rootBits_69 : decode cX12_rootBits 69 = .ok (.sipush 736, 3) := by decide +kernel
theorem dX12_rootBits_72 : decode cX12_rootBits 72 = .ok (.iconst 4, 1) := by decide +kernel
theorem dX12_rootBits_73 : decode cX12_rootBits 73 = .ok (.iload_n 2, 1) := by decide +kernel
theorem dX12_rootBits_74 : decode cX12_rootBits 74 = .ok (.imul, 1) := by decide +kernel
theorem dX12_rootBits_75 : decode cX12_rootBits 75 = .ok (.iadd, 1) := by decide +kernel
theorem dX12_rootBits_76 : decode cX12_rootBits 76 = .ok (.iload_n 1, 1) := by decide +kernel
theorem dX12_rootBits_77 : decode cX12_rootBits 77 = .ok (.iastore, 1) := by decide +kernel
theorem dX12_rootBits_78 : decode cX12_rootBits 78 = .ok (.aload_n 0, 1) := by decide +kernel
theorem dX12_rootBits_79 : decode cX12_rootBits 79 = .ok (.bipush 23, 2) := by decide +kernel
theorem dX12_rootBits_81 : decode cX12_rootBits 81 = .ok (.bipush 22, 2) := by decide +kernel
theorem dX12_rootBits_83 : decode cX12_rootBits 83 = .ok (.invokevirtual 183, 3) := by decide +kernel
theorem dX12_rootBits_86 : decode cX12_rootBits 86 = .ok (.ifCond .ne 24, 3) := by decide +kernel
theorem dX12_rootBits_89 : decode cX12_rootBits 89 = .ok (.aload_n 0, 1) := by decide +kernel
theorem dX12_rootBits_90 : decode cX12_rootBits 90 = .ok (.getfield 41, 3) := by decide +kernel
theorem dX12_rootBits_93 : decode cX12_rootBits 93 = .ok (.sipush 672, 3) := by decide +kernel
theorem dX12_rootBits_96 : decode cX12_rootBits 96 = .ok (.iload_n 3, 1) := by decide +kernel
theorem dX12_rootBits_97 : decode cX12_rootBits 97 = .ok (.iconst 4, 1) := by decide +kernel
theorem dX12_rootBits_98 : decode cX12_rootBits 98 = .ok (.ishr, 1) := by decide +kernel
theorem dX12_rootBits_99 : decode cX12_rootBits 99 = .ok (.iadd, 1) := by decide +kernel
theorem dX12_rootBits_100 : decode cX12_rootBits 100 = .ok (.dup2, 1) := by decide +kernel
theorem dX12_rootBits_101 : decode cX12_rootBits 101 = .ok (.iaload, 1) := by decide +kernel
theorem dX12_rootBits_102 : decode cX12_rootBits 102 = .ok (.iconst 1, 1) := by decide +kernel
theorem dX12_rootBits_103 : decode cX12_rootBits 103 = .ok (.iload_n 3, 1) := by decide +kernel
theorem dX12_rootBits_104 : decode cX12_rootBits 104 = .ok (.bipush 15, 2) := by decide +kernel
theorem dX12_rootBits_106 : decode cX12_rootBits 106 = .ok (.iand, 1) := by decide +kernel
theorem dX12_rootBits_107 : decode cX12_rootBits 107 = .ok (.ishl, 1) := by decide +kernel
theorem dX12_rootBits_108 : decode cX12_rootBits 108 = .ok (.isub, 1) := by decide +kernel
theorem dX12_rootBits_109 : decode cX12_rootBits 109 = .ok (.iastore, 1) := by decide +kernel
theorem dX12_rootBits_110 : decode cX12_rootBits 110 = .ok (.iinc 3 (-1), 3) := by decide +kernel
theorem dX12_rootBits_113 : decode cX12_rootBits 113 = .ok (.goto (-104), 3) := by decide +kernel
theorem dX12_rootBits_116 : decode cX12_rootBits 116 = .ok (.lconst 0, 1) := by decide +kernel
theorem dX12_rootBits_117 : decode cX12_rootBits 117 = .ok (.lstore_n 3, 1) := by decide +kernel
theorem dX12_rootBits_118 : decode cX12_rootBits 118 = .ok (.iconst 3, 1) := by decide +kernel
theorem dX12_rootBits_119 : decode cX12_rootBits 119 = .ok (.istore 5, 2) := by decide +kernel
theorem dX12_rootBits_121 : decode cX12_rootBits 121 = .ok (.iload 5, 2) := by decide +kernel
theorem dX12_rootBits_123 : decode cX12_rootBits 123 = .ok (.ifCond .lt 27, 3) := by decide +kernel
theorem dX12_rootBits_126 : decode cX12_rootBits 126 = .ok (.lload_n 3, 1) := by decide +kernel
theorem dX12_rootBits_127 : decode cX12_rootBits 127 = .ok (.bipush 16, 2) := by decide +kernel
theorem dX12_rootBits_129 : decode cX12_rootBits 129 = .ok (.lshl, 1) := by decide +kernel
theorem dX12_rootBits_130 : decode cX12_rootBits 130 = .ok (.aload_n 0, 1) := by decide +kernel
theorem dX12_rootBits_131 : decode cX12_rootBits 131 = .ok (.getfield 41, 3) := by decide +kernel
theorem dX12_rootBits_134 : decode cX12_rootBits 134 = .ok (.sipush 672, 3) := by decide +kernel
theorem dX12_rootBits_137 : decode cX12_rootBits 137 = .ok (.iload 5, 2) := by decide +kernel
theorem dX12_rootBits_139 : decode cX12_rootBits 139 = .ok (.iadd, 1) := by decide +kernel
theorem dX12_rootBits_140 : decode cX12_rootBits 140 = .ok (.iaload, 1) := by decide +kernel
theorem dX12_rootBits_141 : decode cX12_rootBits 141 = .ok (.i2l, 1) := by decide +kernel
theorem dX12_rootBits_142 : decode cX12_rootBits 142 = .ok (.lor, 1) := by decide +kernel
theorem dX12_rootBits_143 : decode cX12_rootBits 143 = .ok (.lstore_n 3, 1) := by decide +kernel
theorem dX12_rootBits_144 : decode cX12_rootBits 144 = .ok (.iinc 5 (-1), 3) := by decide +kernel
theorem dX12_rootBits_147 : decode cX12_rootBits 147 = .ok (.goto (-26), 3) := by decide +kernel
theorem dX12_rootBits_150 : decode cX12_rootBits 150 = .ok (.lload_n 3, 1) := by decide +kernel
theorem dX12_rootBits_151 : decode cX12_rootBits 151 = .ok (.lreturn, 1) := by decide +kernel
theorem dX12_times28_0 : decode cX12_times28 0 = .ok (.iconst 0, 1) := by decide +kernel
theorem dX12_times28_1 : decode cX12_times28 1 = .ok (.istore 4, 2) := by decide +kernel
theorem dX12_times28_3 : decode cX12_times28 3 = .ok (.iload 4, 2) := by decide +kernel
theorem dX12_times28_5 : decode cX12_times28 5 = .ok (.bipush 64, 2) := by decide +kernel
theorem dX12_times28_7 : decode cX12_times28 7 = .ok (.if_icmp .ge 17, 3) := by decide +kernel
theorem dX12_times28_10 : decode cX12_times28 10 = .ok (.aload_n 0, 1) := by decide +kernel
theorem dX12_times28_11 : decode cX12_times28 11 = .ok (.getfield 44, 3) := by decide +kernel
theorem dX12_times28_14 : decode cX12_times28 14 = .ok (.iload 4, 2) := by decide +kernel
theorem dX12_times28_16 : decode cX12_times28 16 = .ok (.lconst 0, 1) := by decide +kernel
theorem dX12_times28_17 : decode cX12_times28 17 = .ok (.lastore, 1) := by decide +kernel
theorem dX12_times28_18 : decode cX12_times28 18 = .ok (.iinc 4 1, 3) := by decide +kernel
theorem dX12_times28_21 : decode cX12_times28 21 = .ok (.goto (-18), 3) := by decide +kernel
theorem dX12_times28_24 : decode cX12_times28 24 = .ok (.iconst 0, 1) := by decide +kernel
theorem dX12_times28_25 : decode cX12_times28 25 = .ok (.istore 4, 2) := by decide +kernel
theorem dX12_times28_27 : decode cX12_times28 27 = .ok (.iload 4, 2) := by decide +kernel
theorem dX12_times28_29 : decode cX12_times28 29 = .ok (.bipush 14, 2) := by decide +kernel
theorem dX12_times28_31 : decode cX12_times28 31 = .ok (.if_icmp .ge 69, 3) := by decide +kernel
theorem dX12_times28_34 : decode cX12_times28 34 = .ok (.aload_n 0, 1) := by decide +kernel
theorem dX12_times28_35 : decode cX12_times28 35 = .ok (.getfield 41, 3) := by decide +kernel
theorem dX12_times28_38 : decode cX12_times28 38 = .ok (.bipush 32, 2) := by decide +kernel
theorem dX12_times28_40 : decode cX12_times28 40 = .ok (.iload_n 2, 1) := by decide +kernel
theorem dX12_times28_41 : decode cX12_times28 41 = .ok (.imul, 1) := by decide +kernel
theorem dX12_times28_42 : decode cX12_times28 42 = .ok (.iload 4, 2) := by decide +kernel
theorem dX12_times28_44 : decode cX12_times28 44 = .ok (.iadd, 1) := by decide +kernel
theorem dX12_times28_45 : decode cX12_times28 45 = .ok (.iaload, 1) := by decide +kernel
theorem dX12_times28_46 : decode cX12_times28 46 = .ok (.i2l, 1) := by decide +kernel
theorem dX12_times28_47 : decode cX12_times28 47 = .ok (.lstore 5, 2) := by decide +kernel
theorem dX12_times28_49 : decode cX12_times28 49 = .ok (.iconst 0, 1) := by decide +kernel
theorem dX12_times28_50 : decode cX12_times28 50 = .ok (.istore 7, 2) := by decide +kernel
theorem dX12_times28_52 : decode cX12_times28 52 = .ok (.iload 7, 2) := by decide +kernel
theorem dX12_times28_54 : decode cX12_times28 54 = .ok (.bipush 14, 2) := by decide +kernel
theorem dX12_times28_56 : decode cX12_times28 56 = .ok (.if_icmp .ge 38, 3) := by decide +kernel
theorem dX12_times28_59 : decode cX12_times28 59 = .ok (.aload_n 0, 1) := by decide +kernel
theorem dX12_times28_60 : decode cX12_times28 60 = .ok (.getfield 44, 3) := by decide +kernel
theorem dX12_times28_63 : decode cX12_times28 63 = .ok (.iload 4, 2) := by decide +kernel
theorem dX12_times28_65 : decode cX12_times28 65 = .ok (.iload 7, 2) := by decide +kernel
theorem dX12_times28_67 : decode cX12_times28 67 = .ok (.iadd, 1) := by decide +kernel
theorem dX12_times28_68 : decode cX12_times28 68 = .ok (.dup2, 1) := by decide +kernel
theorem dX12_times28_69 : decode cX12_times28 69 = .ok (.laload, 1) := by decide +kernel
theorem dX12_times28_70 : decode cX12_times28 70 = .ok (.lload 5, 2) := by decide +kernel
theorem dX12_times28_72 : decode cX12_times28 72 = .ok (.aload_n 0, 1) := by decide +kernel
theorem dX12_times28_73 : decode cX12_times28 73 = .ok (.getfield 41, 3) := by decide +kernel
theorem dX12_times28_76 : decode cX12_times28 76 = .ok (.bipush 32, 2) := by decide +kernel
theorem dX12_times28_78 : decode cX12_times28 78 = .ok (.iload_n 3, 1) := by decide +kernel
theorem dX12_times28_79 : decode cX12_times28 79 = .ok (.imul, 1) := by decide +kernel
theorem dX12_times28_80 : decode cX12_times28 80 = .ok (.iload 7, 2) := by decide +kernel
theorem dX12_times28_82 : decode cX12_times28 82 = .ok (.iadd, 1) := by decide +kernel
theorem dX12_times28_83 : decode cX12_times28 83 = .ok (.iaload, 1) := by decide +kernel
theorem dX12_times28_84 : decode cX12_times28 84 = .ok (.i2l, 1) := by decide +kernel
theorem dX12_times28_85 : decode cX12_times28 85 = .ok (.lmul, 1) := by decide +kernel
theorem dX12_times28_86 : decode cX12_times28 86 = .ok (.ladd, 1) := by decide +kernel
theorem dX12_times28_87 : decode cX12_times28 87 = .ok (.lastore, 1) := by decide +kernel
theorem dX12_times28_88 : decode cX12_times28 88 = .ok (.iinc 7 1, 3) := by decide +kernel
theorem dX12_times28_91 : decode cX12_times28 91 = .ok (.goto (-39), 3) := by decide +kernel
theorem dX12_times28_94 : decode cX12_times28 94 = .ok (.iinc 4 1, 3) := by decide +kernel
theorem dX12_times28_97 : decode cX12_times28 97 = .ok (.goto (-70), 3) := by decide +kernel
theorem dX12_times28_100 : decode cX12_times28 100 = .ok (.aload_n 0, 1) := by decide +kernel
theorem dX12_times28_101 : decode cX12_times28 101 = .ok (.iload_n 1, 1) := by decide +kernel
theorem dX12_times28_102 : decode cX12_times28 102 = .ok (.invokevirtual 168, 3) := by decide +kernel
theorem dX12_times28_105 : decode cX12_times28 105 = .ok (.lconst 0, 1) := by decide +kernel
theorem dX12_times28_106 : decode cX12_times28 106 = .ok (.lstore 4, 2) := by decide +kernel
theorem dX12_times28_108 : decode cX12_times28 108 = .ok (.iconst 0, 1) := by decide +kernel
theorem dX12_times28_109 : decode cX12_times28 109 = .ok (.istore 6, 2) := by decide +kernel
theorem dX12_times28_111 : decode cX12_times28 111 = .ok (.iload 6, 2) := by decide +kernel
theorem dX12_times28_113 : decode cX12_times28 113 = .ok (.bipush 28, 2) := by decide +kernel
theorem dX12_times28_115 : decode cX12_times28 115 = .ok (.if_icmp .ge 47, 3) := by decide +kernel
theorem dX12_times28_118 : decode cX12_times28 118 = .ok (.lload 4, 2) := by decide +kernel
theorem dX12_times28_120 : decode cX12_times28 120 = .ok (.aload_n 0, 1) := by decide +kernel
theorem dX12_times28_121 : decode cX12_times28 121 = .ok (.getfield 44, 3) := by decide +kernel
theorem dX12_times28_124 : decode cX12_times28 124 = .ok (.iload 6, 2) := by decide +kernel
theorem dX12_times28_126 : decode cX12_times28 126 = .ok (.laload, 1) := by decide +kernel
theorem dX12_times28_127 : decode cX12_times28 127 = .ok (.ladd, 1) := by decide +kernel
theorem dX12_times28_128 : decode cX12_times28 128 = .ok (.lstore 4, 2) := by decide +kernel
theorem dX12_times28_130 : decode cX12_times28 130 = .ok (.aload_n 0, 1) := by decide +kernel
theorem dX12_times28_131 : decode cX12_times28 131 = .ok (.getfield 41, 3) := by decide +kernel
theorem dX12_times28_134 : decode cX12_times28 134 = .ok (.bipush 32, 2) := by decide +kernel
theorem dX12_times28_136 : decode cX12_times28 136 = .ok (.iload_n 1, 1) := by decide +kernel
theorem dX12_times28_137 : decode cX12_times28 137 = .ok (.imul, 1) := by decide +kernel
theorem dX12_times28_138 : decode cX12_times28 138 = .ok (.iload 6, 2) := by decide +kernel
theorem dX12_times28_140 : decode cX12_times28 140 = .ok (.iadd, 1) := by decide +kernel
theorem dX12_times28_141 : decode cX12_times28 141 = .ok (.lload 4, 2) := by decide +kernel
theorem dX12_times28_143 : decode cX12_times28 143 = .ok (.ldc2_w 181, 3) := by decide +kernel
theorem dX12_times28_146 : decode cX12_times28 146 = .ok (.land, 1) := by decide +kernel
theorem dX12_times28_147 : decode cX12_times28 147 = .ok (.l2i, 1) := by decide +kernel
theorem dX12_times28_148 : decode cX12_times28 148 = .ok (.iastore, 1) := by decide +kernel
theorem dX12_times28_149 : decode cX12_times28 149 = .ok (.lload 4, 2) := by decide +kernel
theorem dX12_times28_151 : decode cX12_times28 151 = .ok (.bipush 16, 2) := by decide +kernel
theorem dX12_times28_153 : decode cX12_times28 153 = .ok (.lshr, 1) := by decide +kernel
theorem dX12_times28_154 : decode cX12_times28 154 = .ok (.lstore 4, 2) := by decide +kernel
theorem dX12_times28_156 : decode cX12_times28 156 = .ok (.iinc 6 1, 3) := by decide +kernel
theorem dX12_times28_159 : decode cX12_times28 159 = .ok (.goto (-48), 3) := by decide +kernel
theorem dX12_times28_162 : decode cX12_times28 162 = .ok (.return_, 1) := by decide +kernel
theorem dX12_turned_0 : decode cX12_turned 0 = .ok (.lload_n 0, 1) := by decide +kernel
theorem dX12_turned_1 : decode cX12_turned 1 = .ok (.iload_n 2, 1) := by decide +kernel
theorem dX12_turned_2 : decode cX12_turned 2 = .ok (.lushr, 1) := by decide +kernel
theorem dX12_turned_3 : decode cX12_turned 3 = .ok (.lload_n 0, 1) := by decide +kernel
theorem dX12_turned_4 : decode cX12_turned 4 = .ok (.bipush 64, 2) := by decide +kernel
theorem dX12_turned_6 : decode cX12_turned 6 = .ok (.iload_n 2, 1) := by decide +kernel
theorem dX12_turned_7 : decode cX12_turned 7 = .ok (.isub, 1) := by decide +kernel
theorem dX12_turned_8 : decode cX12_turned 8 = .ok (.lshl, 1) := by decide +kernel
theorem dX12_turned_9 : decode cX12_turned 9 = .ok (.lor, 1) := by decide +kernel
theorem dX12_turned_10 : decode cX12_turned 10 = .ok (.lreturn, 1) := by decide +kernel
theorem dX12_sha512_0 : decode cX12_sha512 0 = .ok (.aload_n 0, 1) := by decide +kernel
theorem dX12_sha512_1 : decode cX12_sha512 1 = .ok (.getfield 63, 3) := by decide +kernel
theorem dX12_sha512_4 : decode cX12_sha512 4 = .ok (.istore_n 1, 1) := by decide +kernel
theorem dX12_sha512_5 : decode cX12_sha512 5 = .ok (.aload_n 0, 1) := by decide +kernel
theorem dX12_sha512_6 : decode cX12_sha512 6 = .ok (.getfield 60, 3) := by decide +kernel
theorem dX12_sha512_9 : decode cX12_sha512 9 = .ok (.aload_n 0, 1) := by decide +kernel
theorem dX12_sha512_10 : decode cX12_sha512 10 = .ok (.getfield 63, 3) := by decide +kernel
theorem dX12_sha512_13 : decode cX12_sha512 13 = .ok (.sipush 128, 3) := by decide +kernel
theorem dX12_sha512_16 : decode cX12_sha512 16 = .ok (.iastore, 1) := by decide +kernel
theorem dX12_sha512_17 : decode cX12_sha512 17 = .ok (.aload_n 0, 1) := by decide +kernel
theorem dX12_sha512_18 : decode cX12_sha512 18 = .ok (.dup, 1) := by decide +kernel
theorem dX12_sha512_19 : decode cX12_sha512 19 = .ok (.getfield 63, 3) := by decide +kernel
theorem dX12_sha512_22 : decode cX12_sha512 22 = .ok (.iconst 1, 1) := by decide +kernel
theorem dX12_sha512_23 : decode cX12_sha512 23 = .ok (.iadd, 1) := by decide +kernel
theorem dX12_sha512_24 : decode cX12_sha512 24 = .ok (.putfield 63, 3) := by decide +kernel
theorem dX12_sha512_27 : decode cX12_sha512 27 = .ok (.aload_n 0, 1) := by decide +kernel
theorem dX12_sha512_28 : decode cX12_sha512 28 = .ok (.getfield 63, 3) := by decide +kernel
theorem dX12_sha512_31 : decode cX12_sha512 31 = .ok (.sipush 128, 3) := by decide +kernel
theorem dX12_sha512_34 : decode cX12_sha512 34 = .ok (.irem, 1) := by decide +kernel
theorem dX12_sha512_35 : decode cX12_sha512 35 = .ok (.bipush 112, 2) := by decide +kernel
theorem dX12_sha512_37 : decode cX12_sha512 37 = .ok (.if_icmp .eq 26, 3) := by decide +kernel
theorem dX12_sha512_40 : decode cX12_sha512 40 = .ok (.aload_n 0, 1) := by decide +kernel
theorem dX12_sha512_41 : decode cX12_sha512 41 = .ok (.getfield 60, 3) := by decide +kernel
theorem dX12_sha512_44 : decode cX12_sha512 44 = .ok (.aload_n 0, 1) := by decide +kernel
theorem dX12_sha512_45 : decode cX12_sha512 45 = .ok (.getfield 63, 3) := by decide +kernel
theorem dX12_sha512_48 : decode cX12_sha512 48 = .ok (.iconst 0, 1) := by decide +kernel
theorem dX12_sha512_49 : decode cX12_sha512 49 = .ok (.iastore, 1) := by decide +kernel
theorem dX12_sha512_50 : decode cX12_sha512 50 = .ok (.aload_n 0, 1) := by decide +kernel
theorem dX12_sha512_51 : decode cX12_sha512 51 = .ok (.dup, 1) := by decide +kernel
theorem dX12_sha512_52 : decode cX12_sha512 52 = .ok (.getfield 63, 3) := by decide +kernel
theorem dX12_sha512_55 : decode cX12_sha512 55 = .ok (.iconst 1, 1) := by decide +kernel
theorem dX12_sha512_56 : decode cX12_sha512 56 = .ok (.iadd, 1) := by decide +kernel
theorem dX12_sha512_57 : decode cX12_sha512 57 = .ok (.putfield 63, 3) := by decide +kernel
theorem dX12_sha512_60 : decode cX12_sha512 60 = .ok (.goto (-33), 3) := by decide +kernel
theorem dX12_sha512_63 : decode cX12_sha512 63 = .ok (.bipush 15, 2) := by decide +kernel
theorem dX12_sha512_65 : decode cX12_sha512 65 = .ok (.istore_n 2, 1) := by decide +kernel
theorem dX12_sha512_66 : decode cX12_sha512 66 = .ok (.iload_n 2, 1) := by decide +kernel
theorem dX12_sha512_67 : decode cX12_sha512 67 = .ok (.ifCond .lt 50, 3) := by decide +kernel
theorem dX12_sha512_70 : decode cX12_sha512 70 = .ok (.aload_n 0, 1) := by decide +kernel
theorem dX12_sha512_71 : decode cX12_sha512 71 = .ok (.getfield 60, 3) := by decide +kernel
theorem dX12_sha512_74 : decode cX12_sha512 74 = .ok (.aload_n 0, 1) := by decide +kernel
theorem dX12_sha512_75 : decode cX12_sha512 75 = .ok (.getfield 63, 3) := by decide +kernel
theorem dX12_sha512_78 : decode cX12_sha512 78 = .ok (.iload_n 2, 1) := by decide +kernel
theorem dX12_sha512_79 : decode cX12_sha512 79 = .ok (.iconst 4, 1) := by decide +kernel
theorem dX12_sha512_80 : decode cX12_sha512 80 = .ok (.if_icmp .ge 19, 3) := by decide +kernel
theorem dX12_sha512_83 : decode cX12_sha512 83 = .ok (.bipush 8, 2) := by decide +kernel
theorem dX12_sha512_85 : decode cX12_sha512 85 = .ok (.iload_n 1, 1) := by decide +kernel
theorem dX12_sha512_86 : decode cX12_sha512 86 = .ok (.imul, 1) := by decide +kernel
theorem dX12_sha512_87 : decode cX12_sha512 87 = .ok (.bipush 8, 2) := by decide +kernel
theorem dX12_sha512_89 : decode cX12_sha512 89 = .ok (.iload_n 2, 1) := by decide +kernel
theorem dX12_sha512_90 : decode cX12_sha512 90 = .ok (.imul, 1) := by decide +kernel
theorem dX12_sha512_91 : decode cX12_sha512 91 = .ok (.ishr, 1) := by decide +kernel
theorem dX12_sha512_92 : decode cX12_sha512 92 = .ok (.sipush 255, 3) := by decide +kernel
theorem dX12_sha512_95 : decode cX12_sha512 95 = .ok (.iand, 1) := by decide +kernel
theorem dX12_sha512_96 : decode cX12_sha512 96 = .ok (.goto 4, 3) := by decide +kernel
theorem dX12_sha512_99 : decode cX12_sha512 99 = .ok (.iconst 0, 1) := by decide +kernel
theorem dX12_sha512_100 : decode cX12_sha512 100 = .ok (.iastore, 1) := by decide +kernel
theorem dX12_sha512_101 : decode cX12_sha512 101 = .ok (.aload_n 0, 1) := by decide +kernel
theorem dX12_sha512_102 : decode cX12_sha512 102 = .ok (.dup, 1) := by decide +kernel
theorem dX12_sha512_103 : decode cX12_sha512 103 = .ok (.getfield 63, 3) := by decide +kernel
theorem dX12_sha512_106 : decode cX12_sha512 106 = .ok (.iconst 1, 1) := by decide +kernel
theorem dX12_sha512_107 : decode cX12_sha512 107 = .ok (.iadd, 1) := by decide +kernel
theorem dX12_sha512_108 : decode cX12_sha512 108 = .ok (.putfield 63, 3) := by decide +kernel
theorem dX12_sha512_111 : decode cX12_sha512 111 = .ok (.iinc 2 (-1), 3) := by decide +kernel
theorem dX12_sha512_114 : decode cX12_sha512 114 = .ok (.goto (-48), 3) := by decide +kernel
theorem dX12_sha512_117 : decode cX12_sha512 117 = .ok (.iconst 0, 1) := by decide +kernel
theorem dX12_sha512_118 : decode cX12_sha512 118 = .ok (.istore_n 2, 1) := by decide +kernel
theorem dX12_sha512_119 : decode cX12_sha512 119 = .ok (.iload_n 2, 1) := by decide +kernel
theorem dX12_sha512_120 : decode cX12_sha512 120 = .ok (.bipush 8, 2) := by decide +kernel
theorem dX12_sha512_122 : decode cX12_sha512 122 = .ok (.if_icmp .ge 21, 3) := by decide +kernel
theorem dX12_sha512_125 : decode cX12_sha512 125 = .ok (.aload_n 0, 1) := by decide +kernel
theorem dX12_sha512_126 : decode cX12_sha512 126 = .ok (.getfield 69, 3) := by decide +kernel
theorem dX12_sha512_129 : decode cX12_sha512 129 = .ok (.iload_n 2, 1) := by decide +kernel
theorem dX12_sha512_130 : decode cX12_sha512 130 = .ok (.aload_n 0, 1) := by decide +kernel
theorem dX12_sha512_131 : decode cX12_sha512 131 = .ok (.getfield 72, 3) := by decide +kernel
theorem dX12_sha512_134 : decode cX12_sha512 134 = .ok (.iload_n 2, 1) := by decide +kernel
theorem dX12_sha512_135 : decode cX12_sha512 135 = .ok (.laload, 1) := by decide +kernel
theorem dX12_sha512_136 : decode cX12_sha512 136 = .ok (.lastore, 1) := by decide +kernel
theorem dX12_sha512_137 : decode cX12_sha512 137 = .ok (.iinc 2 1, 3) := by decide +kernel
theorem dX12_sha512_140 : decode cX12_sha512 140 = .ok (.goto (-21), 3) := by decide +kernel
theorem dX12_sha512_143 : decode cX12_sha512 143 = .ok (.iconst 0, 1) := by decide +kernel
theorem dX12_sha512_144 : decode cX12_sha512 144 = .ok (.istore_n 2, 1) := by decide +kernel
theorem dX12_sha512_145 : decode cX12_sha512 145 = .ok (.iload_n 2, 1) := by decide +kernel
theorem dX12_sha512_146 : decode cX12_sha512 146 = .ok (.aload_n 0, 1) := by decide +kernel
theorem dX12_sha512_147 : decode cX12_sha512 147 = .ok (.getfield 63, 3) := by decide +kernel
theorem dX12_sha512_150 : decode cX12_sha512 150 = .ok (.if_icmp .ge 17, 3) := by decide +kernel
theorem dX12_sha512_153 : decode cX12_sha512 153 = .ok (.aload_n 0, 1) := by decide +kernel
theorem dX12_sha512_154 : decode cX12_sha512 154 = .ok (.iload_n 2, 1) := by decide +kernel
theorem dX12_sha512_155 : decode cX12_sha512 155 = .ok (.invokevirtual 250, 3) := by decide +kernel
theorem dX12_sha512_158 : decode cX12_sha512 158 = .ok (.iinc 2 128, 6) := by decide +kernel
theorem dX12_sha512_164 : decode cX12_sha512 164 = .ok (.goto (-19), 3) := by decide +kernel
theorem dX12_sha512_167 : decode cX12_sha512 167 = .ok (.iconst 0, 1) := by decide +kernel
theorem dX12_sha512_168 : decode cX12_sha512 168 = .ok (.istore_n 2, 1) := by decide +kernel
theorem dX12_sha512_169 : decode cX12_sha512 169 = .ok (.iload_n 2, 1) := by decide +kernel
theorem dX12_sha512_170 : decode cX12_sha512 170 = .ok (.bipush 64, 2) := by decide +kernel
theorem dX12_sha512_172 : decode cX12_sha512 172 = .ok (.if_icmp .ge 39, 3) := by decide +kernel
theorem dX12_sha512_175 : decode cX12_sha512 175 = .ok (.aload_n 0, 1) := by decide +kernel
theorem dX12_sha512_176 : decode cX12_sha512 176 = .ok (.getfield 66, 3) := by decide +kernel
theorem dX12_sha512_179 : decode cX12_sha512 179 = .ok (.iload_n 2, 1) := by decide +kernel
theorem dX12_sha512_180 : decode cX12_sha512 180 = .ok (.aload_n 0, 1) := by decide +kernel
theorem dX12_sha512_181 : decode cX12_sha512 181 = .ok (.getfield 69, 3) := by decide +kernel
theorem dX12_sha512_184 : decode cX12_sha512 184 = .ok (.iload_n 2, 1) := by decide +kernel
theorem dX12_sha512_185 : decode cX12_sha512 185 = .ok (.iconst 3, 1) := by decide +kernel
theorem dX12_sha512_186 : decode cX12_sha512 186 = .ok (.ishr, 1) := by decide +kernel
theorem dX12_sha512_187 : decode cX12_sha512 187 = .ok (.laload, 1) := by decide +kernel
theorem dX12_sha512_188 : decode cX12_sha512 188 = .ok (.bipush 56, 2) := by decide +kernel
theorem dX12_sha512_190 : decode cX12_sha512 190 = .ok (.bipush 8, 2) := by decide +kernel
theorem dX12_sha512_192 : decode cX12_sha512 192 = .ok (.iload_n 2, 1) := by decide +kernel
theorem dX12_sha512_193 : decode cX12_sha512 193 = .ok (.bipush 7, 2) := by decide +kernel
theorem dX12_sha512_195 : decode cX12_sha512 195 = .ok (.iand, 1) := by decide +kernel
theorem dX12_sha512_196 : decode cX12_sha512 196 = .ok (.imul, 1) := by decide +kernel
theorem dX12_sha512_197 : decode cX12_sha512 197 = .ok (.isub, 1) := by decide +kernel
theorem dX12_sha512_198 : decode cX12_sha512 198 = .ok (.lshr, 1) := by decide +kernel
theorem dX12_sha512_199 : decode cX12_sha512 199 = .ok (.l2i, 1) := by decide +kernel
theorem dX12_sha512_200 : decode cX12_sha512 200 = .ok (.sipush 255, 3) := by decide +kernel
theorem dX12_sha512_203 : decode cX12_sha512 203 = .ok (.iand, 1) := by decide +kernel
theorem dX12_sha512_204 : decode cX12_sha512 204 = .ok (.iastore, 1) := by decide +kernel
theorem dX12_sha512_205 : decode cX12_sha512 205 = .ok (.iinc 2 1, 3) := by decide +kernel
theorem dX12_sha512_208 : decode cX12_sha512 208 = .ok (.goto (-39), 3) := by decide +kernel
theorem dX12_sha512_211 : decode cX12_sha512 211 = .ok (.return_, 1) := by decide +kernel
theorem dX12_shaBlock_0 : decode cX12_shaBlock 0 = .ok (.iconst 0, 1) := by decide +kernel
theorem dX12_shaBlock_1 : decode cX12_shaBlock 1 = .ok (.istore_n 2, 1) := by decide +kernel
theorem dX12_shaBlock_2 : decode cX12_shaBlock 2 = .ok (.iload_n 2, 1) := by decide +kernel
theorem dX12_shaBlock_3 : decode cX12_shaBlock 3 = .ok (.bipush 80, 2) := by decide +kernel
theorem dX12_shaBlock_5 : decode cX12_shaBlock 5 = .ok (.if_icmp .ge 148, 3) := by decide +kernel
theorem dX12_shaBlock_8 : decode cX12_shaBlock 8 = .ok (.lconst 0, 1) := by decide +kernel
theorem dX12_shaBlock_9 : decode cX12_shaBlock 9 = .ok (.lstore_n 3, 1) := by decide +kernel
theorem dX12_shaBlock_10 : decode cX12_shaBlock 10 = .ok (.iload_n 2, 1) := by decide +kernel
theorem dX12_shaBlock_11 : decode cX12_shaBlock 11 = .ok (.bipush 16, 2) := by decide +kernel
theorem dX12_shaBlock_13 : decode cX12_shaBlock 13 = .ok (.if_icmp .ge 43, 3) := by decide +kernel
theorem dX12_shaBlock_16 : decode cX12_shaBlock 16 = .ok (.iconst 0, 1) := by decide +kernel
theorem dX12_shaBlock_17 : decode cX12_shaBlock 17 = .ok (.istore 5, 2) := by decide +kernel
theorem dX12_shaBlock_19 : decode cX12_shaBlock 19 = .ok (.iload 5, 2) := by decide +kernel
theorem dX12_shaBlock_21 : decode cX12_shaBlock 21 = .ok (.bipush 8, 2) := by decide +kernel
theorem dX12_shaBlock_23 : decode cX12_shaBlock 23 = .ok (.if_icmp .ge 30, 3) := by decide +kernel
theorem dX12_shaBlock_26 : decode cX12_shaBlock 26 = .ok (.lload_n 3, 1) := by decide +kernel
theorem dX12_shaBlock_27 : decode cX12_shaBlock 27 = .ok (.bipush 8, 2) := by decide +kernel
theorem dX12_shaBlock_29 : decode cX12_shaBlock 29 = .ok (.lshl, 1) := by decide +kernel
theorem dX12_shaBlock_30 : decode cX12_shaBlock 30 = .ok (.aload_n 0, 1) := by decide +kernel
theorem dX12_shaBlock_31 : decode cX12_shaBlock 31 = .ok (.getfield 60, 3) := by decide +kernel
theorem dX12_shaBlock_34 : decode cX12_shaBlock 34 = .ok (.iload_n 1, 1) := by decide +kernel
theorem dX12_shaBlock_35 : decode cX12_shaBlock 35 = .ok (.bipush 8, 2) := by decide +kernel
theorem dX12_shaBlock_37 : decode cX12_shaBlock 37 = .ok (.iload_n 2, 1) := by decide +kernel
theorem dX12_shaBlock_38 : decode cX12_shaBlock 38 = .ok (.imul, 1) := by decide +kernel
theorem dX12_shaBlock_39 : decode cX12_shaBlock 39 = .ok (.iadd, 1) := by decide +kernel
theorem dX12_shaBlock_40 : decode cX12_shaBlock 40 = .ok (.iload 5, 2) := by decide +kernel
theorem dX12_shaBlock_42 : decode cX12_shaBlock 42 = .ok (.iadd, 1) := by decide +kernel
theorem dX12_shaBlock_43 : decode cX12_shaBlock 43 = .ok (.iaload, 1) := by decide +kernel
theorem dX12_shaBlock_44 : decode cX12_shaBlock 44 = .ok (.i2l, 1) := by decide +kernel
theorem dX12_shaBlock_45 : decode cX12_shaBlock 45 = .ok (.lor, 1) := by decide +kernel
theorem dX12_shaBlock_46 : decode cX12_shaBlock 46 = .ok (.lstore_n 3, 1) := by decide +kernel
theorem dX12_shaBlock_47 : decode cX12_shaBlock 47 = .ok (.iinc 5 1, 3) := by decide +kernel
theorem dX12_shaBlock_50 : decode cX12_shaBlock 50 = .ok (.goto (-31), 3) := by decide +kernel
theorem dX12_shaBlock_53 : decode cX12_shaBlock 53 = .ok (.goto 87, 3) := by decide +kernel
theorem dX12_shaBlock_56 : decode cX12_shaBlock 56 = .ok (.aload_n 0, 1) := by decide +kernel
theorem dX12_shaBlock_57 : decode cX12_shaBlock 57 = .ok (.getfield 78, 3) := by decide +kernel
theorem dX12_shaBlock_60 : decode cX12_shaBlock 60 = .ok (.iload_n 2, 1) := by decide +kernel
theorem dX12_shaBlock_61 : decode cX12_shaBlock 61 = .ok (.bipush 15, 2) := by decide +kernel
theorem dX12_shaBlock_63 : decode cX12_shaBlock 63 = .ok (.isub, 1) := by decide +kernel
theorem dX12_shaBlock_64 : decode cX12_shaBlock 64 = .ok (.laload, 1) := by decide +kernel
theorem dX12_shaBlock_65 : decode cX12_shaBlock 65 = .ok (.lstore 5, 2) := by decide +kernel
theorem dX12_shaBlock_67 : decode cX12_shaBlock 67 = .ok (.aload_n 0, 1) := by decide +kernel
theorem dX12_shaBlock_68 : decode cX12_shaBlock 68 = .ok (.getfield 78, 3) := by decide +kernel
theorem dX12_shaBlock_71 : decode cX12_shaBlock 71 = .ok (.iload_n 2, 1) := by decide +kernel
theorem dX12_shaBlock_72 : decode cX12_shaBlock 72 = .ok (.iconst 2, 1) := by decide +kernel
theorem dX12_shaBlock_73 : decode cX12_shaBlock 73 = .ok (.isub, 1) := by decide +kernel
theorem dX12_shaBlock_74 : decode cX12_shaBlock 74 = .ok (.laload, 1) := by decide +kernel
theorem dX12_shaBlock_75 : decode cX12_shaBlock 75 = .ok (.lstore 7, 2) := by decide +kernel
theorem dX12_shaBlock_77 : decode cX12_shaBlock 77 = .ok (.lload 5, 2) := by decide +kernel
theorem dX12_shaBlock_79 : decode cX12_shaBlock 79 = .ok (.iconst 1, 1) := by decide +kernel
theorem dX12_shaBlock_80 : decode cX12_shaBlock 80 = .ok (.invokestatic 253, 3) := by decide +kernel
theorem dX12_shaBlock_83 : decode cX12_shaBlock 83 = .ok (.lload 5, 2) := by decide +kernel
theorem dX12_shaBlock_85 : decode cX12_shaBlock 85 = .ok (.bipush 8, 2) := by decide +kernel
theorem dX12_shaBlock_87 : decode cX12_shaBlock 87 = .ok (.invokestatic 253, 3) := by decide +kernel
