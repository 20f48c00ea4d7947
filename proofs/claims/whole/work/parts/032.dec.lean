theorem dX10_choose_16 : decode cX10_choose 16 = .ok (.ifCond .ne 10, 3) := by decide +kernel
theorem dX10_choose_19 : decode cX10_choose 19 = .ok (.aload_n 2, 1) := by decide +kernel
theorem dX10_choose_20 : decode cX10_choose 20 = .ok (.getfield 95, 3) := by decide +kernel
theorem dX10_choose_23 : decode cX10_choose 23 = .ok (.ifCond .le 67, 3) := by decide +kernel
theorem dX10_choose_26 : decode cX10_choose 26 = .ok (.aload_n 0, 1) := by decide +kernel
theorem dX10_choose_27 : decode cX10_choose 27 = .ok (.getfield 16, 3) := by decide +kernel
theorem dX10_choose_30 : decode cX10_choose 30 = .ok (.aload_n 0, 1) := by decide +kernel
theorem dX10_choose_31 : decode cX10_choose 31 = .ok (.getfield 67, 3) := by decide +kernel
theorem dX10_choose_34 : decode cX10_choose 34 = .ok (.ifCond .eq 8, 3) := by decide +kernel
theorem dX10_choose_37 : decode cX10_choose 37 = .ok (.ldc 98, 2) := by decide +kernel
theorem dX10_choose_39 : decode cX10_choose 39 = .ok (.goto 5, 3) := by decide +kernel
theorem dX10_choose_42 : decode cX10_choose 42 = .ok (.ldc 100, 2) := by decide +kernel
theorem dX10_choose_44 : decode cX10_choose 44 = .ok (.invokevirtual 102, 3) := by decide +kernel
theorem dX10_choose_47 : decode cX10_choose 47 = .ok (.aload_n 0, 1) := by decide +kernel
theorem dX10_choose_48 : decode cX10_choose 48 = .ok (.getfield 16, 3) := by decide +kernel
theorem dX10_choose_51 : decode cX10_choose 51 = .ok (.iload_n 3, 1) := by decide +kernel
theorem dX10_choose_52 : decode cX10_choose 52 = .ok (.ifCond .eq 7, 3) := by decide +kernel
theorem dX10_choose_55 : decode cX10_choose 55 = .ok (.iconst 1, 1) := by decide +kernel
theorem dX10_choose_56 : decode cX10_choose 56 = .ok (.goto 4, 3) := by decide +kernel
theorem dX10_choose_59 : decode cX10_choose 59 = .ok (.iconst 0, 1) := by decide +kernel
theorem dX10_choose_60 : decode cX10_choose 60 = .ok (.invokevirtual 106, 3) := by decide +kernel
theorem dX10_choose_63 : decode cX10_choose 63 = .ok (.aload_n 0, 1) := by decide +kernel
theorem dX10_choose_64 : decode cX10_choose 64 = .ok (.getfield 16, 3) := by decide +kernel
theorem dX10_choose_67 : decode cX10_choose 67 = .ok (.aload_n 2, 1) := by decide +kernel
theorem dX10_choose_68 : decode cX10_choose 68 = .ok (.getfield 95, 3) := by decide +kernel
theorem dX10_choose_71 : decode cX10_choose 71 = .ok (.invokevirtual 106, 3) := by decide +kernel
theorem dX10_choose_74 : decode cX10_choose 74 = .ok (.aload_n 0, 1) := by decide +kernel
theorem dX10_choose_75 : decode cX10_choose 75 = .ok (.getfield 16, 3) := by decide +kernel
theorem dX10_choose_78 : decode cX10_choose 78 = .ok (.aload_n 2, 1) := by decide +kernel
theorem dX10_choose_79 : decode cX10_choose 79 = .ok (.getfield 109, 3) := by decide +kernel
theorem dX10_choose_82 : decode cX10_choose 82 = .ok (.iconst 0, 1) := by decide +kernel
theorem dX10_choose_83 : decode cX10_choose 83 = .ok (.aload_n 2, 1) := by decide +kernel
theorem dX10_choose_84 : decode cX10_choose 84 = .ok (.getfield 95, 3) := by decide +kernel
theorem dX10_choose_87 : decode cX10_choose 87 = .ok (.invokevirtual 112, 3) := by decide +kernel
theorem dX10_choose_90 : decode cX10_choose 90 = .ok (.aload_n 0, 1) := by decide +kernel
theorem dX10_choose_91 : decode cX10_choose 91 = .ok (.getfield 20, 3) := by decide +kernel
theorem dX10_choose_94 : decode cX10_choose 94 = .ok (.iconst 0, 1) := by decide +kernel
theorem dX10_choose_95 : decode cX10_choose 95 = .ok (.putfield 95, 3) := by decide +kernel
theorem dX10_choose_98 : decode cX10_choose 98 = .ok (.iload_n 3, 1) := by decide +kernel
theorem dX10_choose_99 : decode cX10_choose 99 = .ok (.ifCond .eq 34, 3) := by decide +kernel
theorem dX10_choose_102 : decode cX10_choose 102 = .ok (.aload_n 0, 1) := by decide +kernel
theorem dX10_choose_103 : decode cX10_choose 103 = .ok (.getfield 75, 3) := by decide +kernel
theorem dX10_choose_106 : decode cX10_choose 106 = .ok (.aload_n 0, 1) := by decide +kernel
theorem dX10_choose_107 : decode cX10_choose 107 = .ok (.getfield 20, 3) := by decide +kernel
theorem dX10_choose_110 : decode cX10_choose 110 = .ok (.getfield 109, 3) := by decide +kernel
theorem dX10_choose_113 : decode cX10_choose 113 = .ok (.aload_n 1, 1) := by decide +kernel
theorem dX10_choose_114 : decode cX10_choose 114 = .ok (.bipush 64, 2) := by decide +kernel
theorem dX10_choose_116 : decode cX10_choose 116 = .ok (.invokeinterface 116 4, 5) := by decide +kernel
theorem dX10_choose_121 : decode cX10_choose 121 = .ok (.aload_n 0, 1) := by decide +kernel
theorem dX10_choose_122 : decode cX10_choose 122 = .ok (.getfield 20, 3) := by decide +kernel
theorem dX10_choose_125 : decode cX10_choose 125 = .ok (.bipush 64, 2) := by decide +kernel
theorem dX10_choose_127 : decode cX10_choose 127 = .ok (.putfield 95, 3) := by decide +kernel
theorem dX10_choose_130 : decode cX10_choose 130 = .ok (.goto 19, 3) := by decide +kernel
theorem dX10_choose_133 : decode cX10_choose 133 = .ok (.aload_n 0, 1) := by decide +kernel
theorem dX10_choose_134 : decode cX10_choose 134 = .ok (.getfield 20, 3) := by decide +kernel
theorem dX10_choose_137 : decode cX10_choose 137 = .ok (.aload_n 1, 1) := by decide +kernel
theorem dX10_choose_138 : decode cX10_choose 138 = .ok (.getfield 109, 3) := by decide +kernel
theorem dX10_choose_141 : decode cX10_choose 141 = .ok (.iconst 0, 1) := by decide +kernel
theorem dX10_choose_142 : decode cX10_choose 142 = .ok (.aload_n 1, 1) := by decide +kernel
theorem dX10_choose_143 : decode cX10_choose 143 = .ok (.getfield 95, 3) := by decide +kernel
theorem dX10_choose_146 : decode cX10_choose 146 = .ok (.invokevirtual 112, 3) := by decide +kernel
theorem dX10_choose_149 : decode cX10_choose 149 = .ok (.return_, 1) := by decide +kernel
theorem dX10_publicKey_0 : decode cX10_publicKey 0 = .ok (.aload_n 0, 1) := by decide +kernel
theorem dX10_publicKey_1 : decode cX10_publicKey 1 = .ok (.aload_n 2, 1) := by decide +kernel
theorem dX10_publicKey_2 : decode cX10_publicKey 2 = .ok (.invokevirtual 122, 3) := by decide +kernel
theorem dX10_publicKey_5 : decode cX10_publicKey 5 = .ok (.aload_n 0, 1) := by decide +kernel
theorem dX10_publicKey_6 : decode cX10_publicKey 6 = .ok (.getfield 71, 3) := by decide +kernel
theorem dX10_publicKey_9 : decode cX10_publicKey 9 = .ok (.aload_n 0, 1) := by decide +kernel
theorem dX10_publicKey_10 : decode cX10_publicKey 10 = .ok (.getfield 57, 3) := by decide +kernel
theorem dX10_publicKey_13 : decode cX10_publicKey 13 = .ok (.aload_n 0, 1) := by decide +kernel
theorem dX10_publicKey_14 : decode cX10_publicKey 14 = .ok (.getfield 26, 3) := by decide +kernel
theorem dX10_publicKey_17 : decode cX10_publicKey 17 = .ok (.aload_n 0, 1) := by decide +kernel
theorem dX10_publicKey_18 : decode cX10_publicKey 18 = .ok (.getfield 71, 3) := by decide +kernel
theorem dX10_publicKey_21 : decode cX10_publicKey 21 = .ok (.getfield 126, 3) := by decide +kernel
theorem dX10_publicKey_24 : decode cX10_publicKey 24 = .ok (.invokevirtual 129, 3) := by decide +kernel
theorem dX10_publicKey_27 : decode cX10_publicKey 27 = .ok (.aload_n 0, 1) := by decide +kernel
theorem dX10_publicKey_28 : decode cX10_publicKey 28 = .ok (.getfield 71, 3) := by decide +kernel
theorem dX10_publicKey_31 : decode cX10_publicKey 31 = .ok (.aload_n 1, 1) := by decide +kernel
theorem dX10_publicKey_32 : decode cX10_publicKey 32 = .ok (.aload_n 0, 1) := by decide +kernel
theorem dX10_publicKey_33 : decode cX10_publicKey 33 = .ok (.getfield 57, 3) := by decide +kernel
theorem dX10_publicKey_36 : decode cX10_publicKey 36 = .ok (.invokevirtual 133, 3) := by decide +kernel
theorem dX10_publicKey_39 : decode cX10_publicKey 39 = .ok (.return_, 1) := by decide +kernel
theorem dX10_makeSignature_0 : decode cX10_makeSignature 0 = .ok (.aload_n 0, 1) := by decide +kernel
theorem dX10_makeSignature_1 : decode cX10_makeSignature 1 = .ok (.aload_n 2, 1) := by decide +kernel
theorem dX10_makeSignature_2 : decode cX10_makeSignature 2 = .ok (.invokevirtual 122, 3) := by decide +kernel
theorem dX10_makeSignature_5 : decode cX10_makeSignature 5 = .ok (.aload_n 0, 1) := by decide +kernel
theorem dX10_makeSignature_6 : decode cX10_makeSignature 6 = .ok (.getfield 71, 3) := by decide +kernel
theorem dX10_makeSignature_9 : decode cX10_makeSignature 9 = .ok (.aload_n 0, 1) := by decide +kernel
theorem dX10_makeSignature_10 : decode cX10_makeSignature 10 = .ok (.getfield 57, 3) := by decide +kernel
theorem dX10_makeSignature_13 : decode cX10_makeSignature 13 = .ok (.aload_n 0, 1) := by decide +kernel
theorem dX10_makeSignature_14 : decode cX10_makeSignature 14 = .ok (.getfield 26, 3) := by decide +kernel
theorem dX10_makeSignature_17 : decode cX10_makeSignature 17 = .ok (.aload_n 0, 1) := by decide +kernel
theorem dX10_makeSignature_18 : decode cX10_makeSignature 18 = .ok (.getfield 71, 3) := by decide +kernel
theorem dX10_makeSignature_21 : decode cX10_makeSignature 21 = .ok (.getfield 126, 3) := by decide +kernel
theorem dX10_makeSignature_24 : decode cX10_makeSignature 24 = .ok (.invokevirtual 129, 3) := by decide +kernel
theorem dX10_makeSignature_27 : decode cX10_makeSignature 27 = .ok (.aload_n 0, 1) := by decide +kernel
theorem dX10_makeSignature_28 : decode cX10_makeSignature 28 = .ok (.getfield 71, 3) := by decide +kernel
theorem dX10_makeSignature_31 : decode cX10_makeSignature 31 = .ok (.aload_n 0, 1) := by decide +kernel
theorem dX10_makeSignature_32 : decode cX10_makeSignature 32 = .ok (.getfield 33, 3) := by decide +kernel
theorem dX10_makeSignature_35 : decode cX10_makeSignature 35 = .ok (.aload_n 0, 1) := by decide +kernel
theorem dX10_makeSignature_36 : decode cX10_makeSignature 36 = .ok (.getfield 57, 3) := by decide +kernel
theorem dX10_makeSignature_39 : decode cX10_makeSignature 39 = .ok (.invokevirtual 133, 3) := by decide +kernel
theorem dX10_makeSignature_42 : decode cX10_makeSignature 42 = .ok (.aload_n 0, 1) := by decide +kernel
theorem dX10_makeSignature_43 : decode cX10_makeSignature 43 = .ok (.invokevirtual 137, 3) := by decide +kernel
theorem dX10_makeSignature_46 : decode cX10_makeSignature 46 = .ok (.aload_n 0, 1) := by decide +kernel
theorem dX10_makeSignature_47 : decode cX10_makeSignature 47 = .ok (.getfield 91, 3) := by decide +kernel
theorem dX10_makeSignature_50 : decode cX10_makeSignature 50 = .ok (.aload_n 0, 1) := by decide +kernel
theorem dX10_makeSignature_51 : decode cX10_makeSignature 51 = .ok (.getfield 44, 3) := by decide +kernel
theorem dX10_makeSignature_54 : decode cX10_makeSignature 54 = .ok (.aload_n 0, 1) := by decide +kernel
theorem dX10_makeSignature_55 : decode cX10_makeSignature 55 = .ok (.getfield 30, 3) := by decide +kernel
theorem dX10_makeSignature_58 : decode cX10_makeSignature 58 = .ok (.iconst 2, 1) := by decide +kernel
theorem dX10_makeSignature_59 : decode cX10_makeSignature 59 = .ok (.aload_n 0, 1) := by decide +kernel
theorem dX10_makeSignature_60 : decode cX10_makeSignature 60 = .ok (.getfield 85, 3) := by decide +kernel
theorem dX10_makeSignature_63 : decode cX10_makeSignature 63 = .ok (.imul, 1) := by decide +kernel
theorem dX10_makeSignature_64 : decode cX10_makeSignature 64 = .ok (.invokevirtual 140, 3) := by decide +kernel
theorem dX10_makeSignature_67 : decode cX10_makeSignature 67 = .ok (.aload_n 0, 1) := by decide +kernel
theorem dX10_makeSignature_68 : decode cX10_makeSignature 68 = .ok (.getfield 91, 3) := by decide +kernel
theorem dX10_makeSignature_71 : decode cX10_makeSignature 71 = .ok (.aload_n 0, 1) := by decide +kernel
theorem dX10_makeSignature_72 : decode cX10_makeSignature 72 = .ok (.getfield 36, 3) := by decide +kernel
theorem dX10_makeSignature_75 : decode cX10_makeSignature 75 = .ok (.iconst 0, 1) := by decide +kernel
theorem dX10_makeSignature_76 : decode cX10_makeSignature 76 = .ok (.aload_n 0, 1) := by decide +kernel
theorem dX10_makeSignature_77 : decode cX10_makeSignature 77 = .ok (.getfield 44, 3) := by decide +kernel
theorem dX10_makeSignature_80 : decode cX10_makeSignature 80 = .ok (.invokevirtual 144, 3) := by decide +kernel
theorem dX10_makeSignature_83 : decode cX10_makeSignature 83 = .ok (.aload_n 0, 1) := by decide +kernel
theorem dX10_makeSignature_84 : decode cX10_makeSignature 84 = .ok (.getfield 71, 3) := by decide +kernel
theorem dX10_makeSignature_87 : decode cX10_makeSignature 87 = .ok (.aload_n 0, 1) := by decide +kernel
theorem dX10_makeSignature_88 : decode cX10_makeSignature 88 = .ok (.getfield 57, 3) := by decide +kernel
theorem dX10_makeSignature_91 : decode cX10_makeSignature 91 = .ok (.aload_n 0, 1) := by decide +kernel
theorem dX10_makeSignature_92 : decode cX10_makeSignature 92 = .ok (.getfield 36, 3) := by decide +kernel
theorem dX10_makeSignature_95 : decode cX10_makeSignature 95 = .ok (.aload_n 0, 1) := by decide +kernel
theorem dX10_makeSignature_96 : decode cX10_makeSignature 96 = .ok (.getfield 71, 3) := by decide +kernel
theorem dX10_makeSignature_99 : decode cX10_makeSignature 99 = .ok (.getfield 126, 3) := by decide +kernel
theorem dX10_makeSignature_102 : decode cX10_makeSignature 102 = .ok (.invokevirtual 129, 3) := by decide +kernel
theorem dX10_makeSignature_105 : decode cX10_makeSignature 105 = .ok (.aload_n 0, 1) := by decide +kernel
theorem dX10_makeSignature_106 : decode cX10_makeSignature 106 = .ok (.getfield 71, 3) := by decide +kernel
theorem dX10_makeSignature_109 : decode cX10_makeSignature 109 = .ok (.aload_n 1, 1) := by decide +kernel
theorem dX10_makeSignature_110 : decode cX10_makeSignature 110 = .ok (.aload_n 0, 1) := by decide +kernel
theorem dX10_makeSignature_111 : decode cX10_makeSignature 111 = .ok (.getfield 57, 3) := by decide +kernel
theorem dX10_makeSignature_114 : decode cX10_makeSignature 114 = .ok (.invokevirtual 133, 3) := by decide +kernel
theorem dX10_makeSignature_117 : decode cX10_makeSignature 117 = .ok (.aload_n 0, 1) := by decide +kernel
theorem dX10_makeSignature_118 : decode cX10_makeSignature 118 = .ok (.aload_n 1, 1) := by decide +kernel
theorem dX10_makeSignature_119 : decode cX10_makeSignature 119 = .ok (.aload_n 0, 1) := by decide +kernel
theorem dX10_makeSignature_120 : decode cX10_makeSignature 120 = .ok (.getfield 33, 3) := by decide +kernel
theorem dX10_makeSignature_123 : decode cX10_makeSignature 123 = .ok (.invokevirtual 148, 3) := by decide +kernel
theorem dX10_makeSignature_126 : decode cX10_makeSignature 126 = .ok (.aload_n 0, 1) := by decide +kernel
theorem dX10_makeSignature_127 : decode cX10_makeSignature 127 = .ok (.getfield 91, 3) := by decide +kernel
theorem dX10_makeSignature_130 : decode cX10_makeSignature 130 = .ok (.aload_n 0, 1) := by decide +kernel
theorem dX10_makeSignature_131 : decode cX10_makeSignature 131 = .ok (.getfield 48, 3) := by decide +kernel
theorem dX10_makeSignature_134 : decode cX10_makeSignature 134 = .ok (.aload_n 0, 1) := by decide +kernel
theorem dX10_makeSignature_135 : decode cX10_makeSignature 135 = .ok (.getfield 26, 3) := by decide +kernel
theorem dX10_makeSignature_138 : decode cX10_makeSignature 138 = .ok (.aload_n 0, 1) := by decide +kernel
theorem dX10_makeSignature_139 : decode cX10_makeSignature 139 = .ok (.getfield 85, 3) := by decide +kernel
theorem dX10_makeSignature_142 : decode cX10_makeSignature 142 = .ok (.invokevirtual 140, 3) := by decide +kernel
theorem dX10_makeSignature_145 : decode cX10_makeSignature 145 = .ok (.aload_n 0, 1) := by decide +kernel
theorem dX10_makeSignature_146 : decode cX10_makeSignature 146 = .ok (.getfield 91, 3) := by decide +kernel
theorem dX10_makeSignature_149 : decode cX10_makeSignature 149 = .ok (.aload_n 0, 1) := by decide +kernel
theorem dX10_makeSignature_150 : decode cX10_makeSignature 150 = .ok (.getfield 51, 3) := by decide +kernel
theorem dX10_makeSignature_153 : decode cX10_makeSignature 153 = .ok (.aload_n 0, 1) := by decide +kernel
theorem dX10_makeSignature_154 : decode cX10_makeSignature 154 = .ok (.getfield 30, 3) := by decide +kernel
theorem dX10_makeSignature_157 : decode cX10_makeSignature 157 = .ok (.iconst 2, 1) := by decide +kernel
theorem dX10_makeSignature_158 : decode cX10_makeSignature 158 = .ok (.aload_n 0, 1) := by decide +kernel
theorem dX10_makeSignature_159 : decode cX10_makeSignature 159 = .ok (.getfield 85, 3) := by decide +kernel
theorem dX10_makeSignature_162 : decode cX10_makeSignature 162 = .ok (.imul, 1) := by decide +kernel
theorem dX10_makeSignature_163 : decode cX10_makeSignature 163 = .ok (.aload_n 0, 1) := by decide +kernel
theorem dX10_makeSignature_164 : decode cX10_makeSignature 164 = .ok (.getfield 48, 3) := by decide +kernel
theorem dX10_makeSignature_167 : decode cX10_makeSignature 167 = .ok (.invokevirtual 152, 3) := by decide +kernel
theorem dX10_makeSignature_170 : decode cX10_makeSignature 170 = .ok (.aload_n 0, 1) := by decide +kernel
theorem dX10_makeSignature_171 : decode cX10_makeSignature 171 = .ok (.getfield 91, 3) := by decide +kernel
theorem dX10_makeSignature_174 : decode cX10_makeSignature 174 = .ok (.aload_n 0, 1) := by decide +kernel
theorem dX10_makeSignature_175 : decode cX10_makeSignature 175 = .ok (.getfield 51, 3) := by decide +kernel
theorem dX10_makeSignature_178 : decode cX10_makeSignature 178 = .ok (.aload_n 0, 1) := by decide +kernel
theorem dX10_makeSignature_179 : decode cX10_makeSignature 179 = .ok (.getfield 44, 3) := by decide +kernel
theorem dX10_makeSignature_182 : decode cX10_makeSignature 182 = .ok (.invokevirtual 155, 3) := by decide +kernel
theorem dX10_makeSignature_185 : decode cX10_makeSignature 185 = .ok (.aload_n 0, 1) := by decide +kernel
theorem dX10_makeSignature_186 : decode cX10_makeSignature 186 = .ok (.getfield 91, 3) := by decide +kernel
theorem dX10_makeSignature_189 : decode cX10_makeSignature 189 = .ok (.aload_n 1, 1) := by decide +kernel
theorem dX10_makeSignature_190 : decode cX10_makeSignature 190 = .ok (.aload_n 0, 1) := by decide +kernel
theorem dX10_makeSignature_191 : decode cX10_makeSignature 191 = .ok (.getfield 85, 3) := by decide +kernel
theorem dX10_makeSignature_194 : decode cX10_makeSignature 194 = .ok (.aload_n 0, 1) := by decide +kernel
theorem dX10_makeSignature_195 : decode cX10_makeSignature 195 = .ok (.getfield 51, 3) := by decide +kernel
theorem dX10_makeSignature_198 : decode cX10_makeSignature 198 = .ok (.invokevirtual 144, 3) := by decide +kernel
theorem dX10_makeSignature_201 : decode cX10_makeSignature 201 = .ok (.return_, 1) := by decide +kernel
theorem dX10_isVerified_0 : decode cX10_isVerified 0 = .ok (.aload_n 0, 1) := by decide +kernel
theorem dX10_isVerified_1 : decode cX10_isVerified 1 = .ok (.getfield 71, 3) := by decide +kernel
theorem dX10_isVerified_4 : decode cX10_isVerified 4 = .ok (.aload_n 0, 1) := by decide +kernel
theorem dX10_isVerified_5 : decode cX10_isVerified 5 = .ok (.getfield 61, 3) := by decide +kernel
theorem dX10_isVerified_8 : decode cX10_isVerified 8 = .ok (.aload_n 2, 1) := by decide +kernel
theorem dX10_isVerified_9 : decode cX10_isVerified 9 = .ok (.invokevirtual 159, 3) := by decide +kernel
theorem dX10_isVerified_12 : decode cX10_isVerified 12 = .ok (.ifCond .eq 33, 3) := by decide +kernel
theorem dX10_isVerified_15 : decode cX10_isVerified 15 = .ok (.aload_n 0, 1) := by decide +kernel
theorem dX10_isVerified_16 : decode cX10_isVerified 16 = .ok (.getfield 71, 3) := by decide +kernel
theorem dX10_isVerified_19 : decode cX10_isVerified 19 = .ok (.aload_n 0, 1) := by decide +kernel
theorem dX10_isVerified_20 : decode cX10_isVerified 20 = .ok (.getfield 64, 3) := by decide +kernel
theorem dX10_isVerified_23 : decode cX10_isVerified 23 = .ok (.aload_n 1, 1) := by decide +kernel
theorem dX10_isVerified_24 : decode cX10_isVerified 24 = .ok (.invokevirtual 159, 3) := by decide +kernel
theorem dX10_isVerified_27 : decode cX10_isVerified 27 = .ok (.ifCond .eq 18, 3) := by decide +kernel
theorem dX10_isVerified_30 : decode cX10_isVerified 30 = .ok (.aload_n 0, 1) := by decide +kernel
theorem dX10_isVerified_31 : decode cX10_isVerified 31 = .ok (.getfield 91, 3) := by decide +kernel
theorem dX10_isVerified_34 : decode cX10_isVerified 34 = .ok (.aload_n 1, 1) := by decide +kernel
theorem dX10_isVerified_35 : decode cX10_isVerified 35 = .ok (.aload_n 0, 1) := by decide +kernel
theorem dX10_isVerified_36 : decode cX10_isVerified 36 = .ok (.getfield 85, 3) := by decide +kernel
theorem dX10_isVerified_39 : decode cX10_isVerified 39 = .ok (.invokevirtual 163, 3) := by decide +kernel
theorem dX10_isVerified_42 : decode cX10_isVerified 42 = .ok (.ifCond .ne 5, 3) := by decide +kernel
theorem dX10_isVerified_45 : decode cX10_isVerified 45 = .ok (.iconst 0, 1) := by decide +kernel
theorem dX10_isVerified_46 : decode cX10_isVerified 46 = .ok (.ireturn, 1) := by decide +kernel
theorem dX10_isVerified_47 : decode cX10_isVerified 47 = .ok (.aload_n 0, 1) := by decide +kernel
theorem dX10_isVerified_48 : decode cX10_isVerified 48 = .ok (.aload_n 1, 1) := by decide +kernel
theorem dX10_isVerified_49 : decode cX10_isVerified 49 = .ok (.aload_n 2, 1) := by decide +kernel
theorem dX10_isVerified_50 : decode cX10_isVerified 50 = .ok (.invokevirtual 148, 3) := by decide +kernel
theorem dX10_isVerified_53 : decode cX10_isVerified 53 = .ok (.aload_n 0, 1) := by decide +kernel
theorem dX10_isVerified_54 : decode cX10_isVerified 54 = .ok (.getfield 91, 3) := by decide +kernel
theorem dX10_isVerified_57 : decode cX10_isVerified 57 = .ok (.aload_n 0, 1) := by decide +kernel
theorem dX10_isVerified_58 : decode cX10_isVerified 58 = .ok (.getfield 51, 3) := by decide +kernel
theorem dX10_isVerified_61 : decode cX10_isVerified 61 = .ok (.aload_n 0, 1) := by decide +kernel
theorem dX10_isVerified_62 : decode cX10_isVerified 62 = .ok (.getfield 30, 3) := by decide +kernel
theorem dX10_isVerified_65 : decode cX10_isVerified 65 = .ok (.iconst 2, 1) := by decide +kernel
theorem dX10_isVerified_66 : decode cX10_isVerified 66 = .ok (.aload_n 0, 1) := by decide +kernel
theorem dX10_isVerified_67 : decode cX10_isVerified 67 = .ok (.getfield 85, 3) := by decide +kernel
theorem dX10_isVerified_70 : decode cX10_isVerified 70 = .ok (.imul, 1) := by decide +kernel
theorem dX10_isVerified_71 : decode cX10_isVerified 71 = .ok (.invokevirtual 140, 3) := by decide +kernel
theorem dX10_isVerified_74 : decode cX10_isVerified 74 = .ok (.aload_n 0, 1) := by decide +kernel
theorem dX10_isVerified_75 : decode cX10_isVerified 75 = .ok (.getfield 91, 3) := by decide +kernel
theorem dX10_isVerified_78 : decode cX10_isVerified 78 = .ok (.aload_n 0, 1) := by decide +kernel
theorem dX10_isVerified_79 : decode cX10_isVerified 79 = .ok (.getfield 36, 3) := by decide +kernel
theorem dX10_isVerified_82 : decode cX10_isVerified 82 = .ok (.iconst 0, 1) := by decide +kernel
theorem dX10_isVerified_83 : decode cX10_isVerified 83 = .ok (.aload_n 0, 1) := by decide +kernel
theorem dX10_isVerified_84 : decode cX10_isVerified 84 = .ok (.getfield 51, 3) := by decide +kernel
theorem dX10_isVerified_87 : decode cX10_isVerified 87 = .ok (.invokevirtual 144, 3) := by decide +kernel
theorem dX10_isVerified_90 : decode cX10_isVerified 90 = .ok (.aload_n 1, 1) := by decide +kernel
theorem dX10_isVerified_91 : decode cX10_isVerified 91 = .ok (.aload_n 0, 1) := by decide +kernel
theorem dX10_isVerified_92 : decode cX10_isVerified 92 = .ok (.getfield 85, 3) := by decide +kernel
theorem dX10_isVerified_95 : decode cX10_isVerified 95 = .ok (.aload_n 0, 1) := by decide +kernel
theorem dX10_isVerified_96 : decode cX10_isVerified 96 = .ok (.getfield 39, 3) := by decide +kernel
theorem dX10_isVerified_99 : decode cX10_isVerified 99 = .ok (.iconst 0, 1) := by decide +kernel
theorem dX10_isVerified_100 : decode cX10_isVerified 100 = .ok (.aload_n 0, 1) := by decide +kernel
theorem dX10_isVerified_101 : decode cX10_isVerified 101 = .ok (.getfield 85, 3) := by decide +kernel
theorem dX10_isVerified_104 : decode cX10_isVerified 104 = .ok (.invokestatic 167, 3) := by decide +kernel
theorem dX10_isVerified_107 : decode cX10_isVerified 107 = .ok (.aload_n 0, 1) := by decide +kernel
theorem dX10_isVerified_108 : decode cX10_isVerified 108 = .ok (.getfield 71, 3) := by decide +kernel
theorem dX10_isVerified_111 : decode cX10_isVerified 111 = .ok (.aload_n 0, 1) := by decide +kernel
theorem dX10_isVerified_112 : decode cX10_isVerified 112 = .ok (.getfield 61, 3) := by decide +kernel
theorem dX10_isVerified_115 : decode cX10_isVerified 115 = .ok (.aload_n 0, 1) := by decide +kernel
theorem dX10_isVerified_116 : decode cX10_isVerified 116 = .ok (.getfield 61, 3) := by decide +kernel
theorem dX10_isVerified_119 : decode cX10_isVerified 119 = .ok (.invokevirtual 173, 3) := by decide +kernel
theorem dX10_isVerified_122 : decode cX10_isVerified 122 = .ok (.aload_n 0, 1) := by decide +kernel
theorem dX10_isVerified_123 : decode cX10_isVerified 123 = .ok (.getfield 71, 3) := by decide +kernel
theorem dX10_isVerified_126 : decode cX10_isVerified 126 = .ok (.aload_n 0, 1) := by decide +kernel
theorem dX10_isVerified_127 : decode cX10_isVerified 127 = .ok (.getfield 64, 3) := by decide +kernel
theorem dX10_isVerified_130 : decode cX10_isVerified 130 = .ok (.aload_n 0, 1) := by decide +kernel
theorem dX10_isVerified_131 : decode cX10_isVerified 131 = .ok (.getfield 64, 3) := by decide +kernel
theorem dX10_isVerified_134 : decode cX10_isVerified 134 = .ok (.invokevirtual 173, 3) := by decide +kernel
theorem dX10_isVerified_137 : decode cX10_isVerified 137 = .ok (.aload_n 0, 1) := by decide +kernel
theorem dX10_isVerified_138 : decode cX10_isVerified 138 = .ok (.getfield 71, 3) := by decide +kernel
theorem dX10_isVerified_141 : decode cX10_isVerified 141 = .ok (.aload_n 0, 1) := by decide +kernel
theorem dX10_isVerified_142 : decode cX10_isVerified 142 = .ok (.getfield 57, 3) := by decide +kernel
theorem dX10_isVerified_145 : decode cX10_isVerified 145 = .ok (.aload_n 0, 1) := by decide +kernel
theorem dX10_isVerified_146 : decode cX10_isVerified 146 = .ok (.getfield 39, 3) := by decide +kernel
theorem dX10_isVerified_149 : decode cX10_isVerified 149 = .ok (.aload_n 0, 1) := by decide +kernel
theorem dX10_isVerified_150 : decode cX10_isVerified 150 = .ok (.getfield 71, 3) := by decide +kernel
theorem dX10_isVerified_153 : decode cX10_isVerified 153 = .ok (.getfield 126, 3) := by decide +kernel
theorem dX10_isVerified_156 : decode cX10_isVerified 156 = .ok (.aload_n 0, 1) := by decide +kernel
theorem dX10_isVerified_157 : decode cX10_isVerified 157 = .ok (.getfield 36, 3) := by decide +kernel
theorem dX10_isVerified_160 : decode cX10_isVerified 160 = .ok (.aload_n 0, 1) := by decide +kernel
theorem dX10_isVerified_161 : decode cX10_isVerified 161 = .ok (.getfield 61, 3) := by decide +kernel
theorem dX10_isVerified_164 : decode cX10_isVerified 164 = .ok (.invokevirtual 177, 3) := by decide +kernel
theorem dX10_isVerified_167 : decode cX10_isVerified 167 = .ok (.aload_n 0, 1) := by decide +kernel
theorem dX10_isVerified_168 : decode cX10_isVerified 168 = .ok (.getfield 71, 3) := by decide +kernel
theorem dX10_isVerified_171 : decode cX10_isVerified 171 = .ok (.aload_n 0, 1) := by decide +kernel
theorem dX10_isVerified_172 : decode cX10_isVerified 172 = .ok (.getfield 57, 3) := by decide +kernel
theorem dX10_isVerified_175 : decode cX10_isVerified 175 = .ok (.aload_n 0, 1) := by decide +kernel
theorem dX10_isVerified_176 : decode cX10_isVerified 176 = .ok (.getfield 57, 3) := by decide +kernel
theorem dX10_isVerified_179 : decode cX10_isVerified 179 = .ok (.aload_n 0, 1) := by decide +kernel
theorem dX10_isVerified_180 : decode cX10_isVerified 180 = .ok (.getfield 64, 3) := by decide +kernel
theorem dX10_isVerified_183 : decode cX10_isVerified 183 = .ok (.invokevirtual 181, 3) := by decide +kernel
theorem dX10_isVerified_186 : decode cX10_isVerified 186 = .ok (.aload_n 0, 1) := by decide +kernel
theorem dX10_isVerified_187 : decode cX10_isVerified 187 = .ok (.getfield 67, 3) := by decide +kernel
theorem dX10_isVerified_190 : decode cX10_isVerified 190 = .ok (.ifCond .eq 7, 3) := by decide +kernel
theorem dX10_isVerified_193 : decode cX10_isVerified 193 = .ok (.iconst 2, 1) := by decide +kernel
theorem dX10_isVerified_194 : decode cX10_isVerified 194 = .ok (.goto 4, 3) := by decide +kernel
theorem dX10_isVerified_197 : decode cX10_isVerified 197 = .ok (.iconst 3, 1) := by decide +kernel
theorem dX10_isVerified_198 : decode cX10_isVerified 198 = .ok (.istore_n 3, 1) := by decide +kernel
theorem dX10_isVerified_199 : decode cX10_isVerified 199 = .ok (.iconst 0, 1) := by decide +kernel
theorem dX10_isVerified_200 : decode cX10_isVerified 200 = .ok (.istore 4, 2) := by decide +kernel
theorem dX10_isVerified_202 : decode cX10_isVerified 202 = .ok (.iload 4, 2) := by decide +kernel
theorem dX10_isVerified_204 : decode cX10_isVerified 204 = .ok (.iload_n 3, 1) := by decide +kernel
theorem dX10_isVerified_205 : decode cX10_isVerified 205 = .ok (.if_icmp .ge 24, 3) := by decide +kernel
theorem dX10_isVerified_208 : decode cX10_isVerified 208 = .ok (.aload_n 0, 1) := by decide +kernel
theorem dX10_isVerified_209 : decode cX10_isVerified 209 = .ok (.getfield 71, 3) := by decide +kernel
theorem dX10_isVerified_212 : decode cX10_isVerified 212 = .ok (.aload_n 0, 1) := by decide +kernel
theorem dX10_isVerified_213 : decode cX10_isVerified 213 = .ok (.getfield 57, 3) := by decide +kernel
theorem dX10_isVerified_216 : decode cX10_isVerified 216 = .ok (.aload_n 0, 1) := by decide +kernel
theorem dX10_isVerified_217 : decode cX10_isVerified 217 = .ok (.getfield 57, 3) := by decide +kernel
theorem dX10_isVerified_220 : decode cX10_isVerified 220 = .ok (.invokevirtual 185, 3) := by decide +kernel
theorem dX10_isVerified_223 : decode cX10_isVerified 223 = .ok (.iinc 4 1, 3) := by decide +kernel
theorem dX10_isVerified_226 : decode cX10_isVerified 226 = .ok (.goto (-24), 3) := by decide +kernel
theorem dX10_isVerified_229 : decode cX10_isVerified 229 = .ok (.aload_n 0, 1) := by decide +kernel
theorem dX10_isVerified_230 : decode cX10_isVerified 230 = .ok (.getfield 71, 3) := by decide +kernel
theorem dX10_isVerified_233 : decode cX10_isVerified 233 = .ok (.aload_n 0, 1) := by decide +kernel
theorem dX10_isVerified_234 : decode cX10_isVerified 234 = .ok (.getfield 57, 3) := by decide +kernel
theorem dX10_isVerified_237 : decode cX10_isVerified 237 = .ok (.invokevirtual 188, 3) := by decide +kernel
theorem dX10_isVerified_240 : decode cX10_isVerified 240 = .ok (.ireturn, 1) := by decide +kernel
theorem dX10_expand_0 : decode cX10_expand 0 = .ok (.aload_n 0, 1) := by decide +kernel
theorem dX10_expand_1 : decode cX10_expand 1 = .ok (.getfield 23, 3) := by decide +kernel
theorem dX10_expand_4 : decode cX10_expand 4 = .ok (.iconst 0, 1) := by decide +kernel
theorem dX10_expand_5 : decode cX10_expand 5 = .ok (.putfield 95, 3) := by decide +kernel
theorem dX10_expand_8 : decode cX10_expand 8 = .ok (.aload_n 0, 1) := by decide +kernel
theorem dX10_expand_9 : decode cX10_expand 9 = .ok (.getfield 23, 3) := by decide +kernel
theorem dX10_expand_12 : decode cX10_expand 12 = .ok (.aload_n 1, 1) := by decide +kernel
theorem dX10_expand_13 : decode cX10_expand 13 = .ok (.iconst 0, 1) := by decide +kernel
theorem dX10_expand_14 : decode cX10_expand 14 = .ok (.aload_n 0, 1) := by decide +kernel
theorem dX10_expand_15 : decode cX10_expand 15 = .ok (.getfield 85, 3) := by decide +kernel
theorem dX10_expand_18 : decode cX10_expand 18 = .ok (.invokevirtual 112, 3) := by decide +kernel
theorem dX10_expand_21 : decode cX10_expand 21 = .ok (.aload_n 0, 1) := by decide +kernel
theorem dX10_expand_22 : decode cX10_expand 22 = .ok (.getfield 75, 3) := by decide +kernel
theorem dX10_expand_25 : decode cX10_expand 25 = .ok (.aload_n 0, 1) := by decide +kernel
theorem dX10_expand_26 : decode cX10_expand 26 = .ok (.getfield 26, 3) := by decide +kernel
theorem dX10_expand_29 : decode cX10_expand 29 = .ok (.aload_n 0, 1) := by decide +kernel
theorem dX10_expand_30 : decode cX10_expand 30 = .ok (.getfield 23, 3) := by decide +kernel
theorem dX10_expand_33 : decode cX10_expand 33 = .ok (.iconst 2, 1) := by decide +kernel
theorem dX10_expand_34 : decode cX10_expand 34 = .ok (.aload_n 0, 1) := by decide +kernel
theorem dX10_expand_35 : decode cX10_expand 35 = .ok (.getfield 85, 3) := by decide +kernel
theorem dX10_expand_38 : decode cX10_expand 38 = .ok (.imul, 1) := by decide +kernel
theorem dX10_expand_39 : decode cX10_expand 39 = .ok (.invokeinterface 116 4, 5) := by decide +kernel
theorem dX10_expand_44 : decode cX10_expand 44 = .ok (.aload_n 0, 1) := by decide +kernel
theorem dX10_expand_45 : decode cX10_expand 45 = .ok (.getfield 67, 3) := by decide +kernel
theorem dX10_expand_48 : decode cX10_expand 48 = .ok (.ifCond .eq 39, 3) := by decide +kernel
theorem dX10_expand_51 : decode cX10_expand 51 = .ok (.aload_n 0, 1) := by decide +kernel
theorem dX10_expand_52 : decode cX10_expand 52 = .ok (.getfield 26, 3) := by decide +kernel
theorem dX10_expand_55 : decode cX10_expand 55 = .ok (.iconst 0, 1) := by decide +kernel
theorem dX10_expand_56 : decode cX10_expand 56 = .ok (.dup2, 1) := by decide +kernel
theorem dX10_expand_57 : decode cX10_expand 57 = .ok (.iaload, 1) := by decide +kernel
theorem dX10_expand_58 : decode cX10_expand 58 = .ok (.sipush 252, 3) := by decide +kernel
theorem dX10_expand_61 : decode cX10_expand 61 = .ok (.iand, 1) := by decide +kernel
theorem dX10_expand_62 : decode cX10_expand 62 = .ok (.iastore, 1) := by decide +kernel
theorem dX10_expand_63 : decode cX10_expand 63 = .ok (.aload_n 0, 1) := by decide +kernel
theorem dX10_expand_64 : decode cX10_expand 64 = .ok (.getfield 26, 3) := by decide +kernel
theorem dX10_expand_67 : decode cX10_expand 67 = .ok (.bipush 55, 2) := by decide +kernel
theorem dX10_expand_69 : decode cX10_expand 69 = .ok (.dup2, 1) := by decide +kernel
theorem dX10_expand_70 : decode cX10_expand 70 = .ok (.iaload, 1) := by decide +kernel
theorem dX10_expand_71 : decode cX10_expand 71 = .ok (.sipush 128, 3) := by decide +kernel
theorem dX10_expand_74 : decode cX10_expand 74 = .ok (.ior, 1) := by decide +kernel
theorem dX10_expand_75 : decode cX10_expand 75 = .ok (.iastore, 1) := by decide +kernel
theorem dX10_expand_76 : decode cX10_expand 76 = .ok (.aload_n 0, 1) := by decide +kernel
theorem dX10_expand_77 : decode cX10_expand 77 = .ok (.getfield 26, 3) := by decide +kernel
theorem dX10_expand_80 : decode cX10_expand 80 = .ok (.bipush 56, 2) := by decide +kernel
theorem dX10_expand_82 : decode cX10_expand 82 = .ok (.iconst 0, 1) := by decide +kernel
theorem dX10_expand_83 : decode cX10_expand 83 = .ok (.iastore, 1) := by decide +kernel
theorem dX10_expand_84 : decode cX10_expand 84 = .ok (.goto 35, 3) := by decide +kernel
theorem dX10_expand_87 : decode cX10_expand 87 = .ok (.aload_n 0, 1) := by decide +kernel
theorem dX10_expand_88 : decode cX10_expand 88 = .ok (.getfield 26, 3) := by decide +kernel
theorem dX10_expand_91 : decode cX10_expand 91 = .ok (.iconst 0, 1) := by decide +kernel
theorem dX10_expand_92 : decode cX10_expand 92 = .ok (.dup2, 1) := by decide +kernel
theorem dX10_expand_93 : decode cX10_expand 93 = .ok (.iaload, 1) := by decide +kernel
theorem dX10_expand_94 : decode cX10_expand 94 = .ok (.sipush 248, 3) := by decide +kernel
theorem dX10_expand_97 : decode cX10_expand 97 = .ok (.iand, 1) := by decide +kernel
theorem dX10_expand_98 : decode cX10_expand 98 = .ok (.iastore, 1) := by decide +kernel
theorem dX10_expand_99 : decode cX10_expand 99 = .ok (.aload_n 0, 1) := by decide +kernel
theorem dX10_expand_100 : decode cX10_expand 100 = .ok (.getfield 26, 3) := by decide +kernel
theorem dX10_expand_103 : decode cX10_expand 103 = .ok (.bipush 31, 2) := by decide +kernel
theorem dX10_expand_105 : decode cX10_expand 105 = .ok (.aload_n 0, 1) := by decide +kernel
theorem dX10_expand_106 : decode cX10_expand 106 = .ok (.getfield 26, 3) := by decide +kernel
theorem dX10_expand_109 : decode cX10_expand 109 = .ok (.bipush 31, 2) := by decide +kernel
theorem dX10_expand_111 : decode cX10_expand 111 = .ok (.iaload, 1) := by decide +kernel
theorem dX10_expand_112 : decode cX10_expand 112 = .ok (.bipush 127, 2) := by decide +kernel
theorem dX10_expand_114 : decode cX10_expand 114 = .ok (.iand, 1) := by decide +kernel
theorem dX10_expand_115 : decode cX10_expand 115 = .ok (.bipush 64, 2) := by decide +kernel
theorem dX10_expand_117 : decode cX10_expand 117 = .ok (.ior, 1) := by decide +kernel
theorem dX10_expand_118 : decode cX10_expand 118 = .ok (.iastore, 1) := by decide +kernel
theorem dX10_expand_119 : decode cX10_expand 119 = .ok (.return_, 1) := by decide +kernel
theorem dX10_hashNonce_0 : decode cX10_hashNonce 0 = .ok (.aload_n 0, 1) := by decide +kernel
theorem dX10_hashNonce_1 : decode cX10_hashNonce 1 = .ok (.getfield 23, 3) := by decide +kernel
theorem dX10_hashNonce_4 : decode cX10_hashNonce 4 = .ok (.iconst 0, 1) := by decide +kernel
theorem dX10_hashNonce_5 : decode cX10_hashNonce 5 = .ok (.putfield 95, 3) := by decide +kernel
theorem dX10_hashNonce_8 : decode cX10_hashNonce 8 = .ok (.aload_n 0, 1) := by decide +kernel
theorem dX10_hashNonce_9 : decode cX10_hashNonce 9 = .ok (.getfield 23, 3) := by decide +kernel
theorem dX10_hashNonce_12 : decode cX10_hashNonce 12 = .ok (.aload_n 0, 1) := by decide +kernel
theorem dX10_hashNonce_13 : decode cX10_hashNonce 13 = .ok (.getfield 16, 3) := by decide +kernel
theorem dX10_hashNonce_16 : decode cX10_hashNonce 16 = .ok (.getfield 109, 3) := by decide +kernel
theorem dX10_hashNonce_19 : decode cX10_hashNonce 19 = .ok (.iconst 0, 1) := by decide +kernel
theorem dX10_hashNonce_20 : decode cX10_hashNonce 20 = .ok (.aload_n 0, 1) := by decide +kernel
theorem dX10_hashNonce_21 : decode cX10_hashNonce 21 = .ok (.getfield 16, 3) := by decide +kernel
theorem dX10_hashNonce_24 : decode cX10_hashNonce 24 = .ok (.getfield 95, 3) := by decide +kernel
theorem dX10_hashNonce_27 : decode cX10_hashNonce 27 = .ok (.invokevirtual 112, 3) := by decide +kernel
theorem dX10_hashNonce_30 : decode cX10_hashNonce 30 = .ok (.aload_n 0, 1) := by decide +kernel
theorem dX10_hashNonce_31 : decode cX10_hashNonce 31 = .ok (.getfield 23, 3) := by decide +kernel
theorem dX10_hashNonce_34 : decode cX10_hashNonce 34 = .ok (.aload_n 0, 1) := by decide +kernel
theorem dX10_hashNonce_35 : decode cX10_hashNonce 35 = .ok (.getfield 26, 3) := by decide +kernel
theorem dX10_hashNonce_38 : decode cX10_hashNonce 38 = .ok (.aload_n 0, 1) := by decide +kernel
theorem dX10_hashNonce_39 : decode cX10_hashNonce 39 = .ok (.getfield 85, 3) := by decide +kernel
theorem dX10_hashNonce_42 : decode cX10_hashNonce 42 = .ok (.aload_n 0, 1) := by decide +kernel
theorem dX10_hashNonce_43 : decode cX10_hashNonce 43 = .ok (.getfield 85, 3) := by decide +kernel
theorem dX10_hashNonce_46 : decode cX10_hashNonce 46 = .ok (.invokevirtual 112, 3) := by decide +kernel
theorem dX10_hashNonce_49 : decode cX10_hashNonce 49 = .ok (.aload_n 0, 1) := by decide +kernel
theorem dX10_hashNonce_50 : decode cX10_hashNonce 50 = .ok (.getfield 23, 3) := by decide +kernel
theorem dX10_hashNonce_53 : decode cX10_hashNonce 53 = .ok (.aload_n 0, 1) := by decide +kernel
theorem dX10_hashNonce_54 : decode cX10_hashNonce 54 = .ok (.getfield 20, 3) := by decide +kernel
theorem dX10_hashNonce_57 : decode cX10_hashNonce 57 = .ok (.getfield 109, 3) := by decide +kernel
theorem dX10_hashNonce_60 : decode cX10_hashNonce 60 = .ok (.iconst 0, 1) := by decide +kernel
theorem dX10_hashNonce_61 : decode cX10_hashNonce 61 = .ok (.aload_n 0, 1) := by decide +kernel
theorem dX10_hashNonce_62 : decode cX10_hashNonce 62 = .ok (.getfield 20, 3) := by decide +kernel
theorem dX10_hashNonce_65 : decode cX10_hashNonce 65 = .ok (.getfield 95, 3) := by decide +kernel
theorem dX10_hashNonce_68 : decode cX10_hashNonce 68 = .ok (.invokevirtual 112, 3) := by decide +kernel
theorem dX10_hashNonce_71 : decode cX10_hashNonce 71 = .ok (.aload_n 0, 1) := by decide +kernel
theorem dX10_hashNonce_72 : decode cX10_hashNonce 72 = .ok (.getfield 75, 3) := by decide +kernel
theorem dX10_hashNonce_75 : decode cX10_hashNonce 75 = .ok (.aload_n 0, 1) := by decide +kernel
theorem dX10_hashNonce_76 : decode cX10_hashNonce 76 = .ok (.getfield 30, 3) := by decide +kernel
theorem dX10_hashNonce_79 : decode cX10_hashNonce 79 = .ok (.aload_n 0, 1) := by decide +kernel
theorem dX10_hashNonce_80 : decode cX10_hashNonce 80 = .ok (.getfield 23, 3) := by decide +kernel
theorem dX10_hashNonce_83 : decode cX10_hashNonce 83 = .ok (.iconst 2, 1) := by decide +kernel
theorem dX10_hashNonce_84 : decode cX10_hashNonce 84 = .ok (.aload_n 0, 1) := by decide +kernel
theorem dX10_hashNonce_85 : decode cX10_hashNonce 85 = .ok (.getfield 85, 3) := by decide +kernel
theorem dX10_hashNonce_88 : decode cX10_hashNonce 88 = .ok (.imul, 1) := by decide +kernel
theorem dX10_hashNonce_89 : decode cX10_hashNonce 89 = .ok (.invokeinterface 116 4, 5) := by decide +kernel
theorem dX10_hashNonce_94 : decode cX10_hashNonce 94 = .ok (.return_, 1) := by decide +kernel
theorem dX10_hashChallenge_0 : decode cX10_hashChallenge 0 = .ok (.aload_n 0, 1) := by decide +kernel
theorem dX10_hashChallenge_1 : decode cX10_hashChallenge 1 = .ok (.getfield 23, 3) := by decide +kernel
theorem dX10_hashChallenge_4 : decode cX10_hashChallenge 4 = .ok (.iconst 0, 1) := by decide +kernel
theorem dX10_hashChallenge_5 : decode cX10_hashChallenge 5 = .ok (.putfield 95, 3) := by decide +kernel
theorem dX10_hashChallenge_8 : decode cX10_hashChallenge 8 = .ok (.aload_n 0, 1) := by decide +kernel
theorem dX10_hashChallenge_9 : decode cX10_hashChallenge 9 = .ok (.getfield 23, 3) := by decide +kernel
theorem dX10_hashChallenge_12 : decode cX10_hashChallenge 12 = .ok (.aload_n 0, 1) := by decide +kernel
theorem dX10_hashChallenge_13 : decode cX10_hashChallenge 13 = .ok (.getfield 16, 3) := by decide +kernel
theorem dX10_hashChallenge_16 : decode cX10_hashChallenge 16 = .ok (.getfield 109, 3) := by decide +kernel
theorem dX10_hashChallenge_19 : decode cX10_hashChallenge 19 = .ok (.iconst 0, 1) := by decide +kernel
theorem dX10_hashChallenge_20 : decode cX10_hashChallenge 20 = .ok (.aload_n 0, 1) := by decide +kernel
theorem dX10_hashChallenge_21 : decode cX10_hashChallenge 21 = .ok (.getfield 16, 3) := by decide +kernel
theorem dX10_hashChallenge_24 : decode cX10_hashChallenge 24 = .ok (.getfield 95, 3) := by decide +kernel
theorem dX10_hashChallenge_27 : decode cX10_hashChallenge 27 = .ok (.invokevirtual 112, 3) := by decide +kernel
theorem dX10_hashChallenge_30 : decode cX10_hashChallenge 30 = .ok (.aload_n 0, 1) := by decide +kernel
theorem dX10_hashChallenge_31 : decode cX10_hashChallenge 31 = .ok (.getfield 23, 3) := by decide +kernel
theorem dX10_hashChallenge_34 : decode cX10_hashChallenge 34 = .ok (.aload_n 1, 1) := by decide +kernel
theorem dX10_hashChallenge_35 : decode cX10_hashChallenge 35 = .ok (.iconst 0, 1) := by decide +kernel
theorem dX10_hashChallenge_36 : decode cX10_hashChallenge 36 = .ok (.aload_n 0, 1) := by decide +kernel
theorem dX10_hashChallenge_37 : decode cX10_hashChallenge 37 = .ok (.getfield 85, 3) := by decide +kernel
theorem dX10_hashChallenge_40 : decode cX10_hashChallenge 40 = .ok (.invokevirtual 112, 3) := by decide +kernel
theorem dX10_hashChallenge_43 : decode cX10_hashChallenge 43 = .ok (.aload_n 0, 1) := by decide +kernel
theorem dX10_hashChallenge_44 : decode cX10_hashChallenge 44 = .ok (.getfield 23, 3) := by decide +kernel
theorem dX10_hashChallenge_47 : decode cX10_hashChallenge 47 = .ok (.aload_n 2, 1) := by decide +kernel
theorem dX10_hashChallenge_48 : decode cX10_hashChallenge 48 = .ok (.iconst 0, 1) := by decide +kernel
theorem dX10_hashChallenge_49 : decode cX10_hashChallenge 49 = .ok (.aload_n 0, 1) := by decide +kernel
theorem dX10_hashChallenge_50 : decode cX10_hashChallenge 50 = .ok (.getfield 85, 3) := by decide +kernel
theorem dX10_hashChallenge_53 : decode cX10_hashChallenge 53 = .ok (.invokevirtual 112, 3) := by decide +kernel
theorem dX10_hashChallenge_56 : decode cX10_hashChallenge 56 = .ok (.aload_n 0, 1) := by decide +kernel
theorem dX10_hashChallenge_57 : decode cX10_hashChallenge 57 = .ok (.getfield 23, 3) := by decide +kernel
theorem dX10_hashChallenge_60 : decode cX10_hashChallenge 60 = .ok (.aload_n 0, 1) := by decide +kernel
theorem dX10_hashChallenge_61 : decode cX10_hashChallenge 61 = .ok (.getfield 20, 3) := by decide +kernel
theorem dX10_hashChallenge_64 : decode cX10_hashChallenge 64 = .ok (.getfield 109, 3) := by decide +kernel
theorem dX10_hashChallenge_67 : decode cX10_hashChallenge 67 = .ok (.iconst 0, 1) := by decide +kernel
theorem dX10_hashChallenge_68 : decode cX10_hashChallenge 68 = .ok (.aload_n 0, 1) := by decide +kernel
theorem dX10_hashChallenge_69 : decode cX10_hashChallenge 69 = .ok (.getfield 20, 3) := by decide +kernel
theorem dX10_hashChallenge_72 : decode cX10_hashChallenge 72 = .ok (.getfield 95, 3) := by decide +kernel
theorem dX10_hashChallenge_75 : decode cX10_hashChallenge 75 = .ok (.invokevirtual 112, 3) := by decide +kernel
theorem dX10_hashChallenge_78 : decode cX10_hashChallenge 78 = .ok (.aload_n 0, 1) := by decide +kernel
theorem dX10_hashChallenge_79 : decode cX10_hashChallenge 79 = .ok (.getfield 75, 3) := by decide +kernel
theorem dX10_hashChallenge_82 : decode cX10_hashChallenge 82 = .ok (.aload_n 0, 1) := by decide +kernel
theorem dX10_hashChallenge_83 : decode cX10_hashChallenge 83 = .ok (.getfield 30, 3) := by decide +kernel
theorem dX10_hashChallenge_86 : decode cX10_hashChallenge 86 = .ok (.aload_n 0, 1) := by decide +kernel
theorem dX10_hashChallenge_87 : decode cX10_hashChallenge 87 = .ok (.getfield 23, 3) := by decide +kernel
theorem dX10_hashChallenge_90 : decode cX10_hashChallenge 90 = .ok (.iconst 2, 1) := by decide +kernel
theorem dX10_hashChallenge_91 : decode cX10_hashChallenge 91 = .ok (.aload_n 0, 1) := by decide +kernel
theorem dX10_hashChallenge_92 : decode cX10_hashChallenge 92 = .ok (.getfield 85, 3) := by decide +kernel
theorem dX10_hashChallenge_95 : decode cX10_hashChallenge 95 = .ok (.imul, 1) := by decide +kernel
theorem dX10_hashChallenge_96 : decode cX10_hashChallenge 96 = .ok (.invokeinterface 116 4, 5) := by decide +kernel
theorem dX10_hashChallenge_101 : decode cX10_hashChallenge 101 = .ok (.return_, 1) := by decide +kernel
theorem dX11_init_0 : decode cX11_init 0 = .ok (.aload_n 0, 1) := by decide +kernel
theorem dX11_init_1 : decode cX11_init 1 = .ok (.invokespecial 1, 3) := by decide +kernel
theorem dX11_init_4 : decode cX11_init 4 = .ok (.aload_n 0, 1) := by decide +kernel
theorem dX11_init_5 : decode cX11_init 5 = .ok (.iconst 4, 1) := by decide +kernel
theorem dX11_init_6 : decode cX11_init 6 = .ok (.anewarray 9, 3) := by decide +kernel
theorem dX11_init_9 : decode cX11_init 9 = .ok (.putfield 11, 3) := by decide +kernel
theorem dX11_init_12 : decode cX11_init 12 = .ok (.aload_n 0, 1) := by decide +kernel
theorem dX11_init_13 : decode cX11_init 13 = .ok (.new 9, 3) := by decide +kernel
theorem dX11_init_16 : decode cX11_init 16 = .ok (.dup, 1) := by decide +kernel
theorem dX11_init_17 : decode cX11_init 17 = .ok (.sipush 256, 3) := by decide +kernel
theorem dX11_init_20 : decode cX11_init 20 = .ok (.invokespecial 15, 3) := by decide +kernel
theorem dX11_init_23 : decode cX11_init 23 = .ok (.putfield 18, 3) := by decide +kernel
theorem dX11_init_26 : decode cX11_init 26 = .ok (.aload_n 0, 1) := by decide +kernel
theorem dX11_init_27 : decode cX11_init 27 = .ok (.new 9, 3) := by decide +kernel
theorem dX11_init_30 : decode cX11_init 30 = .ok (.dup, 1) := by decide +kernel
theorem dX11_init_31 : decode cX11_init 31 = .ok (.bipush 64, 2) := by decide +kernel
theorem dX11_init_33 : decode cX11_init 33 = .ok (.invokespecial 15, 3) := by decide +kernel
theorem dX11_init_36 : decode cX11_init 36 = .ok (.putfield 22, 3) := by decide +kernel
theorem dX11_init_39 : decode cX11_init 39 = .ok (.aload_n 0, 1) := by decide +kernel
theorem dX11_init_40 : decode cX11_init 40 = .ok (.iconst 2, 1) := by decide +kernel
theorem dX11_init_41 : decode cX11_init 41 = .ok (.anewarray 25, 3) := by decide +kernel
theorem dX11_init_44 : decode cX11_init 44 = .ok (.putfield 27, 3) := by decide +kernel
theorem dX11_init_47 : decode cX11_init 47 = .ok (.aload_n 0, 1) := by decide +kernel
theorem dX11_init_48 : decode cX11_init 48 = .ok (.iconst 2, 1) := by decide +kernel
theorem dX11_init_49 : decode cX11_init 49 = .ok (.anewarray 31, 3) := by decide +kernel
theorem dX11_init_52 : decode cX11_init 52 = .ok (.putfield 33, 3) := by decide +kernel
theorem dX11_init_55 : decode cX11_init 55 = .ok (.aload_n 0, 1) := by decide +kernel
theorem dX11_init_56 : decode cX11_init 56 = .ok (.iconst 2, 1) := by decide +kernel
theorem dX11_init_57 : decode cX11_init 57 = .ok (.anewarray 37, 3) := by decide +kernel
theorem dX11_init_60 : decode cX11_init 60 = .ok (.putfield 39, 3) := by decide +kernel
theorem dX11_init_63 : decode cX11_init 63 = .ok (.aload_n 0, 1) := by decide +kernel
theorem dX11_init_64 : decode cX11_init 64 = .ok (.iconst 3, 1) := by decide +kernel
theorem dX11_init_65 : decode cX11_init 65 = .ok (.anewarray 43, 3) := by decide +kernel
theorem dX11_init_68 : decode cX11_init 68 = .ok (.putfield 45, 3) := by decide +kernel
theorem dX11_init_71 : decode cX11_init 71 = .ok (.aload_n 0, 1) := by decide +kernel
theorem dX11_init_72 : decode cX11_init 72 = .ok (.iconst 3, 1) := by decide +kernel
theorem dX11_init_73 : decode cX11_init 73 = .ok (.newarray .int, 2) := by decide +kernel
theorem dX11_init_75 : decode cX11_init 75 = .ok (.putfield 49, 3) := by decide +kernel
theorem dX11_init_78 : decode cX11_init 78 = .ok (.aload_n 0, 1) := by decide +kernel
theorem dX11_init_79 : decode cX11_init 79 = .ok (.new 43, 3) := by decide +kernel
theorem dX11_init_82 : decode cX11_init 82 = .ok (.dup, 1) := by decide +kernel
theorem dX11_init_83 : decode cX11_init 83 = .ok (.invokespecial 53, 3) := by decide +kernel
theorem dX11_init_86 : decode cX11_init 86 = .ok (.putfield 54, 3) := by decide +kernel
theorem dX11_init_89 : decode cX11_init 89 = .ok (.aload_n 0, 1) := by decide +kernel
theorem dX11_init_90 : decode cX11_init 90 = .ok (.getfield 11, 3) := by decide +kernel
theorem dX11_init_93 : decode cX11_init 93 = .ok (.iconst 0, 1) := by decide +kernel
theorem dX11_init_94 : decode cX11_init 94 = .ok (.new 9, 3) := by decide +kernel
theorem dX11_init_97 : decode cX11_init 97 = .ok (.dup, 1) := by decide +kernel
theorem dX11_init_98 : decode cX11_init 98 = .ok (.bipush 57, 2) := by decide +kernel
theorem dX11_init_100 : decode cX11_init 100 = .ok (.invokespecial 15, 3) := by decide +kernel
theorem dX11_init_103 : decode cX11_init 103 = .ok (.aastore, 1) := by decide +kernel
theorem dX11_init_104 : decode cX11_init 104 = .ok (.aload_n 0, 1) := by decide +kernel
theorem dX11_init_105 : decode cX11_init 105 = .ok (.getfield 11, 3) := by decide +kernel
theorem dX11_init_108 : decode cX11_init 108 = .ok (.iconst 1, 1) := by decide +kernel
theorem dX11_init_109 : decode cX11_init 109 = .ok (.new 9, 3) := by decide +kernel
theorem dX11_init_112 : decode cX11_init 112 = .ok (.dup, 1) := by decide +kernel
theorem dX11_init_113 : decode cX11_init 113 = .ok (.bipush 57, 2) := by decide +kernel
theorem dX11_init_115 : decode cX11_init 115 = .ok (.invokespecial 15, 3) := by decide +kernel
theorem dX11_init_118 : decode cX11_init 118 = .ok (.aastore, 1) := by decide +kernel
theorem dX11_init_119 : decode cX11_init 119 = .ok (.aload_n 0, 1) := by decide +kernel
theorem dX11_init_120 : decode cX11_init 120 = .ok (.getfield 11, 3) := by decide +kernel
theorem dX11_init_123 : decode cX11_init 123 = .ok (.iconst 2, 1) := by decide +kernel
theorem dX11_init_124 : decode cX11_init 124 = .ok (.new 9, 3) := by decide +kernel
theorem dX11_init_127 : decode cX11_init 127 = .ok (.dup, 1) := by decide +kernel
theorem dX11_init_128 : decode cX11_init 128 = .ok (.bipush 114, 2) := by decide +kernel
theorem dX11_init_130 : decode cX11_init 130 = .ok (.invokespecial 15, 3) := by decide +kernel
theorem dX11_init_133 : decode cX11_init 133 = .ok (.aastore, 1) := by decide +kernel
theorem dX11_init_134 : decode cX11_init 134 = .ok (.aload_n 0, 1) := by decide +kernel
theorem dX11_init_135 : decode cX11_init 135 = .ok (.getfield 11, 3) := by decide +kernel
theorem dX11_init_138 : decode cX11_init 138 = .ok (.iconst 3, 1) := by decide +kernel
theorem dX11_init_139 : decode cX11_init 139 = .ok (.new 9, 3) := by decide +kernel
theorem dX11_init_142 : decode cX11_init 142 = .ok (.dup, 1) := by decide +kernel
theorem dX11_init_143 : decode cX11_init 143 = .ok (.bipush 114, 2) := by decide +kernel
theorem dX11_init_145 : decode cX11_init 145 = .ok (.invokespecial 15, 3) := by decide +kernel
theorem dX11_init_148 : decode cX11_init 148 = .ok (.aastore, 1) := by decide +kernel
theorem dX11_init_149 : decode cX11_init 149 = .ok (.iconst 0, 1) := by decide +kernel
theorem dX11_init_150 : decode cX11_init 150 = .ok (.istore_n 1, 1) := by decide +kernel
theorem dX11_init_151 : decode cX11_init 151 = .ok (.iload_n 1, 1) := by decide +kernel
theorem dX11_init_152 : decode cX11_init 152 = .ok (.iconst 2, 1) := by decide +kernel
theorem dX11_init_153 : decode cX11_init 153 = .ok (.if_icmp .gt 28, 3) := by decide +kernel
theorem dX11_init_156 : decode cX11_init 156 = .ok (.aload_n 0, 1) := by decide +kernel
theorem dX11_init_157 : decode cX11_init 157 = .ok (.getfield 11, 3) := by decide +kernel
theorem dX11_init_160 : decode cX11_init 160 = .ok (.iload_n 1, 1) := by decide +kernel
theorem dX11_init_161 : decode cX11_init 161 = .ok (.aaload, 1) := by decide +kernel
theorem dX11_init_162 : decode cX11_init 162 = .ok (.aload_n 0, 1) := by decide +kernel
theorem dX11_init_163 : decode cX11_init 163 = .ok (.getfield 11, 3) := by decide +kernel
theorem dX11_init_166 : decode cX11_init 166 = .ok (.iload_n 1, 1) := by decide +kernel
theorem dX11_init_167 : decode cX11_init 167 = .ok (.aaload, 1) := by decide +kernel
theorem dX11_init_168 : decode cX11_init 168 = .ok (.getfield 58, 3) := by decide +kernel
theorem dX11_init_171 : decode cX11_init 171 = .ok (.arraylength, 1) := by decide +kernel
theorem dX11_init_172 : decode cX11_init 172 = .ok (.putfield 61, 3) := by decide +kernel
theorem dX11_init_175 : decode cX11_init 175 = .ok (.iinc 1 1, 3) := by decide +kernel
theorem dX11_init_178 : decode cX11_init 178 = .ok (.goto (-27), 3) := by decide +kernel
theorem dX11_init_181 : decode cX11_init 181 = .ok (.new 65, 3) := by decide +kernel
theorem dX11_init_184 : decode cX11_init 184 = .ok (.dup, 1) := by decide +kernel
theorem dX11_init_185 : decode cX11_init 185 = .ok (.invokespecial 67, 3) := by decide +kernel
theorem dX11_init_188 : decode cX11_init 188 = .ok (.astore_n 1, 1) := by decide +kernel
theorem dX11_init_189 : decode cX11_init 189 = .ok (.new 68, 3) := by decide +kernel
theorem dX11_init_192 : decode cX11_init 192 = .ok (.dup, 1) := by decide +kernel
theorem dX11_init_193 : decode cX11_init 193 = .ok (.invokespecial 70, 3) := by decide +kernel
theorem dX11_init_196 : decode cX11_init 196 = .ok (.astore_n 2, 1) := by decide +kernel
theorem dX11_init_197 : decode cX11_init 197 = .ok (.aload_n 0, 1) := by decide +kernel
theorem dX11_init_198 : decode cX11_init 198 = .ok (.aload_n 1, 1) := by decide +kernel
theorem dX11_init_199 : decode cX11_init 199 = .ok (.putfield 71, 3) := by decide +kernel
theorem dX11_init_202 : decode cX11_init 202 = .ok (.aload_n 0, 1) := by decide +kernel
theorem dX11_init_203 : decode cX11_init 203 = .ok (.aload_n 2, 1) := by decide +kernel
theorem dX11_init_204 : decode cX11_init 204 = .ok (.putfield 75, 3) := by decide +kernel
theorem dX11_init_207 : decode cX11_init 207 = .ok (.iconst 0, 1) := by decide +kernel
theorem dX11_init_208 : decode cX11_init 208 = .ok (.istore_n 3, 1) := by decide +kernel
theorem dX11_init_209 : decode cX11_init 209 = .ok (.iload_n 3, 1) := by decide +kernel
theorem dX11_init_210 : decode cX11_init 210 = .ok (.iconst 2, 1) := by decide +kernel
theorem dX11_init_211 : decode cX11_init 211 = .ok (.if_icmp .ge 97, 3) := by decide +kernel
theorem dX11_init_214 : decode cX11_init 214 = .ok (.iload_n 3, 1) := by decide +kernel
theorem dX11_init_215 : decode cX11_init 215 = .ok (.iconst 1, 1) := by decide +kernel
theorem dX11_init_216 : decode cX11_init 216 = .ok (.if_icmp .ne 7, 3) := by decide +kernel
theorem dX11_init_219 : decode cX11_init 219 = .ok (.iconst 1, 1) := by decide +kernel
theorem dX11_init_220 : decode cX11_init 220 = .ok (.goto 4, 3) := by decide +kernel
theorem dX11_init_223 : decode cX11_init 223 = .ok (.iconst 0, 1) := by decide +kernel
theorem dX11_init_224 : decode cX11_init 224 = .ok (.istore 4, 2) := by decide +kernel
theorem dX11_init_226 : decode cX11_init 226 = .ok (.new 78, 3) := by decide +kernel
theorem dX11_init_229 : decode cX11_init 229 = .ok (.dup, 1) := by decide +kernel
theorem dX11_init_230 : decode cX11_init 230 = .ok (.iload 4, 2) := by decide +kernel
theorem dX11_init_232 : decode cX11_init 232 = .ok (.invokespecial 80, 3) := by decide +kernel
theorem dX11_init_235 : decode cX11_init 235 = .ok (.astore 5, 2) := by decide +kernel
theorem dX11_init_237 : decode cX11_init 237 = .ok (.new 25, 3) := by decide +kernel
theorem dX11_init_240 : decode cX11_init 240 = .ok (.dup, 1) := by decide +kernel
theorem dX11_init_241 : decode cX11_init 241 = .ok (.iload 4, 2) := by decide +kernel
theorem dX11_init_243 : decode cX11_init 243 = .ok (.aload 5, 2) := by decide +kernel
theorem dX11_init_245 : decode cX11_init 245 = .ok (.invokespecial 83, 3) := by decide +kernel
theorem dX11_init_248 : decode cX11_init 248 = .ok (.astore 6, 2) := by decide +kernel
theorem dX11_init_250 : decode cX11_init 250 = .ok (.aload_n 0, 1) := by decide +kernel
theorem dX11_init_251 : decode cX11_init 251 = .ok (.getfield 27, 3) := by decide +kernel
theorem dX11_init_254 : decode cX11_init 254 = .ok (.iload_n 3, 1) := by decide +kernel
theorem dX11_init_255 : decode cX11_init 255 = .ok (.aload 6, 2) := by decide +kernel
theorem dX11_init_257 : decode cX11_init 257 = .ok (.aastore, 1) := by decide +kernel
theorem dX11_init_258 : decode cX11_init 258 = .ok (.aload_n 0, 1) := by decide +kernel
theorem dX11_init_259 : decode cX11_init 259 = .ok (.getfield 33, 3) := by decide +kernel
theorem dX11_init_262 : decode cX11_init 262 = .ok (.iload_n 3, 1) := by decide +kernel
theorem dX11_init_263 : decode cX11_init 263 = .ok (.new 31, 3) := by decide +kernel
theorem dX11_init_266 : decode cX11_init 266 = .ok (.dup, 1) := by decide +kernel
theorem dX11_init_267 : decode cX11_init 267 = .ok (.iload 4, 2) := by decide +kernel
theorem dX11_init_269 : decode cX11_init 269 = .ok (.aload 5, 2) := by decide +kernel
theorem dX11_init_271 : decode cX11_init 271 = .ok (.invokespecial 86, 3) := by decide +kernel
theorem dX11_init_274 : decode cX11_init 274 = .ok (.aastore, 1) := by decide +kernel
theorem dX11_init_275 : decode cX11_init 275 = .ok (.aload_n 0, 1) := by decide +kernel
theorem dX11_init_276 : decode cX11_init 276 = .ok (.getfield 39, 3) := by decide +kernel
theorem dX11_init_279 : decode cX11_init 279 = .ok (.iload_n 3, 1) := by decide +kernel
theorem dX11_init_280 : decode cX11_init 280 = .ok (.new 37, 3) := by decide +kernel
theorem dX11_init_283 : decode cX11_init 283 = .ok (.dup, 1) := by decide +kernel
theorem dX11_init_284 : decode cX11_init 284 = .ok (.iload 4, 2) := by decide +kernel
theorem dX11_init_286 : decode cX11_init 286 = .ok (.aload 6, 2) := by decide +kernel
theorem dX11_init_288 : decode cX11_init 288 = .ok (.iload 4, 2) := by decide +kernel
theorem dX11_init_290 : decode cX11_init 290 = .ok (.ifCond .eq 7, 3) := by decide +kernel
theorem dX11_init_293 : decode cX11_init 293 = .ok (.aload_n 2, 1) := by decide +kernel
theorem dX11_init_294 : decode cX11_init 294 = .ok (.goto 4, 3) := by decide +kernel
theorem dX11_init_297 : decode cX11_init 297 = .ok (.aload_n 1, 1) := by decide +kernel
theorem dX11_init_298 : decode cX11_init 298 = .ok (.invokespecial 87, 3) := by decide +kernel
theorem dX11_init_301 : decode cX11_init 301 = .ok (.aastore, 1) := by decide +kernel
theorem dX11_init_302 : decode cX11_init 302 = .ok (.iinc 3 1, 3) := by decide +kernel
theorem dX11_init_305 : decode cX11_init 305 = .ok (.goto (-96), 3) := by decide +kernel
theorem dX11_init_308 : decode cX11_init 308 = .ok (.iconst 0, 1) := by decide +kernel
theorem dX11_init_309 : decode cX11_init 309 = .ok (.istore_n 3, 1) := by decide +kernel
theorem dX11_init_310 : decode cX11_init 310 = .ok (.iload_n 3, 1) := by decide +kernel
theorem dX11_init_311 : decode cX11_init 311 = .ok (.iconst 3, 1) := by decide +kernel
theorem dX11_init_312 : decode cX11_init 312 = .ok (.if_icmp .ge 22, 3) := by decide +kernel
theorem dX11_init_315 : decode cX11_init 315 = .ok (.aload_n 0, 1) := by decide +kernel
theorem dX11_init_316 : decode cX11_init 316 = .ok (.getfield 45, 3) := by decide +kernel
theorem dX11_init_319 : decode cX11_init 319 = .ok (.iload_n 3, 1) := by decide +kernel
theorem dX11_init_320 : decode cX11_init 320 = .ok (.new 43, 3) := by decide +kernel
theorem dX11_init_323 : decode cX11_init 323 = .ok (.dup, 1) := by decide +kernel
theorem dX11_init_324 : decode cX11_init 324 = .ok (.invokespecial 53, 3) := by decide +kernel
theorem dX11_init_327 : decode cX11_init 327 = .ok (.aastore, 1) := by decide +kernel
theorem dX11_init_328 : decode cX11_init 328 = .ok (.iinc 3 1, 3) := by decide +kernel
theorem dX11_init_331 : decode cX11_init 331 = .ok (.goto (-21), 3) := by decide +kernel
theorem dX11_init_334 : decode cX11_init 334 = .ok (.return_, 1) := by decide +kernel
theorem dX11_put_0 : decode cX11_put 0 = .ok (.iload 5, 2) := by decide +kernel
theorem dX11_put_2 : decode cX11_put 2 = .ok (.invokestatic 90, 3) := by decide +kernel
theorem dX11_put_5 : decode cX11_put 5 = .ok (.iload_n 1, 1) := by decide +kernel
theorem dX11_put_6 : decode cX11_put 6 = .ok (.invokestatic 93, 3) := by decide +kernel
theorem dX11_put_9 : decode cX11_put 9 = .ok (.aload_n 0, 1) := by decide +kernel
theorem dX11_put_10 : decode cX11_put 10 = .ok (.getfield 11, 3) := by decide +kernel
theorem dX11_put_13 : decode cX11_put 13 = .ok (.iload_n 1, 1) := by decide +kernel
theorem dX11_put_14 : decode cX11_put 14 = .ok (.aaload, 1) := by decide +kernel
theorem dX11_put_15 : decode cX11_put 15 = .ok (.astore 6, 2) := by decide +kernel
theorem dX11_put_17 : decode cX11_put 17 = .ok (.iload_n 2, 1) := by decide +kernel
theorem dX11_put_18 : decode cX11_put 18 = .ok (.ifCond .lt 15, 3) := by decide +kernel
theorem dX11_put_21 : decode cX11_put 21 = .ok (.iload_n 2, 1) := by decide +kernel
theorem dX11_put_22 : decode cX11_put 22 = .ok (.aload 6, 2) := by decide +kernel
theorem dX11_put_24 : decode cX11_put 24 = .ok (.getfield 61, 3) := by decide +kernel
theorem dX11_put_27 : decode cX11_put 27 = .ok (.iload 5, 2) := by decide +kernel
theorem dX11_put_29 : decode cX11_put 29 = .ok (.isub, 1) := by decide +kernel
theorem dX11_put_30 : decode cX11_put 30 = .ok (.if_icmp .le 13, 3) := by decide +kernel
theorem dX11_put_33 : decode cX11_put 33 = .ok (.new 96, 3) := by decide +kernel
theorem dX11_put_36 : decode cX11_put 36 = .ok (.dup, 1) := by decide +kernel
theorem dX11_put_37 : decode cX11_put 37 = .ok (.ldc 98, 2) := by decide +kernel
theorem dX11_put_39 : decode cX11_put 39 = .ok (.invokespecial 100, 3) := by decide +kernel
theorem dX11_put_42 : decode cX11_put 42 = .ok (.athrow, 1) := by decide +kernel
theorem dX11_put_43 : decode cX11_put 43 = .ok (.aload 6, 2) := by decide +kernel
theorem dX11_put_45 : decode cX11_put 45 = .ok (.getfield 58, 3) := by decide +kernel
theorem dX11_put_48 : decode cX11_put 48 = .ok (.iload_n 2, 1) := by decide +kernel
theorem dX11_put_49 : decode cX11_put 49 = .ok (.lload_n 3, 1) := by decide +kernel
theorem dX11_put_50 : decode cX11_put 50 = .ok (.iload 5, 2) := by decide +kernel
theorem dX11_put_52 : decode cX11_put 52 = .ok (.invokestatic 103, 3) := by decide +kernel
theorem dX11_put_55 : decode cX11_put 55 = .ok (.return_, 1) := by decide +kernel
theorem dX11_feed_0 : decode cX11_feed 0 = .ok (.iload 4, 2) := by decide +kernel
theorem dX11_feed_2 : decode cX11_feed 2 = .ok (.invokestatic 90, 3) := by decide +kernel
theorem dX11_feed_5 : decode cX11_feed 5 = .ok (.iload_n 1, 1) := by decide +kernel
theorem dX11_feed_6 : decode cX11_feed 6 = .ok (.ifCond .eq 10, 3) := by decide +kernel
theorem dX11_feed_9 : decode cX11_feed 9 = .ok (.aload_n 0, 1) := by decide +kernel
theorem dX11_feed_10 : decode cX11_feed 10 = .ok (.getfield 22, 3) := by decide +kernel
theorem dX11_feed_13 : decode cX11_feed 13 = .ok (.goto 7, 3) := by decide +kernel
theorem dX11_feed_16 : decode cX11_feed 16 = .ok (.aload_n 0, 1) := by decide +kernel
theorem dX11_feed_17 : decode cX11_feed 17 = .ok (.getfield 18, 3) := by decide +kernel
theorem dX11_feed_20 : decode cX11_feed 20 = .ok (.astore 5, 2) := by decide +kernel
theorem dX11_feed_22 : decode cX11_feed 22 = .ok (.aload 5, 2) := by decide +kernel
theorem dX11_feed_24 : decode cX11_feed 24 = .ok (.getfield 61, 3) := by decide +kernel
theorem dX11_feed_27 : decode cX11_feed 27 = .ok (.aload 5, 2) := by decide +kernel
theorem dX11_feed_29 : decode cX11_feed 29 = .ok (.getfield 58, 3) := by decide +kernel
theorem dX11_feed_32 : decode cX11_feed 32 = .ok (.arraylength, 1) := by decide +kernel
theorem dX11_feed_33 : decode cX11_feed 33 = .ok (.iload 4, 2) := by decide +kernel
theorem dX11_feed_35 : decode cX11_feed 35 = .ok (.isub, 1) := by decide +kernel
theorem dX11_feed_36 : decode cX11_feed 36 = .ok (.if_icmp .le 13, 3) := by decide +kernel
theorem dX11_feed_39 : decode cX11_feed 39 = .ok (.new 107, 3) := by decide +kernel
theorem dX11_feed_42 : decode cX11_feed 42 = .ok (.dup, 1) := by decide +kernel
theorem dX11_feed_43 : decode cX11_feed 43 = .ok (.ldc 109, 2) := by decide +kernel
theorem dX11_feed_45 : decode cX11_feed 45 = .ok (.invokespecial 111, 3) := by decide +kernel
theorem dX11_feed_48 : decode cX11_feed 48 = .ok (.athrow, 1) := by decide +kernel
theorem dX11_feed_49 : decode cX11_feed 49 = .ok (.aload 5, 2) := by decide +kernel
theorem dX11_feed_51 : decode cX11_feed 51 = .ok (.getfield 58, 3) := by decide +kernel
theorem dX11_feed_54 : decode cX11_feed 54 = .ok (.aload 5, 2) := by decide +kernel
theorem dX11_feed_56 : decode cX11_feed 56 = .ok (.getfield 61, 3) := by decide +kernel
theorem dX11_feed_59 : decode cX11_feed 59 = .ok (.lload_n 2, 1) := by decide +kernel
theorem dX11_feed_60 : decode cX11_feed 60 = .ok (.iload 4, 2) := by decide +kernel
theorem dX11_feed_62 : decode cX11_feed 62 = .ok (.invokestatic 103, 3) := by decide +kernel
theorem dX11_feed_65 : decode cX11_feed 65 = .ok (.aload 5, 2) := by decide +kernel
theorem dX11_feed_67 : decode cX11_feed 67 = .ok (.dup, 1) := by decide +kernel
theorem dX11_feed_68 : decode cX11_feed 68 = .ok (.getfield 61, 3) := by decide +kernel
theorem dX11_feed_71 : decode cX11_feed 71 = .ok (.iload 4, 2) := by decide +kernel
theorem dX11_feed_73 : decode cX11_feed 73 = .ok (.iadd, 1) := by decide +kernel
theorem dX11_feed_74 : decode cX11_feed 74 = .ok (.putfield 61, 3) := by decide +kernel
theorem dX11_feed_77 : decode cX11_feed 77 = .ok (.aload 5, 2) := by decide +kernel
theorem dX11_feed_79 : decode cX11_feed 79 = .ok (.getfield 61, 3) := by decide +kernel
theorem dX11_feed_82 : decode cX11_feed 82 = .ok (.ireturn, 1) := by decide +kernel
theorem dX11_clear_0 : decode cX11_clear 0 = .ok (.iload_n 1, 1) := by decide +kernel
theorem dX11_clear_1 : decode cX11_clear 1 = .ok (.ifCond .eq 10, 3) := by decide +kernel
theorem dX11_clear_4 : decode cX11_clear 4 = .ok (.aload_n 0, 1) := by decide +kernel
theorem dX11_clear_5 : decode cX11_clear 5 = .ok (.getfield 22, 3) := by decide +kernel
theorem dX11_clear_8 : decode cX11_clear 8 = .ok (.goto 7, 3) := by decide +kernel
theorem dX11_clear_11 : decode cX11_clear 11 = .ok (.aload_n 0, 1) := by decide +kernel
theorem dX11_clear_12 : decode cX11_clear 12 = .ok (.getfield 18, 3) := by decide +kernel
theorem dX11_clear_15 : decode cX11_clear 15 = .ok (.astore_n 2, 1) := by decide +kernel
theorem dX11_clear_16 : decode cX11_clear 16 = .ok (.aload_n 2, 1) := by decide +kernel
theorem dX11_clear_17 : decode cX11_clear 17 = .ok (.iconst 0, 1) := by decide +kernel
theorem dX11_clear_18 : decode cX11_clear 18 = .ok (.putfield 61, 3) := by decide +kernel
theorem dX11_clear_21 : decode cX11_clear 21 = .ok (.return_, 1) := by decide +kernel
theorem dX11_move_0 : decode cX11_move 0 = .ok (.iload_n 1, 1) := by decide +kernel
theorem dX11_move_1 : decode cX11_move 1 = .ok (.invokestatic 93, 3) := by decide +kernel
theorem dX11_move_4 : decode cX11_move 4 = .ok (.aload_n 0, 1) := by decide +kernel
theorem dX11_move_5 : decode cX11_move 5 = .ok (.getfield 11, 3) := by decide +kernel
theorem dX11_move_8 : decode cX11_move 8 = .ok (.iconst 3, 1) := by decide +kernel
theorem dX11_move_9 : decode cX11_move 9 = .ok (.aaload, 1) := by decide +kernel
theorem dX11_move_10 : decode cX11_move 10 = .ok (.astore_n 2, 1) := by decide +kernel
theorem dX11_move_11 : decode cX11_move 11 = .ok (.aload_n 0, 1) := by decide +kernel
theorem dX11_move_12 : decode cX11_move 12 = .ok (.getfield 11, 3) := by decide +kernel
theorem dX11_move_15 : decode cX11_move 15 = .ok (.iload_n 1, 1) := by decide +kernel
theorem dX11_move_16 : decode cX11_move 16 = .ok (.aaload, 1) := by decide +kernel
theorem dX11_move_17 : decode cX11_move 17 = .ok (.astore_n 3, 1) := by decide +kernel
theorem dX11_move_18 : decode cX11_move 18 = .ok (.aload_n 2, 1) := by decide +kernel
theorem dX11_move_19 : decode cX11_move 19 = .ok (.getfield 61, 3) := by decide +kernel
theorem dX11_move_22 : decode cX11_move 22 = .ok (.aload_n 3, 1) := by decide +kernel
theorem dX11_move_23 : decode cX11_move 23 = .ok (.getfield 61, 3) := by decide +kernel
theorem dX11_move_26 : decode cX11_move 26 = .ok (.invokestatic 112, 3) := by decide +kernel
theorem dX11_move_29 : decode cX11_move 29 = .ok (.istore 4, 2) := by decide +kernel
theorem dX11_move_31 : decode cX11_move 31 = .ok (.aload_n 2, 1) := by decide +kernel
theorem dX11_move_32 : decode cX11_move 32 = .ok (.getfield 58, 3) := by decide +kernel
theorem dX11_move_35 : decode cX11_move 35 = .ok (.iconst 0, 1) := by decide +kernel
theorem dX11_move_36 : decode cX11_move 36 = .ok (.aload_n 3, 1) := by decide +kernel
theorem dX11_move_37 : decode cX11_move 37 = .ok (.getfield 58, 3) := by decide +kernel
theorem dX11_move_40 : decode cX11_move 40 = .ok (.iconst 0, 1) := by decide +kernel
theorem dX11_move_41 : decode cX11_move 41 = .ok (.iload 4, 2) := by decide +kernel
theorem dX11_move_43 : decode cX11_move 43 = .ok (.invokestatic 118, 3) := by decide +kernel
theorem dX11_move_46 : decode cX11_move 46 = .ok (.iload 4, 2) := by decide +kernel
theorem dX11_move_48 : decode cX11_move 48 = .ok (.ireturn, 1) := by decide +kernel
theorem dX11_look_0 : decode cX11_look 0 = .ok (.iload_n 1, 1) := by decide +kernel
theorem dX11_look_1 : decode cX11_look 1 = .ok (.ifCond .lt 8, 3) := by decide +kernel
theorem dX11_look_4 : decode cX11_look 4 = .ok (.iload_n 1, 1) := by decide +kernel
theorem dX11_look_5 : decode cX11_look 5 = .ok (.iconst 3, 1) := by decide +kernel
theorem dX11_look_6 : decode cX11_look 6 = .ok (.if_icmp .le 13, 3) := by decide +kernel
theorem dX11_look_9 : decode cX11_look 9 = .ok (.new 124, 3) := by decide +kernel
theorem dX11_look_12 : decode cX11_look 12 = .ok (.dup, 1) := by decide +kernel
theorem dX11_look_13 : decode cX11_look 13 = .ok (.ldc 126, 2) := by decide +kernel
theorem dX11_look_15 : decode cX11_look 15 = .ok (.invokespecial 128, 3) := by decide +kernel
theorem dX11_look_18 : decode cX11_look 18 = .ok (.athrow, 1) := by decide +kernel
theorem dX11_look_19 : decode cX11_look 19 = .ok (.aload_n 0, 1) := by decide +kernel
theorem dX11_look_20 : decode cX11_look 20 = .ok (.getfield 11, 3) := by decide +kernel
theorem dX11_look_23 : decode cX11_look 23 = .ok (.iload_n 1, 1) := by decide +kernel
theorem dX11_look_24 : decode cX11_look 24 = .ok (.aaload, 1) := by decide +kernel
theorem dX11_look_25 : decode cX11_look 25 = .ok (.astore_n 3, 1) := by decide +kernel
theorem dX11_look_26 : decode cX11_look 26 = .ok (.iload_n 2, 1) := by decide +kernel
theorem dX11_look_27 : decode cX11_look 27 = .ok (.ifCond .lt 11, 3) := by decide +kernel
theorem dX11_look_30 : decode cX11_look 30 = .ok (.iload_n 2, 1) := by decide +kernel
theorem dX11_look_31 : decode cX11_look 31 = .ok (.aload_n 3, 1) := by decide +kernel
theorem dX11_look_32 : decode cX11_look 32 = .ok (.getfield 61, 3) := by decide +kernel
theorem dX11_look_35 : decode cX11_look 35 = .ok (.if_icmp .lt 13, 3) := by decide +kernel
theorem dX11_look_38 : decode cX11_look 38 = .ok (.new 96, 3) := by decide +kernel
theorem dX11_look_41 : decode cX11_look 41 = .ok (.dup, 1) := by decide +kernel
theorem dX11_look_42 : decode cX11_look 42 = .ok (.ldc 129, 2) := by decide +kernel
theorem dX11_look_44 : decode cX11_look 44 = .ok (.invokespecial 100, 3) := by decide +kernel
theorem dX11_look_47 : decode cX11_look 47 = .ok (.athrow, 1) := by decide +kernel
theorem dX11_look_48 : decode cX11_look 48 = .ok (.aload_n 3, 1) := by decide +kernel
theorem dX11_look_49 : decode cX11_look 49 = .ok (.getfield 58, 3) := by decide +kernel
theorem dX11_look_52 : decode cX11_look 52 = .ok (.iload_n 2, 1) := by decide +kernel
theorem dX11_look_53 : decode cX11_look 53 = .ok (.iaload, 1) := by decide +kernel
theorem dX11_look_54 : decode cX11_look 54 = .ok (.ireturn, 1) := by decide +kernel
theorem dX11_size_0 : decode cX11_size 0 = .ok (.aload_n 0, 1) := by decide +kernel
theorem dX11_size_1 : decode cX11_size 1 = .ok (.getfield 11, 3) := by decide +kernel
theorem dX11_size_4 : decode cX11_size 4 = .ok (.iconst 3, 1) := by decide +kernel
theorem dX11_size_5 : decode cX11_size 5 = .ok (.aaload, 1) := by decide +kernel
theorem dX11_size_6 : decode cX11_size 6 = .ok (.getfield 61, 3) := by decide +kernel
theorem dX11_size_9 : decode cX11_size 9 = .ok (.ireturn, 1) := by decide +kernel
theorem dX11_hash_0 : decode cX11_hash 0 = .ok (.iload_n 1, 1) := by decide +kernel
theorem dX11_hash_1 : decode cX11_hash 1 = .ok (.ifCond .eq 23, 3) := by decide +kernel
theorem dX11_hash_4 : decode cX11_hash 4 = .ok (.iload_n 2, 1) := by decide +kernel
theorem dX11_hash_5 : decode cX11_hash 5 = .ok (.ifCond .lt 9, 3) := by decide +kernel
theorem dX11_hash_8 : decode cX11_hash 8 = .ok (.iload_n 2, 1) := by decide +kernel
theorem dX11_hash_9 : decode cX11_hash 9 = .ok (.bipush 114, 2) := by decide +kernel
theorem dX11_hash_11 : decode cX11_hash 11 = .ok (.if_icmp .le 13, 3) := by decide +kernel
theorem dX11_hash_14 : decode cX11_hash 14 = .ok (.new 124, 3) := by decide +kernel
theorem dX11_hash_17 : decode cX11_hash 17 = .ok (.dup, 1) := by decide +kernel
theorem dX11_hash_18 : decode cX11_hash 18 = .ok (.ldc 131, 2) := by decide +kernel
theorem dX11_hash_20 : decode cX11_hash 20 = .ok (.invokespecial 128, 3) := by decide +kernel
theorem dX11_hash_23 : decode cX11_hash 23 = .ok (.athrow, 1) := by decide +kernel
theorem dX11_hash_24 : decode cX11_hash 24 = .ok (.aload_n 0, 1) := by decide +kernel
theorem dX11_hash_25 : decode cX11_hash 25 = .ok (.getfield 11, 3) := by decide +kernel
theorem dX11_hash_28 : decode cX11_hash 28 = .ok (.iconst 3, 1) := by decide +kernel
theorem dX11_hash_29 : decode cX11_hash 29 = .ok (.aaload, 1) := by decide +kernel
theorem dX11_hash_30 : decode cX11_hash 30 = .ok (.astore_n 3, 1) := by decide +kernel
theorem dX11_hash_31 : decode cX11_hash 31 = .ok (.aload_n 3, 1) := by decide +kernel
theorem dX11_hash_32 : decode cX11_hash 32 = .ok (.iload_n 1, 1) := by decide +kernel
theorem dX11_hash_33 : decode cX11_hash 33 = .ok (.ifCond .eq 7, 3) := by decide +kernel
theorem dX11_hash_36 : decode cX11_hash 36 = .ok (.iload_n 2, 1) := by decide +kernel
theorem dX11_hash_37 : decode cX11_hash 37 = .ok (.goto 5, 3) := by decide +kernel
theorem dX11_hash_40 : decode cX11_hash 40 = .ok (.bipush 64, 2) := by decide +kernel
theorem dX11_hash_42 : decode cX11_hash 42 = .ok (.putfield 61, 3) := by decide +kernel
theorem dX11_hash_45 : decode cX11_hash 45 = .ok (.iload_n 1, 1) := by decide +kernel
theorem dX11_hash_46 : decode cX11_hash 46 = .ok (.ifCond .eq 10, 3) := by decide +kernel
theorem dX11_hash_49 : decode cX11_hash 49 = .ok (.aload_n 0, 1) := by decide +kernel
theorem dX11_hash_50 : decode cX11_hash 50 = .ok (.getfield 75, 3) := by decide +kernel
theorem dX11_hash_53 : decode cX11_hash 53 = .ok (.goto 7, 3) := by decide +kernel
theorem dX11_hash_56 : decode cX11_hash 56 = .ok (.aload_n 0, 1) := by decide +kernel
theorem dX11_hash_57 : decode cX11_hash 57 = .ok (.getfield 71, 3) := by decide +kernel
theorem dX11_hash_60 : decode cX11_hash 60 = .ok (.astore 4, 2) := by decide +kernel
theorem dX11_hash_62 : decode cX11_hash 62 = .ok (.aload 4, 2) := by decide +kernel
theorem dX11_hash_64 : decode cX11_hash 64 = .ok (.aload_n 3, 1) := by decide +kernel
theorem dX11_hash_65 : decode cX11_hash 65 = .ok (.getfield 58, 3) := by decide +kernel
theorem dX11_hash_68 : decode cX11_hash 68 = .ok (.aload_n 0, 1) := by decide +kernel
theorem dX11_hash_69 : decode cX11_hash 69 = .ok (.getfield 18, 3) := by decide +kernel
theorem dX11_hash_72 : decode cX11_hash 72 = .ok (.aload_n 3, 1) := by decide +kernel
theorem dX11_hash_73 : decode cX11_hash 73 = .ok (.getfield 61, 3) := by decide +kernel
theorem dX11_hash_76 : decode cX11_hash 76 = .ok (.invokeinterface 133 4, 5) := by decide +kernel
theorem dX11_hash_81 : decode cX11_hash 81 = .ok (.return_, 1) := by decide +kernel
theorem dX11_agree_0 : decode cX11_agree 0 = .ok (.iload_n 1, 1) := by decide +kernel
theorem dX11_agree_1 : decode cX11_agree 1 = .ok (.invokestatic 139, 3) := by decide +kernel
theorem dX11_agree_4 : decode cX11_agree 4 = .ok (.aload_n 0, 1) := by decide +kernel
theorem dX11_agree_5 : decode cX11_agree 5 = .ok (.getfield 33, 3) := by decide +kernel
theorem dX11_agree_8 : decode cX11_agree 8 = .ok (.iload_n 1, 1) := by decide +kernel
theorem dX11_agree_9 : decode cX11_agree 9 = .ok (.aaload, 1) := by decide +kernel
theorem dX11_agree_10 : decode cX11_agree 10 = .ok (.astore_n 3, 1) := by decide +kernel
theorem dX11_agree_11 : decode cX11_agree 11 = .ok (.iload_n 2, 1) := by decide +kernel
theorem dX11_agree_12 : decode cX11_agree 12 = .ok (.ifCond .eq 10, 3) := by decide +kernel
theorem dX11_agree_15 : decode cX11_agree 15 = .ok (.aload_n 3, 1) := by decide +kernel
theorem dX11_agree_16 : decode cX11_agree 16 = .ok (.invokevirtual 142, 3) := by decide +kernel
theorem dX11_agree_19 : decode cX11_agree 19 = .ok (.goto 16, 3) := by decide +kernel
theorem dX11_agree_22 : decode cX11_agree 22 = .ok (.aload_n 3, 1) := by decide +kernel
theorem dX11_agree_23 : decode cX11_agree 23 = .ok (.aload_n 0, 1) := by decide +kernel
theorem dX11_agree_24 : decode cX11_agree 24 = .ok (.getfield 11, 3) := by decide +kernel
theorem dX11_agree_27 : decode cX11_agree 27 = .ok (.iconst 1, 1) := by decide +kernel
theorem dX11_agree_28 : decode cX11_agree 28 = .ok (.aaload, 1) := by decide +kernel
theorem dX11_agree_29 : decode cX11_agree 29 = .ok (.getfield 58, 3) := by decide +kernel
theorem dX11_agree_32 : decode cX11_agree 32 = .ok (.invokevirtual 145, 3) := by decide +kernel
theorem dX11_agree_35 : decode cX11_agree 35 = .ok (.aload_n 0, 1) := by decide +kernel
theorem dX11_agree_36 : decode cX11_agree 36 = .ok (.getfield 11, 3) := by decide +kernel
theorem dX11_agree_39 : decode cX11_agree 39 = .ok (.iconst 3, 1) := by decide +kernel
theorem dX11_agree_40 : decode cX11_agree 40 = .ok (.aaload, 1) := by decide +kernel
theorem dX11_agree_41 : decode cX11_agree 41 = .ok (.astore 4, 2) := by decide +kernel
theorem dX11_agree_43 : decode cX11_agree 43 = .ok (.aload 4, 2) := by decide +kernel
theorem dX11_agree_45 : decode cX11_agree 45 = .ok (.aload_n 3, 1) := by decide +kernel
theorem dX11_agree_46 : decode cX11_agree 46 = .ok (.getfield 149, 3) := by decide +kernel
theorem dX11_agree_49 : decode cX11_agree 49 = .ok (.putfield 61, 3) := by decide +kernel
theorem dX11_agree_52 : decode cX11_agree 52 = .ok (.aload_n 3, 1) := by decide +kernel
theorem dX11_agree_53 : decode cX11_agree 53 = .ok (.aload 4, 2) := by decide +kernel
theorem dX11_agree_55 : decode cX11_agree 55 = .ok (.getfield 58, 3) := by decide +kernel
theorem dX11_agree_58 : decode cX11_agree 58 = .ok (.aload_n 0, 1) := by decide +kernel
theorem dX11_agree_59 : decode cX11_agree 59 = .ok (.getfield 11, 3) := by decide +kernel
theorem dX11_agree_62 : decode cX11_agree 62 = .ok (.iconst 0, 1) := by decide +kernel
theorem dX11_agree_63 : decode cX11_agree 63 = .ok (.aaload, 1) := by decide +kernel
theorem dX11_agree_64 : decode cX11_agree 64 = .ok (.getfield 58, 3) := by decide +kernel
theorem dX11_agree_67 : decode cX11_agree 67 = .ok (.invokevirtual 152, 3) := by decide +kernel
theorem dX11_agree_70 : decode cX11_agree 70 = .ok (.ireturn, 1) := by decide +kernel
theorem dX11_derive_0 : decode cX11_derive 0 = .ok (.iload_n 1, 1) := by decide +kernel
theorem dX11_derive_1 : decode cX11_derive 1 = .ok (.invokestatic 139, 3) := by decide +kernel
theorem dX11_derive_4 : decode cX11_derive 4 = .ok (.aload_n 0, 1) := by decide +kernel
theorem dX11_derive_5 : decode cX11_derive 5 = .ok (.getfield 11, 3) := by decide +kernel
theorem dX11_derive_8 : decode cX11_derive 8 = .ok (.iconst 3, 1) := by decide +kernel
theorem dX11_derive_9 : decode cX11_derive 9 = .ok (.aaload, 1) := by decide +kernel
theorem dX11_derive_10 : decode cX11_derive 10 = .ok (.astore_n 2, 1) := by decide +kernel
theorem dX11_derive_11 : decode cX11_derive 11 = .ok (.aload_n 0, 1) := by decide +kernel
theorem dX11_derive_12 : decode cX11_derive 12 = .ok (.getfield 39, 3) := by decide +kernel
theorem dX11_derive_15 : decode cX11_derive 15 = .ok (.iload_n 1, 1) := by decide +kernel
theorem dX11_derive_16 : decode cX11_derive 16 = .ok (.aaload, 1) := by decide +kernel
theorem dX11_derive_17 : decode cX11_derive 17 = .ok (.aload_n 2, 1) := by decide +kernel
theorem dX11_derive_18 : decode cX11_derive 18 = .ok (.getfield 58, 3) := by decide +kernel
theorem dX11_derive_21 : decode cX11_derive 21 = .ok (.aload_n 0, 1) := by decide +kernel
theorem dX11_derive_22 : decode cX11_derive 22 = .ok (.getfield 11, 3) := by decide +kernel
theorem dX11_derive_25 : decode cX11_derive 25 = .ok (.iconst 0, 1) := by decide +kernel
theorem dX11_derive_26 : decode cX11_derive 26 = .ok (.aaload, 1) := by decide +kernel
theorem dX11_derive_27 : decode cX11_derive 27 = .ok (.getfield 58, 3) := by decide +kernel
theorem dX11_derive_30 : decode cX11_derive 30 = .ok (.invokevirtual 156, 3) := by decide +kernel
theorem dX11_derive_33 : decode cX11_derive 33 = .ok (.aload_n 2, 1) := by decide +kernel
theorem dX11_derive_34 : decode cX11_derive 34 = .ok (.aload_n 0, 1) := by decide +kernel
theorem dX11_derive_35 : decode cX11_derive 35 = .ok (.getfield 27, 3) := by decide +kernel
theorem dX11_derive_38 : decode cX11_derive 38 = .ok (.iload_n 1, 1) := by decide +kernel
theorem dX11_derive_39 : decode cX11_derive 39 = .ok (.aaload, 1) := by decide +kernel
theorem dX11_derive_40 : decode cX11_derive 40 = .ok (.getfield 160, 3) := by decide +kernel
theorem dX11_derive_43 : decode cX11_derive 43 = .ok (.putfield 61, 3) := by decide +kernel
theorem dX11_derive_46 : decode cX11_derive 46 = .ok (.return_, 1) := by decide +kernel
theorem dX11_sign_0 : decode cX11_sign 0 = .ok (.iload_n 1, 1) := by decide +kernel
theorem dX11_sign_1 : decode cX11_sign 1 = .ok (.invokestatic 139, 3) := by decide +kernel
theorem dX11_sign_4 : decode cX11_sign 4 = .ok (.aload_n 0, 1) := by decide +kernel
theorem dX11_sign_5 : decode cX11_sign 5 = .ok (.getfield 11, 3) := by decide +kernel
theorem dX11_sign_8 : decode cX11_sign 8 = .ok (.iconst 3, 1) := by decide +kernel
theorem dX11_sign_9 : decode cX11_sign 9 = .ok (.aaload, 1) := by decide +kernel
theorem dX11_sign_10 : decode cX11_sign 10 = .ok (.astore_n 3, 1) := by decide +kernel
theorem dX11_sign_11 : decode cX11_sign 11 = .ok (.aload_n 0, 1) := by decide +kernel
theorem dX11_sign_12 : decode cX11_sign 12 = .ok (.getfield 39, 3) := by decide +kernel
theorem dX11_sign_15 : decode cX11_sign 15 = .ok (.iload_n 1, 1) := by decide +kernel
theorem dX11_sign_16 : decode cX11_sign 16 = .ok (.aaload, 1) := by decide +kernel
theorem dX11_sign_17 : decode cX11_sign 17 = .ok (.aload_n 0, 1) := by decide +kernel
theorem dX11_sign_18 : decode cX11_sign 18 = .ok (.getfield 18, 3) := by decide +kernel
theorem dX11_sign_21 : decode cX11_sign 21 = .ok (.aload_n 0, 1) := by decide +kernel
theorem dX11_sign_22 : decode cX11_sign 22 = .ok (.getfield 22, 3) := by decide +kernel
theorem dX11_sign_25 : decode cX11_sign 25 = .ok (.iload_n 2, 1) := by decide +kernel
theorem dX11_sign_26 : decode cX11_sign 26 = .ok (.invokevirtual 163, 3) := by decide +kernel
theorem dX11_sign_29 : decode cX11_sign 29 = .ok (.aload_n 0, 1) := by decide +kernel
theorem dX11_sign_30 : decode cX11_sign 30 = .ok (.getfield 39, 3) := by decide +kernel
theorem dX11_sign_33 : decode cX11_sign 33 = .ok (.iload_n 1, 1) := by decide +kernel
theorem dX11_sign_34 : decode cX11_sign 34 = .ok (.aaload, 1) := by decide +kernel
theorem dX11_sign_35 : decode cX11_sign 35 = .ok (.aload_n 3, 1) := by decide +kernel
theorem dX11_sign_36 : decode cX11_sign 36 = .ok (.getfield 58, 3) := by decide +kernel
theorem dX11_sign_39 : decode cX11_sign 39 = .ok (.aload_n 0, 1) := by decide +kernel
theorem dX11_sign_40 : decode cX11_sign 40 = .ok (.getfield 11, 3) := by decide +kernel
theorem dX11_sign_43 : decode cX11_sign 43 = .ok (.iconst 0, 1) := by decide +kernel
theorem dX11_sign_44 : decode cX11_sign 44 = .ok (.aaload, 1) := by decide +kernel
theorem dX11_sign_45 : decode cX11_sign 45 = .ok (.getfield 58, 3) := by decide +kernel
theorem dX11_sign_48 : decode cX11_sign 48 = .ok (.invokevirtual 167, 3) := by decide +kernel
theorem dX11_sign_51 : decode cX11_sign 51 = .ok (.aload_n 3, 1) := by decide +kernel
theorem dX11_sign_52 : decode cX11_sign 52 = .ok (.iconst 2, 1) := by decide +kernel
theorem dX11_sign_53 : decode cX11_sign 53 = .ok (.aload_n 0, 1) := by decide +kernel
theorem dX11_sign_54 : decode cX11_sign 54 = .ok (.getfield 27, 3) := by decide +kernel
theorem dX11_sign_57 : decode cX11_sign 57 = .ok (.iload_n 1, 1) := by decide +kernel
theorem dX11_sign_58 : decode cX11_sign 58 = .ok (.aaload, 1) := by decide +kernel
theorem dX11_sign_59 : decode cX11_sign 59 = .ok (.getfield 160, 3) := by decide +kernel
theorem dX11_sign_62 : decode cX11_sign 62 = .ok (.imul, 1) := by decide +kernel
theorem dX11_sign_63 : decode cX11_sign 63 = .ok (.putfield 61, 3) := by decide +kernel
theorem dX11_sign_66 : decode cX11_sign 66 = .ok (.return_, 1) := by decide +kernel
theorem dX11_verify_0 : decode cX11_verify 0 = .ok (.iload_n 1, 1) := by decide +kernel
theorem dX11_verify_1 : decode cX11_verify 1 = .ok (.invokestatic 139, 3) := by decide +kernel
theorem dX11_verify_4 : decode cX11_verify 4 = .ok (.aload_n 0, 1) := by decide +kernel
theorem dX11_verify_5 : decode cX11_verify 5 = .ok (.getfield 11, 3) := by decide +kernel
theorem dX11_verify_8 : decode cX11_verify 8 = .ok (.iconst 3, 1) := by decide +kernel
theorem dX11_verify_9 : decode cX11_verify 9 = .ok (.aaload, 1) := by decide +kernel
theorem dX11_verify_10 : decode cX11_verify 10 = .ok (.iconst 0, 1) := by decide +kernel
theorem dX11_verify_11 : decode cX11_verify 11 = .ok (.putfield 61, 3) := by decide +kernel
theorem dX11_verify_14 : decode cX11_verify 14 = .ok (.aload_n 0, 1) := by decide +kernel
theorem dX11_verify_15 : decode cX11_verify 15 = .ok (.getfield 39, 3) := by decide +kernel
theorem dX11_verify_18 : decode cX11_verify 18 = .ok (.iload_n 1, 1) := by decide +kernel
theorem dX11_verify_19 : decode cX11_verify 19 = .ok (.aaload, 1) := by decide +kernel
theorem dX11_verify_20 : decode cX11_verify 20 = .ok (.aload_n 0, 1) := by decide +kernel
theorem dX11_verify_21 : decode cX11_verify 21 = .ok (.getfield 18, 3) := by decide +kernel
theorem dX11_verify_24 : decode cX11_verify 24 = .ok (.aload_n 0, 1) := by decide +kernel
theorem dX11_verify_25 : decode cX11_verify 25 = .ok (.getfield 22, 3) := by decide +kernel
theorem dX11_verify_28 : decode cX11_verify 28 = .ok (.iload_n 2, 1) := by decide +kernel
theorem dX11_verify_29 : decode cX11_verify 29 = .ok (.invokevirtual 163, 3) := by decide +kernel
theorem dX11_verify_32 : decode cX11_verify 32 = .ok (.aload_n 0, 1) := by decide +kernel
theorem dX11_verify_33 : decode cX11_verify 33 = .ok (.getfield 39, 3) := by decide +kernel
theorem dX11_verify_36 : decode cX11_verify 36 = .ok (.iload_n 1, 1) := by decide +kernel
theorem dX11_verify_37 : decode cX11_verify 37 = .ok (.aaload, 1) := by decide +kernel
theorem dX11_verify_38 : decode cX11_verify 38 = .ok (.aload_n 0, 1) := by decide +kernel
theorem dX11_verify_39 : decode cX11_verify 39 = .ok (.getfield 11, 3) := by decide +kernel
theorem dX11_verify_42 : decode cX11_verify 42 = .ok (.iconst 2, 1) := by decide +kernel
theorem dX11_verify_43 : decode cX11_verify 43 = .ok (.aaload, 1) := by decide +kernel
theorem dX11_verify_44 : decode cX11_verify 44 = .ok (.getfield 58, 3) := by decide +kernel
theorem dX11_verify_47 : decode cX11_verify 47 = .ok (.aload_n 0, 1) := by decide +kernel
theorem dX11_verify_48 : decode cX11_verify 48 = .ok (.getfield 11, 3) := by decide +kernel
theorem dX11_verify_51 : decode cX11_verify 51 = .ok (.iconst 1, 1) := by decide +kernel
theorem dX11_verify_52 : decode cX11_verify 52 = .ok (.aaload, 1) := by decide +kernel
theorem dX11_verify_53 : decode cX11_verify 53 = .ok (.getfield 58, 3) := by decide +kernel
theorem dX11_verify_56 : decode cX11_verify 56 = .ok (.invokevirtual 170, 3) := by decide +kernel
theorem dX11_verify_59 : decode cX11_verify 59 = .ok (.ireturn, 1) := by decide +kernel
theorem dX11_point_0 : decode cX11_point 0 = .ok (.iload_n 1, 1) := by decide +kernel
theorem dX11_point_1 : decode cX11_point 1 = .ok (.invokestatic 139, 3) := by decide +kernel
theorem dX11_point_4 : decode cX11_point 4 = .ok (.iload_n 2, 1) := by decide +kernel
theorem dX11_point_5 : decode cX11_point 5 = .ok (.invokestatic 173, 3) := by decide +kernel
theorem dX11_point_8 : decode cX11_point 8 = .ok (.aload_n 0, 1) := by decide +kernel
theorem dX11_point_9 : decode cX11_point 9 = .ok (.getfield 27, 3) := by decide +kernel
theorem dX11_point_12 : decode cX11_point 12 = .ok (.iload_n 1, 1) := by decide +kernel
theorem dX11_point_13 : decode cX11_point 13 = .ok (.aaload, 1) := by decide +kernel
theorem dX11_point_14 : decode cX11_point 14 = .ok (.aload_n 0, 1) := by decide +kernel
theorem dX11_point_15 : decode cX11_point 15 = .ok (.getfield 45, 3) := by decide +kernel
theorem dX11_point_18 : decode cX11_point 18 = .ok (.iload_n 2, 1) := by decide +kernel
theorem dX11_point_19 : decode cX11_point 19 = .ok (.aaload, 1) := by decide +kernel
theorem dX11_point_20 : decode cX11_point 20 = .ok (.aload_n 0, 1) := by decide +kernel
theorem dX11_point_21 : decode cX11_point 21 = .ok (.getfield 11, 3) := by decide +kernel
theorem dX11_point_24 : decode cX11_point 24 = .ok (.iconst 1, 1) := by decide +kernel
theorem dX11_point_25 : decode cX11_point 25 = .ok (.aaload, 1) := by decide +kernel
theorem dX11_point_26 : decode cX11_point 26 = .ok (.getfield 58, 3) := by decide +kernel
theorem dX11_point_29 : decode cX11_point 29 = .ok (.invokevirtual 176, 3) := by decide +kernel
theorem dX11_point_32 : decode cX11_point 32 = .ok (.ifCond .ne 5, 3) := by decide +kernel
theorem dX11_point_35 : decode cX11_point 35 = .ok (.iconst 0, 1) := by decide +kernel
theorem dX11_point_36 : decode cX11_point 36 = .ok (.ireturn, 1) := by decide +kernel
theorem dX11_point_37 : decode cX11_point 37 = .ok (.aload_n 0, 1) := by decide +kernel
theorem dX11_point_38 : decode cX11_point 38 = .ok (.getfield 49, 3) := by decide +kernel
theorem dX11_point_41 : decode cX11_point 41 = .ok (.iload_n 2, 1) := by decide +kernel
theorem dX11_point_42 : decode cX11_point 42 = .ok (.iload_n 1, 1) := by decide +kernel
theorem dX11_point_43 : decode cX11_point 43 = .ok (.iastore, 1) := by decide +kernel
theorem dX11_point_44 : decode cX11_point 44 = .ok (.iconst 1, 1) := by decide +kernel
theorem dX11_point_45 : decode cX11_point 45 = .ok (.ireturn, 1) := by decide +kernel
theorem dX11_add_0 : decode cX11_add 0 = .ok (.iload_n 1, 1) := by decide +kernel
theorem dX11_add_1 : decode cX11_add 1 = .ok (.invokestatic 173, 3) := by decide +kernel
theorem dX11_add_4 : decode cX11_add 4 = .ok (.iload_n 2, 1) := by decide +kernel
theorem dX11_add_5 : decode cX11_add 5 = .ok (.invokestatic 173, 3) := by decide +kernel
theorem dX11_add_8 : decode cX11_add 8 = .ok (.iload_n 3, 1) := by decide +kernel
theorem dX11_add_9 : decode cX11_add 9 = .ok (.invokestatic 173, 3) := by decide +kernel
theorem dX11_add_12 : decode cX11_add 12 = .ok (.aload_n 0, 1) := by decide +kernel
theorem dX11_add_13 : decode cX11_add 13 = .ok (.getfield 49, 3) := by decide +kernel
theorem dX11_add_16 : decode cX11_add 16 = .ok (.iload_n 2, 1) := by decide +kernel
theorem dX11_add_17 : decode cX11_add 17 = .ok (.iaload, 1) := by decide +kernel
theorem dX11_add_18 : decode cX11_add 18 = .ok (.aload_n 0, 1) := by decide +kernel
theorem dX11_add_19 : decode cX11_add 19 = .ok (.getfield 49, 3) := by decide +kernel
theorem dX11_add_22 : decode cX11_add 22 = .ok (.iload_n 3, 1) := by decide +kernel
theorem dX11_add_23 : decode cX11_add 23 = .ok (.iaload, 1) := by decide +kernel
theorem dX11_add_24 : decode cX11_add 24 = .ok (.if_icmp .eq 13, 3) := by decide +kernel
theorem dX11_add_27 : decode cX11_add 27 = .ok (.new 107, 3) := by decide +kernel
theorem dX11_add_30 : decode cX11_add 30 = .ok (.dup, 1) := by decide +kernel
theorem dX11_add_31 : decode cX11_add 31 = .ok (.ldc 180, 2) := by decide +kernel
theorem dX11_add_33 : decode cX11_add 33 = .ok (.invokespecial 111, 3) := by decide +kernel
theorem dX11_add_36 : decode cX11_add 36 = .ok (.athrow, 1) := by decide +kernel
theorem dX11_add_37 : decode cX11_add 37 = .ok (.aload_n 0, 1) := by decide +kernel
theorem dX11_add_38 : decode cX11_add 38 = .ok (.getfield 27, 3) := by decide +kernel
theorem dX11_add_41 : decode cX11_add 41 = .ok (.aload_n 0, 1) := by decide +kernel
theorem dX11_add_42 : decode cX11_add 42 = .ok (.getfield 49, 3) := by decide +kernel
theorem dX11_add_45 : decode cX11_add 45 = .ok (.iload_n 2, 1) := by decide +kernel
theorem dX11_add_46 : decode cX11_add 46 = .ok (.iaload, 1) := by decide +kernel
theorem dX11_add_47 : decode cX11_add 47 = .ok (.aaload, 1) := by decide +kernel
theorem dX11_add_48 : decode cX11_add 48 = .ok (.astore 5, 2) := by decide +kernel
theorem dX11_add_50 : decode cX11_add 50 = .ok (.aload_n 0, 1) := by decide +kernel
theorem dX11_add_51 : decode cX11_add 51 = .ok (.getfield 45, 3) := by decide +kernel
theorem dX11_add_54 : decode cX11_add 54 = .ok (.iload_n 3, 1) := by decide +kernel
theorem dX11_add_55 : decode cX11_add 55 = .ok (.aaload, 1) := by decide +kernel
theorem dX11_add_56 : decode cX11_add 56 = .ok (.astore 6, 2) := by decide +kernel
theorem dX11_add_58 : decode cX11_add 58 = .ok (.iload 4, 2) := by decide +kernel
theorem dX11_add_60 : decode cX11_add 60 = .ok (.ifCond .eq 20, 3) := by decide +kernel
theorem dX11_add_63 : decode cX11_add 63 = .ok (.aload 5, 2) := by decide +kernel
theorem dX11_add_65 : decode cX11_add 65 = .ok (.aload_n 0, 1) := by decide +kernel
theorem dX11_add_66 : decode cX11_add 66 = .ok (.getfield 54, 3) := by decide +kernel
theorem dX11_add_69 : decode cX11_add 69 = .ok (.aload 6, 2) := by decide +kernel
theorem dX11_add_71 : decode cX11_add 71 = .ok (.invokevirtual 182, 3) := by decide +kernel
theorem dX11_add_74 : decode cX11_add 74 = .ok (.aload_n 0, 1) := by decide +kernel
theorem dX11_add_75 : decode cX11_add 75 = .ok (.getfield 54, 3) := by decide +kernel
theorem dX11_add_78 : decode cX11_add 78 = .ok (.astore 6, 2) := by decide +kernel
theorem dX11_add_80 : decode cX11_add 80 = .ok (.aload 5, 2) := by decide +kernel
theorem dX11_add_82 : decode cX11_add 82 = .ok (.aload_n 0, 1) := by decide +kernel
theorem dX11_add_83 : decode cX11_add 83 = .ok (.getfield 45, 3) := by decide +kernel
theorem dX11_add_86 : decode cX11_add 86 = .ok (.iload_n 1, 1) := by decide +kernel
theorem dX11_add_87 : decode cX11_add 87 = .ok (.aaload, 1) := by decide +kernel
theorem dX11_add_88 : decode cX11_add 88 = .ok (.aload_n 0, 1) := by decide +kernel
theorem dX11_add_89 : decode cX11_add 89 = .ok (.getfield 45, 3) := by decide +kernel
theorem dX11_add_92 : decode cX11_add 92 = .ok (.iload_n 2, 1) := by decide +kernel
theorem dX11_add_93 : decode cX11_add 93 = .ok (.aaload, 1) := by decide +kernel
theorem dX11_add_94 : decode cX11_add 94 = .ok (.aload 6, 2) := by decide +kernel
theorem dX11_add_96 : decode cX11_add 96 = .ok (.invokevirtual 186, 3) := by decide +kernel
theorem dX11_add_99 : decode cX11_add 99 = .ok (.aload_n 0, 1) := by decide +kernel
theorem dX11_add_100 : decode cX11_add 100 = .ok (.getfield 49, 3) := by decide +kernel
theorem dX11_add_103 : decode cX11_add 103 = .ok (.iload_n 1, 1) := by decide +kernel
theorem dX11_add_104 : decode cX11_add 104 = .ok (.aload_n 0, 1) := by decide +kernel
theorem dX11_add_105 : decode cX11_add 105 = .ok (.getfield 49, 3) := by decide +kernel
theorem dX11_add_108 : decode cX11_add 108 = .ok (.iload_n 2, 1) := by decide +kernel
theorem dX11_add_109 : decode cX11_add 109 = .ok (.iaload, 1) := by decide +kernel
theorem dX11_add_110 : decode cX11_add 110 = .ok (.iastore, 1) := by decide +kernel
theorem dX11_add_111 : decode cX11_add 111 = .ok (.return_, 1) := by decide +kernel
theorem dX11_times_0 : decode cX11_times 0 = .ok (.iload_n 1, 1) := by decide +kernel
theorem dX11_times_1 : decode cX11_times 1 = .ok (.invokestatic 173, 3) := by decide +kernel
theorem dX11_times_4 : decode cX11_times 4 = .ok (.iload_n 2, 1) := by decide +kernel
theorem dX11_times_5 : decode cX11_times 5 = .ok (.invokestatic 173, 3) := by decide +kernel
theorem dX11_times_8 : decode cX11_times 8 = .ok (.aload_n 0, 1) := by decide +kernel
theorem dX11_times_9 : decode cX11_times 9 = .ok (.getfield 27, 3) := by decide +kernel
theorem dX11_times_12 : decode cX11_times 12 = .ok (.aload_n 0, 1) := by decide +kernel
theorem dX11_times_13 : decode cX11_times 13 = .ok (.getfield 49, 3) := by decide +kernel
theorem dX11_times_16 : decode cX11_times 16 = .ok (.iload_n 2, 1) := by decide +kernel
theorem dX11_times_17 : decode cX11_times 17 = .ok (.iaload, 1) := by decide +kernel
theorem dX11_times_18 : decode cX11_times 18 = .ok (.aaload, 1) := by decide +kernel
theorem dX11_times_19 : decode cX11_times 19 = .ok (.aload_n 0, 1) := by decide +kernel
theorem dX11_times_20 : decode cX11_times 20 = .ok (.getfield 45, 3) := by decide +kernel
theorem dX11_times_23 : decode cX11_times 23 = .ok (.iload_n 1, 1) := by decide +kernel
theorem dX11_times_24 : decode cX11_times 24 = .ok (.aaload, 1) := by decide +kernel
theorem dX11_times_25 : decode cX11_times 25 = .ok (.aload_n 0, 1) := by decide +kernel
theorem dX11_times_26 : decode cX11_times 26 = .ok (.getfield 11, 3) := by decide +kernel
theorem dX11_times_29 : decode cX11_times 29 = .ok (.iconst 0, 1) := by decide +kernel
theorem dX11_times_30 : decode cX11_times 30 = .ok (.aaload, 1) := by decide +kernel
theorem dX11_times_31 : decode cX11_times 31 = .ok (.getfield 58, 3) := by decide +kernel
theorem dX11_times_34 : decode cX11_times 34 = .ok (.aload_n 0, 1) := by decide +kernel
theorem dX11_times_35 : decode cX11_times 35 = .ok (.getfield 45, 3) := by decide +kernel
theorem dX11_times_38 : decode cX11_times 38 = .ok (.iload_n 2, 1) := by decide +kernel
theorem dX11_times_39 : decode cX11_times 39 = .ok (.aaload, 1) := by decide +kernel
theorem dX11_times_40 : decode cX11_times 40 = .ok (.invokevirtual 190, 3) := by decide +kernel
theorem dX11_times_43 : decode cX11_times 43 = .ok (.aload_n 0, 1) := by decide +kernel
theorem dX11_times_44 : decode cX11_times 44 = .ok (.getfield 49, 3) := by decide +kernel
theorem dX11_times_47 : decode cX11_times 47 = .ok (.iload_n 1, 1) := by decide +kernel
theorem dX11_times_48 : decode cX11_times 48 = .ok (.aload_n 0, 1) := by decide +kernel
theorem dX11_times_49 : decode cX11_times 49 = .ok (.getfield 49, 3) := by decide +kernel
theorem dX11_times_52 : decode cX11_times 52 = .ok (.iload_n 2, 1) := by decide +kernel
theorem dX11_times_53 : decode cX11_times 53 = .ok (.iaload, 1) := by decide +kernel
theorem dX11_times_54 : decode cX11_times 54 = .ok (.iastore, 1) := by decide +kernel
theorem dX11_times_55 : decode cX11_times 55 = .ok (.return_, 1) := by decide +kernel
theorem dX11_code_0 : decode cX11_code 0 = .ok (.iload_n 1, 1) := by decide +kernel
theorem dX11_code_1 : decode cX11_code 1 = .ok (.invokestatic 173, 3) := by decide +kernel
theorem dX11_code_4 : decode cX11_code 4 = .ok (.aload_n 0, 1) := by decide +kernel
theorem dX11_code_5 : decode cX11_code 5 = .ok (.getfield 27, 3) := by decide +kernel
theorem dX11_code_8 : decode cX11_code 8 = .ok (.aload_n 0, 1) := by decide +kernel
theorem dX11_code_9 : decode cX11_code 9 = .ok (.getfield 49, 3) := by decide +kernel
theorem dX11_code_12 : decode cX11_code 12 = .ok (.iload_n 1, 1) := by decide +kernel
theorem dX11_code_13 : decode cX11_code 13 = .ok (.iaload, 1) := by decide +kernel
theorem dX11_code_14 : decode cX11_code 14 = .ok (.aaload, 1) := by decide +kernel
theorem dX11_code_15 : decode cX11_code 15 = .ok (.astore_n 2, 1) := by decide +kernel
theorem dX11_code_16 : decode cX11_code 16 = .ok (.aload_n 0, 1) := by decide +kernel
theorem dX11_code_17 : decode cX11_code 17 = .ok (.getfield 11, 3) := by decide +kernel
theorem dX11_code_20 : decode cX11_code 20 = .ok (.iconst 3, 1) := by decide +kernel
theorem dX11_code_21 : decode cX11_code 21 = .ok (.aaload, 1) := by decide +kernel
theorem dX11_code_22 : decode cX11_code 22 = .ok (.astore_n 3, 1) := by decide +kernel
theorem dX11_code_23 : decode cX11_code 23 = .ok (.aload_n 2, 1) := by decide +kernel
theorem dX11_code_24 : decode cX11_code 24 = .ok (.aload_n 3, 1) := by decide +kernel
theorem dX11_code_25 : decode cX11_code 25 = .ok (.getfield 58, 3) := by decide +kernel
theorem dX11_code_28 : decode cX11_code 28 = .ok (.aload_n 0, 1) := by decide +kernel
theorem dX11_code_29 : decode cX11_code 29 = .ok (.getfield 45, 3) := by decide +kernel
theorem dX11_code_32 : decode cX11_code 32 = .ok (.iload_n 1, 1) := by decide +kernel
theorem dX11_code_33 : decode cX11_code 33 = .ok (.aaload, 1) := by decide +kernel
theorem dX11_code_34 : decode cX11_code 34 = .ok (.invokevirtual 194, 3) := by decide +kernel
theorem dX11_code_37 : decode cX11_code 37 = .ok (.aload_n 3, 1) := by decide +kernel
theorem dX11_code_38 : decode cX11_code 38 = .ok (.aload_n 2, 1) := by decide +kernel
theorem dX11_code_39 : decode cX11_code 39 = .ok (.getfield 160, 3) := by decide +kernel
theorem dX11_code_42 : decode cX11_code 42 = .ok (.putfield 61, 3) := by decide +kernel
theorem dX11_code_45 : decode cX11_code 45 = .ok (.return_, 1) := by decide +kernel
theorem dX11_same_0 : decode cX11_same 0 = .ok (.iload_n 1, 1) := by decide +kernel
theorem dX11_same_1 : decode cX11_same 1 = .ok (.invokestatic 173, 3) := by decide +kernel
theorem dX11_same_4 : decode cX11_same 4 = .ok (.iload_n 2, 1) := by decide +kernel
theorem dX11_same_5 : decode cX11_same 5 = .ok (.invokestatic 173, 3) := by decide +kernel
theorem dX11_same_8 : decode cX11_same 8 = .ok (.aload_n 0, 1) := by decide +kernel
theorem dX11_same_9 : decode cX11_same 9 = .ok (.getfield 49, 3) := by decide +kernel
theorem dX11_same_12 : decode cX11_same 12 = .ok (.iload_n 1, 1) := by decide +kernel
theorem dX11_same_13 : decode cX11_same 13 = .ok (.iaload, 1) := by decide +kernel
theorem dX11_same_14 : decode cX11_same 14 = .ok (.aload_n 0, 1) := by decide +kernel
theorem dX11_same_15 : decode cX11_same 15 = .ok (.getfield 49, 3) := by decide +kernel
theorem dX11_same_18 : decode cX11_same 18 = .ok (.iload_n 2, 1) := by decide +kernel
theorem dX11_same_19 : decode cX11_same 19 = .ok (.iaload, 1) := by decide +kernel
theorem dX11_same_20 : decode cX11_same 20 = .ok (.if_icmp .ne 36, 3) := by decide +kernel
theorem dX11_same_23 : decode cX11_same 23 = .ok (.aload_n 0, 1) := by decide +kernel
theorem dX11_same_24 : decode cX11_same 24 = .ok (.getfield 27, 3) := by decide +kernel
theorem dX11_same_27 : decode cX11_same 27 = .ok (.aload_n 0, 1) := by decide +kernel
theorem dX11_same_28 : decode cX11_same 28 = .ok (.getfield 49, 3) := by decide +kernel
theorem dX11_same_31 : decode cX11_same 31 = .ok (.iload_n 1, 1) := by decide +kernel
theorem dX11_same_32 : decode cX11_same 32 = .ok (.iaload, 1) := by decide +kernel
theorem dX11_same_33 : decode cX11_same 33 = .ok (.aaload, 1) := by decide +kernel
theorem dX11_same_34 : decode cX11_same 34 = .ok (.aload_n 0, 1) := by decide +kernel
theorem dX11_same_35 : decode cX11_same 35 = .ok (.getfield 45, 3) := by decide +kernel
theorem dX11_same_38 : decode cX11_same 38 = .ok (.iload_n 1, 1) := by decide +kernel
theorem dX11_same_39 : decode cX11_same 39 = .ok (.aaload, 1) := by decide +kernel
theorem dX11_same_40 : decode cX11_same 40 = .ok (.aload_n 0, 1) := by decide +kernel
theorem dX11_same_41 : decode cX11_same 41 = .ok (.getfield 45, 3) := by decide +kernel
theorem dX11_same_44 : decode cX11_same 44 = .ok (.iload_n 2, 1) := by decide +kernel
theorem dX11_same_45 : decode cX11_same 45 = .ok (.aaload, 1) := by decide +kernel
theorem dX11_same_46 : decode cX11_same 46 = .ok (.invokevirtual 198, 3) := by decide +kernel
theorem dX11_same_49 : decode cX11_same 49 = .ok (.ifCond .eq 7, 3) := by decide +kernel
theorem dX11_same_52 : decode cX11_same 52 = .ok (.iconst 1, 1) := by decide +kernel
theorem dX11_same_53 : decode cX11_same 53 = .ok (.goto 4, 3) := by decide +kernel
theorem dX11_same_56 : decode cX11_same 56 = .ok (.iconst 0, 1) := by decide +kernel
theorem dX11_same_57 : decode cX11_same 57 = .ok (.ireturn, 1) := by decide +kernel
theorem dX11_order_0 : decode cX11_order 0 = .ok (.iload_n 1, 1) := by decide +kernel
theorem dX11_order_1 : decode cX11_order 1 = .ok (.invokestatic 173, 3) := by decide +kernel
theorem dX11_order_4 : decode cX11_order 4 = .ok (.iload_n 2, 1) := by decide +kernel
theorem dX11_order_5 : decode cX11_order 5 = .ok (.ifCond .lt 8, 3) := by decide +kernel
theorem dX11_order_8 : decode cX11_order 8 = .ok (.iload_n 2, 1) := by decide +kernel
theorem dX11_order_9 : decode cX11_order 9 = .ok (.iconst 2, 1) := by decide +kernel
theorem dX11_order_10 : decode cX11_order 10 = .ok (.if_icmp .le 13, 3) := by decide +kernel
theorem dX11_order_13 : decode cX11_order 13 = .ok (.new 124, 3) := by decide +kernel
theorem dX11_order_16 : decode cX11_order 16 = .ok (.dup, 1) := by decide +kernel
theorem dX11_order_17 : decode cX11_order 17 = .ok (.ldc 202, 2) := by decide +kernel
theorem dX11_order_19 : decode cX11_order 19 = .ok (.invokespecial 128, 3) := by decide +kernel
theorem dX11_order_22 : decode cX11_order 22 = .ok (.athrow, 1) := by decide +kernel
theorem dX11_order_23 : decode cX11_order 23 = .ok (.aload_n 0, 1) := by decide +kernel
theorem dX11_order_24 : decode cX11_order 24 = .ok (.getfield 27, 3) := by decide +kernel
theorem dX11_order_27 : decode cX11_order 27 = .ok (.aload_n 0, 1) := by decide +kernel
theorem dX11_order_28 : decode cX11_order 28 = .ok (.getfield 49, 3) := by decide +kernel
theorem dX11_order_31 : decode cX11_order 31 = .ok (.iload_n 1, 1) := by decide +kernel
theorem dX11_order_32 : decode cX11_order 32 = .ok (.iaload, 1) := by decide +kernel
theorem dX11_order_33 : decode cX11_order 33 = .ok (.aaload, 1) := by decide +kernel
theorem dX11_order_34 : decode cX11_order 34 = .ok (.astore_n 3, 1) := by decide +kernel
theorem dX11_order_35 : decode cX11_order 35 = .ok (.iload_n 2, 1) := by decide +kernel
theorem dX11_order_36 : decode cX11_order 36 = .ok (.ifCond .ne 22, 3) := by decide +kernel
theorem dX11_order_39 : decode cX11_order 39 = .ok (.aload_n 3, 1) := by decide +kernel
theorem dX11_order_40 : decode cX11_order 40 = .ok (.aload_n 0, 1) := by decide +kernel
theorem dX11_order_41 : decode cX11_order 41 = .ok (.getfield 45, 3) := by decide +kernel
theorem dX11_order_44 : decode cX11_order 44 = .ok (.iload_n 1, 1) := by decide +kernel
theorem dX11_order_45 : decode cX11_order 45 = .ok (.aaload, 1) := by decide +kernel
theorem dX11_order_46 : decode cX11_order 46 = .ok (.invokevirtual 204, 3) := by decide +kernel
theorem dX11_order_49 : decode cX11_order 49 = .ok (.ifCond .eq 7, 3) := by decide +kernel
theorem dX11_order_52 : decode cX11_order 52 = .ok (.iconst 1, 1) := by decide +kernel
theorem dX11_order_53 : decode cX11_order 53 = .ok (.goto 4, 3) := by decide +kernel
theorem dX11_order_56 : decode cX11_order 56 = .ok (.iconst 0, 1) := by decide +kernel
theorem dX11_order_57 : decode cX11_order 57 = .ok (.ireturn, 1) := by decide +kernel
theorem dX11_order_58 : decode cX11_order 58 = .ok (.iload_n 2, 1) := by decide +kernel
theorem dX11_order_59 : decode cX11_order 59 = .ok (.iconst 1, 1) := by decide +kernel
theorem dX11_order_60 : decode cX11_order 60 = .ok (.if_icmp .ne 16, 3) := by decide +kernel
theorem dX11_order_63 : decode cX11_order 63 = .ok (.aload_n 3, 1) := by decide +kernel
theorem dX11_order_64 : decode cX11_order 64 = .ok (.aload_n 0, 1) := by decide +kernel
theorem dX11_order_65 : decode cX11_order 65 = .ok (.getfield 45, 3) := by decide +kernel
theorem dX11_order_68 : decode cX11_order 68 = .ok (.iload_n 1, 1) := by decide +kernel
theorem dX11_order_69 : decode cX11_order 69 = .ok (.aaload, 1) := by decide +kernel
theorem dX11_order_70 : decode cX11_order 70 = .ok (.invokevirtual 208, 3) := by decide +kernel
theorem dX11_order_73 : decode cX11_order 73 = .ok (.goto 9, 3) := by decide +kernel
theorem dX11_order_76 : decode cX11_order 76 = .ok (.aload_n 0, 1) := by decide +kernel
theorem dX11_order_77 : decode cX11_order 77 = .ok (.getfield 49, 3) := by decide +kernel
theorem dX11_order_80 : decode cX11_order 80 = .ok (.iload_n 1, 1) := by decide +kernel
theorem dX11_order_81 : decode cX11_order 81 = .ok (.iaload, 1) := by decide +kernel
theorem dX11_order_82 : decode cX11_order 82 = .ok (.ireturn, 1) := by decide +kernel
theorem dX11_requireByteCount_0 : decode cX11_requireByteCount 0 = .ok (.iload_n 0, 1) := by decide +kernel
theorem dX11_requireByteCount_1 : decode cX11_requireByteCount 1 = .ok (.iconst 1, 1) := by decide +kernel
theorem dX11_requireByteCount_2 : decode cX11_requireByteCount 2 = .ok (.if_icmp .lt 9, 3) := by decide +kernel
theorem dX11_requireByteCount_5 : decode cX11_requireByteCount 5 = .ok (.iload_n 0, 1) := by decide +kernel
theorem dX11_requireByteCount_6 : decode cX11_requireByteCount 6 = .ok (.bipush 8, 2) := by decide +kernel
theorem dX11_requireByteCount_8 : decode cX11_requireByteCount 8 = .ok (.if_icmp .le 13, 3) := by decide +kernel
theorem dX11_requireByteCount_11 : decode cX11_requireByteCount 11 = .ok (.new 124, 3) := by decide +kernel
theorem dX11_requireByteCount_14 : decode cX11_requireByteCount 14 = .ok (.dup, 1) := by decide +kernel
theorem dX11_requireByteCount_15 : decode cX11_requireByteCount 15 = .ok (.ldc 212, 2) := by decide +kernel
theorem dX11_requireByteCount_17 : decode cX11_requireByteCount 17 = .ok (.invokespecial 128, 3) := by decide +kernel
theorem dX11_requireByteCount_20 : decode cX11_requireByteCount 20 = .ok (.athrow, 1) := by decide +kernel
theorem dX11_requireByteCount_21 : decode cX11_requireByteCount 21 = .ok (.return_, 1) := by decide +kernel
theorem dX11_requireFixedRegister_0 : decode cX11_requireFixedRegister 0 = .ok (.iload_n 0, 1) := by decide +kernel
theorem dX11_requireFixedRegister_1 : decode cX11_requireFixedRegister 1 = .ok (.ifCond .lt 8, 3) := by decide +kernel
theorem dX11_requireFixedRegister_4 : decode cX11_requireFixedRegister 4 = .ok (.iload_n 0, 1) := by decide +kernel
theorem dX11_requireFixedRegister_5 : decode cX11_requireFixedRegister 5 = .ok (.iconst 2, 1) := by decide +kernel
theorem dX11_requireFixedRegister_6 : decode cX11_requireFixedRegister 6 = .ok (.if_icmp .le 13, 3) := by decide +kernel
theorem dX11_requireFixedRegister_9 : decode cX11_requireFixedRegister 9 = .ok (.new 124, 3) := by decide +kernel
theorem dX11_requireFixedRegister_12 : decode cX11_requireFixedRegister 12 = .ok (.dup, 1) := by decide +kernel
theorem dX11_requireFixedRegister_13 : decode cX11_requireFixedRegister 13 = .ok (.ldc 126, 2) := by decide +kernel
theorem dX11_requireFixedRegister_15 : decode cX11_requireFixedRegister 15 = .ok (.invokespecial 128, 3) := by decide +kernel
theorem dX11_requireFixedRegister_18 : decode cX11_requireFixedRegister 18 = .ok (.athrow, 1) := by decide +kernel
theorem dX11_requireFixedRegister_19 : decode cX11_requireFixedRegister 19 = .ok (.return_, 1) := by decide +kernel
theorem dX11_requireCurve_0 : decode cX11_requireCurve 0 = .ok (.iload_n 0, 1) := by decide +kernel
theorem dX11_requireCurve_1 : decode cX11_requireCurve 1 = .ok (.ifCond .lt 8, 3) := by decide +kernel
theorem dX11_requireCurve_4 : decode cX11_requireCurve 4 = .ok (.iload_n 0, 1) := by decide +kernel
theorem dX11_requireCurve_5 : decode cX11_requireCurve 5 = .ok (.iconst 2, 1) := by decide +kernel
theorem dX11_requireCurve_6 : decode cX11_requireCurve 6 = .ok (.if_icmp .lt 13, 3) := by decide +kernel
theorem dX11_requireCurve_9 : decode cX11_requireCurve 9 = .ok (.new 124, 3) := by decide +kernel
theorem dX11_requireCurve_12 : decode cX11_requireCurve 12 = .ok (.dup, 1) := by decide +kernel
theorem dX11_requireCurve_13 : decode cX11_requireCurve 13 = .ok (.ldc 214, 2) := by decide +kernel
theorem dX11_requireCurve_15 : decode cX11_requireCurve 15 = .ok (.invokespecial 128, 3) := by decide +kernel
theorem dX11_requireCurve_18 : decode cX11_requireCurve 18 = .ok (.athrow, 1) := by decide +kernel
theorem dX11_requireCurve_19 : decode cX11_requireCurve 19 = .ok (.return_, 1) := by decide +kernel
theorem dX11_requirePlace_0 : decode cX11_requirePlace 0 = .ok (.iload_n 0, 1) := by decide +kernel
theorem dX11_requirePlace_1 : decode cX11_requirePlace 1 = .ok (.ifCond .lt 8, 3) := by decide +kernel
theorem dX11_requirePlace_4 : decode cX11_requirePlace 4 = .ok (.iload_n 0, 1) := by decide +kernel
theorem dX11_requirePlace_5 : decode cX11_requirePlace 5 = .ok (.iconst 3, 1) := by decide +kernel
theorem dX11_requirePlace_6 : decode cX11_requirePlace 6 = .ok (.if_icmp .lt 13, 3) := by decide +kernel
theorem dX11_requirePlace_9 : decode cX11_requirePlace 9 = .ok (.new 124, 3) := by decide +kernel
theorem dX11_requirePlace_12 : decode cX11_requirePlace 12 = .ok (.dup, 1) := by decide +kernel
theorem dX11_requirePlace_13 : decode cX11_requirePlace 13 = .ok (.ldc 216, 2) := by decide +kernel
theorem dX11_requirePlace_15 : decode cX11_requirePlace 15 = .ok (.invokespecial 128, 3) := by decide +kernel
theorem dX11_requirePlace_18 : decode cX11_requirePlace 18 = .ok (.athrow, 1) := by decide +kernel
theorem dX11_requirePlace_19 : decode cX11_requirePlace 19 = .ok (.return_, 1) := by decide +kernel
theorem dX11_spread_0 : decode cX11_spread 0 = .ok (.iconst 0, 1) := by decide +kernel
theorem dX11_spread_1 : decode cX11_spread 1 = .ok (.istore 5, 2) := by decide +kernel
theorem dX11_spread_3 : decode cX11_spread 3 = .ok (.iload 5, 2) := by decide +kernel
theorem dX11_spread_5 : decode cX11_spread 5 = .ok (.iload 4, 2) := by decide +kernel
theorem dX11_spread_7 : decode cX11_spread 7 = .ok (.if_icmp .ge 32, 3) := by decide +kernel
theorem dX11_spread_10 : decode cX11_spread 10 = .ok (.aload_n 0, 1) := by decide +kernel
theorem dX11_spread_11 : decode cX11_spread 11 = .ok (.iload_n 1, 1) := by decide +kernel
theorem dX11_spread_12 : decode cX11_spread 12 = .ok (.iload 5, 2) := by decide +kernel
theorem dX11_spread_14 : decode cX11_spread 14 = .ok (.iadd, 1) := by decide +kernel
theorem dX11_spread_15 : decode cX11_spread 15 = .ok (.lload_n 2, 1) := by decide +kernel
theorem dX11_spread_16 : decode cX11_spread 16 = .ok (.bipush 8, 2) := by decide +kernel
theorem dX11_spread_18 : decode cX11_spread 18 = .ok (.iload 4, 2) := by decide +kernel
theorem dX11_spread_20 : decode cX11_spread 20 = .ok (.iconst 1, 1) := by decide +kernel
theorem dX11_spread_21 : decode cX11_spread 21 = .ok (.isub, 1) := by decide +kernel
theorem dX11_spread_22 : decode cX11_spread 22 = .ok (.iload 5, 2) := by decide +kernel
theorem dX11_spread_24 : decode cX11_spread 24 = .ok (.isub, 1) := by decide +kernel
theorem dX11_spread_25 : decode cX11_spread 25 = .ok (.imul, 1) := by decide +kernel
theorem dX11_spread_26 : decode cX11_spread 26 = .ok (.lushr, 1) := by decide +kernel
theorem dX11_spread_27 : decode cX11_spread 27 = .ok (.l2i, 1) := by decide +kernel
theorem dX11_spread_28 : decode cX11_spread 28 = .ok (.sipush 255, 3) := by decide +kernel
theorem dX11_spread_31 : decode cX11_spread 31 = .ok (.iand, 1) := by decide +kernel
theorem dX11_spread_32 : decode cX11_spread 32 = .ok (.iastore, 1) := by decide +kernel
theorem dX11_spread_33 : decode cX11_spread 33 = .ok (.iinc 5 1, 3) := by decide +kernel
theorem dX11_spread_36 : decode cX11_spread 36 = .ok (.goto (-33), 3) := by decide +kernel
theorem dX11_spread_39 : decode cX11_spread 39 = .ok (.return_, 1) := by decide +kernel
theorem dX12_init_0 : decode cX12_init 0 = .ok (.aload_n 0, 1) := by decide +kernel
theorem dX12_init_1 : decode cX12_init 1 = .ok (.invokespecial 1, 3) := by decide +kernel
theorem dX12_init_4 : decode cX12_init 4 = .ok (.aload_n 0, 1) := by decide +kernel
theorem dX12_init_5 : decode cX12_init 5 = .ok (.iconst 0, 1) := by decide +kernel
theorem dX12_init_6 : decode cX12_init 6 = .ok (.putfield 7, 3) := by decide +kernel
theorem dX12_init_9 : decode cX12_init 9 = .ok (.aload_n 0, 1) := by decide +kernel
theorem dX12_init_10 : decode cX12_init 10 = .ok (.bipush 57, 2) := by decide +kernel
theorem dX12_init_12 : decode cX12_init 12 = .ok (.newarray .int, 2) := by decide +kernel
theorem dX12_init_14 : decode cX12_init 14 = .ok (.putfield 13, 3) := by decide +kernel
theorem dX12_init_17 : decode cX12_init 17 = .ok (.aload_n 0, 1) := by decide +kernel
theorem dX12_init_18 : decode cX12_init 18 = .ok (.bipush 57, 2) := by decide +kernel
theorem dX12_init_20 : decode cX12_init 20 = .ok (.newarray .int, 2) := by decide +kernel
theorem dX12_init_22 : decode cX12_init 22 = .ok (.putfield 17, 3) := by decide +kernel
theorem dX12_init_25 : decode cX12_init 25 = .ok (.aload_n 0, 1) := by decide +kernel
theorem dX12_init_26 : decode cX12_init 26 = .ok (.bipush 114, 2) := by decide +kernel
theorem dX12_init_28 : decode cX12_init 28 = .ok (.newarray .int, 2) := by decide +kernel
theorem dX12_init_30 : decode cX12_init 30 = .ok (.putfield 20, 3) := by decide +kernel
theorem dX12_init_33 : decode cX12_init 33 = .ok (.aload_n 0, 1) := by decide +kernel
theorem dX12_init_34 : decode cX12_init 34 = .ok (.bipush 114, 2) := by decide +kernel
theorem dX12_init_36 : decode cX12_init 36 = .ok (.newarray .int, 2) := by decide +kernel
theorem dX12_init_38 : decode cX12_init 38 = .ok (.putfield 23, 3) := by decide +kernel
theorem dX12_init_41 : decode cX12_init 41 = .ok (.aload_n 0, 1) := by decide +kernel
theorem dX12_init_42 : decode cX12_init 42 = .ok (.iconst 0, 1) := by decide +kernel
theorem dX12_init_43 : decode cX12_init 43 = .ok (.putfield 26, 3) := by decide +kernel
theorem dX12_init_46 : decode cX12_init 46 = .ok (.aload_n 0, 1) := by decide +kernel
theorem dX12_init_47 : decode cX12_init 47 = .ok (.sipush 256, 3) := by decide +kernel
theorem dX12_init_50 : decode cX12_init 50 = .ok (.newarray .int, 2) := by decide +kernel
theorem dX12_init_52 : decode cX12_init 52 = .ok (.putfield 29, 3) := by decide +kernel
theorem dX12_init_55 : decode cX12_init 55 = .ok (.aload_n 0, 1) := by decide +kernel
theorem dX12_init_56 : decode cX12_init 56 = .ok (.iconst 0, 1) := by decide +kernel
theorem dX12_init_57 : decode cX12_init 57 = .ok (.putfield 32, 3) := by decide +kernel
theorem dX12_init_60 : decode cX12_init 60 = .ok (.aload_n 0, 1) := by decide +kernel
theorem dX12_init_61 : decode cX12_init 61 = .ok (.bipush 64, 2) := by decide +kernel
theorem dX12_init_63 : decode cX12_init 63 = .ok (.newarray .int, 2) := by decide +kernel
theorem dX12_init_65 : decode cX12_init 65 = .ok (.putfield 35, 3) := by decide +kernel
theorem dX12_init_68 : decode cX12_init 68 = .ok (.aload_n 0, 1) := by decide +kernel
theorem dX12_init_69 : decode cX12_init 69 = .ok (.iconst 0, 1) := by decide +kernel
theorem dX12_init_70 : decode cX12_init 70 = .ok (.putfield 38, 3) := by decide +kernel
theorem dX12_init_73 : decode cX12_init 73 = .ok (.aload_n 0, 1) := by decide +kernel
theorem dX12_init_74 : decode cX12_init 74 = .ok (.sipush 2048, 3) := by decide +kernel
theorem dX12_init_77 : decode cX12_init 77 = .ok (.newarray .int, 2) := by decide +kernel
theorem dX12_init_79 : decode cX12_init 79 = .ok (.putfield 41, 3) := by decide +kernel
theorem dX12_init_82 : decode cX12_init 82 = .ok (.aload_n 0, 1) := by decide +kernel
theorem dX12_init_83 : decode cX12_init 83 = .ok (.bipush 64, 2) := by decide +kernel
theorem dX12_init_85 : decode cX12_init 85 = .ok (.newarray .long, 2) := by decide +kernel
theorem dX12_init_87 : decode cX12_init 87 = .ok (.putfield 44, 3) := by decide +kernel
theorem dX12_init_90 : decode cX12_init 90 = .ok (.aload_n 0, 1) := by decide +kernel
theorem dX12_init_91 : decode cX12_init 91 = .ok (.bipush 32, 2) := by decide +kernel
theorem dX12_init_93 : decode cX12_init 93 = .ok (.newarray .int, 2) := by decide +kernel
theorem dX12_init_95 : decode cX12_init 95 = .ok (.putfield 48, 3) := by decide +kernel
theorem dX12_init_98 : decode cX12_init 98 = .ok (.aload_n 0, 1) := by decide +kernel
theorem dX12_init_99 : decode cX12_init 99 = .ok (.iconst 0, 1) := by decide +kernel
theorem dX12_init_100 : decode cX12_init 100 = .ok (.putfield 51, 3) := by decide +kernel
theorem dX12_init_103 : decode cX12_init 103 = .ok (.aload_n 0, 1) := by decide +kernel
theorem dX12_init_104 : decode cX12_init 104 = .ok (.bipush 16, 2) := by decide +kernel
theorem dX12_init_106 : decode cX12_init 106 = .ok (.putfield 54, 3) := by decide +kernel
theorem dX12_init_109 : decode cX12_init 109 = .ok (.aload_n 0, 1) := by decide +kernel
theorem dX12_init_110 : decode cX12_init 110 = .ok (.iconst 3, 1) := by decide +kernel
theorem dX12_init_111 : decode cX12_init 111 = .ok (.newarray .int, 2) := by decide +kernel
theorem dX12_init_113 : decode cX12_init 113 = .ok (.putfield 57, 3) := by decide +kernel
theorem dX12_init_116 : decode cX12_init 116 = .ok (.aload_n 0, 1) := by decide +kernel
theorem dX12_init_117 : decode cX12_init 117 = .ok (.sipush 768, 3) := by decide +kernel
theorem dX12_init_120 : decode cX12_init 120 = .ok (.newarray .int, 2) := by decide +kernel
theorem dX12_init_122 : decode cX12_init 122 = .ok (.putfield 60, 3) := by decide +kernel
theorem dX12_init_125 : decode cX12_init 125 = .ok (.aload_n 0, 1) := by decide +kernel
theorem dX12_init_126 : decode cX12_init 126 = .ok (.iconst 0, 1) := by decide +kernel
theorem dX12_init_127 : decode cX12_init 127 = .ok (.putfield 63, 3) := by decide +kernel
theorem dX12_init_130 : decode cX12_init 130 = .ok (.aload_n 0, 1) := by decide +kernel
theorem dX12_init_131 : decode cX12_init 131 = .ok (.sipush 128, 3) := by decide +kernel
theorem dX12_init_134 : decode cX12_init 134 = .ok (.newarray .int, 2) := by decide +kernel
theorem dX12_init_136 : decode cX12_init 136 = .ok (.putfield 66, 3) := by decide +kernel
theorem dX12_init_139 : decode cX12_init 139 = .ok (.aload_n 0, 1) := by decide +kernel
theorem dX12_init_140 : decode cX12_init 140 = .ok (.bipush 8, 2) := by decide +kernel
theorem dX12_init_142 : decode cX12_init 142 = .ok (.newarray .long, 2) := by decide +kernel
theorem dX12_init_144 : decode cX12_init 144 = .ok (.putfield 69, 3) := by decide +kernel
theorem dX12_init_147 : decode cX12_init 147 = .ok (.aload_n 0, 1) := by decide +kernel
theorem dX12_init_148 : decode cX12_init 148 = .ok (.bipush 8, 2) := by decide +kernel
theorem dX12_init_150 : decode cX12_init 150 = .ok (.newarray .long, 2) := by decide +kernel
theorem dX12_init_152 : decode cX12_init 152 = .ok (.putfield 72, 3) := by decide +kernel
theorem dX12_init_155 : decode cX12_init 155 = .ok (.aload_n 0, 1) := by decide +kernel
theorem dX12_init_156 : decode cX12_init 156 = .ok (.bipush 80, 2) := by decide +kernel
theorem dX12_init_158 : decode cX12_init 158 = .ok (.newarray .long, 2) := by decide +kernel
theorem dX12_init_160 : decode cX12_init 160 = .ok (.putfield 75, 3) := by decide +kernel
theorem dX12_init_163 : decode cX12_init 163 = .ok (.aload_n 0, 1) := by decide +kernel
theorem dX12_init_164 : decode cX12_init 164 = .ok (.bipush 80, 2) := by decide +kernel
theorem dX12_init_166 : decode cX12_init 166 = .ok (.newarray .long, 2) := by decide +kernel
theorem dX12_init_168 : decode cX12_init 168 = .ok (.putfield 78, 3) := by decide +kernel
theorem dX12_init_171 : decode cX12_init 171 = .ok (.aload_n 0, 1) := by decide +kernel
theorem dX12_init_172 : decode cX12_init 172 = .ok (.bipush 25, 2) := by decide +kernel
theorem dX12_init_174 : decode cX12_init 174 = .ok (.newarray .long, 2) := by decide +kernel
theorem dX12_init_176 : decode cX12_init 176 = .ok (.putfield 81, 3) := by decide +kernel
theorem dX12_init_179 : decode cX12_init 179 = .ok (.aload_n 0, 1) := by decide +kernel
theorem dX12_init_180 : decode cX12_init 180 = .ok (.bipush 25, 2) := by decide +kernel
theorem dX12_init_182 : decode cX12_init 182 = .ok (.newarray .long, 2) := by decide +kernel
theorem dX12_init_184 : decode cX12_init 184 = .ok (.putfield 84, 3) := by decide +kernel
theorem dX12_init_187 : decode cX12_init 187 = .ok (.aload_n 0, 1) := by decide +kernel
theorem dX12_init_188 : decode cX12_init 188 = .ok (.iconst 5, 1) := by decide +kernel
theorem dX12_init_189 : decode cX12_init 189 = .ok (.newarray .long, 2) := by decide +kernel
theorem dX12_init_191 : decode cX12_init 191 = .ok (.putfield 87, 3) := by decide +kernel
theorem dX12_init_194 : decode cX12_init 194 = .ok (.aload_n 0, 1) := by decide +kernel
theorem dX12_init_195 : decode cX12_init 195 = .ok (.bipush 57, 2) := by decide +kernel
theorem dX12_init_197 : decode cX12_init 197 = .ok (.newarray .int, 2) := by decide +kernel
theorem dX12_init_199 : decode cX12_init 199 = .ok (.putfield 90, 3) := by decide +kernel
theorem dX12_init_202 : decode cX12_init 202 = .ok (.aload_n 0, 1) := by decide +kernel
theorem dX12_init_203 : decode cX12_init 203 = .ok (.bipush 57, 2) := by decide +kernel
theorem dX12_init_205 : decode cX12_init 205 = .ok (.newarray .int, 2) := by decide +kernel
theorem dX12_init_207 : decode cX12_init 207 = .ok (.putfield 93, 3) := by decide +kernel
theorem dX12_init_210 : decode cX12_init 210 = .ok (.aload_n 0, 1) := by decide +kernel
theorem dX12_init_211 : decode cX12_init 211 = .ok (.bipush 57, 2) := by decide +kernel
theorem dX12_init_213 : decode cX12_init 213 = .ok (.newarray .int, 2) := by decide +kernel
theorem dX12_init_215 : decode cX12_init 215 = .ok (.putfield 96, 3) := by decide +kernel
theorem dX12_init_218 : decode cX12_init 218 = .ok (.aload_n 0, 1) := by decide +kernel
theorem dX12_init_219 : decode cX12_init 219 = .ok (.bipush 57, 2) := by decide +kernel
theorem dX12_init_221 : decode cX12_init 221 = .ok (.newarray .int, 2) := by decide +kernel
theorem dX12_init_223 : decode cX12_init 223 = .ok (.putfield 99, 3) := by decide +kernel
theorem dX12_init_226 : decode cX12_init 226 = .ok (.aload_n 0, 1) := by decide +kernel
theorem dX12_init_227 : decode cX12_init 227 = .ok (.bipush 57, 2) := by decide +kernel
theorem dX12_init_229 : decode cX12_init 229 = .ok (.newarray .int, 2) := by decide +kernel
theorem dX12_init_231 : decode cX12_init 231 = .ok (.putfield 102, 3) := by decide +kernel
theorem dX12_init_234 : decode cX12_init 234 = .ok (.aload_n 0, 1) := by decide +kernel
theorem dX12_init_235 : decode cX12_init 235 = .ok (.bipush 64, 2) := by decide +kernel
theorem dX12_init_237 : decode cX12_init 237 = .ok (.newarray .int, 2) := by decide +kernel
theorem dX12_init_239 : decode cX12_init 239 = .ok (.putfield 105, 3) := by decide +kernel
theorem dX12_init_242 : decode cX12_init 242 = .ok (.aload_n 0, 1) := by decide +kernel
theorem dX12_init_243 : decode cX12_init 243 = .ok (.sipush 128, 3) := by decide +kernel
theorem dX12_init_246 : decode cX12_init 246 = .ok (.newarray .int, 2) := by decide +kernel
theorem dX12_init_248 : decode cX12_init 248 = .ok (.putfield 108, 3) := by decide +kernel
theorem dX12_init_251 : decode cX12_init 251 = .ok (.aload_n 0, 1) := by decide +kernel
theorem dX12_init_252 : decode cX12_init 252 = .ok (.bipush 57, 2) := by decide +kernel
theorem dX12_init_254 : decode cX12_init 254 = .ok (.newarray .int, 2) := by decide +kernel
theorem dX12_init_256 : decode cX12_init 256 = .ok (.putfield 111, 3) := by decide +kernel
theorem dX12_init_259 : decode cX12_init 259 = .ok (.aload_n 0, 1) := by decide +kernel
theorem dX12_init_260 : decode cX12_init 260 = .ok (.invokevirtual 114, 3) := by decide +kernel
theorem dX12_init_263 : decode cX12_init 263 = .ok (.iconst 0, 1) := by decide +kernel
theorem dX12_init_264 : decode cX12_init 264 = .ok (.istore_n 1, 1) := by decide +kernel
theorem dX12_init_265 : decode cX12_init 265 = .ok (.iload_n 1, 1) := by decide +kernel
theorem dX12_init_266 : decode cX12_init 266 = .ok (.bipush 28, 2) := by decide +kernel
theorem dX12_init_268 : decode cX12_init 268 = .ok (.if_icmp .ge 55, 3) := by decide +kernel
theorem dX12_init_271 : decode cX12_init 271 = .ok (.aload_n 0, 1) := by decide +kernel
theorem dX12_init_272 : decode cX12_init 272 = .ok (.getfield 41, 3) := by decide +kernel
theorem dX12_init_275 : decode cX12_init 275 = .ok (.sipush 288, 3) := by decide +kernel
theorem dX12_init_278 : decode cX12_init 278 = .ok (.iload_n 1, 1) := by decide +kernel
theorem dX12_init_279 : decode cX12_init 279 = .ok (.iadd, 1) := by decide +kernel
theorem dX12_init_280 : decode cX12_init 280 = .ok (.iload_n 1, 1) := by decide +kernel
theorem dX12_init_281 : decode cX12_init 281 = .ok (.bipush 15, 2) := by decide +kernel
theorem dX12_init_283 : decode cX12_init 283 = .ok (.if_icmp .ge 8, 3) := by decide +kernel
theorem dX12_init_286 : decode cX12_init 286 = .ok (.ldc 117, 2) := by decide +kernel
theorem dX12_init_288 : decode cX12_init 288 = .ok (.goto 16, 3) := by decide +kernel
theorem dX12_init_291 : decode cX12_init 291 = .ok (.iload_n 1, 1) := by decide +kernel
theorem dX12_init_292 : decode cX12_init 292 = .ok (.bipush 15, 2) := by decide +kernel
theorem dX12_init_294 : decode cX12_init 294 = .ok (.if_icmp .ne 9, 3) := by decide +kernel
theorem dX12_init_297 : decode cX12_init 297 = .ok (.sipush 32767, 3) := by decide +kernel
theorem dX12_init_300 : decode cX12_init 300 = .ok (.goto 4, 3) := by decide +kernel
theorem dX12_init_303 : decode cX12_init 303 = .ok (.iconst 0, 1) := by decide +kernel
theorem dX12_init_304 : decode cX12_init 304 = .ok (.iastore, 1) := by decide +kernel
theorem dX12_init_305 : decode cX12_init 305 = .ok (.aload_n 0, 1) := by decide +kernel
theorem dX12_init_306 : decode cX12_init 306 = .ok (.getfield 41, 3) := by decide +kernel
theorem dX12_init_309 : decode cX12_init 309 = .ok (.sipush 320, 3) := by decide +kernel
theorem dX12_init_312 : decode cX12_init 312 = .ok (.iload_n 1, 1) := by decide +kernel
theorem dX12_init_313 : decode cX12_init 313 = .ok (.iadd, 1) := by decide +kernel
theorem dX12_init_314 : decode cX12_init 314 = .ok (.ldc 117, 2) := by decide +kernel
theorem dX12_init_316 : decode cX12_init 316 = .ok (.iastore, 1) := by decide +kernel
theorem dX12_init_317 : decode cX12_init 317 = .ok (.iinc 1 1, 3) := by decide +kernel
theorem dX12_init_320 : decode cX12_init 320 = .ok (.goto (-55), 3) := by decide +kernel
theorem dX12_init_323 : decode cX12_init 323 = .ok (.aload_n 0, 1) := by decide +kernel
theorem dX12_init_324 : decode cX12_init 324 = .ok (.getfield 41, 3) := by decide +kernel
theorem dX12_init_327 : decode cX12_init 327 = .ok (.sipush 288, 3) := by decide +kernel
theorem dX12_init_330 : decode cX12_init 330 = .ok (.ldc 118, 2) := by decide +kernel
theorem dX12_init_332 : decode cX12_init 332 = .ok (.iastore, 1) := by decide +kernel
theorem dX12_init_333 : decode cX12_init 333 = .ok (.aload_n 0, 1) := by decide +kernel
theorem dX12_init_334 : decode cX12_init 334 = .ok (.getfield 41, 3) := by decide +kernel
theorem dX12_init_337 : decode cX12_init 337 = .ok (.sipush 334, 3) := by decide +kernel
theorem dX12_init_340 : decode cX12_init 340 = .ok (.ldc 119, 2) := by decide +kernel
theorem dX12_init_342 : decode cX12_init 342 = .ok (.iastore, 1) := by decide +kernel
theorem dX12_init_343 : decode cX12_init 343 = .ok (.aload_n 0, 1) := by decide +kernel
theorem dX12_init_344 : decode cX12_init 344 = .ok (.bipush 19, 2) := by decide +kernel
theorem dX12_init_346 : decode cX12_init 346 = .ok (.iconst 0, 1) := by decide +kernel
theorem dX12_init_347 : decode cX12_init 347 = .ok (.ldc2_w 120, 3) := by decide +kernel
theorem dX12_init_350 : decode cX12_init 350 = .ok (.invokevirtual 122, 3) := by decide +kernel
theorem dX12_init_353 : decode cX12_init 353 = .ok (.aload_n 0, 1) := by decide +kernel
theorem dX12_init_354 : decode cX12_init 354 = .ok (.bipush 19, 2) := by decide +kernel
theorem dX12_init_356 : decode cX12_init 356 = .ok (.iconst 4, 1) := by decide +kernel
theorem dX12_init_357 : decode cX12_init 357 = .ok (.ldc2_w 126, 3) := by decide +kernel
theorem dX12_init_360 : decode cX12_init 360 = .ok (.invokevirtual 122, 3) := by decide +kernel
theorem dX12_init_363 : decode cX12_init 363 = .ok (.aload_n 0, 1) := by decide +kernel
theorem dX12_init_364 : decode cX12_init 364 = .ok (.getfield 41, 3) := by decide +kernel
theorem dX12_init_367 : decode cX12_init 367 = .ok (.sipush 623, 3) := by decide +kernel
theorem dX12_init_370 : decode cX12_init 370 = .ok (.sipush 4096, 3) := by decide +kernel
theorem dX12_init_373 : decode cX12_init 373 = .ok (.iastore, 1) := by decide +kernel
theorem dX12_init_374 : decode cX12_init 374 = .ok (.aload_n 0, 1) := by decide +kernel
theorem dX12_init_375 : decode cX12_init 375 = .ok (.invokevirtual 128, 3) := by decide +kernel
theorem dX12_init_378 : decode cX12_init 378 = .ok (.aload_n 0, 1) := by decide +kernel
theorem dX12_init_379 : decode cX12_init 379 = .ok (.iconst 0, 1) := by decide +kernel
theorem dX12_init_380 : decode cX12_init 380 = .ok (.invokevirtual 131, 3) := by decide +kernel
theorem dX12_init_383 : decode cX12_init 383 = .ok (.aload_n 0, 1) := by decide +kernel
theorem dX12_init_384 : decode cX12_init 384 = .ok (.bipush 21, 2) := by decide +kernel
theorem dX12_init_386 : decode cX12_init 386 = .ok (.ldc 135, 2) := by decide +kernel
theorem dX12_init_388 : decode cX12_init 388 = .ok (.invokevirtual 136, 3) := by decide +kernel
theorem dX12_init_391 : decode cX12_init 391 = .ok (.aload_n 0, 1) := by decide +kernel
theorem dX12_init_392 : decode cX12_init 392 = .ok (.bipush 22, 2) := by decide +kernel
theorem dX12_init_394 : decode cX12_init 394 = .ok (.ldc 140, 2) := by decide +kernel
theorem dX12_init_396 : decode cX12_init 396 = .ok (.invokevirtual 136, 3) := by decide +kernel
theorem dX12_init_399 : decode cX12_init 399 = .ok (.aload_n 0, 1) := by decide +kernel
theorem dX12_init_400 : decode cX12_init 400 = .ok (.bipush 22, 2) := by decide +kernel
theorem dX12_init_402 : decode cX12_init 402 = .ok (.bipush 22, 2) := by decide +kernel
theorem dX12_init_404 : decode cX12_init 404 = .ok (.invokevirtual 141, 3) := by decide +kernel
theorem dX12_init_407 : decode cX12_init 407 = .ok (.aload_n 0, 1) := by decide +kernel
theorem dX12_init_408 : decode cX12_init 408 = .ok (.bipush 21, 2) := by decide +kernel
theorem dX12_init_410 : decode cX12_init 410 = .ok (.bipush 21, 2) := by decide +kernel
theorem dX12_init_412 : decode cX12_init 412 = .ok (.bipush 22, 2) := by decide +kernel
theorem dX12_init_414 : decode cX12_init 414 = .ok (.invokevirtual 144, 3) := by decide +kernel
theorem dX12_init_417 : decode cX12_init 417 = .ok (.aload_n 0, 1) := by decide +kernel
theorem dX12_init_418 : decode cX12_init 418 = .ok (.bipush 22, 2) := by decide +kernel
theorem dX12_init_420 : decode cX12_init 420 = .ok (.invokevirtual 148, 3) := by decide +kernel
theorem dX12_init_423 : decode cX12_init 423 = .ok (.aload_n 0, 1) := by decide +kernel
theorem dX12_init_424 : decode cX12_init 424 = .ok (.bipush 11, 2) := by decide +kernel
theorem dX12_init_426 : decode cX12_init 426 = .ok (.bipush 22, 2) := by decide +kernel
theorem dX12_init_428 : decode cX12_init 428 = .ok (.bipush 21, 2) := by decide +kernel
theorem dX12_init_430 : decode cX12_init 430 = .ok (.invokevirtual 151, 3) := by decide +kernel
theorem dX12_init_433 : decode cX12_init 433 = .ok (.aload_n 0, 1) := by decide +kernel
theorem dX12_init_434 : decode cX12_init 434 = .ok (.bipush 21, 2) := by decide +kernel
theorem dX12_init_436 : decode cX12_init 436 = .ok (.iconst 4, 1) := by decide +kernel
theorem dX12_init_437 : decode cX12_init 437 = .ok (.invokevirtual 136, 3) := by decide +kernel
theorem dX12_init_440 : decode cX12_init 440 = .ok (.aload_n 0, 1) := by decide +kernel
theorem dX12_init_441 : decode cX12_init 441 = .ok (.bipush 22, 2) := by decide +kernel
theorem dX12_init_443 : decode cX12_init 443 = .ok (.iconst 5, 1) := by decide +kernel
theorem dX12_init_444 : decode cX12_init 444 = .ok (.invokevirtual 136, 3) := by decide +kernel
theorem dX12_init_447 : decode cX12_init 447 = .ok (.aload_n 0, 1) := by decide +kernel
theorem dX12_init_448 : decode cX12_init 448 = .ok (.bipush 22, 2) := by decide +kernel
theorem dX12_init_450 : decode cX12_init 450 = .ok (.bipush 22, 2) := by decide +kernel
theorem dX12_init_452 : decode cX12_init 452 = .ok (.invokevirtual 141, 3) := by decide +kernel
theorem dX12_init_455 : decode cX12_init 455 = .ok (.aload_n 0, 1) := by decide +kernel
theorem dX12_init_456 : decode cX12_init 456 = .ok (.bipush 14, 2) := by decide +kernel
theorem dX12_init_458 : decode cX12_init 458 = .ok (.bipush 21, 2) := by decide +kernel
theorem dX12_init_460 : decode cX12_init 460 = .ok (.bipush 22, 2) := by decide +kernel
theorem dX12_init_462 : decode cX12_init 462 = .ok (.invokevirtual 144, 3) := by decide +kernel
theorem dX12_init_465 : decode cX12_init 465 = .ok (.aload_n 0, 1) := by decide +kernel
theorem dX12_init_466 : decode cX12_init 466 = .ok (.bipush 13, 2) := by decide +kernel
theorem dX12_init_468 : decode cX12_init 468 = .ok (.bipush 14, 2) := by decide +kernel
theorem dX12_init_470 : decode cX12_init 470 = .ok (.invokevirtual 154, 3) := by decide +kernel
theorem dX12_init_473 : decode cX12_init 473 = .ok (.pop, 1) := by decide +kernel
theorem dX12_init_474 : decode cX12_init 474 = .ok (.aload_n 0, 1) := by decide +kernel
theorem dX12_init_475 : decode cX12_init 475 = .ok (.bipush 13, 2) := by decide +kernel
theorem dX12_init_477 : decode cX12_init 477 = .ok (.iconst 0, 1) := by decide +kernel
theorem dX12_init_478 : decode cX12_init 478 = .ok (.invokevirtual 158, 3) := by decide +kernel
theorem dX12_init_481 : decode cX12_init 481 = .ok (.aload_n 0, 1) := by decide +kernel
theorem dX12_init_482 : decode cX12_init 482 = .ok (.iconst 1, 1) := by decide +kernel
theorem dX12_init_483 : decode cX12_init 483 = .ok (.invokevirtual 131, 3) := by decide +kernel
theorem dX12_init_486 : decode cX12_init 486 = .ok (.aload_n 0, 1) := by decide +kernel
theorem dX12_init_487 : decode cX12_init 487 = .ok (.bipush 22, 2) := by decide +kernel
theorem dX12_init_489 : decode cX12_init 489 = .ok (.invokevirtual 148, 3) := by decide +kernel
theorem dX12_init_492 : decode cX12_init 492 = .ok (.aload_n 0, 1) := by decide +kernel
theorem dX12_init_493 : decode cX12_init 493 = .ok (.bipush 21, 2) := by decide +kernel
theorem dX12_init_495 : decode cX12_init 495 = .ok (.ldc 161, 2) := by decide +kernel
theorem dX12_init_497 : decode cX12_init 497 = .ok (.invokevirtual 136, 3) := by decide +kernel
theorem dX12_init_500 : decode cX12_init 500 = .ok (.aload_n 0, 1) := by decide +kernel
theorem dX12_init_501 : decode cX12_init 501 = .ok (.bipush 12, 2) := by decide +kernel
theorem dX12_init_503 : decode cX12_init 503 = .ok (.bipush 22, 2) := by decide +kernel
theorem dX12_init_505 : decode cX12_init 505 = .ok (.bipush 21, 2) := by decide +kernel
theorem dX12_init_507 : decode cX12_init 507 = .ok (.invokevirtual 151, 3) := by decide +kernel
theorem dX12_init_510 : decode cX12_init 510 = .ok (.aload_n 0, 1) := by decide +kernel
theorem dX12_init_511 : decode cX12_init 511 = .ok (.invokevirtual 162, 3) := by decide +kernel
theorem dX12_init_514 : decode cX12_init 514 = .ok (.aload_n 0, 1) := by decide +kernel
theorem dX12_init_515 : decode cX12_init 515 = .ok (.iconst 0, 1) := by decide +kernel
theorem dX12_init_516 : decode cX12_init 516 = .ok (.invokevirtual 131, 3) := by decide +kernel
theorem dX12_init_519 : decode cX12_init 519 = .ok (.iconst 0, 1) := by decide +kernel
theorem dX12_init_520 : decode cX12_init 520 = .ok (.istore_n 1, 1) := by decide +kernel
theorem dX12_init_521 : decode cX12_init 521 = .ok (.iload_n 1, 1) := by decide +kernel
theorem dX12_init_522 : decode cX12_init 522 = .ok (.iconst 3, 1) := by decide +kernel
theorem dX12_init_523 : decode cX12_init 523 = .ok (.if_icmp .ge 16, 3) := by decide +kernel
theorem dX12_init_526 : decode cX12_init 526 = .ok (.aload_n 0, 1) := by decide +kernel
theorem dX12_init_527 : decode cX12_init 527 = .ok (.iconst 3, 1) := by decide +kernel
theorem dX12_init_528 : decode cX12_init 528 = .ok (.iload_n 1, 1) := by decide +kernel
theorem dX12_init_529 : decode cX12_init 529 = .ok (.imul, 1) := by decide +kernel
theorem dX12_init_530 : decode cX12_init 530 = .ok (.invokevirtual 165, 3) := by decide +kernel
theorem dX12_init_533 : decode cX12_init 533 = .ok (.iinc 1 1, 3) := by decide +kernel
theorem dX12_init_536 : decode cX12_init 536 = .ok (.goto (-15), 3) := by decide +kernel
theorem dX12_init_539 : decode cX12_init 539 = .ok (.return_, 1) := by decide +kernel
theorem dX12_pieceLong_0 : decode cX12_pieceLong 0 = .ok (.iconst 0, 1) := by decide +kernel
theorem dX12_pieceLong_1 : decode cX12_pieceLong 1 = .ok (.istore 5, 2) := by decide +kernel
theorem dX12_pieceLong_3 : decode cX12_pieceLong 3 = .ok (.iload 5, 2) := by decide +kernel
theorem dX12_pieceLong_5 : decode cX12_pieceLong 5 = .ok (.iconst 4, 1) := by decide +kernel
theorem dX12_pieceLong_6 : decode cX12_pieceLong 6 = .ok (.if_icmp .ge 34, 3) := by decide +kernel
theorem dX12_pieceLong_9 : decode cX12_pieceLong 9 = .ok (.aload_n 0, 1) := by decide +kernel
theorem dX12_pieceLong_10 : decode cX12_pieceLong 10 = .ok (.getfield 41, 3) := by decide +kernel
theorem dX12_pieceLong_13 : decode cX12_pieceLong 13 = .ok (.bipush 32, 2) := by decide +kernel
theorem dX12_pieceLong_15 : decode cX12_pieceLong 15 = .ok (.iload_n 1, 1) := by decide +kernel
theorem dX12_pieceLong_16 : decode cX12_pieceLong 16 = .ok (.imul, 1) := by decide +kernel
theorem dX12_pieceLong_17 : decode cX12_pieceLong 17 = .ok (.iload_n 2, 1) := by decide +kernel
theorem dX12_pieceLong_18 : decode cX12_pieceLong 18 = .ok (.iadd, 1) := by decide +kernel
theorem dX12_pieceLong_19 : decode cX12_pieceLong 19 = .ok (.iload 5, 2) := by decide +kernel
theorem dX12_pieceLong_21 : decode cX12_pieceLong 21 = .ok (.iadd, 1) := by decide +kernel
theorem dX12_pieceLong_22 : decode cX12_pieceLong 22 = .ok (.lload_n 3, 1) := by decide +kernel
theorem dX12_pieceLong_23 : decode cX12_pieceLong 23 = .ok (.bipush 16, 2) := by decide +kernel
theorem dX12_pieceLong_25 : decode cX12_pieceLong 25 = .ok (.iload 5, 2) := by decide +kernel
theorem dX12_pieceLong_27 : decode cX12_pieceLong 27 = .ok (.imul, 1) := by decide +kernel
theorem dX12_pieceLong_28 : decode cX12_pieceLong 28 = .ok (.lshr, 1) := by decide +kernel
theorem dX12_pieceLong_29 : decode cX12_pieceLong 29 = .ok (.l2i, 1) := by decide +kernel
theorem dX12_pieceLong_30 : decode cX12_pieceLong 30 = .ok (.ldc 117, 2) := by decide +kernel
theorem dX12_pieceLong_32 : decode cX12_pieceLong 32 = .ok (.iand, 1) := by decide +kernel
theorem dX12_pieceLong_33 : decode cX12_pieceLong 33 = .ok (.iastore, 1) := by decide +kernel
theorem dX12_pieceLong_34 : decode cX12_pieceLong 34 = .ok (.iinc 5 1, 3) := by decide +kernel
theorem dX12_pieceLong_37 : decode cX12_pieceLong 37 = .ok (.goto (-34), 3) := by decide +kernel
theorem dX12_pieceLong_40 : decode cX12_pieceLong 40 = .ok (.return_, 1) := by decide +kernel
theorem dX12_order448_0 : decode cX12_order448 0 = .ok (.aload_n 0, 1) := by decide +kernel
theorem dX12_order448_1 : decode cX12_order448 1 = .ok (.bipush 21, 2) := by decide +kernel
theorem dX12_order448_3 : decode cX12_order448 3 = .ok (.invokevirtual 168, 3) := by decide +kernel
theorem dX12_order448_6 : decode cX12_order448 6 = .ok (.aload_n 0, 1) := by decide +kernel
theorem dX12_order448_7 : decode cX12_order448 7 = .ok (.bipush 21, 2) := by decide +kernel
theorem dX12_order448_9 : decode cX12_order448 9 = .ok (.iconst 0, 1) := by decide +kernel
theorem dX12_order448_10 : decode cX12_order448 10 = .ok (.ldc2_w 171, 3) := by decide +kernel
theorem dX12_order448_13 : decode cX12_order448 13 = .ok (.invokevirtual 122, 3) := by decide +kernel
theorem dX12_order448_16 : decode cX12_order448 16 = .ok (.aload_n 0, 1) := by decide +kernel
theorem dX12_order448_17 : decode cX12_order448 17 = .ok (.bipush 21, 2) := by decide +kernel
theorem dX12_order448_19 : decode cX12_order448 19 = .ok (.iconst 4, 1) := by decide +kernel
theorem dX12_order448_20 : decode cX12_order448 20 = .ok (.ldc2_w 173, 3) := by decide +kernel
theorem dX12_order448_23 : decode cX12_order448 23 = .ok (.invokevirtual 122, 3) := by decide +kernel
theorem dX12_order448_26 : decode cX12_order448 26 = .ok (.aload_n 0, 1) := by decide +kernel
theorem dX12_order448_27 : decode cX12_order448 27 = .ok (.bipush 21, 2) := by decide +kernel
theorem dX12_order448_29 : decode cX12_order448 29 = .ok (.bipush 8, 2) := by decide +kernel
theorem dX12_order448_31 : decode cX12_order448 31 = .ok (.ldc2_w 175, 3) := by decide +kernel
theorem dX12_order448_34 : decode cX12_order448 34 = .ok (.invokevirtual 122, 3) := by decide +kernel
theorem dX12_order448_37 : decode cX12_order448 37 = .ok (.aload_n 0, 1) := by decide +kernel
theorem dX12_order448_38 : decode cX12_order448 38 = .ok (.getfield 41, 3) := by decide +kernel
theorem dX12_order448_41 : decode cX12_order448 41 = .ok (.sipush 684, 3) := by decide +kernel
theorem dX12_order448_44 : decode cX12_order448 44 = .ok (.ldc 177, 2) := by decide +kernel
theorem dX12_order448_46 : decode cX12_order448 46 = .ok (.iastore, 1) := by decide +kernel
theorem dX12_order448_47 : decode cX12_order448 47 = .ok (.aload_n 0, 1) := by decide +kernel
theorem dX12_order448_48 : decode cX12_order448 48 = .ok (.getfield 41, 3) := by decide +kernel
theorem dX12_order448_51 : decode cX12_order448 51 = .ok (.sipush 685, 3) := by decide +kernel
theorem dX12_order448_54 : decode cX12_order448 54 = .ok (.ldc 178, 2) := by decide +kernel
theorem dX12_order448_56 : decode cX12_order448 56 = .ok (.iastore, 1) := by decide +kernel
theorem dX12_order448_57 : decode cX12_order448 57 = .ok (.aload_n 0, 1) := by decide +kernel
theorem dX12_order448_58 : decode cX12_order448 58 = .ok (.bipush 20, 2) := by decide +kernel
theorem dX12_order448_60 : decode cX12_order448 60 = .ok (.invokevirtual 168, 3) := by decide +kernel
theorem dX12_order448_63 : decode cX12_order448 63 = .ok (.iconst 0, 1) := by decide +kernel
theorem dX12_order448_64 : decode cX12_order448 64 = .ok (.istore_n 1, 1) := by decide +kernel
theorem dX12_order448_65 : decode cX12_order448 65 = .ok (.iconst 0, 1) := by decide +kernel
theorem dX12_order448_66 : decode cX12_order448 66 = .ok (.istore_n 2, 1) := by decide +kernel
theorem dX12_order448_67 : decode cX12_order448 67 = .ok (.iload_n 2, 1) := by decide +kernel
theorem dX12_order448_68 : decode cX12_order448 68 = .ok (.bipush 28, 2) := by decide +kernel
theorem dX12_order448_70 : decode cX12_order448 70 = .ok (.if_icmp .ge 60, 3) := by decide +kernel
theorem dX12_order448_73 : decode cX12_order448 73 = .ok (.iload_n 2, 1) := by decide +kernel
theorem dX12_order448_74 : decode cX12_order448 74 = .ok (.bipush 27, 2) := by decide +kernel
theorem dX12_order448_76 : decode cX12_order448 76 = .ok (.if_icmp .ne 9, 3) := by decide +kernel
theorem dX12_order448_79 : decode cX12_order448 79 = .ok (.sipush 16384, 3) := by decide +kernel
theorem dX12_order448_82 : decode cX12_order448 82 = .ok (.goto 4, 3) := by decide +kernel
theorem dX12_order448_85 : decode cX12_order448 85 = .ok (.iconst 0, 1) := by decide +kernel
theorem dX12_order448_86 : decode cX12_order448 86 = .ok (.aload_n 0, 1) := by decide +kernel
theorem dX12_order448_87 : decode cX12_order448 87 = .ok (.getfield 41, 3) := by decide +kernel
theorem dX12_order448_90 : decode cX12_order448 90 = .ok (.sipush 672, 3) := by decide +kernel
theorem dX12_order448_93 : decode cX12_order448 93 = .ok (.iload_n 2, 1) := by decide +kernel
theorem dX12_order448_94 : decode cX12_order448 94 = .ok (.iadd, 1) := by decide +kernel
theorem dX12_order448_95 : decode cX12_order448 95 = .ok (.iaload, 1) := by decide +kernel
theorem dX12_order448_96 : decode cX12_order448 96 = .ok (.isub, 1) := by decide +kernel
theorem dX12_order448_97 : decode cX12_order448 97 = .ok (.iload_n 1, 1) := by decide +kernel
theorem dX12_order448_98 : decode cX12_order448 98 = .ok (.isub, 1) := by decide +kernel
theorem dX12_order448_99 : decode cX12_order448 99 = .ok (.istore_n 3, 1) := by decide +kernel
theorem dX12_order448_100 : decode cX12_order448 100 = .ok (.iload_n 3, 1) := by decide +kernel
theorem dX12_order448_101 : decode cX12_order448 101 = .ok (.ifCond .ge 7, 3) := by decide +kernel
theorem dX12_order448_104 : decode cX12_order448 104 = .ok (.iconst 1, 1) := by decide +kernel
theorem dX12_order448_105 : decode cX12_order448 105 = .ok (.goto 4, 3) := by decide +kernel
theorem dX12_order448_108 : decode cX12_order448 108 = .ok (.iconst 0, 1) := by decide +kernel
theorem dX12_order448_109 : decode cX12_order448 109 = .ok (.istore_n 1, 1) := by decide +kernel
theorem dX12_order448_110 : decode cX12_order448 110 = .ok (.aload_n 0, 1) := by decide +kernel
theorem dX12_order448_111 : decode cX12_order448 111 = .ok (.getfield 41, 3) := by decide +kernel
theorem dX12_order448_114 : decode cX12_order448 114 = .ok (.sipush 640, 3) := by decide +kernel
theorem dX12_order448_117 : decode cX12_order448 117 = .ok (.iload_n 2, 1) := by decide +kernel
theorem dX12_order448_118 : decode cX12_order448 118 = .ok (.iadd, 1) := by decide +kernel
theorem dX12_order448_119 : decode cX12_order448 119 = .ok (.iload_n 3, 1) := by decide +kernel
theorem dX12_order448_120 : decode cX12_order448 120 = .ok (.ldc 117, 2) := by decide +kernel
theorem dX12_order448_122 : decode cX12_order448 122 = .ok (.iand, 1) := by decide +kernel
theorem dX12_order448_123 : decode cX12_order448 123 = .ok (.iastore, 1) := by decide +kernel
theorem dX12_order448_124 : decode cX12_order448 124 = .ok (.iinc 2 1, 3) := by decide +kernel
theorem dX12_order448_127 : decode cX12_order448 127 = .ok (.goto (-60), 3) := by decide +kernel
theorem dX12_order448_130 : decode cX12_order448 130 = .ok (.return_, 1) := by decide +kernel
theorem dX12_zero28_0 : decode cX12_zero28 0 = .ok (.iconst 0, 1) := by decide +kernel
theorem dX12_zero28_1 : decode cX12_zero28 1 = .ok (.istore_n 2, 1) := by decide +kernel
theorem dX12_zero28_2 : decode cX12_zero28 2 = .ok (.iload_n 2, 1) := by decide +kernel
theorem dX12_zero28_3 : decode cX12_zero28 3 = .ok (.bipush 32, 2) := by decide +kernel
theorem dX12_zero28_5 : decode cX12_zero28 5 = .ok (.if_icmp .ge 21, 3) := by decide +kernel
theorem dX12_zero28_8 : decode cX12_zero28 8 = .ok (.aload_n 0, 1) := by decide +kernel
theorem dX12_zero28_9 : decode cX12_zero28 9 = .ok (.getfield 41, 3) := by decide +kernel
theorem dX12_zero28_12 : decode cX12_zero28 12 = .ok (.bipush 32, 2) := by decide +kernel
theorem dX12_zero28_14 : decode cX12_zero28 14 = .ok (.iload_n 1, 1) := by decide +kernel
theorem dX12_zero28_15 : decode cX12_zero28 15 = .ok (.imul, 1) := by decide +kernel
theorem dX12_zero28_16 : decode cX12_zero28 16 = .ok (.iload_n 2, 1) := by decide +kernel
theorem dX12_zero28_17 : decode cX12_zero28 17 = .ok (.iadd, 1) := by decide +kernel
theorem dX12_zero28_18 : decode cX12_zero28 18 = .ok (.iconst 0, 1) := by decide +kernel
theorem dX12_zero28_19 : decode cX12_zero28 19 = .ok (.iastore, 1) := by decide +kernel
theorem dX12_zero28_20 : decode cX12_zero28 20 = .ok (.iinc 2 1, 3) := by decide +kernel
theorem dX12_zero28_23 : decode cX12_zero28 23 = .ok (.goto (-21), 3) := by decide +kernel
theorem dX12_zero28_26 : decode cX12_zero28 26 = .ok (.return_, 1) := by decide +kernel
theorem dX12_choose_0 : decode cX12_choose 0 = .ok (.aload_n 0, 1) := by decide +kernel
theorem dX12_choose_1 : decode cX12_choose 1 = .ok (.iload_n 1, 1) := by decide +kernel
theorem dX12_choose_2 : decode cX12_choose 2 = .ok (.putfield 51, 3) := by decide +kernel
theorem dX12_choose_5 : decode cX12_choose 5 = .ok (.aload_n 0, 1) := by decide +kernel
theorem dX12_choose_6 : decode cX12_choose 6 = .ok (.iload_n 1, 1) := by decide +kernel
theorem dX12_choose_7 : decode cX12_choose 7 = .ok (.ifCond .ne 8, 3) := by decide +kernel
theorem dX12_choose_10 : decode cX12_choose 10 = .ok (.bipush 16, 2) := by decide +kernel
theorem dX12_choose_12 : decode cX12_choose 12 = .ok (.goto 5, 3) := by decide +kernel
theorem dX12_choose_15 : decode cX12_choose 15 = .ok (.bipush 28, 2) := by decide +kernel
theorem dX12_choose_17 : decode cX12_choose 17 = .ok (.putfield 54, 3) := by decide +kernel
theorem dX12_choose_20 : decode cX12_choose 20 = .ok (.return_, 1) := by decide +kernel
theorem dX12_zero_0 : decode cX12_zero 0 = .ok (.aload_n 0, 1) := by decide +kernel
theorem dX12_zero_1 : decode cX12_zero 1 = .ok (.iload_n 1, 1) := by decide +kernel
theorem dX12_zero_2 : decode cX12_zero 2 = .ok (.invokevirtual 168, 3) := by decide +kernel
theorem dX12_zero_5 : decode cX12_zero 5 = .ok (.return_, 1) := by decide +kernel
theorem dX12_small_0 : decode cX12_small 0 = .ok (.aload_n 0, 1) := by decide +kernel
theorem dX12_small_1 : decode cX12_small 1 = .ok (.iload_n 1, 1) := by decide +kernel
theorem dX12_small_2 : decode cX12_small 2 = .ok (.invokevirtual 168, 3) := by decide +kernel
theorem dX12_small_5 : decode cX12_small 5 = .ok (.aload_n 0, 1) := by decide +kernel
theorem dX12_small_6 : decode cX12_small 6 = .ok (.getfield 41, 3) := by decide +kernel
theorem dX12_small_9 : decode cX12_small 9 = .ok (.bipush 32, 2) := by decide +kernel
theorem dX12_small_11 : decode cX12_small 11 = .ok (.iload_n 1, 1) := by decide +kernel
theorem dX12_small_12 : decode cX12_small 12 = .ok (.imul, 1) := by decide +kernel
theorem dX12_small_13 : decode cX12_small 13 = .ok (.iload_n 2, 1) := by decide +kernel
theorem dX12_small_14 : decode cX12_small 14 = .ok (.ldc 117, 2) := by decide +kernel
theorem dX12_small_16 : decode cX12_small 16 = .ok (.iand, 1) := by decide +kernel
theorem dX12_small_17 : decode cX12_small 17 = .ok (.iastore, 1) := by decide +kernel
theorem dX12_small_18 : decode cX12_small 18 = .ok (.aload_n 0, 1) := by decide +kernel
theorem dX12_small_19 : decode cX12_small 19 = .ok (.getfield 41, 3) := by decide +kernel
theorem dX12_small_22 : decode cX12_small 22 = .ok (.bipush 32, 2) := by decide +kernel
theorem dX12_small_24 : decode cX12_small 24 = .ok (.iload_n 1, 1) := by decide +kernel
theorem dX12_small_25 : decode cX12_small 25 = .ok (.imul, 1) := by decide +kernel
theorem dX12_small_26 : decode cX12_small 26 = .ok (.iconst 1, 1) := by decide +kernel
theorem dX12_small_27 : decode cX12_small 27 = .ok (.iadd, 1) := by decide +kernel
theorem dX12_small_28 : decode cX12_small 28 = .ok (.iload_n 2, 1) := by decide +kernel
theorem dX12_small_29 : decode cX12_small 29 = .ok (.bipush 16, 2) := by decide +kernel
theorem dX12_small_31 : decode cX12_small 31 = .ok (.iushr, 1) := by decide +kernel
theorem dX12_small_32 : decode cX12_small 32 = .ok (.iastore, 1) := by decide +kernel
theorem dX12_small_33 : decode cX12_small 33 = .ok (.return_, 1) := by decide +kernel
theorem dX12_copy_0 : decode cX12_copy 0 = .ok (.iconst 0, 1) := by decide +kernel
theorem dX12_copy_1 : decode cX12_copy 1 = .ok (.istore_n 3, 1) := by decide +kernel
theorem dX12_copy_2 : decode cX12_copy 2 = .ok (.iload_n 3, 1) := by decide +kernel
theorem dX12_copy_3 : decode cX12_copy 3 = .ok (.bipush 32, 2) := by decide +kernel
theorem dX12_copy_5 : decode cX12_copy 5 = .ok (.if_icmp .ge 31, 3) := by decide +kernel
theorem dX12_copy_8 : decode cX12_copy 8 = .ok (.aload_n 0, 1) := by decide +kernel
theorem dX12_copy_9 : decode cX12_copy 9 = .ok (.getfield 41, 3) := by decide +kernel
theorem dX12_copy_12 : decode cX12_copy 12 = .ok (.bipush 32, 2) := by decide +kernel
theorem dX12_copy_14 : decode cX12_copy 14 = .ok (.iload_n 1, 1) := by decide +kernel
theorem dX12_copy_15 : decode cX12_copy 15 = .ok (.imul, 1) := by decide +kernel
theorem dX12_copy_16 : decode cX12_copy 16 = .ok (.iload_n 3, 1) := by decide +kernel
theorem dX12_copy_17 : decode cX12_copy 17 = .ok (.iadd, 1) := by decide +kernel
theorem dX12_copy_18 : decode cX12_copy 18 = .ok (.aload_n 0, 1) := by decide +kernel
theorem dX12_copy_19 : decode cX12_copy 19 = .ok (.getfield 41, 3) := by decide +kernel
theorem dX12_copy_22 : decode cX12_copy 22 = .ok (.bipush 32, 2) := by decide +kernel
theorem dX12_copy_24 : decode cX12_copy 24 = .ok (.iload_n 2, 1) := by decide +kernel
theorem dX12_copy_25 : decode cX12_copy 25 = .ok (.imul, 1) := by decide +kernel
theorem dX12_copy_26 : decode cX12_copy 26 = .ok (.iload_n 3, 1) := by decide +kernel
theorem dX12_copy_27 : decode cX12_copy 27 = .ok (.iadd, 1) := by decide +kernel
theorem dX12_copy_28 : decode cX12_copy 28 = .ok (.iaload, 1) := by decide +kernel
theorem dX12_copy_29 : decode cX12_copy 29 = .ok (.iastore, 1) := by decide +kernel
theorem dX12_copy_30 : decode cX12_copy 30 = .ok (.iinc 3 1, 3) := by decide +kernel
theorem dX12_copy_33 : decode cX12_copy 33 = .ok (.goto (-31), 3) := by decide +kernel
theorem dX12_copy_36 : decode cX12_copy 36 = .ok (.return_, 1) := by decide +kernel
theorem dX12_atLeast_0 : decode cX12_atLeast 0 = .ok (.bipush 27, 2) := by decide +kernel
theorem dX12_atLeast_2 : decode cX12_atLeast 2 = .ok (.istore_n 3, 1) := by decide +kernel
theorem dX12_atLeast_3 : decode cX12_atLeast 3 = .ok (.iload_n 3, 1) := by decide +kernel
theorem dX12_atLeast_4 : decode cX12_atLeast 4 = .ok (.ifCond .lt 65, 3) := by decide +kernel
theorem dX12_atLeast_7 : decode cX12_atLeast 7 = .ok (.aload_n 0, 1) := by decide +kernel
theorem dX12_atLeast_8 : decode cX12_atLeast 8 = .ok (.getfield 41, 3) := by decide +kernel
theorem dX12_atLeast_11 : decode cX12_atLeast 11 = .ok (.bipush 32, 2) := by decide +kernel
theorem dX12_atLeast_13 : decode cX12_atLeast 13 = .ok (.iload_n 1, 1) := by decide +kernel
theorem dX12_atLeast_14 : decode cX12_atLeast 14 = .ok (.imul, 1) := by decide +kernel
theorem dX12_atLeast_15 : decode cX12_atLeast 15 = .ok (.iload_n 3, 1) := by decide +kernel
theorem dX12_atLeast_16 : decode cX12_atLeast 16 = .ok (.iadd, 1) := by decide +kernel
theorem dX12_atLeast_17 : decode cX12_atLeast 17 = .ok (.iaload, 1) := by decide +kernel
theorem dX12_atLeast_18 : decode cX12_atLeast 18 = .ok (.aload_n 0, 1) := by decide +kernel
theorem dX12_atLeast_19 : decode cX12_atLeast 19 = .ok (.getfield 41, 3) := by decide +kernel
theorem dX12_atLeast_22 : decode cX12_atLeast 22 = .ok (.bipush 32, 2) := by decide +kernel
theorem dX12_atLeast_24 : decode cX12_atLeast 24 = .ok (.iload_n 2, 1) := by decide +kernel
theorem dX12_atLeast_25 : decode cX12_atLeast 25 = .ok (.imul, 1) := by decide +kernel
theorem dX12_atLeast_26 : decode cX12_atLeast 26 = .ok (.iload_n 3, 1) := by decide +kernel
theorem dX12_atLeast_27 : decode cX12_atLeast 27 = .ok (.iadd, 1) := by decide +kernel
theorem dX12_atLeast_28 : decode cX12_atLeast 28 = .ok (.iaload, 1) := by decide +kernel
theorem dX12_atLeast_29 : decode cX12_atLeast 29 = .ok (.if_icmp .eq 34, 3) := by decide +kernel
theorem dX12_atLeast_32 : decode cX12_atLeast 32 = .ok (.aload_n 0, 1) := by decide +kernel
theorem dX12_atLeast_33 : decode cX12_atLeast 33 = .ok (.getfield 41, 3) := by decide +kernel
theorem dX12_atLeast_36 : decode cX12_atLeast 36 = .ok (.bipush 32, 2) := by decide +kernel
theorem dX12_atLeast_38 : decode cX12_atLeast 38 = .ok (.iload_n 1, 1) := by decide +kernel
theorem dX12_atLeast_39 : decode cX12_atLeast 39 = .ok (.imul, 1) := by decide +kernel
theorem dX12_atLeast_40 : decode cX12_atLeast 40 = .ok (.iload_n 3, 1) := by decide +kernel
theorem dX12_atLeast_41 : decode cX12_atLeast 41 = .ok (.iadd, 1) := by decide +kernel
theorem dX12_atLeast_42 : decode cX12_atLeast 42 = .ok (.iaload, 1) := by decide +kernel
theorem dX12_atLeast_43 : decode cX12_atLeast 43 = .ok (.aload_n 0, 1) := by decide +kernel
theorem dX12_atLeast_44 : decode cX12_atLeast 44 = .ok (.getfield 41, 3) := by decide +kernel
theorem dX12_atLeast_47 : decode cX12_atLeast 47 = .ok (.bipush 32, 2) := by decide +kernel
theorem dX12_atLeast_49 : decode cX12_atLeast 49 = .ok (.iload_n 2, 1) := by decide +kernel
theorem dX12_atLeast_50 : decode cX12_atLeast 50 = .ok (.imul, 1) := by decide +kernel
theorem dX12_atLeast_51 : decode cX12_atLeast 51 = .ok (.iload_n 3, 1) := by decide +kernel
theorem dX12_atLeast_52 : decode cX12_atLeast 52 = .ok (.iadd, 1) := by decide +kernel
theorem dX12_atLeast_53 : decode cX12_atLeast 53 = .ok (.iaload, 1) := by decide +kernel
theorem dX12_atLeast_54 : decode cX12_atLeast 54 = .ok (.if_icmp .le 7, 3) := by decide +kernel
theorem dX12_atLeast_57 : decode cX12_atLeast 57 = .ok (.iconst 1, 1) := by decide +kernel
theorem dX12_atLeast_58 : decode cX12_atLeast 58 = .ok (.goto 4, 3) := by decide +kernel
theorem dX12_atLeast_61 : decode cX12_atLeast 61 = .ok (.iconst 0, 1) := by decide +kernel
theorem dX12_atLeast_62 : decode cX12_atLeast 62 = .ok (.ireturn, 1) := by decide +kernel
theorem dX12_atLeast_63 : decode cX12_atLeast 63 = .ok (.iinc 3 (-1), 3) := by decide +kernel
theorem dX12_atLeast_66 : decode cX12_atLeast 66 = .ok (.goto (-63), 3) := by decide +kernel
theorem dX12_atLeast_69 : decode cX12_atLeast 69 = .ok (.iconst 1, 1) := by decide +kernel
theorem dX12_atLeast_70 : decode cX12_atLeast 70 = .ok (.ireturn, 1) := by decide +kernel
theorem dX12_equal_0 : decode cX12_equal 0 = .ok (.iconst 0, 1) := by decide +kernel
theorem dX12_equal_1 : decode cX12_equal 1 = .ok (.istore_n 3, 1) := by decide +kernel
theorem dX12_equal_2 : decode cX12_equal 2 = .ok (.iload_n 3, 1) := by decide +kernel
theorem dX12_equal_3 : decode cX12_equal 3 = .ok (.bipush 28, 2) := by decide +kernel
theorem dX12_equal_5 : decode cX12_equal 5 = .ok (.if_icmp .ge 36, 3) := by decide +kernel
theorem dX12_equal_8 : decode cX12_equal 8 = .ok (.aload_n 0, 1) := by decide +kernel
theorem dX12_equal_9 : decode cX12_equal 9 = .ok (.getfield 41, 3) := by decide +kernel
theorem dX12_equal_12 : decode cX12_equal 12 = .ok (.bipush 32, 2) := by decide +kernel
theorem dX12_equal_14 : decode cX12_equal 14 = .ok (.iload_n 1, 1) := by decide +kernel
theorem dX12_equal_15 : decode cX12_equal 15 = .ok (.imul, 1) := by decide +kernel
theorem dX12_equal_16 : decode cX12_equal 16 = .ok (.iload_n 3, 1) := by decide +kernel
theorem dX12_equal_17 : decode cX12_equal 17 = .ok (.iadd, 1) := by decide +kernel
theorem dX12_equal_18 : decode cX12_equal 18 = .ok (.iaload, 1) := by decide +kernel
theorem dX12_equal_19 : decode cX12_equal 19 = .ok (.aload_n 0, 1) := by decide +kernel
theorem dX12_equal_20 : decode cX12_equal 20 = .ok (.getfield 41, 3) := by decide +kernel
theorem dX12_equal_23 : decode cX12_equal 23 = .ok (.bipush 32, 2) := by decide +kernel
theorem dX12_equal_25 : decode cX12_equal 25 = .ok (.iload_n 2, 1) := by decide +kernel
theorem dX12_equal_26 : decode cX12_equal 26 = .ok (.imul, 1) := by decide +kernel
theorem dX12_equal_27 : decode cX12_equal 27 = .ok (.iload_n 3, 1) := by decide +kernel
theorem dX12_equal_28 : decode cX12_equal 28 = .ok (.iadd, 1) := by decide +kernel
theorem dX12_equal_29 : decode cX12_equal 29 = .ok (.iaload, 1) := by decide +kernel
theorem dX12_equal_30 : decode cX12_equal 30 = .ok (.if_icmp .eq 5, 3) := by decide +kernel
theorem dX12_equal_33 : decode cX12_equal 33 = .ok (.iconst 0, 1) := by decide +kernel
theorem dX12_equal_34 : decode cX12_equal 34 = .ok (.ireturn, 1) := by decide +kernel
theorem dX12_equal_35 : decode cX12_equal 35 = .ok (.iinc 3 1, 3) := by decide +kernel
theorem dX12_equal_38 : decode cX12_equal 38 = .ok (.goto (-36), 3) := by decide +kernel
theorem dX12_equal_41 : decode cX12_equal 41 = .ok (.iconst 1, 1) := by decide +kernel
theorem dX12_equal_42 : decode cX12_equal 42 = .ok (.ireturn, 1) := by decide +kernel
theorem dX12_isZero_0 : decode cX12_isZero 0 = .ok (.iconst 0, 1) := by decide +kernel
theorem dX12_isZero_1 : decode cX12_isZero 1 = .ok (.istore_n 2, 1) := by decide +kernel
