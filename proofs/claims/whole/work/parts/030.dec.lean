theorem dX0_init_0 : decode cX0_init 0 = .ok (.aload_n 0, 1) := by decide +kernel
theorem dX0_init_1 : decode cX0_init 1 = .ok (.invokespecial 3, 3) := by decide +kernel
theorem dX0_init_4 : decode cX0_init 4 = .ok (.aload_n 0, 1) := by decide +kernel
theorem dX0_init_5 : decode cX0_init 5 = .ok (.bipush 57, 2) := by decide +kernel
theorem dX0_init_7 : decode cX0_init 7 = .ok (.newarray .int, 2) := by decide +kernel
theorem dX0_init_9 : decode cX0_init 9 = .ok (.putfield 9, 3) := by decide +kernel
theorem dX0_init_12 : decode cX0_init 12 = .ok (.aload_n 0, 1) := by decide +kernel
theorem dX0_init_13 : decode cX0_init 13 = .ok (.bipush 16, 2) := by decide +kernel
theorem dX0_init_15 : decode cX0_init 15 = .ok (.newarray .long, 2) := by decide +kernel
theorem dX0_init_17 : decode cX0_init 17 = .ok (.putfield 17, 3) := by decide +kernel
theorem dX0_init_20 : decode cX0_init 20 = .ok (.aload_n 0, 1) := by decide +kernel
theorem dX0_init_21 : decode cX0_init 21 = .ok (.bipush 16, 2) := by decide +kernel
theorem dX0_init_23 : decode cX0_init 23 = .ok (.newarray .long, 2) := by decide +kernel
theorem dX0_init_25 : decode cX0_init 25 = .ok (.putfield 21, 3) := by decide +kernel
theorem dX0_init_28 : decode cX0_init 28 = .ok (.aload_n 0, 1) := by decide +kernel
theorem dX0_init_29 : decode cX0_init 29 = .ok (.bipush 16, 2) := by decide +kernel
theorem dX0_init_31 : decode cX0_init 31 = .ok (.newarray .long, 2) := by decide +kernel
theorem dX0_init_33 : decode cX0_init 33 = .ok (.putfield 24, 3) := by decide +kernel
theorem dX0_init_36 : decode cX0_init 36 = .ok (.aload_n 0, 1) := by decide +kernel
theorem dX0_init_37 : decode cX0_init 37 = .ok (.bipush 16, 2) := by decide +kernel
theorem dX0_init_39 : decode cX0_init 39 = .ok (.newarray .long, 2) := by decide +kernel
theorem dX0_init_41 : decode cX0_init 41 = .ok (.putfield 27, 3) := by decide +kernel
theorem dX0_init_44 : decode cX0_init 44 = .ok (.aload_n 0, 1) := by decide +kernel
theorem dX0_init_45 : decode cX0_init 45 = .ok (.bipush 16, 2) := by decide +kernel
theorem dX0_init_47 : decode cX0_init 47 = .ok (.newarray .long, 2) := by decide +kernel
theorem dX0_init_49 : decode cX0_init 49 = .ok (.putfield 30, 3) := by decide +kernel
theorem dX0_init_52 : decode cX0_init 52 = .ok (.aload_n 0, 1) := by decide +kernel
theorem dX0_init_53 : decode cX0_init 53 = .ok (.bipush 16, 2) := by decide +kernel
theorem dX0_init_55 : decode cX0_init 55 = .ok (.newarray .long, 2) := by decide +kernel
theorem dX0_init_57 : decode cX0_init 57 = .ok (.putfield 33, 3) := by decide +kernel
theorem dX0_init_60 : decode cX0_init 60 = .ok (.aload_n 0, 1) := by decide +kernel
theorem dX0_init_61 : decode cX0_init 61 = .ok (.bipush 16, 2) := by decide +kernel
theorem dX0_init_63 : decode cX0_init 63 = .ok (.newarray .long, 2) := by decide +kernel
theorem dX0_init_65 : decode cX0_init 65 = .ok (.putfield 36, 3) := by decide +kernel
theorem dX0_init_68 : decode cX0_init 68 = .ok (.aload_n 0, 1) := by decide +kernel
theorem dX0_init_69 : decode cX0_init 69 = .ok (.bipush 16, 2) := by decide +kernel
theorem dX0_init_71 : decode cX0_init 71 = .ok (.newarray .long, 2) := by decide +kernel
theorem dX0_init_73 : decode cX0_init 73 = .ok (.putfield 39, 3) := by decide +kernel
theorem dX0_init_76 : decode cX0_init 76 = .ok (.aload_n 0, 1) := by decide +kernel
theorem dX0_init_77 : decode cX0_init 77 = .ok (.bipush 16, 2) := by decide +kernel
theorem dX0_init_79 : decode cX0_init 79 = .ok (.newarray .long, 2) := by decide +kernel
theorem dX0_init_81 : decode cX0_init 81 = .ok (.putfield 42, 3) := by decide +kernel
theorem dX0_init_84 : decode cX0_init 84 = .ok (.aload_n 0, 1) := by decide +kernel
theorem dX0_init_85 : decode cX0_init 85 = .ok (.bipush 16, 2) := by decide +kernel
theorem dX0_init_87 : decode cX0_init 87 = .ok (.newarray .long, 2) := by decide +kernel
theorem dX0_init_89 : decode cX0_init 89 = .ok (.putfield 45, 3) := by decide +kernel
theorem dX0_init_92 : decode cX0_init 92 = .ok (.aload_n 0, 1) := by decide +kernel
theorem dX0_init_93 : decode cX0_init 93 = .ok (.iload_n 1, 1) := by decide +kernel
theorem dX0_init_94 : decode cX0_init 94 = .ok (.putfield 48, 3) := by decide +kernel
theorem dX0_init_97 : decode cX0_init 97 = .ok (.aload_n 0, 1) := by decide +kernel
theorem dX0_init_98 : decode cX0_init 98 = .ok (.aload_n 2, 1) := by decide +kernel
theorem dX0_init_99 : decode cX0_init 99 = .ok (.putfield 52, 3) := by decide +kernel
theorem dX0_init_102 : decode cX0_init 102 = .ok (.aload_n 0, 1) := by decide +kernel
theorem dX0_init_103 : decode cX0_init 103 = .ok (.iload_n 1, 1) := by decide +kernel
theorem dX0_init_104 : decode cX0_init 104 = .ok (.ifCond .eq 8, 3) := by decide +kernel
theorem dX0_init_107 : decode cX0_init 107 = .ok (.bipush 56, 2) := by decide +kernel
theorem dX0_init_109 : decode cX0_init 109 = .ok (.goto 5, 3) := by decide +kernel
theorem dX0_init_112 : decode cX0_init 112 = .ok (.bipush 32, 2) := by decide +kernel
theorem dX0_init_114 : decode cX0_init 114 = .ok (.putfield 56, 3) := by decide +kernel
theorem dX0_init_117 : decode cX0_init 117 = .ok (.return_, 1) := by decide +kernel
theorem dX0_startFromBase_0 : decode cX0_startFromBase 0 = .ok (.aload_n 0, 1) := by decide +kernel
theorem dX0_startFromBase_1 : decode cX0_startFromBase 1 = .ok (.getfield 17, 3) := by decide +kernel
theorem dX0_startFromBase_4 : decode cX0_startFromBase 4 = .ok (.lconst 0, 1) := by decide +kernel
theorem dX0_startFromBase_5 : decode cX0_startFromBase 5 = .ok (.invokestatic 60, 3) := by decide +kernel
theorem dX0_startFromBase_8 : decode cX0_startFromBase 8 = .ok (.aload_n 0, 1) := by decide +kernel
theorem dX0_startFromBase_9 : decode cX0_startFromBase 9 = .ok (.getfield 17, 3) := by decide +kernel
theorem dX0_startFromBase_12 : decode cX0_startFromBase 12 = .ok (.iconst 0, 1) := by decide +kernel
theorem dX0_startFromBase_13 : decode cX0_startFromBase 13 = .ok (.aload_n 0, 1) := by decide +kernel
theorem dX0_startFromBase_14 : decode cX0_startFromBase 14 = .ok (.getfield 48, 3) := by decide +kernel
theorem dX0_startFromBase_17 : decode cX0_startFromBase 17 = .ok (.ifCond .eq 9, 3) := by decide +kernel
theorem dX0_startFromBase_20 : decode cX0_startFromBase 20 = .ok (.ldc2_w 66, 3) := by decide +kernel
theorem dX0_startFromBase_23 : decode cX0_startFromBase 23 = .ok (.goto 6, 3) := by decide +kernel
theorem dX0_startFromBase_26 : decode cX0_startFromBase 26 = .ok (.ldc2_w 68, 3) := by decide +kernel
theorem dX0_startFromBase_29 : decode cX0_startFromBase 29 = .ok (.lastore, 1) := by decide +kernel
theorem dX0_startFromBase_30 : decode cX0_startFromBase 30 = .ok (.return_, 1) := by decide +kernel
theorem dX0_startFrom_0 : decode cX0_startFrom 0 = .ok (.aload_n 0, 1) := by decide +kernel
theorem dX0_startFrom_1 : decode cX0_startFrom 1 = .ok (.getfield 52, 3) := by decide +kernel
theorem dX0_startFrom_4 : decode cX0_startFrom 4 = .ok (.aload_n 0, 1) := by decide +kernel
theorem dX0_startFrom_5 : decode cX0_startFrom 5 = .ok (.getfield 17, 3) := by decide +kernel
theorem dX0_startFrom_8 : decode cX0_startFrom 8 = .ok (.aload_n 1, 1) := by decide +kernel
theorem dX0_startFrom_9 : decode cX0_startFrom 9 = .ok (.invokevirtual 70, 3) := by decide +kernel
theorem dX0_startFrom_12 : decode cX0_startFrom 12 = .ok (.return_, 1) := by decide +kernel
theorem dX0_climb_0 : decode cX0_climb 0 = .ok (.aload_n 0, 1) := by decide +kernel
theorem dX0_climb_1 : decode cX0_climb 1 = .ok (.aload_n 2, 1) := by decide +kernel
theorem dX0_climb_2 : decode cX0_climb 2 = .ok (.invokevirtual 76, 3) := by decide +kernel
theorem dX0_climb_5 : decode cX0_climb 5 = .ok (.aload_n 0, 1) := by decide +kernel
theorem dX0_climb_6 : decode cX0_climb 6 = .ok (.getfield 52, 3) := by decide +kernel
theorem dX0_climb_9 : decode cX0_climb 9 = .ok (.aload_n 0, 1) := by decide +kernel
theorem dX0_climb_10 : decode cX0_climb 10 = .ok (.getfield 21, 3) := by decide +kernel
theorem dX0_climb_13 : decode cX0_climb 13 = .ok (.aload_n 0, 1) := by decide +kernel
theorem dX0_climb_14 : decode cX0_climb 14 = .ok (.getfield 52, 3) := by decide +kernel
theorem dX0_climb_17 : decode cX0_climb 17 = .ok (.getfield 80, 3) := by decide +kernel
theorem dX0_climb_20 : decode cX0_climb 20 = .ok (.invokevirtual 83, 3) := by decide +kernel
theorem dX0_climb_23 : decode cX0_climb 23 = .ok (.aload_n 0, 1) := by decide +kernel
theorem dX0_climb_24 : decode cX0_climb 24 = .ok (.getfield 24, 3) := by decide +kernel
theorem dX0_climb_27 : decode cX0_climb 27 = .ok (.lconst 0, 1) := by decide +kernel
theorem dX0_climb_28 : decode cX0_climb 28 = .ok (.invokestatic 60, 3) := by decide +kernel
theorem dX0_climb_31 : decode cX0_climb 31 = .ok (.aload_n 0, 1) := by decide +kernel
theorem dX0_climb_32 : decode cX0_climb 32 = .ok (.getfield 52, 3) := by decide +kernel
theorem dX0_climb_35 : decode cX0_climb 35 = .ok (.aload_n 0, 1) := by decide +kernel
theorem dX0_climb_36 : decode cX0_climb 36 = .ok (.getfield 27, 3) := by decide +kernel
theorem dX0_climb_39 : decode cX0_climb 39 = .ok (.aload_n 0, 1) := by decide +kernel
theorem dX0_climb_40 : decode cX0_climb 40 = .ok (.getfield 17, 3) := by decide +kernel
theorem dX0_climb_43 : decode cX0_climb 43 = .ok (.invokevirtual 83, 3) := by decide +kernel
theorem dX0_climb_46 : decode cX0_climb 46 = .ok (.aload_n 0, 1) := by decide +kernel
theorem dX0_climb_47 : decode cX0_climb 47 = .ok (.getfield 52, 3) := by decide +kernel
theorem dX0_climb_50 : decode cX0_climb 50 = .ok (.aload_n 0, 1) := by decide +kernel
theorem dX0_climb_51 : decode cX0_climb 51 = .ok (.getfield 30, 3) := by decide +kernel
theorem dX0_climb_54 : decode cX0_climb 54 = .ok (.aload_n 0, 1) := by decide +kernel
theorem dX0_climb_55 : decode cX0_climb 55 = .ok (.getfield 52, 3) := by decide +kernel
theorem dX0_climb_58 : decode cX0_climb 58 = .ok (.getfield 80, 3) := by decide +kernel
theorem dX0_climb_61 : decode cX0_climb 61 = .ok (.invokevirtual 83, 3) := by decide +kernel
theorem dX0_climb_64 : decode cX0_climb 64 = .ok (.aload_n 0, 1) := by decide +kernel
theorem dX0_climb_65 : decode cX0_climb 65 = .ok (.getfield 48, 3) := by decide +kernel
theorem dX0_climb_68 : decode cX0_climb 68 = .ok (.ifCond .eq 9, 3) := by decide +kernel
theorem dX0_climb_71 : decode cX0_climb 71 = .ok (.sipush 447, 3) := by decide +kernel
theorem dX0_climb_74 : decode cX0_climb 74 = .ok (.goto 6, 3) := by decide +kernel
theorem dX0_climb_77 : decode cX0_climb 77 = .ok (.sipush 254, 3) := by decide +kernel
theorem dX0_climb_80 : decode cX0_climb 80 = .ok (.istore_n 3, 1) := by decide +kernel
theorem dX0_climb_81 : decode cX0_climb 81 = .ok (.iload_n 3, 1) := by decide +kernel
theorem dX0_climb_82 : decode cX0_climb 82 = .ok (.ifCond .lt 70, 3) := by decide +kernel
theorem dX0_climb_85 : decode cX0_climb 85 = .ok (.aload_n 0, 1) := by decide +kernel
theorem dX0_climb_86 : decode cX0_climb 86 = .ok (.getfield 9, 3) := by decide +kernel
theorem dX0_climb_89 : decode cX0_climb 89 = .ok (.iload_n 3, 1) := by decide +kernel
theorem dX0_climb_90 : decode cX0_climb 90 = .ok (.iconst 3, 1) := by decide +kernel
theorem dX0_climb_91 : decode cX0_climb 91 = .ok (.ishr, 1) := by decide +kernel
theorem dX0_climb_92 : decode cX0_climb 92 = .ok (.iaload, 1) := by decide +kernel
theorem dX0_climb_93 : decode cX0_climb 93 = .ok (.iload_n 3, 1) := by decide +kernel
theorem dX0_climb_94 : decode cX0_climb 94 = .ok (.bipush 7, 2) := by decide +kernel
theorem dX0_climb_96 : decode cX0_climb 96 = .ok (.iand, 1) := by decide +kernel
theorem dX0_climb_97 : decode cX0_climb 97 = .ok (.ishr, 1) := by decide +kernel
theorem dX0_climb_98 : decode cX0_climb 98 = .ok (.iconst 1, 1) := by decide +kernel
theorem dX0_climb_99 : decode cX0_climb 99 = .ok (.iand, 1) := by decide +kernel
theorem dX0_climb_100 : decode cX0_climb 100 = .ok (.ifCond .ne 26, 3) := by decide +kernel
theorem dX0_climb_103 : decode cX0_climb 103 = .ok (.aload_n 0, 1) := by decide +kernel
theorem dX0_climb_104 : decode cX0_climb 104 = .ok (.aload_n 0, 1) := by decide +kernel
theorem dX0_climb_105 : decode cX0_climb 105 = .ok (.getfield 21, 3) := by decide +kernel
theorem dX0_climb_108 : decode cX0_climb 108 = .ok (.aload_n 0, 1) := by decide +kernel
theorem dX0_climb_109 : decode cX0_climb 109 = .ok (.getfield 24, 3) := by decide +kernel
theorem dX0_climb_112 : decode cX0_climb 112 = .ok (.aload_n 0, 1) := by decide +kernel
theorem dX0_climb_113 : decode cX0_climb 113 = .ok (.getfield 27, 3) := by decide +kernel
theorem dX0_climb_116 : decode cX0_climb 116 = .ok (.aload_n 0, 1) := by decide +kernel
theorem dX0_climb_117 : decode cX0_climb 117 = .ok (.getfield 30, 3) := by decide +kernel
theorem dX0_climb_120 : decode cX0_climb 120 = .ok (.invokevirtual 87, 3) := by decide +kernel
theorem dX0_climb_123 : decode cX0_climb 123 = .ok (.goto 23, 3) := by decide +kernel
theorem dX0_climb_126 : decode cX0_climb 126 = .ok (.aload_n 0, 1) := by decide +kernel
theorem dX0_climb_127 : decode cX0_climb 127 = .ok (.aload_n 0, 1) := by decide +kernel
theorem dX0_climb_128 : decode cX0_climb 128 = .ok (.getfield 27, 3) := by decide +kernel
theorem dX0_climb_131 : decode cX0_climb 131 = .ok (.aload_n 0, 1) := by decide +kernel
theorem dX0_climb_132 : decode cX0_climb 132 = .ok (.getfield 30, 3) := by decide +kernel
theorem dX0_climb_135 : decode cX0_climb 135 = .ok (.aload_n 0, 1) := by decide +kernel
theorem dX0_climb_136 : decode cX0_climb 136 = .ok (.getfield 21, 3) := by decide +kernel
theorem dX0_climb_139 : decode cX0_climb 139 = .ok (.aload_n 0, 1) := by decide +kernel
theorem dX0_climb_140 : decode cX0_climb 140 = .ok (.getfield 24, 3) := by decide +kernel
theorem dX0_climb_143 : decode cX0_climb 143 = .ok (.invokevirtual 87, 3) := by decide +kernel
theorem dX0_climb_146 : decode cX0_climb 146 = .ok (.iinc 3 (-1), 3) := by decide +kernel
theorem dX0_climb_149 : decode cX0_climb 149 = .ok (.goto (-68), 3) := by decide +kernel
theorem dX0_climb_152 : decode cX0_climb 152 = .ok (.aload_n 0, 1) := by decide +kernel
theorem dX0_climb_153 : decode cX0_climb 153 = .ok (.getfield 52, 3) := by decide +kernel
theorem dX0_climb_156 : decode cX0_climb 156 = .ok (.aload_n 0, 1) := by decide +kernel
theorem dX0_climb_157 : decode cX0_climb 157 = .ok (.getfield 24, 3) := by decide +kernel
theorem dX0_climb_160 : decode cX0_climb 160 = .ok (.aload_n 0, 1) := by decide +kernel
theorem dX0_climb_161 : decode cX0_climb 161 = .ok (.getfield 24, 3) := by decide +kernel
theorem dX0_climb_164 : decode cX0_climb 164 = .ok (.invokevirtual 91, 3) := by decide +kernel
theorem dX0_climb_167 : decode cX0_climb 167 = .ok (.aload_n 0, 1) := by decide +kernel
theorem dX0_climb_168 : decode cX0_climb 168 = .ok (.getfield 52, 3) := by decide +kernel
theorem dX0_climb_171 : decode cX0_climb 171 = .ok (.aload_n 0, 1) := by decide +kernel
theorem dX0_climb_172 : decode cX0_climb 172 = .ok (.getfield 21, 3) := by decide +kernel
theorem dX0_climb_175 : decode cX0_climb 175 = .ok (.aload_n 0, 1) := by decide +kernel
theorem dX0_climb_176 : decode cX0_climb 176 = .ok (.getfield 21, 3) := by decide +kernel
theorem dX0_climb_179 : decode cX0_climb 179 = .ok (.aload_n 0, 1) := by decide +kernel
theorem dX0_climb_180 : decode cX0_climb 180 = .ok (.getfield 24, 3) := by decide +kernel
theorem dX0_climb_183 : decode cX0_climb 183 = .ok (.invokevirtual 94, 3) := by decide +kernel
theorem dX0_climb_186 : decode cX0_climb 186 = .ok (.aload_n 0, 1) := by decide +kernel
theorem dX0_climb_187 : decode cX0_climb 187 = .ok (.getfield 52, 3) := by decide +kernel
theorem dX0_climb_190 : decode cX0_climb 190 = .ok (.aload_n 1, 1) := by decide +kernel
theorem dX0_climb_191 : decode cX0_climb 191 = .ok (.aload_n 0, 1) := by decide +kernel
theorem dX0_climb_192 : decode cX0_climb 192 = .ok (.getfield 21, 3) := by decide +kernel
theorem dX0_climb_195 : decode cX0_climb 195 = .ok (.invokevirtual 98, 3) := by decide +kernel
theorem dX0_climb_198 : decode cX0_climb 198 = .ok (.aload_n 0, 1) := by decide +kernel
theorem dX0_climb_199 : decode cX0_climb 199 = .ok (.getfield 52, 3) := by decide +kernel
theorem dX0_climb_202 : decode cX0_climb 202 = .ok (.aload_n 0, 1) := by decide +kernel
theorem dX0_climb_203 : decode cX0_climb 203 = .ok (.getfield 21, 3) := by decide +kernel
theorem dX0_climb_206 : decode cX0_climb 206 = .ok (.invokevirtual 102, 3) := by decide +kernel
theorem dX0_climb_209 : decode cX0_climb 209 = .ok (.ifCond .ne 7, 3) := by decide +kernel
theorem dX0_climb_212 : decode cX0_climb 212 = .ok (.iconst 1, 1) := by decide +kernel
theorem dX0_climb_213 : decode cX0_climb 213 = .ok (.goto 4, 3) := by decide +kernel
theorem dX0_climb_216 : decode cX0_climb 216 = .ok (.iconst 0, 1) := by decide +kernel
theorem dX0_climb_217 : decode cX0_climb 217 = .ok (.ireturn, 1) := by decide +kernel
theorem dX0_loadScalar_0 : decode cX0_loadScalar 0 = .ok (.aload_n 1, 1) := by decide +kernel
theorem dX0_loadScalar_1 : decode cX0_loadScalar 1 = .ok (.iconst 0, 1) := by decide +kernel
theorem dX0_loadScalar_2 : decode cX0_loadScalar 2 = .ok (.aload_n 0, 1) := by decide +kernel
theorem dX0_loadScalar_3 : decode cX0_loadScalar 3 = .ok (.getfield 9, 3) := by decide +kernel
theorem dX0_loadScalar_6 : decode cX0_loadScalar 6 = .ok (.iconst 0, 1) := by decide +kernel
theorem dX0_loadScalar_7 : decode cX0_loadScalar 7 = .ok (.aload_n 0, 1) := by decide +kernel
theorem dX0_loadScalar_8 : decode cX0_loadScalar 8 = .ok (.getfield 56, 3) := by decide +kernel
theorem dX0_loadScalar_11 : decode cX0_loadScalar 11 = .ok (.invokestatic 106, 3) := by decide +kernel
theorem dX0_loadScalar_14 : decode cX0_loadScalar 14 = .ok (.aload_n 0, 1) := by decide +kernel
theorem dX0_loadScalar_15 : decode cX0_loadScalar 15 = .ok (.getfield 48, 3) := by decide +kernel
theorem dX0_loadScalar_18 : decode cX0_loadScalar 18 = .ok (.ifCond .eq 31, 3) := by decide +kernel
theorem dX0_loadScalar_21 : decode cX0_loadScalar 21 = .ok (.aload_n 0, 1) := by decide +kernel
theorem dX0_loadScalar_22 : decode cX0_loadScalar 22 = .ok (.getfield 9, 3) := by decide +kernel
theorem dX0_loadScalar_25 : decode cX0_loadScalar 25 = .ok (.iconst 0, 1) := by decide +kernel
theorem dX0_loadScalar_26 : decode cX0_loadScalar 26 = .ok (.dup2, 1) := by decide +kernel
theorem dX0_loadScalar_27 : decode cX0_loadScalar 27 = .ok (.iaload, 1) := by decide +kernel
theorem dX0_loadScalar_28 : decode cX0_loadScalar 28 = .ok (.sipush 252, 3) := by decide +kernel
theorem dX0_loadScalar_31 : decode cX0_loadScalar 31 = .ok (.iand, 1) := by decide +kernel
theorem dX0_loadScalar_32 : decode cX0_loadScalar 32 = .ok (.iastore, 1) := by decide +kernel
theorem dX0_loadScalar_33 : decode cX0_loadScalar 33 = .ok (.aload_n 0, 1) := by decide +kernel
theorem dX0_loadScalar_34 : decode cX0_loadScalar 34 = .ok (.getfield 9, 3) := by decide +kernel
theorem dX0_loadScalar_37 : decode cX0_loadScalar 37 = .ok (.bipush 55, 2) := by decide +kernel
theorem dX0_loadScalar_39 : decode cX0_loadScalar 39 = .ok (.dup2, 1) := by decide +kernel
theorem dX0_loadScalar_40 : decode cX0_loadScalar 40 = .ok (.iaload, 1) := by decide +kernel
theorem dX0_loadScalar_41 : decode cX0_loadScalar 41 = .ok (.sipush 128, 3) := by decide +kernel
theorem dX0_loadScalar_44 : decode cX0_loadScalar 44 = .ok (.ior, 1) := by decide +kernel
theorem dX0_loadScalar_45 : decode cX0_loadScalar 45 = .ok (.iastore, 1) := by decide +kernel
theorem dX0_loadScalar_46 : decode cX0_loadScalar 46 = .ok (.goto 35, 3) := by decide +kernel
theorem dX0_loadScalar_49 : decode cX0_loadScalar 49 = .ok (.aload_n 0, 1) := by decide +kernel
theorem dX0_loadScalar_50 : decode cX0_loadScalar 50 = .ok (.getfield 9, 3) := by decide +kernel
theorem dX0_loadScalar_53 : decode cX0_loadScalar 53 = .ok (.iconst 0, 1) := by decide +kernel
theorem dX0_loadScalar_54 : decode cX0_loadScalar 54 = .ok (.dup2, 1) := by decide +kernel
theorem dX0_loadScalar_55 : decode cX0_loadScalar 55 = .ok (.iaload, 1) := by decide +kernel
theorem dX0_loadScalar_56 : decode cX0_loadScalar 56 = .ok (.sipush 248, 3) := by decide +kernel
theorem dX0_loadScalar_59 : decode cX0_loadScalar 59 = .ok (.iand, 1) := by decide +kernel
theorem dX0_loadScalar_60 : decode cX0_loadScalar 60 = .ok (.iastore, 1) := by decide +kernel
theorem dX0_loadScalar_61 : decode cX0_loadScalar 61 = .ok (.aload_n 0, 1) := by decide +kernel
theorem dX0_loadScalar_62 : decode cX0_loadScalar 62 = .ok (.getfield 9, 3) := by decide +kernel
theorem dX0_loadScalar_65 : decode cX0_loadScalar 65 = .ok (.bipush 31, 2) := by decide +kernel
theorem dX0_loadScalar_67 : decode cX0_loadScalar 67 = .ok (.aload_n 0, 1) := by decide +kernel
theorem dX0_loadScalar_68 : decode cX0_loadScalar 68 = .ok (.getfield 9, 3) := by decide +kernel
theorem dX0_loadScalar_71 : decode cX0_loadScalar 71 = .ok (.bipush 31, 2) := by decide +kernel
theorem dX0_loadScalar_73 : decode cX0_loadScalar 73 = .ok (.iaload, 1) := by decide +kernel
theorem dX0_loadScalar_74 : decode cX0_loadScalar 74 = .ok (.bipush 127, 2) := by decide +kernel
theorem dX0_loadScalar_76 : decode cX0_loadScalar 76 = .ok (.iand, 1) := by decide +kernel
theorem dX0_loadScalar_77 : decode cX0_loadScalar 77 = .ok (.bipush 64, 2) := by decide +kernel
theorem dX0_loadScalar_79 : decode cX0_loadScalar 79 = .ok (.ior, 1) := by decide +kernel
theorem dX0_loadScalar_80 : decode cX0_loadScalar 80 = .ok (.iastore, 1) := by decide +kernel
theorem dX0_loadScalar_81 : decode cX0_loadScalar 81 = .ok (.return_, 1) := by decide +kernel
theorem dX0_step_0 : decode cX0_step 0 = .ok (.aload_n 0, 1) := by decide +kernel
theorem dX0_step_1 : decode cX0_step 1 = .ok (.getfield 52, 3) := by decide +kernel
theorem dX0_step_4 : decode cX0_step 4 = .ok (.aload_n 0, 1) := by decide +kernel
theorem dX0_step_5 : decode cX0_step 5 = .ok (.getfield 33, 3) := by decide +kernel
theorem dX0_step_8 : decode cX0_step 8 = .ok (.aload_n 1, 1) := by decide +kernel
theorem dX0_step_9 : decode cX0_step 9 = .ok (.aload_n 2, 1) := by decide +kernel
theorem dX0_step_10 : decode cX0_step 10 = .ok (.invokevirtual 112, 3) := by decide +kernel
theorem dX0_step_13 : decode cX0_step 13 = .ok (.aload_n 0, 1) := by decide +kernel
theorem dX0_step_14 : decode cX0_step 14 = .ok (.getfield 52, 3) := by decide +kernel
theorem dX0_step_17 : decode cX0_step 17 = .ok (.aload_n 0, 1) := by decide +kernel
theorem dX0_step_18 : decode cX0_step 18 = .ok (.getfield 36, 3) := by decide +kernel
theorem dX0_step_21 : decode cX0_step 21 = .ok (.aload_n 1, 1) := by decide +kernel
theorem dX0_step_22 : decode cX0_step 22 = .ok (.aload_n 2, 1) := by decide +kernel
theorem dX0_step_23 : decode cX0_step 23 = .ok (.invokevirtual 115, 3) := by decide +kernel
theorem dX0_step_26 : decode cX0_step 26 = .ok (.aload_n 0, 1) := by decide +kernel
theorem dX0_step_27 : decode cX0_step 27 = .ok (.getfield 52, 3) := by decide +kernel
theorem dX0_step_30 : decode cX0_step 30 = .ok (.aload_n 0, 1) := by decide +kernel
theorem dX0_step_31 : decode cX0_step 31 = .ok (.getfield 39, 3) := by decide +kernel
theorem dX0_step_34 : decode cX0_step 34 = .ok (.aload_n 3, 1) := by decide +kernel
theorem dX0_step_35 : decode cX0_step 35 = .ok (.aload 4, 2) := by decide +kernel
theorem dX0_step_37 : decode cX0_step 37 = .ok (.invokevirtual 112, 3) := by decide +kernel
theorem dX0_step_40 : decode cX0_step 40 = .ok (.aload_n 0, 1) := by decide +kernel
theorem dX0_step_41 : decode cX0_step 41 = .ok (.getfield 52, 3) := by decide +kernel
theorem dX0_step_44 : decode cX0_step 44 = .ok (.aload_n 0, 1) := by decide +kernel
theorem dX0_step_45 : decode cX0_step 45 = .ok (.getfield 42, 3) := by decide +kernel
theorem dX0_step_48 : decode cX0_step 48 = .ok (.aload_n 3, 1) := by decide +kernel
theorem dX0_step_49 : decode cX0_step 49 = .ok (.aload 4, 2) := by decide +kernel
theorem dX0_step_51 : decode cX0_step 51 = .ok (.invokevirtual 115, 3) := by decide +kernel
theorem dX0_step_54 : decode cX0_step 54 = .ok (.aload_n 0, 1) := by decide +kernel
theorem dX0_step_55 : decode cX0_step 55 = .ok (.getfield 52, 3) := by decide +kernel
theorem dX0_step_58 : decode cX0_step 58 = .ok (.aload_n 0, 1) := by decide +kernel
theorem dX0_step_59 : decode cX0_step 59 = .ok (.getfield 42, 3) := by decide +kernel
theorem dX0_step_62 : decode cX0_step 62 = .ok (.aload_n 0, 1) := by decide +kernel
theorem dX0_step_63 : decode cX0_step 63 = .ok (.getfield 42, 3) := by decide +kernel
theorem dX0_step_66 : decode cX0_step 66 = .ok (.aload_n 0, 1) := by decide +kernel
theorem dX0_step_67 : decode cX0_step 67 = .ok (.getfield 33, 3) := by decide +kernel
theorem dX0_step_70 : decode cX0_step 70 = .ok (.invokevirtual 94, 3) := by decide +kernel
theorem dX0_step_73 : decode cX0_step 73 = .ok (.aload_n 0, 1) := by decide +kernel
theorem dX0_step_74 : decode cX0_step 74 = .ok (.getfield 52, 3) := by decide +kernel
theorem dX0_step_77 : decode cX0_step 77 = .ok (.aload_n 0, 1) := by decide +kernel
theorem dX0_step_78 : decode cX0_step 78 = .ok (.getfield 39, 3) := by decide +kernel
theorem dX0_step_81 : decode cX0_step 81 = .ok (.aload_n 0, 1) := by decide +kernel
theorem dX0_step_82 : decode cX0_step 82 = .ok (.getfield 39, 3) := by decide +kernel
theorem dX0_step_85 : decode cX0_step 85 = .ok (.aload_n 0, 1) := by decide +kernel
theorem dX0_step_86 : decode cX0_step 86 = .ok (.getfield 36, 3) := by decide +kernel
theorem dX0_step_89 : decode cX0_step 89 = .ok (.invokevirtual 94, 3) := by decide +kernel
theorem dX0_step_92 : decode cX0_step 92 = .ok (.aload_n 0, 1) := by decide +kernel
theorem dX0_step_93 : decode cX0_step 93 = .ok (.getfield 52, 3) := by decide +kernel
theorem dX0_step_96 : decode cX0_step 96 = .ok (.aload_n 3, 1) := by decide +kernel
theorem dX0_step_97 : decode cX0_step 97 = .ok (.aload_n 0, 1) := by decide +kernel
theorem dX0_step_98 : decode cX0_step 98 = .ok (.getfield 42, 3) := by decide +kernel
theorem dX0_step_101 : decode cX0_step 101 = .ok (.aload_n 0, 1) := by decide +kernel
theorem dX0_step_102 : decode cX0_step 102 = .ok (.getfield 39, 3) := by decide +kernel
theorem dX0_step_105 : decode cX0_step 105 = .ok (.invokevirtual 112, 3) := by decide +kernel
theorem dX0_step_108 : decode cX0_step 108 = .ok (.aload_n 0, 1) := by decide +kernel
theorem dX0_step_109 : decode cX0_step 109 = .ok (.getfield 52, 3) := by decide +kernel
theorem dX0_step_112 : decode cX0_step 112 = .ok (.aload_n 3, 1) := by decide +kernel
theorem dX0_step_113 : decode cX0_step 113 = .ok (.aload_n 3, 1) := by decide +kernel
theorem dX0_step_114 : decode cX0_step 114 = .ok (.invokevirtual 118, 3) := by decide +kernel
theorem dX0_step_117 : decode cX0_step 117 = .ok (.aload_n 0, 1) := by decide +kernel
theorem dX0_step_118 : decode cX0_step 118 = .ok (.getfield 52, 3) := by decide +kernel
theorem dX0_step_121 : decode cX0_step 121 = .ok (.aload 4, 2) := by decide +kernel
theorem dX0_step_123 : decode cX0_step 123 = .ok (.aload_n 0, 1) := by decide +kernel
theorem dX0_step_124 : decode cX0_step 124 = .ok (.getfield 42, 3) := by decide +kernel
theorem dX0_step_127 : decode cX0_step 127 = .ok (.aload_n 0, 1) := by decide +kernel
theorem dX0_step_128 : decode cX0_step 128 = .ok (.getfield 39, 3) := by decide +kernel
theorem dX0_step_131 : decode cX0_step 131 = .ok (.invokevirtual 115, 3) := by decide +kernel
theorem dX0_step_134 : decode cX0_step 134 = .ok (.aload_n 0, 1) := by decide +kernel
theorem dX0_step_135 : decode cX0_step 135 = .ok (.getfield 52, 3) := by decide +kernel
theorem dX0_step_138 : decode cX0_step 138 = .ok (.aload 4, 2) := by decide +kernel
theorem dX0_step_140 : decode cX0_step 140 = .ok (.aload 4, 2) := by decide +kernel
theorem dX0_step_142 : decode cX0_step 142 = .ok (.invokevirtual 118, 3) := by decide +kernel
theorem dX0_step_145 : decode cX0_step 145 = .ok (.aload_n 0, 1) := by decide +kernel
theorem dX0_step_146 : decode cX0_step 146 = .ok (.getfield 52, 3) := by decide +kernel
theorem dX0_step_149 : decode cX0_step 149 = .ok (.aload 4, 2) := by decide +kernel
theorem dX0_step_151 : decode cX0_step 151 = .ok (.aload 4, 2) := by decide +kernel
theorem dX0_step_153 : decode cX0_step 153 = .ok (.aload_n 0, 1) := by decide +kernel
theorem dX0_step_154 : decode cX0_step 154 = .ok (.getfield 17, 3) := by decide +kernel
theorem dX0_step_157 : decode cX0_step 157 = .ok (.invokevirtual 94, 3) := by decide +kernel
theorem dX0_step_160 : decode cX0_step 160 = .ok (.aload_n 0, 1) := by decide +kernel
theorem dX0_step_161 : decode cX0_step 161 = .ok (.getfield 52, 3) := by decide +kernel
theorem dX0_step_164 : decode cX0_step 164 = .ok (.aload_n 0, 1) := by decide +kernel
theorem dX0_step_165 : decode cX0_step 165 = .ok (.getfield 33, 3) := by decide +kernel
theorem dX0_step_168 : decode cX0_step 168 = .ok (.aload_n 0, 1) := by decide +kernel
theorem dX0_step_169 : decode cX0_step 169 = .ok (.getfield 33, 3) := by decide +kernel
theorem dX0_step_172 : decode cX0_step 172 = .ok (.invokevirtual 118, 3) := by decide +kernel
theorem dX0_step_175 : decode cX0_step 175 = .ok (.aload_n 0, 1) := by decide +kernel
theorem dX0_step_176 : decode cX0_step 176 = .ok (.getfield 52, 3) := by decide +kernel
theorem dX0_step_179 : decode cX0_step 179 = .ok (.aload_n 0, 1) := by decide +kernel
theorem dX0_step_180 : decode cX0_step 180 = .ok (.getfield 36, 3) := by decide +kernel
theorem dX0_step_183 : decode cX0_step 183 = .ok (.aload_n 0, 1) := by decide +kernel
theorem dX0_step_184 : decode cX0_step 184 = .ok (.getfield 36, 3) := by decide +kernel
theorem dX0_step_187 : decode cX0_step 187 = .ok (.invokevirtual 118, 3) := by decide +kernel
theorem dX0_step_190 : decode cX0_step 190 = .ok (.aload_n 0, 1) := by decide +kernel
theorem dX0_step_191 : decode cX0_step 191 = .ok (.getfield 52, 3) := by decide +kernel
theorem dX0_step_194 : decode cX0_step 194 = .ok (.aload_n 0, 1) := by decide +kernel
theorem dX0_step_195 : decode cX0_step 195 = .ok (.getfield 45, 3) := by decide +kernel
theorem dX0_step_198 : decode cX0_step 198 = .ok (.aload_n 0, 1) := by decide +kernel
theorem dX0_step_199 : decode cX0_step 199 = .ok (.getfield 33, 3) := by decide +kernel
theorem dX0_step_202 : decode cX0_step 202 = .ok (.aload_n 0, 1) := by decide +kernel
theorem dX0_step_203 : decode cX0_step 203 = .ok (.getfield 36, 3) := by decide +kernel
theorem dX0_step_206 : decode cX0_step 206 = .ok (.invokevirtual 115, 3) := by decide +kernel
theorem dX0_step_209 : decode cX0_step 209 = .ok (.aload_n 0, 1) := by decide +kernel
theorem dX0_step_210 : decode cX0_step 210 = .ok (.getfield 52, 3) := by decide +kernel
theorem dX0_step_213 : decode cX0_step 213 = .ok (.aload_n 1, 1) := by decide +kernel
theorem dX0_step_214 : decode cX0_step 214 = .ok (.aload_n 0, 1) := by decide +kernel
theorem dX0_step_215 : decode cX0_step 215 = .ok (.getfield 33, 3) := by decide +kernel
theorem dX0_step_218 : decode cX0_step 218 = .ok (.aload_n 0, 1) := by decide +kernel
theorem dX0_step_219 : decode cX0_step 219 = .ok (.getfield 36, 3) := by decide +kernel
theorem dX0_step_222 : decode cX0_step 222 = .ok (.invokevirtual 94, 3) := by decide +kernel
theorem dX0_step_225 : decode cX0_step 225 = .ok (.aload_n 0, 1) := by decide +kernel
theorem dX0_step_226 : decode cX0_step 226 = .ok (.getfield 52, 3) := by decide +kernel
theorem dX0_step_229 : decode cX0_step 229 = .ok (.aload_n 2, 1) := by decide +kernel
theorem dX0_step_230 : decode cX0_step 230 = .ok (.aload_n 0, 1) := by decide +kernel
theorem dX0_step_231 : decode cX0_step 231 = .ok (.getfield 45, 3) := by decide +kernel
theorem dX0_step_234 : decode cX0_step 234 = .ok (.aload_n 0, 1) := by decide +kernel
theorem dX0_step_235 : decode cX0_step 235 = .ok (.getfield 48, 3) := by decide +kernel
theorem dX0_step_238 : decode cX0_step 238 = .ok (.ifCond .eq 8, 3) := by decide +kernel
theorem dX0_step_241 : decode cX0_step 241 = .ok (.ldc 121, 2) := by decide +kernel
theorem dX0_step_243 : decode cX0_step 243 = .ok (.goto 5, 3) := by decide +kernel
theorem dX0_step_246 : decode cX0_step 246 = .ok (.ldc 122, 2) := by decide +kernel
theorem dX0_step_248 : decode cX0_step 248 = .ok (.invokevirtual 123, 3) := by decide +kernel
theorem dX0_step_251 : decode cX0_step 251 = .ok (.aload_n 0, 1) := by decide +kernel
theorem dX0_step_252 : decode cX0_step 252 = .ok (.getfield 52, 3) := by decide +kernel
theorem dX0_step_255 : decode cX0_step 255 = .ok (.aload_n 2, 1) := by decide +kernel
theorem dX0_step_256 : decode cX0_step 256 = .ok (.aload_n 2, 1) := by decide +kernel
theorem dX0_step_257 : decode cX0_step 257 = .ok (.aload_n 0, 1) := by decide +kernel
theorem dX0_step_258 : decode cX0_step 258 = .ok (.getfield 33, 3) := by decide +kernel
theorem dX0_step_261 : decode cX0_step 261 = .ok (.invokevirtual 112, 3) := by decide +kernel
theorem dX0_step_264 : decode cX0_step 264 = .ok (.aload_n 0, 1) := by decide +kernel
theorem dX0_step_265 : decode cX0_step 265 = .ok (.getfield 52, 3) := by decide +kernel
theorem dX0_step_268 : decode cX0_step 268 = .ok (.aload_n 2, 1) := by decide +kernel
theorem dX0_step_269 : decode cX0_step 269 = .ok (.aload_n 2, 1) := by decide +kernel
theorem dX0_step_270 : decode cX0_step 270 = .ok (.aload_n 0, 1) := by decide +kernel
theorem dX0_step_271 : decode cX0_step 271 = .ok (.getfield 45, 3) := by decide +kernel
theorem dX0_step_274 : decode cX0_step 274 = .ok (.invokevirtual 94, 3) := by decide +kernel
theorem dX0_step_277 : decode cX0_step 277 = .ok (.return_, 1) := by decide +kernel
theorem dX1_init_0 : decode cX1_init 0 = .ok (.aload_n 0, 1) := by decide +kernel
theorem dX1_init_1 : decode cX1_init 1 = .ok (.invokespecial 3, 3) := by decide +kernel
theorem dX1_init_4 : decode cX1_init 4 = .ok (.aload_n 0, 1) := by decide +kernel
theorem dX1_init_5 : decode cX1_init 5 = .ok (.bipush 16, 2) := by decide +kernel
theorem dX1_init_7 : decode cX1_init 7 = .ok (.anewarray 11, 3) := by decide +kernel
theorem dX1_init_10 : decode cX1_init 10 = .ok (.putfield 13, 3) := by decide +kernel
theorem dX1_init_13 : decode cX1_init 13 = .ok (.aload_n 0, 1) := by decide +kernel
theorem dX1_init_14 : decode cX1_init 14 = .ok (.new 11, 3) := by decide +kernel
theorem dX1_init_17 : decode cX1_init 17 = .ok (.dup, 1) := by decide +kernel
theorem dX1_init_18 : decode cX1_init 18 = .ok (.invokespecial 17, 3) := by decide +kernel
theorem dX1_init_21 : decode cX1_init 21 = .ok (.putfield 18, 3) := by decide +kernel
theorem dX1_init_24 : decode cX1_init 24 = .ok (.aload_n 0, 1) := by decide +kernel
theorem dX1_init_25 : decode cX1_init 25 = .ok (.sipush 228, 3) := by decide +kernel
theorem dX1_init_28 : decode cX1_init 28 = .ok (.newarray .int, 2) := by decide +kernel
theorem dX1_init_30 : decode cX1_init 30 = .ok (.putfield 22, 3) := by decide +kernel
theorem dX1_init_33 : decode cX1_init 33 = .ok (.aload_n 0, 1) := by decide +kernel
theorem dX1_init_34 : decode cX1_init 34 = .ok (.bipush 57, 2) := by decide +kernel
theorem dX1_init_36 : decode cX1_init 36 = .ok (.newarray .int, 2) := by decide +kernel
theorem dX1_init_38 : decode cX1_init 38 = .ok (.putfield 26, 3) := by decide +kernel
theorem dX1_init_41 : decode cX1_init 41 = .ok (.aload_n 0, 1) := by decide +kernel
theorem dX1_init_42 : decode cX1_init 42 = .ok (.bipush 16, 2) := by decide +kernel
theorem dX1_init_44 : decode cX1_init 44 = .ok (.newarray .long, 2) := by decide +kernel
theorem dX1_init_46 : decode cX1_init 46 = .ok (.putfield 31, 3) := by decide +kernel
theorem dX1_init_49 : decode cX1_init 49 = .ok (.aload_n 0, 1) := by decide +kernel
theorem dX1_init_50 : decode cX1_init 50 = .ok (.bipush 16, 2) := by decide +kernel
theorem dX1_init_52 : decode cX1_init 52 = .ok (.newarray .long, 2) := by decide +kernel
theorem dX1_init_54 : decode cX1_init 54 = .ok (.putfield 35, 3) := by decide +kernel
theorem dX1_init_57 : decode cX1_init 57 = .ok (.aload_n 0, 1) := by decide +kernel
theorem dX1_init_58 : decode cX1_init 58 = .ok (.bipush 16, 2) := by decide +kernel
theorem dX1_init_60 : decode cX1_init 60 = .ok (.newarray .long, 2) := by decide +kernel
theorem dX1_init_62 : decode cX1_init 62 = .ok (.putfield 38, 3) := by decide +kernel
theorem dX1_init_65 : decode cX1_init 65 = .ok (.aload_n 0, 1) := by decide +kernel
theorem dX1_init_66 : decode cX1_init 66 = .ok (.bipush 16, 2) := by decide +kernel
theorem dX1_init_68 : decode cX1_init 68 = .ok (.newarray .long, 2) := by decide +kernel
theorem dX1_init_70 : decode cX1_init 70 = .ok (.putfield 41, 3) := by decide +kernel
theorem dX1_init_73 : decode cX1_init 73 = .ok (.aload_n 0, 1) := by decide +kernel
theorem dX1_init_74 : decode cX1_init 74 = .ok (.bipush 16, 2) := by decide +kernel
theorem dX1_init_76 : decode cX1_init 76 = .ok (.newarray .long, 2) := by decide +kernel
theorem dX1_init_78 : decode cX1_init 78 = .ok (.putfield 44, 3) := by decide +kernel
theorem dX1_init_81 : decode cX1_init 81 = .ok (.aload_n 0, 1) := by decide +kernel
theorem dX1_init_82 : decode cX1_init 82 = .ok (.bipush 16, 2) := by decide +kernel
theorem dX1_init_84 : decode cX1_init 84 = .ok (.newarray .long, 2) := by decide +kernel
theorem dX1_init_86 : decode cX1_init 86 = .ok (.putfield 47, 3) := by decide +kernel
theorem dX1_init_89 : decode cX1_init 89 = .ok (.aload_n 0, 1) := by decide +kernel
theorem dX1_init_90 : decode cX1_init 90 = .ok (.bipush 16, 2) := by decide +kernel
theorem dX1_init_92 : decode cX1_init 92 = .ok (.newarray .long, 2) := by decide +kernel
theorem dX1_init_94 : decode cX1_init 94 = .ok (.putfield 50, 3) := by decide +kernel
theorem dX1_init_97 : decode cX1_init 97 = .ok (.aload_n 0, 1) := by decide +kernel
theorem dX1_init_98 : decode cX1_init 98 = .ok (.bipush 16, 2) := by decide +kernel
theorem dX1_init_100 : decode cX1_init 100 = .ok (.newarray .long, 2) := by decide +kernel
theorem dX1_init_102 : decode cX1_init 102 = .ok (.putfield 53, 3) := by decide +kernel
theorem dX1_init_105 : decode cX1_init 105 = .ok (.aload_n 0, 1) := by decide +kernel
theorem dX1_init_106 : decode cX1_init 106 = .ok (.iload_n 1, 1) := by decide +kernel
theorem dX1_init_107 : decode cX1_init 107 = .ok (.putfield 56, 3) := by decide +kernel
theorem dX1_init_110 : decode cX1_init 110 = .ok (.aload_n 0, 1) := by decide +kernel
theorem dX1_init_111 : decode cX1_init 111 = .ok (.aload_n 2, 1) := by decide +kernel
theorem dX1_init_112 : decode cX1_init 112 = .ok (.putfield 60, 3) := by decide +kernel
theorem dX1_init_115 : decode cX1_init 115 = .ok (.aload_n 0, 1) := by decide +kernel
theorem dX1_init_116 : decode cX1_init 116 = .ok (.iload_n 1, 1) := by decide +kernel
theorem dX1_init_117 : decode cX1_init 117 = .ok (.ifCond .eq 8, 3) := by decide +kernel
theorem dX1_init_120 : decode cX1_init 120 = .ok (.bipush 57, 2) := by decide +kernel
theorem dX1_init_122 : decode cX1_init 122 = .ok (.goto 5, 3) := by decide +kernel
theorem dX1_init_125 : decode cX1_init 125 = .ok (.bipush 32, 2) := by decide +kernel
theorem dX1_init_127 : decode cX1_init 127 = .ok (.putfield 64, 3) := by decide +kernel
theorem dX1_init_130 : decode cX1_init 130 = .ok (.aload_n 0, 1) := by decide +kernel
theorem dX1_init_131 : decode cX1_init 131 = .ok (.aload_n 2, 1) := by decide +kernel
theorem dX1_init_132 : decode cX1_init 132 = .ok (.ldc 68, 2) := by decide +kernel
theorem dX1_init_134 : decode cX1_init 134 = .ok (.invokevirtual 70, 3) := by decide +kernel
theorem dX1_init_137 : decode cX1_init 137 = .ok (.putfield 76, 3) := by decide +kernel
theorem dX1_init_140 : decode cX1_init 140 = .ok (.aload_n 2, 1) := by decide +kernel
theorem dX1_init_141 : decode cX1_init 141 = .ok (.iload_n 1, 1) := by decide +kernel
theorem dX1_init_142 : decode cX1_init 142 = .ok (.ifCond .eq 8, 3) := by decide +kernel
theorem dX1_init_145 : decode cX1_init 145 = .ok (.ldc 79, 2) := by decide +kernel
theorem dX1_init_147 : decode cX1_init 147 = .ok (.goto 5, 3) := by decide +kernel
theorem dX1_init_150 : decode cX1_init 150 = .ok (.ldc 81, 2) := by decide +kernel
theorem dX1_init_152 : decode cX1_init 152 = .ok (.invokevirtual 70, 3) := by decide +kernel
theorem dX1_init_155 : decode cX1_init 155 = .ok (.astore_n 3, 1) := by decide +kernel
theorem dX1_init_156 : decode cX1_init 156 = .ok (.iload_n 1, 1) := by decide +kernel
theorem dX1_init_157 : decode cX1_init 157 = .ok (.ifCond .eq 9, 3) := by decide +kernel
theorem dX1_init_160 : decode cX1_init 160 = .ok (.aload_n 2, 1) := by decide +kernel
theorem dX1_init_161 : decode cX1_init 161 = .ok (.aload_n 3, 1) := by decide +kernel
theorem dX1_init_162 : decode cX1_init 162 = .ok (.aload_n 3, 1) := by decide +kernel
theorem dX1_init_163 : decode cX1_init 163 = .ok (.invokevirtual 83, 3) := by decide +kernel
theorem dX1_init_166 : decode cX1_init 166 = .ok (.aload_n 0, 1) := by decide +kernel
theorem dX1_init_167 : decode cX1_init 167 = .ok (.aload_n 3, 1) := by decide +kernel
theorem dX1_init_168 : decode cX1_init 168 = .ok (.putfield 87, 3) := by decide +kernel
theorem dX1_init_171 : decode cX1_init 171 = .ok (.new 11, 3) := by decide +kernel
theorem dX1_init_174 : decode cX1_init 174 = .ok (.dup, 1) := by decide +kernel
theorem dX1_init_175 : decode cX1_init 175 = .ok (.invokespecial 17, 3) := by decide +kernel
theorem dX1_init_178 : decode cX1_init 178 = .ok (.astore 4, 2) := by decide +kernel
theorem dX1_init_180 : decode cX1_init 180 = .ok (.aload_n 2, 1) := by decide +kernel
theorem dX1_init_181 : decode cX1_init 181 = .ok (.aload 4, 2) := by decide +kernel
theorem dX1_init_183 : decode cX1_init 183 = .ok (.getfield 90, 3) := by decide +kernel
theorem dX1_init_186 : decode cX1_init 186 = .ok (.aload_n 2, 1) := by decide +kernel
theorem dX1_init_187 : decode cX1_init 187 = .ok (.iload_n 1, 1) := by decide +kernel
theorem dX1_init_188 : decode cX1_init 188 = .ok (.ifCond .eq 8, 3) := by decide +kernel
theorem dX1_init_191 : decode cX1_init 191 = .ok (.ldc 93, 2) := by decide +kernel
theorem dX1_init_193 : decode cX1_init 193 = .ok (.goto 5, 3) := by decide +kernel
theorem dX1_init_196 : decode cX1_init 196 = .ok (.ldc 95, 2) := by decide +kernel
theorem dX1_init_198 : decode cX1_init 198 = .ok (.invokevirtual 70, 3) := by decide +kernel
theorem dX1_init_201 : decode cX1_init 201 = .ok (.invokevirtual 97, 3) := by decide +kernel
theorem dX1_init_204 : decode cX1_init 204 = .ok (.aload_n 2, 1) := by decide +kernel
theorem dX1_init_205 : decode cX1_init 205 = .ok (.aload 4, 2) := by decide +kernel
theorem dX1_init_207 : decode cX1_init 207 = .ok (.getfield 100, 3) := by decide +kernel
theorem dX1_init_210 : decode cX1_init 210 = .ok (.aload_n 2, 1) := by decide +kernel
theorem dX1_init_211 : decode cX1_init 211 = .ok (.iload_n 1, 1) := by decide +kernel
theorem dX1_init_212 : decode cX1_init 212 = .ok (.ifCond .eq 8, 3) := by decide +kernel
theorem dX1_init_215 : decode cX1_init 215 = .ok (.ldc 103, 2) := by decide +kernel
theorem dX1_init_217 : decode cX1_init 217 = .ok (.goto 5, 3) := by decide +kernel
theorem dX1_init_220 : decode cX1_init 220 = .ok (.ldc 105, 2) := by decide +kernel
theorem dX1_init_222 : decode cX1_init 222 = .ok (.invokevirtual 70, 3) := by decide +kernel
theorem dX1_init_225 : decode cX1_init 225 = .ok (.invokevirtual 97, 3) := by decide +kernel
theorem dX1_init_228 : decode cX1_init 228 = .ok (.aload_n 0, 1) := by decide +kernel
theorem dX1_init_229 : decode cX1_init 229 = .ok (.aload 4, 2) := by decide +kernel
theorem dX1_init_231 : decode cX1_init 231 = .ok (.putfield 107, 3) := by decide +kernel
theorem dX1_init_234 : decode cX1_init 234 = .ok (.iconst 0, 1) := by decide +kernel
theorem dX1_init_235 : decode cX1_init 235 = .ok (.istore 5, 2) := by decide +kernel
theorem dX1_init_237 : decode cX1_init 237 = .ok (.iload 5, 2) := by decide +kernel
theorem dX1_init_239 : decode cX1_init 239 = .ok (.bipush 16, 2) := by decide +kernel
theorem dX1_init_241 : decode cX1_init 241 = .ok (.if_icmp .ge 23, 3) := by decide +kernel
theorem dX1_init_244 : decode cX1_init 244 = .ok (.aload_n 0, 1) := by decide +kernel
theorem dX1_init_245 : decode cX1_init 245 = .ok (.getfield 13, 3) := by decide +kernel
theorem dX1_init_248 : decode cX1_init 248 = .ok (.iload 5, 2) := by decide +kernel
theorem dX1_init_250 : decode cX1_init 250 = .ok (.new 11, 3) := by decide +kernel
theorem dX1_init_253 : decode cX1_init 253 = .ok (.dup, 1) := by decide +kernel
theorem dX1_init_254 : decode cX1_init 254 = .ok (.invokespecial 17, 3) := by decide +kernel
theorem dX1_init_257 : decode cX1_init 257 = .ok (.aastore, 1) := by decide +kernel
theorem dX1_init_258 : decode cX1_init 258 = .ok (.iinc 5 1, 3) := by decide +kernel
theorem dX1_init_261 : decode cX1_init 261 = .ok (.goto (-24), 3) := by decide +kernel
theorem dX1_init_264 : decode cX1_init 264 = .ok (.return_, 1) := by decide +kernel
theorem dX1_sum_0 : decode cX1_sum 0 = .ok (.aload_n 0, 1) := by decide +kernel
theorem dX1_sum_1 : decode cX1_sum 1 = .ok (.getfield 60, 3) := by decide +kernel
theorem dX1_sum_4 : decode cX1_sum 4 = .ok (.aload_n 0, 1) := by decide +kernel
theorem dX1_sum_5 : decode cX1_sum 5 = .ok (.getfield 31, 3) := by decide +kernel
theorem dX1_sum_8 : decode cX1_sum 8 = .ok (.aload_n 2, 1) := by decide +kernel
theorem dX1_sum_9 : decode cX1_sum 9 = .ok (.getfield 110, 3) := by decide +kernel
theorem dX1_sum_12 : decode cX1_sum 12 = .ok (.aload_n 3, 1) := by decide +kernel
theorem dX1_sum_13 : decode cX1_sum 13 = .ok (.getfield 110, 3) := by decide +kernel
theorem dX1_sum_16 : decode cX1_sum 16 = .ok (.invokevirtual 113, 3) := by decide +kernel
theorem dX1_sum_19 : decode cX1_sum 19 = .ok (.aload_n 0, 1) := by decide +kernel
theorem dX1_sum_20 : decode cX1_sum 20 = .ok (.getfield 60, 3) := by decide +kernel
theorem dX1_sum_23 : decode cX1_sum 23 = .ok (.aload_n 0, 1) := by decide +kernel
theorem dX1_sum_24 : decode cX1_sum 24 = .ok (.getfield 35, 3) := by decide +kernel
theorem dX1_sum_27 : decode cX1_sum 27 = .ok (.aload_n 0, 1) := by decide +kernel
theorem dX1_sum_28 : decode cX1_sum 28 = .ok (.getfield 31, 3) := by decide +kernel
theorem dX1_sum_31 : decode cX1_sum 31 = .ok (.invokevirtual 117, 3) := by decide +kernel
theorem dX1_sum_34 : decode cX1_sum 34 = .ok (.aload_n 0, 1) := by decide +kernel
theorem dX1_sum_35 : decode cX1_sum 35 = .ok (.getfield 60, 3) := by decide +kernel
theorem dX1_sum_38 : decode cX1_sum 38 = .ok (.aload_n 0, 1) := by decide +kernel
theorem dX1_sum_39 : decode cX1_sum 39 = .ok (.getfield 38, 3) := by decide +kernel
theorem dX1_sum_42 : decode cX1_sum 42 = .ok (.aload_n 2, 1) := by decide +kernel
theorem dX1_sum_43 : decode cX1_sum 43 = .ok (.getfield 90, 3) := by decide +kernel
theorem dX1_sum_46 : decode cX1_sum 46 = .ok (.aload_n 3, 1) := by decide +kernel
theorem dX1_sum_47 : decode cX1_sum 47 = .ok (.getfield 90, 3) := by decide +kernel
theorem dX1_sum_50 : decode cX1_sum 50 = .ok (.invokevirtual 113, 3) := by decide +kernel
theorem dX1_sum_53 : decode cX1_sum 53 = .ok (.aload_n 0, 1) := by decide +kernel
theorem dX1_sum_54 : decode cX1_sum 54 = .ok (.getfield 60, 3) := by decide +kernel
theorem dX1_sum_57 : decode cX1_sum 57 = .ok (.aload_n 0, 1) := by decide +kernel
theorem dX1_sum_58 : decode cX1_sum 58 = .ok (.getfield 41, 3) := by decide +kernel
theorem dX1_sum_61 : decode cX1_sum 61 = .ok (.aload_n 2, 1) := by decide +kernel
theorem dX1_sum_62 : decode cX1_sum 62 = .ok (.getfield 100, 3) := by decide +kernel
theorem dX1_sum_65 : decode cX1_sum 65 = .ok (.aload_n 3, 1) := by decide +kernel
theorem dX1_sum_66 : decode cX1_sum 66 = .ok (.getfield 100, 3) := by decide +kernel
theorem dX1_sum_69 : decode cX1_sum 69 = .ok (.invokevirtual 113, 3) := by decide +kernel
theorem dX1_sum_72 : decode cX1_sum 72 = .ok (.aload_n 0, 1) := by decide +kernel
theorem dX1_sum_73 : decode cX1_sum 73 = .ok (.getfield 60, 3) := by decide +kernel
theorem dX1_sum_76 : decode cX1_sum 76 = .ok (.aload_n 0, 1) := by decide +kernel
theorem dX1_sum_77 : decode cX1_sum 77 = .ok (.getfield 44, 3) := by decide +kernel
theorem dX1_sum_80 : decode cX1_sum 80 = .ok (.aload_n 0, 1) := by decide +kernel
theorem dX1_sum_81 : decode cX1_sum 81 = .ok (.getfield 38, 3) := by decide +kernel
theorem dX1_sum_84 : decode cX1_sum 84 = .ok (.aload_n 0, 1) := by decide +kernel
theorem dX1_sum_85 : decode cX1_sum 85 = .ok (.getfield 41, 3) := by decide +kernel
theorem dX1_sum_88 : decode cX1_sum 88 = .ok (.invokevirtual 113, 3) := by decide +kernel
theorem dX1_sum_91 : decode cX1_sum 91 = .ok (.aload_n 0, 1) := by decide +kernel
theorem dX1_sum_92 : decode cX1_sum 92 = .ok (.getfield 60, 3) := by decide +kernel
theorem dX1_sum_95 : decode cX1_sum 95 = .ok (.aload_n 0, 1) := by decide +kernel
theorem dX1_sum_96 : decode cX1_sum 96 = .ok (.getfield 44, 3) := by decide +kernel
theorem dX1_sum_99 : decode cX1_sum 99 = .ok (.aload_n 0, 1) := by decide +kernel
theorem dX1_sum_100 : decode cX1_sum 100 = .ok (.getfield 44, 3) := by decide +kernel
theorem dX1_sum_103 : decode cX1_sum 103 = .ok (.aload_n 0, 1) := by decide +kernel
theorem dX1_sum_104 : decode cX1_sum 104 = .ok (.getfield 87, 3) := by decide +kernel
theorem dX1_sum_107 : decode cX1_sum 107 = .ok (.invokevirtual 113, 3) := by decide +kernel
theorem dX1_sum_110 : decode cX1_sum 110 = .ok (.aload_n 0, 1) := by decide +kernel
theorem dX1_sum_111 : decode cX1_sum 111 = .ok (.getfield 60, 3) := by decide +kernel
theorem dX1_sum_114 : decode cX1_sum 114 = .ok (.aload_n 0, 1) := by decide +kernel
theorem dX1_sum_115 : decode cX1_sum 115 = .ok (.getfield 47, 3) := by decide +kernel
theorem dX1_sum_118 : decode cX1_sum 118 = .ok (.aload_n 0, 1) := by decide +kernel
theorem dX1_sum_119 : decode cX1_sum 119 = .ok (.getfield 35, 3) := by decide +kernel
theorem dX1_sum_122 : decode cX1_sum 122 = .ok (.aload_n 0, 1) := by decide +kernel
theorem dX1_sum_123 : decode cX1_sum 123 = .ok (.getfield 44, 3) := by decide +kernel
theorem dX1_sum_126 : decode cX1_sum 126 = .ok (.invokevirtual 120, 3) := by decide +kernel
theorem dX1_sum_129 : decode cX1_sum 129 = .ok (.aload_n 0, 1) := by decide +kernel
theorem dX1_sum_130 : decode cX1_sum 130 = .ok (.getfield 60, 3) := by decide +kernel
theorem dX1_sum_133 : decode cX1_sum 133 = .ok (.aload_n 0, 1) := by decide +kernel
theorem dX1_sum_134 : decode cX1_sum 134 = .ok (.getfield 50, 3) := by decide +kernel
theorem dX1_sum_137 : decode cX1_sum 137 = .ok (.aload_n 0, 1) := by decide +kernel
theorem dX1_sum_138 : decode cX1_sum 138 = .ok (.getfield 35, 3) := by decide +kernel
theorem dX1_sum_141 : decode cX1_sum 141 = .ok (.aload_n 0, 1) := by decide +kernel
theorem dX1_sum_142 : decode cX1_sum 142 = .ok (.getfield 44, 3) := by decide +kernel
theorem dX1_sum_145 : decode cX1_sum 145 = .ok (.invokevirtual 123, 3) := by decide +kernel
theorem dX1_sum_148 : decode cX1_sum 148 = .ok (.aload_n 0, 1) := by decide +kernel
theorem dX1_sum_149 : decode cX1_sum 149 = .ok (.getfield 60, 3) := by decide +kernel
theorem dX1_sum_152 : decode cX1_sum 152 = .ok (.aload_n 0, 1) := by decide +kernel
theorem dX1_sum_153 : decode cX1_sum 153 = .ok (.getfield 53, 3) := by decide +kernel
theorem dX1_sum_156 : decode cX1_sum 156 = .ok (.aload_n 2, 1) := by decide +kernel
theorem dX1_sum_157 : decode cX1_sum 157 = .ok (.getfield 90, 3) := by decide +kernel
theorem dX1_sum_160 : decode cX1_sum 160 = .ok (.aload_n 2, 1) := by decide +kernel
theorem dX1_sum_161 : decode cX1_sum 161 = .ok (.getfield 100, 3) := by decide +kernel
theorem dX1_sum_164 : decode cX1_sum 164 = .ok (.invokevirtual 123, 3) := by decide +kernel
theorem dX1_sum_167 : decode cX1_sum 167 = .ok (.aload_n 0, 1) := by decide +kernel
theorem dX1_sum_168 : decode cX1_sum 168 = .ok (.getfield 60, 3) := by decide +kernel
theorem dX1_sum_171 : decode cX1_sum 171 = .ok (.aload_n 0, 1) := by decide +kernel
theorem dX1_sum_172 : decode cX1_sum 172 = .ok (.getfield 35, 3) := by decide +kernel
theorem dX1_sum_175 : decode cX1_sum 175 = .ok (.aload_n 3, 1) := by decide +kernel
theorem dX1_sum_176 : decode cX1_sum 176 = .ok (.getfield 90, 3) := by decide +kernel
theorem dX1_sum_179 : decode cX1_sum 179 = .ok (.aload_n 3, 1) := by decide +kernel
theorem dX1_sum_180 : decode cX1_sum 180 = .ok (.getfield 100, 3) := by decide +kernel
theorem dX1_sum_183 : decode cX1_sum 183 = .ok (.invokevirtual 123, 3) := by decide +kernel
theorem dX1_sum_186 : decode cX1_sum 186 = .ok (.aload_n 0, 1) := by decide +kernel
theorem dX1_sum_187 : decode cX1_sum 187 = .ok (.getfield 60, 3) := by decide +kernel
theorem dX1_sum_190 : decode cX1_sum 190 = .ok (.aload_n 0, 1) := by decide +kernel
theorem dX1_sum_191 : decode cX1_sum 191 = .ok (.getfield 53, 3) := by decide +kernel
theorem dX1_sum_194 : decode cX1_sum 194 = .ok (.aload_n 0, 1) := by decide +kernel
theorem dX1_sum_195 : decode cX1_sum 195 = .ok (.getfield 53, 3) := by decide +kernel
theorem dX1_sum_198 : decode cX1_sum 198 = .ok (.aload_n 0, 1) := by decide +kernel
theorem dX1_sum_199 : decode cX1_sum 199 = .ok (.getfield 35, 3) := by decide +kernel
theorem dX1_sum_202 : decode cX1_sum 202 = .ok (.invokevirtual 113, 3) := by decide +kernel
theorem dX1_sum_205 : decode cX1_sum 205 = .ok (.aload_n 0, 1) := by decide +kernel
theorem dX1_sum_206 : decode cX1_sum 206 = .ok (.getfield 60, 3) := by decide +kernel
theorem dX1_sum_209 : decode cX1_sum 209 = .ok (.aload_n 0, 1) := by decide +kernel
theorem dX1_sum_210 : decode cX1_sum 210 = .ok (.getfield 44, 3) := by decide +kernel
theorem dX1_sum_213 : decode cX1_sum 213 = .ok (.aload_n 0, 1) := by decide +kernel
theorem dX1_sum_214 : decode cX1_sum 214 = .ok (.getfield 41, 3) := by decide +kernel
theorem dX1_sum_217 : decode cX1_sum 217 = .ok (.aload_n 0, 1) := by decide +kernel
theorem dX1_sum_218 : decode cX1_sum 218 = .ok (.getfield 38, 3) := by decide +kernel
theorem dX1_sum_221 : decode cX1_sum 221 = .ok (.invokevirtual 123, 3) := by decide +kernel
theorem dX1_sum_224 : decode cX1_sum 224 = .ok (.aload_n 0, 1) := by decide +kernel
theorem dX1_sum_225 : decode cX1_sum 225 = .ok (.getfield 60, 3) := by decide +kernel
theorem dX1_sum_228 : decode cX1_sum 228 = .ok (.aload_n 0, 1) := by decide +kernel
theorem dX1_sum_229 : decode cX1_sum 229 = .ok (.getfield 53, 3) := by decide +kernel
theorem dX1_sum_232 : decode cX1_sum 232 = .ok (.aload_n 0, 1) := by decide +kernel
theorem dX1_sum_233 : decode cX1_sum 233 = .ok (.getfield 53, 3) := by decide +kernel
theorem dX1_sum_236 : decode cX1_sum 236 = .ok (.aload_n 0, 1) := by decide +kernel
theorem dX1_sum_237 : decode cX1_sum 237 = .ok (.getfield 44, 3) := by decide +kernel
theorem dX1_sum_240 : decode cX1_sum 240 = .ok (.invokevirtual 120, 3) := by decide +kernel
theorem dX1_sum_243 : decode cX1_sum 243 = .ok (.aload_n 0, 1) := by decide +kernel
theorem dX1_sum_244 : decode cX1_sum 244 = .ok (.getfield 56, 3) := by decide +kernel
theorem dX1_sum_247 : decode cX1_sum 247 = .ok (.ifCond .eq 22, 3) := by decide +kernel
theorem dX1_sum_250 : decode cX1_sum 250 = .ok (.aload_n 0, 1) := by decide +kernel
theorem dX1_sum_251 : decode cX1_sum 251 = .ok (.getfield 60, 3) := by decide +kernel
theorem dX1_sum_254 : decode cX1_sum 254 = .ok (.aload_n 0, 1) := by decide +kernel
theorem dX1_sum_255 : decode cX1_sum 255 = .ok (.getfield 44, 3) := by decide +kernel
theorem dX1_sum_258 : decode cX1_sum 258 = .ok (.aload_n 0, 1) := by decide +kernel
theorem dX1_sum_259 : decode cX1_sum 259 = .ok (.getfield 41, 3) := by decide +kernel
theorem dX1_sum_262 : decode cX1_sum 262 = .ok (.aload_n 0, 1) := by decide +kernel
theorem dX1_sum_263 : decode cX1_sum 263 = .ok (.getfield 38, 3) := by decide +kernel
theorem dX1_sum_266 : decode cX1_sum 266 = .ok (.invokevirtual 120, 3) := by decide +kernel
theorem dX1_sum_269 : decode cX1_sum 269 = .ok (.aload_n 0, 1) := by decide +kernel
theorem dX1_sum_270 : decode cX1_sum 270 = .ok (.getfield 60, 3) := by decide +kernel
theorem dX1_sum_273 : decode cX1_sum 273 = .ok (.aload_n 1, 1) := by decide +kernel
theorem dX1_sum_274 : decode cX1_sum 274 = .ok (.getfield 110, 3) := by decide +kernel
theorem dX1_sum_277 : decode cX1_sum 277 = .ok (.aload_n 0, 1) := by decide +kernel
theorem dX1_sum_278 : decode cX1_sum 278 = .ok (.getfield 47, 3) := by decide +kernel
theorem dX1_sum_281 : decode cX1_sum 281 = .ok (.aload_n 0, 1) := by decide +kernel
theorem dX1_sum_282 : decode cX1_sum 282 = .ok (.getfield 50, 3) := by decide +kernel
theorem dX1_sum_285 : decode cX1_sum 285 = .ok (.invokevirtual 113, 3) := by decide +kernel
theorem dX1_sum_288 : decode cX1_sum 288 = .ok (.aload_n 0, 1) := by decide +kernel
theorem dX1_sum_289 : decode cX1_sum 289 = .ok (.getfield 60, 3) := by decide +kernel
theorem dX1_sum_292 : decode cX1_sum 292 = .ok (.aload_n 0, 1) := by decide +kernel
theorem dX1_sum_293 : decode cX1_sum 293 = .ok (.getfield 47, 3) := by decide +kernel
theorem dX1_sum_296 : decode cX1_sum 296 = .ok (.aload_n 0, 1) := by decide +kernel
theorem dX1_sum_297 : decode cX1_sum 297 = .ok (.getfield 47, 3) := by decide +kernel
theorem dX1_sum_300 : decode cX1_sum 300 = .ok (.aload_n 0, 1) := by decide +kernel
theorem dX1_sum_301 : decode cX1_sum 301 = .ok (.getfield 31, 3) := by decide +kernel
theorem dX1_sum_304 : decode cX1_sum 304 = .ok (.invokevirtual 113, 3) := by decide +kernel
theorem dX1_sum_307 : decode cX1_sum 307 = .ok (.aload_n 0, 1) := by decide +kernel
theorem dX1_sum_308 : decode cX1_sum 308 = .ok (.getfield 60, 3) := by decide +kernel
theorem dX1_sum_311 : decode cX1_sum 311 = .ok (.aload_n 1, 1) := by decide +kernel
theorem dX1_sum_312 : decode cX1_sum 312 = .ok (.getfield 90, 3) := by decide +kernel
theorem dX1_sum_315 : decode cX1_sum 315 = .ok (.aload_n 0, 1) := by decide +kernel
theorem dX1_sum_316 : decode cX1_sum 316 = .ok (.getfield 47, 3) := by decide +kernel
theorem dX1_sum_319 : decode cX1_sum 319 = .ok (.aload_n 0, 1) := by decide +kernel
theorem dX1_sum_320 : decode cX1_sum 320 = .ok (.getfield 53, 3) := by decide +kernel
theorem dX1_sum_323 : decode cX1_sum 323 = .ok (.invokevirtual 113, 3) := by decide +kernel
theorem dX1_sum_326 : decode cX1_sum 326 = .ok (.aload_n 0, 1) := by decide +kernel
theorem dX1_sum_327 : decode cX1_sum 327 = .ok (.getfield 60, 3) := by decide +kernel
theorem dX1_sum_330 : decode cX1_sum 330 = .ok (.aload_n 0, 1) := by decide +kernel
theorem dX1_sum_331 : decode cX1_sum 331 = .ok (.getfield 50, 3) := by decide +kernel
theorem dX1_sum_334 : decode cX1_sum 334 = .ok (.aload_n 0, 1) := by decide +kernel
theorem dX1_sum_335 : decode cX1_sum 335 = .ok (.getfield 50, 3) := by decide +kernel
theorem dX1_sum_338 : decode cX1_sum 338 = .ok (.aload_n 0, 1) := by decide +kernel
theorem dX1_sum_339 : decode cX1_sum 339 = .ok (.getfield 31, 3) := by decide +kernel
theorem dX1_sum_342 : decode cX1_sum 342 = .ok (.invokevirtual 113, 3) := by decide +kernel
theorem dX1_sum_345 : decode cX1_sum 345 = .ok (.aload_n 0, 1) := by decide +kernel
theorem dX1_sum_346 : decode cX1_sum 346 = .ok (.getfield 60, 3) := by decide +kernel
theorem dX1_sum_349 : decode cX1_sum 349 = .ok (.aload_n 1, 1) := by decide +kernel
theorem dX1_sum_350 : decode cX1_sum 350 = .ok (.getfield 100, 3) := by decide +kernel
theorem dX1_sum_353 : decode cX1_sum 353 = .ok (.aload_n 0, 1) := by decide +kernel
theorem dX1_sum_354 : decode cX1_sum 354 = .ok (.getfield 50, 3) := by decide +kernel
theorem dX1_sum_357 : decode cX1_sum 357 = .ok (.aload_n 0, 1) := by decide +kernel
theorem dX1_sum_358 : decode cX1_sum 358 = .ok (.getfield 44, 3) := by decide +kernel
theorem dX1_sum_361 : decode cX1_sum 361 = .ok (.invokevirtual 113, 3) := by decide +kernel
theorem dX1_sum_364 : decode cX1_sum 364 = .ok (.return_, 1) := by decide +kernel
theorem dX1_twice_0 : decode cX1_twice 0 = .ok (.aload_n 0, 1) := by decide +kernel
theorem dX1_twice_1 : decode cX1_twice 1 = .ok (.getfield 60, 3) := by decide +kernel
theorem dX1_twice_4 : decode cX1_twice 4 = .ok (.aload_n 0, 1) := by decide +kernel
theorem dX1_twice_5 : decode cX1_twice 5 = .ok (.getfield 35, 3) := by decide +kernel
theorem dX1_twice_8 : decode cX1_twice 8 = .ok (.aload_n 2, 1) := by decide +kernel
theorem dX1_twice_9 : decode cX1_twice 9 = .ok (.getfield 90, 3) := by decide +kernel
theorem dX1_twice_12 : decode cX1_twice 12 = .ok (.aload_n 2, 1) := by decide +kernel
theorem dX1_twice_13 : decode cX1_twice 13 = .ok (.getfield 100, 3) := by decide +kernel
theorem dX1_twice_16 : decode cX1_twice 16 = .ok (.invokevirtual 123, 3) := by decide +kernel
theorem dX1_twice_19 : decode cX1_twice 19 = .ok (.aload_n 0, 1) := by decide +kernel
theorem dX1_twice_20 : decode cX1_twice 20 = .ok (.getfield 60, 3) := by decide +kernel
theorem dX1_twice_23 : decode cX1_twice 23 = .ok (.aload_n 0, 1) := by decide +kernel
theorem dX1_twice_24 : decode cX1_twice 24 = .ok (.getfield 35, 3) := by decide +kernel
theorem dX1_twice_27 : decode cX1_twice 27 = .ok (.aload_n 0, 1) := by decide +kernel
theorem dX1_twice_28 : decode cX1_twice 28 = .ok (.getfield 35, 3) := by decide +kernel
theorem dX1_twice_31 : decode cX1_twice 31 = .ok (.invokevirtual 117, 3) := by decide +kernel
theorem dX1_twice_34 : decode cX1_twice 34 = .ok (.aload_n 0, 1) := by decide +kernel
theorem dX1_twice_35 : decode cX1_twice 35 = .ok (.getfield 60, 3) := by decide +kernel
theorem dX1_twice_38 : decode cX1_twice 38 = .ok (.aload_n 0, 1) := by decide +kernel
theorem dX1_twice_39 : decode cX1_twice 39 = .ok (.getfield 38, 3) := by decide +kernel
theorem dX1_twice_42 : decode cX1_twice 42 = .ok (.aload_n 2, 1) := by decide +kernel
theorem dX1_twice_43 : decode cX1_twice 43 = .ok (.getfield 90, 3) := by decide +kernel
theorem dX1_twice_46 : decode cX1_twice 46 = .ok (.invokevirtual 117, 3) := by decide +kernel
theorem dX1_twice_49 : decode cX1_twice 49 = .ok (.aload_n 0, 1) := by decide +kernel
theorem dX1_twice_50 : decode cX1_twice 50 = .ok (.getfield 60, 3) := by decide +kernel
theorem dX1_twice_53 : decode cX1_twice 53 = .ok (.aload_n 0, 1) := by decide +kernel
theorem dX1_twice_54 : decode cX1_twice 54 = .ok (.getfield 41, 3) := by decide +kernel
theorem dX1_twice_57 : decode cX1_twice 57 = .ok (.aload_n 2, 1) := by decide +kernel
theorem dX1_twice_58 : decode cX1_twice 58 = .ok (.getfield 100, 3) := by decide +kernel
theorem dX1_twice_61 : decode cX1_twice 61 = .ok (.invokevirtual 117, 3) := by decide +kernel
theorem dX1_twice_64 : decode cX1_twice 64 = .ok (.aload_n 0, 1) := by decide +kernel
theorem dX1_twice_65 : decode cX1_twice 65 = .ok (.getfield 60, 3) := by decide +kernel
theorem dX1_twice_68 : decode cX1_twice 68 = .ok (.aload_n 0, 1) := by decide +kernel
theorem dX1_twice_69 : decode cX1_twice 69 = .ok (.getfield 53, 3) := by decide +kernel
theorem dX1_twice_72 : decode cX1_twice 72 = .ok (.aload_n 2, 1) := by decide +kernel
theorem dX1_twice_73 : decode cX1_twice 73 = .ok (.getfield 110, 3) := by decide +kernel
theorem dX1_twice_76 : decode cX1_twice 76 = .ok (.invokevirtual 117, 3) := by decide +kernel
theorem dX1_twice_79 : decode cX1_twice 79 = .ok (.aload_n 0, 1) := by decide +kernel
theorem dX1_twice_80 : decode cX1_twice 80 = .ok (.getfield 60, 3) := by decide +kernel
theorem dX1_twice_83 : decode cX1_twice 83 = .ok (.aload_n 0, 1) := by decide +kernel
theorem dX1_twice_84 : decode cX1_twice 84 = .ok (.getfield 44, 3) := by decide +kernel
theorem dX1_twice_87 : decode cX1_twice 87 = .ok (.aload_n 0, 1) := by decide +kernel
theorem dX1_twice_88 : decode cX1_twice 88 = .ok (.getfield 41, 3) := by decide +kernel
theorem dX1_twice_91 : decode cX1_twice 91 = .ok (.aload_n 0, 1) := by decide +kernel
theorem dX1_twice_92 : decode cX1_twice 92 = .ok (.getfield 38, 3) := by decide +kernel
theorem dX1_twice_95 : decode cX1_twice 95 = .ok (.invokevirtual 123, 3) := by decide +kernel
theorem dX1_twice_98 : decode cX1_twice 98 = .ok (.aload_n 0, 1) := by decide +kernel
theorem dX1_twice_99 : decode cX1_twice 99 = .ok (.getfield 60, 3) := by decide +kernel
theorem dX1_twice_102 : decode cX1_twice 102 = .ok (.aload_n 0, 1) := by decide +kernel
theorem dX1_twice_103 : decode cX1_twice 103 = .ok (.getfield 50, 3) := by decide +kernel
theorem dX1_twice_106 : decode cX1_twice 106 = .ok (.aload_n 0, 1) := by decide +kernel
theorem dX1_twice_107 : decode cX1_twice 107 = .ok (.getfield 41, 3) := by decide +kernel
theorem dX1_twice_110 : decode cX1_twice 110 = .ok (.aload_n 0, 1) := by decide +kernel
theorem dX1_twice_111 : decode cX1_twice 111 = .ok (.getfield 38, 3) := by decide +kernel
theorem dX1_twice_114 : decode cX1_twice 114 = .ok (.invokevirtual 120, 3) := by decide +kernel
theorem dX1_twice_117 : decode cX1_twice 117 = .ok (.aload_n 0, 1) := by decide +kernel
theorem dX1_twice_118 : decode cX1_twice 118 = .ok (.getfield 60, 3) := by decide +kernel
theorem dX1_twice_121 : decode cX1_twice 121 = .ok (.aload_n 0, 1) := by decide +kernel
theorem dX1_twice_122 : decode cX1_twice 122 = .ok (.getfield 35, 3) := by decide +kernel
theorem dX1_twice_125 : decode cX1_twice 125 = .ok (.aload_n 0, 1) := by decide +kernel
theorem dX1_twice_126 : decode cX1_twice 126 = .ok (.getfield 35, 3) := by decide +kernel
theorem dX1_twice_129 : decode cX1_twice 129 = .ok (.aload_n 0, 1) := by decide +kernel
theorem dX1_twice_130 : decode cX1_twice 130 = .ok (.getfield 44, 3) := by decide +kernel
theorem dX1_twice_133 : decode cX1_twice 133 = .ok (.invokevirtual 120, 3) := by decide +kernel
theorem dX1_twice_136 : decode cX1_twice 136 = .ok (.aload_n 0, 1) := by decide +kernel
theorem dX1_twice_137 : decode cX1_twice 137 = .ok (.getfield 56, 3) := by decide +kernel
theorem dX1_twice_140 : decode cX1_twice 140 = .ok (.ifCond .eq 10, 3) := by decide +kernel
theorem dX1_twice_143 : decode cX1_twice 143 = .ok (.aload_n 0, 1) := by decide +kernel
theorem dX1_twice_144 : decode cX1_twice 144 = .ok (.getfield 44, 3) := by decide +kernel
theorem dX1_twice_147 : decode cX1_twice 147 = .ok (.goto 7, 3) := by decide +kernel
theorem dX1_twice_150 : decode cX1_twice 150 = .ok (.aload_n 0, 1) := by decide +kernel
theorem dX1_twice_151 : decode cX1_twice 151 = .ok (.getfield 50, 3) := by decide +kernel
theorem dX1_twice_154 : decode cX1_twice 154 = .ok (.astore_n 3, 1) := by decide +kernel
theorem dX1_twice_155 : decode cX1_twice 155 = .ok (.aload_n 0, 1) := by decide +kernel
theorem dX1_twice_156 : decode cX1_twice 156 = .ok (.getfield 60, 3) := by decide +kernel
theorem dX1_twice_159 : decode cX1_twice 159 = .ok (.aload_n 0, 1) := by decide +kernel
theorem dX1_twice_160 : decode cX1_twice 160 = .ok (.getfield 53, 3) := by decide +kernel
theorem dX1_twice_163 : decode cX1_twice 163 = .ok (.aload_n 0, 1) := by decide +kernel
theorem dX1_twice_164 : decode cX1_twice 164 = .ok (.getfield 53, 3) := by decide +kernel
theorem dX1_twice_167 : decode cX1_twice 167 = .ok (.aload_n 0, 1) := by decide +kernel
theorem dX1_twice_168 : decode cX1_twice 168 = .ok (.getfield 53, 3) := by decide +kernel
theorem dX1_twice_171 : decode cX1_twice 171 = .ok (.invokevirtual 123, 3) := by decide +kernel
theorem dX1_twice_174 : decode cX1_twice 174 = .ok (.aload_n 0, 1) := by decide +kernel
theorem dX1_twice_175 : decode cX1_twice 175 = .ok (.getfield 60, 3) := by decide +kernel
theorem dX1_twice_178 : decode cX1_twice 178 = .ok (.aload_n 0, 1) := by decide +kernel
theorem dX1_twice_179 : decode cX1_twice 179 = .ok (.getfield 53, 3) := by decide +kernel
theorem dX1_twice_182 : decode cX1_twice 182 = .ok (.aload_n 0, 1) := by decide +kernel
theorem dX1_twice_183 : decode cX1_twice 183 = .ok (.getfield 53, 3) := by decide +kernel
theorem dX1_twice_186 : decode cX1_twice 186 = .ok (.aload_n 3, 1) := by decide +kernel
theorem dX1_twice_187 : decode cX1_twice 187 = .ok (.invokevirtual 120, 3) := by decide +kernel
theorem dX1_twice_190 : decode cX1_twice 190 = .ok (.aload_n 0, 1) := by decide +kernel
theorem dX1_twice_191 : decode cX1_twice 191 = .ok (.getfield 60, 3) := by decide +kernel
theorem dX1_twice_194 : decode cX1_twice 194 = .ok (.aload_n 1, 1) := by decide +kernel
theorem dX1_twice_195 : decode cX1_twice 195 = .ok (.getfield 90, 3) := by decide +kernel
theorem dX1_twice_198 : decode cX1_twice 198 = .ok (.aload_n 0, 1) := by decide +kernel
theorem dX1_twice_199 : decode cX1_twice 199 = .ok (.getfield 35, 3) := by decide +kernel
theorem dX1_twice_202 : decode cX1_twice 202 = .ok (.aload_n 0, 1) := by decide +kernel
theorem dX1_twice_203 : decode cX1_twice 203 = .ok (.getfield 53, 3) := by decide +kernel
theorem dX1_twice_206 : decode cX1_twice 206 = .ok (.invokevirtual 113, 3) := by decide +kernel
theorem dX1_twice_209 : decode cX1_twice 209 = .ok (.aload_n 0, 1) := by decide +kernel
theorem dX1_twice_210 : decode cX1_twice 210 = .ok (.getfield 60, 3) := by decide +kernel
theorem dX1_twice_213 : decode cX1_twice 213 = .ok (.aload_n 1, 1) := by decide +kernel
theorem dX1_twice_214 : decode cX1_twice 214 = .ok (.getfield 100, 3) := by decide +kernel
theorem dX1_twice_217 : decode cX1_twice 217 = .ok (.aload_n 0, 1) := by decide +kernel
theorem dX1_twice_218 : decode cX1_twice 218 = .ok (.getfield 44, 3) := by decide +kernel
theorem dX1_twice_221 : decode cX1_twice 221 = .ok (.aload_n 0, 1) := by decide +kernel
theorem dX1_twice_222 : decode cX1_twice 222 = .ok (.getfield 50, 3) := by decide +kernel
theorem dX1_twice_225 : decode cX1_twice 225 = .ok (.invokevirtual 113, 3) := by decide +kernel
theorem dX1_twice_228 : decode cX1_twice 228 = .ok (.aload_n 0, 1) := by decide +kernel
theorem dX1_twice_229 : decode cX1_twice 229 = .ok (.getfield 60, 3) := by decide +kernel
theorem dX1_twice_232 : decode cX1_twice 232 = .ok (.aload_n 1, 1) := by decide +kernel
theorem dX1_twice_233 : decode cX1_twice 233 = .ok (.getfield 110, 3) := by decide +kernel
theorem dX1_twice_236 : decode cX1_twice 236 = .ok (.aload_n 3, 1) := by decide +kernel
theorem dX1_twice_237 : decode cX1_twice 237 = .ok (.aload_n 0, 1) := by decide +kernel
theorem dX1_twice_238 : decode cX1_twice 238 = .ok (.getfield 53, 3) := by decide +kernel
theorem dX1_twice_241 : decode cX1_twice 241 = .ok (.invokevirtual 113, 3) := by decide +kernel
theorem dX1_twice_244 : decode cX1_twice 244 = .ok (.return_, 1) := by decide +kernel
theorem dX1_negate_0 : decode cX1_negate 0 = .ok (.aload_n 0, 1) := by decide +kernel
theorem dX1_negate_1 : decode cX1_negate 1 = .ok (.getfield 60, 3) := by decide +kernel
theorem dX1_negate_4 : decode cX1_negate 4 = .ok (.aload_n 1, 1) := by decide +kernel
theorem dX1_negate_5 : decode cX1_negate 5 = .ok (.getfield 90, 3) := by decide +kernel
theorem dX1_negate_8 : decode cX1_negate 8 = .ok (.aload_n 2, 1) := by decide +kernel
theorem dX1_negate_9 : decode cX1_negate 9 = .ok (.getfield 90, 3) := by decide +kernel
theorem dX1_negate_12 : decode cX1_negate 12 = .ok (.invokevirtual 83, 3) := by decide +kernel
theorem dX1_negate_15 : decode cX1_negate 15 = .ok (.aload_n 0, 1) := by decide +kernel
theorem dX1_negate_16 : decode cX1_negate 16 = .ok (.getfield 60, 3) := by decide +kernel
theorem dX1_negate_19 : decode cX1_negate 19 = .ok (.aload_n 1, 1) := by decide +kernel
theorem dX1_negate_20 : decode cX1_negate 20 = .ok (.getfield 100, 3) := by decide +kernel
theorem dX1_negate_23 : decode cX1_negate 23 = .ok (.aload_n 2, 1) := by decide +kernel
theorem dX1_negate_24 : decode cX1_negate 24 = .ok (.getfield 100, 3) := by decide +kernel
theorem dX1_negate_27 : decode cX1_negate 27 = .ok (.invokevirtual 97, 3) := by decide +kernel
theorem dX1_negate_30 : decode cX1_negate 30 = .ok (.aload_n 0, 1) := by decide +kernel
theorem dX1_negate_31 : decode cX1_negate 31 = .ok (.getfield 60, 3) := by decide +kernel
theorem dX1_negate_34 : decode cX1_negate 34 = .ok (.aload_n 1, 1) := by decide +kernel
theorem dX1_negate_35 : decode cX1_negate 35 = .ok (.getfield 110, 3) := by decide +kernel
theorem dX1_negate_38 : decode cX1_negate 38 = .ok (.aload_n 2, 1) := by decide +kernel
theorem dX1_negate_39 : decode cX1_negate 39 = .ok (.getfield 110, 3) := by decide +kernel
theorem dX1_negate_42 : decode cX1_negate 42 = .ok (.invokevirtual 97, 3) := by decide +kernel
theorem dX1_negate_45 : decode cX1_negate 45 = .ok (.return_, 1) := by decide +kernel
theorem dX1_multiply_0 : decode cX1_multiply 0 = .ok (.aload_n 0, 1) := by decide +kernel
theorem dX1_multiply_1 : decode cX1_multiply 1 = .ok (.aload_n 0, 1) := by decide +kernel
theorem dX1_multiply_2 : decode cX1_multiply 2 = .ok (.getfield 18, 3) := by decide +kernel
theorem dX1_multiply_5 : decode cX1_multiply 5 = .ok (.aload_n 3, 1) := by decide +kernel
theorem dX1_multiply_6 : decode cX1_multiply 6 = .ok (.invokevirtual 126, 3) := by decide +kernel
theorem dX1_multiply_9 : decode cX1_multiply 9 = .ok (.aload_n 0, 1) := by decide +kernel
theorem dX1_multiply_10 : decode cX1_multiply 10 = .ok (.aload_n 0, 1) := by decide +kernel
theorem dX1_multiply_11 : decode cX1_multiply 11 = .ok (.getfield 18, 3) := by decide +kernel
theorem dX1_multiply_14 : decode cX1_multiply 14 = .ok (.aload_n 0, 1) := by decide +kernel
theorem dX1_multiply_15 : decode cX1_multiply 15 = .ok (.getfield 18, 3) := by decide +kernel
theorem dX1_multiply_18 : decode cX1_multiply 18 = .ok (.invokevirtual 126, 3) := by decide +kernel
theorem dX1_multiply_21 : decode cX1_multiply 21 = .ok (.aload_n 0, 1) := by decide +kernel
theorem dX1_multiply_22 : decode cX1_multiply 22 = .ok (.aload_n 3, 1) := by decide +kernel
theorem dX1_multiply_23 : decode cX1_multiply 23 = .ok (.aload_n 0, 1) := by decide +kernel
theorem dX1_multiply_24 : decode cX1_multiply 24 = .ok (.getfield 18, 3) := by decide +kernel
theorem dX1_multiply_27 : decode cX1_multiply 27 = .ok (.invokevirtual 130, 3) := by decide +kernel
theorem dX1_multiply_30 : decode cX1_multiply 30 = .ok (.iconst 2, 1) := by decide +kernel
theorem dX1_multiply_31 : decode cX1_multiply 31 = .ok (.aload_n 0, 1) := by decide +kernel
theorem dX1_multiply_32 : decode cX1_multiply 32 = .ok (.getfield 64, 3) := by decide +kernel
theorem dX1_multiply_35 : decode cX1_multiply 35 = .ok (.imul, 1) := by decide +kernel
theorem dX1_multiply_36 : decode cX1_multiply 36 = .ok (.istore 4, 2) := by decide +kernel
theorem dX1_multiply_38 : decode cX1_multiply 38 = .ok (.iconst 0, 1) := by decide +kernel
theorem dX1_multiply_39 : decode cX1_multiply 39 = .ok (.istore 5, 2) := by decide +kernel
theorem dX1_multiply_41 : decode cX1_multiply 41 = .ok (.iload 5, 2) := by decide +kernel
theorem dX1_multiply_43 : decode cX1_multiply 43 = .ok (.iload 4, 2) := by decide +kernel
theorem dX1_multiply_45 : decode cX1_multiply 45 = .ok (.if_icmp .ge 32, 3) := by decide +kernel
theorem dX1_multiply_48 : decode cX1_multiply 48 = .ok (.aload_n 0, 1) := by decide +kernel
theorem dX1_multiply_49 : decode cX1_multiply 49 = .ok (.getfield 22, 3) := by decide +kernel
theorem dX1_multiply_52 : decode cX1_multiply 52 = .ok (.iload 5, 2) := by decide +kernel
theorem dX1_multiply_54 : decode cX1_multiply 54 = .ok (.aload_n 2, 1) := by decide +kernel
theorem dX1_multiply_55 : decode cX1_multiply 55 = .ok (.iload 5, 2) := by decide +kernel
theorem dX1_multiply_57 : decode cX1_multiply 57 = .ok (.iconst 1, 1) := by decide +kernel
theorem dX1_multiply_58 : decode cX1_multiply 58 = .ok (.ishr, 1) := by decide +kernel
theorem dX1_multiply_59 : decode cX1_multiply 59 = .ok (.iaload, 1) := by decide +kernel
theorem dX1_multiply_60 : decode cX1_multiply 60 = .ok (.iconst 4, 1) := by decide +kernel
theorem dX1_multiply_61 : decode cX1_multiply 61 = .ok (.iload 5, 2) := by decide +kernel
theorem dX1_multiply_63 : decode cX1_multiply 63 = .ok (.iconst 1, 1) := by decide +kernel
theorem dX1_multiply_64 : decode cX1_multiply 64 = .ok (.iand, 1) := by decide +kernel
theorem dX1_multiply_65 : decode cX1_multiply 65 = .ok (.imul, 1) := by decide +kernel
theorem dX1_multiply_66 : decode cX1_multiply 66 = .ok (.ishr, 1) := by decide +kernel
theorem dX1_multiply_67 : decode cX1_multiply 67 = .ok (.bipush 15, 2) := by decide +kernel
theorem dX1_multiply_69 : decode cX1_multiply 69 = .ok (.iand, 1) := by decide +kernel
theorem dX1_multiply_70 : decode cX1_multiply 70 = .ok (.iastore, 1) := by decide +kernel
theorem dX1_multiply_71 : decode cX1_multiply 71 = .ok (.iinc 5 1, 3) := by decide +kernel
theorem dX1_multiply_74 : decode cX1_multiply 74 = .ok (.goto (-33), 3) := by decide +kernel
theorem dX1_multiply_77 : decode cX1_multiply 77 = .ok (.aload_n 0, 1) := by decide +kernel
theorem dX1_multiply_78 : decode cX1_multiply 78 = .ok (.aload_n 1, 1) := by decide +kernel
theorem dX1_multiply_79 : decode cX1_multiply 79 = .ok (.iload 4, 2) := by decide +kernel
theorem dX1_multiply_81 : decode cX1_multiply 81 = .ok (.iconst 4, 1) := by decide +kernel
theorem dX1_multiply_82 : decode cX1_multiply 82 = .ok (.invokevirtual 133, 3) := by decide +kernel
theorem dX1_multiply_85 : decode cX1_multiply 85 = .ok (.return_, 1) := by decide +kernel
theorem dX1_multiplyTwo_0 : decode cX1_multiplyTwo 0 = .ok (.aload_n 0, 1) := by decide +kernel
theorem dX1_multiplyTwo_1 : decode cX1_multiplyTwo 1 = .ok (.aload_n 3, 1) := by decide +kernel
theorem dX1_multiplyTwo_2 : decode cX1_multiplyTwo 2 = .ok (.aload 5, 2) := by decide +kernel
theorem dX1_multiplyTwo_4 : decode cX1_multiplyTwo 4 = .ok (.invokevirtual 130, 3) := by decide +kernel
theorem dX1_multiplyTwo_7 : decode cX1_multiplyTwo 7 = .ok (.iconst 4, 1) := by decide +kernel
theorem dX1_multiplyTwo_8 : decode cX1_multiplyTwo 8 = .ok (.aload_n 0, 1) := by decide +kernel
theorem dX1_multiplyTwo_9 : decode cX1_multiplyTwo 9 = .ok (.getfield 64, 3) := by decide +kernel
theorem dX1_multiplyTwo_12 : decode cX1_multiplyTwo 12 = .ok (.imul, 1) := by decide +kernel
theorem dX1_multiplyTwo_13 : decode cX1_multiplyTwo 13 = .ok (.istore 6, 2) := by decide +kernel
theorem dX1_multiplyTwo_15 : decode cX1_multiplyTwo 15 = .ok (.iconst 0, 1) := by decide +kernel
theorem dX1_multiplyTwo_16 : decode cX1_multiplyTwo 16 = .ok (.istore 7, 2) := by decide +kernel
theorem dX1_multiplyTwo_18 : decode cX1_multiplyTwo 18 = .ok (.iload 7, 2) := by decide +kernel
theorem dX1_multiplyTwo_20 : decode cX1_multiplyTwo 20 = .ok (.iload 6, 2) := by decide +kernel
theorem dX1_multiplyTwo_22 : decode cX1_multiplyTwo 22 = .ok (.if_icmp .ge 50, 3) := by decide +kernel
theorem dX1_multiplyTwo_25 : decode cX1_multiplyTwo 25 = .ok (.iconst 2, 1) := by decide +kernel
theorem dX1_multiplyTwo_26 : decode cX1_multiplyTwo 26 = .ok (.iload 7, 2) := by decide +kernel
theorem dX1_multiplyTwo_28 : decode cX1_multiplyTwo 28 = .ok (.iconst 3, 1) := by decide +kernel
theorem dX1_multiplyTwo_29 : decode cX1_multiplyTwo 29 = .ok (.iand, 1) := by decide +kernel
theorem dX1_multiplyTwo_30 : decode cX1_multiplyTwo 30 = .ok (.imul, 1) := by decide +kernel
theorem dX1_multiplyTwo_31 : decode cX1_multiplyTwo 31 = .ok (.istore 8, 2) := by decide +kernel
theorem dX1_multiplyTwo_33 : decode cX1_multiplyTwo 33 = .ok (.aload_n 0, 1) := by decide +kernel
theorem dX1_multiplyTwo_34 : decode cX1_multiplyTwo 34 = .ok (.getfield 22, 3) := by decide +kernel
theorem dX1_multiplyTwo_37 : decode cX1_multiplyTwo 37 = .ok (.iload 7, 2) := by decide +kernel
theorem dX1_multiplyTwo_39 : decode cX1_multiplyTwo 39 = .ok (.aload_n 2, 1) := by decide +kernel
theorem dX1_multiplyTwo_40 : decode cX1_multiplyTwo 40 = .ok (.iload 7, 2) := by decide +kernel
theorem dX1_multiplyTwo_42 : decode cX1_multiplyTwo 42 = .ok (.iconst 2, 1) := by decide +kernel
theorem dX1_multiplyTwo_43 : decode cX1_multiplyTwo 43 = .ok (.ishr, 1) := by decide +kernel
theorem dX1_multiplyTwo_44 : decode cX1_multiplyTwo 44 = .ok (.iaload, 1) := by decide +kernel
theorem dX1_multiplyTwo_45 : decode cX1_multiplyTwo 45 = .ok (.iload 8, 2) := by decide +kernel
theorem dX1_multiplyTwo_47 : decode cX1_multiplyTwo 47 = .ok (.ishr, 1) := by decide +kernel
theorem dX1_multiplyTwo_48 : decode cX1_multiplyTwo 48 = .ok (.iconst 3, 1) := by decide +kernel
theorem dX1_multiplyTwo_49 : decode cX1_multiplyTwo 49 = .ok (.iand, 1) := by decide +kernel
theorem dX1_multiplyTwo_50 : decode cX1_multiplyTwo 50 = .ok (.iconst 4, 1) := by decide +kernel
theorem dX1_multiplyTwo_51 : decode cX1_multiplyTwo 51 = .ok (.aload 4, 2) := by decide +kernel
theorem dX1_multiplyTwo_53 : decode cX1_multiplyTwo 53 = .ok (.iload 7, 2) := by decide +kernel
theorem dX1_multiplyTwo_55 : decode cX1_multiplyTwo 55 = .ok (.iconst 2, 1) := by decide +kernel
theorem dX1_multiplyTwo_56 : decode cX1_multiplyTwo 56 = .ok (.ishr, 1) := by decide +kernel
theorem dX1_multiplyTwo_57 : decode cX1_multiplyTwo 57 = .ok (.iaload, 1) := by decide +kernel
theorem dX1_multiplyTwo_58 : decode cX1_multiplyTwo 58 = .ok (.iload 8, 2) := by decide +kernel
theorem dX1_multiplyTwo_60 : decode cX1_multiplyTwo 60 = .ok (.ishr, 1) := by decide +kernel
theorem dX1_multiplyTwo_61 : decode cX1_multiplyTwo 61 = .ok (.iconst 3, 1) := by decide +kernel
theorem dX1_multiplyTwo_62 : decode cX1_multiplyTwo 62 = .ok (.iand, 1) := by decide +kernel
theorem dX1_multiplyTwo_63 : decode cX1_multiplyTwo 63 = .ok (.imul, 1) := by decide +kernel
theorem dX1_multiplyTwo_64 : decode cX1_multiplyTwo 64 = .ok (.iadd, 1) := by decide +kernel
theorem dX1_multiplyTwo_65 : decode cX1_multiplyTwo 65 = .ok (.iastore, 1) := by decide +kernel
theorem dX1_multiplyTwo_66 : decode cX1_multiplyTwo 66 = .ok (.iinc 7 1, 3) := by decide +kernel
theorem dX1_multiplyTwo_69 : decode cX1_multiplyTwo 69 = .ok (.goto (-51), 3) := by decide +kernel
theorem dX1_multiplyTwo_72 : decode cX1_multiplyTwo 72 = .ok (.aload_n 0, 1) := by decide +kernel
theorem dX1_multiplyTwo_73 : decode cX1_multiplyTwo 73 = .ok (.aload_n 1, 1) := by decide +kernel
theorem dX1_multiplyTwo_74 : decode cX1_multiplyTwo 74 = .ok (.iload 6, 2) := by decide +kernel
theorem dX1_multiplyTwo_76 : decode cX1_multiplyTwo 76 = .ok (.iconst 2, 1) := by decide +kernel
theorem dX1_multiplyTwo_77 : decode cX1_multiplyTwo 77 = .ok (.invokevirtual 133, 3) := by decide +kernel
theorem dX1_multiplyTwo_80 : decode cX1_multiplyTwo 80 = .ok (.return_, 1) := by decide +kernel
theorem dX1_isNeutral_0 : decode cX1_isNeutral 0 = .ok (.aload_n 0, 1) := by decide +kernel
theorem dX1_isNeutral_1 : decode cX1_isNeutral 1 = .ok (.getfield 60, 3) := by decide +kernel
theorem dX1_isNeutral_4 : decode cX1_isNeutral 4 = .ok (.aload_n 1, 1) := by decide +kernel
theorem dX1_isNeutral_5 : decode cX1_isNeutral 5 = .ok (.getfield 90, 3) := by decide +kernel
theorem dX1_isNeutral_8 : decode cX1_isNeutral 8 = .ok (.invokevirtual 137, 3) := by decide +kernel
theorem dX1_isNeutral_11 : decode cX1_isNeutral 11 = .ok (.ifCond .eq 25, 3) := by decide +kernel
theorem dX1_isNeutral_14 : decode cX1_isNeutral 14 = .ok (.aload_n 0, 1) := by decide +kernel
theorem dX1_isNeutral_15 : decode cX1_isNeutral 15 = .ok (.getfield 60, 3) := by decide +kernel
theorem dX1_isNeutral_18 : decode cX1_isNeutral 18 = .ok (.aload_n 1, 1) := by decide +kernel
theorem dX1_isNeutral_19 : decode cX1_isNeutral 19 = .ok (.getfield 100, 3) := by decide +kernel
theorem dX1_isNeutral_22 : decode cX1_isNeutral 22 = .ok (.aload_n 1, 1) := by decide +kernel
theorem dX1_isNeutral_23 : decode cX1_isNeutral 23 = .ok (.getfield 110, 3) := by decide +kernel
theorem dX1_isNeutral_26 : decode cX1_isNeutral 26 = .ok (.invokevirtual 141, 3) := by decide +kernel
theorem dX1_isNeutral_29 : decode cX1_isNeutral 29 = .ok (.ifCond .eq 7, 3) := by decide +kernel
theorem dX1_isNeutral_32 : decode cX1_isNeutral 32 = .ok (.iconst 1, 1) := by decide +kernel
theorem dX1_isNeutral_33 : decode cX1_isNeutral 33 = .ok (.goto 4, 3) := by decide +kernel
theorem dX1_isNeutral_36 : decode cX1_isNeutral 36 = .ok (.iconst 0, 1) := by decide +kernel
theorem dX1_isNeutral_37 : decode cX1_isNeutral 37 = .ok (.ireturn, 1) := by decide +kernel
theorem dX1_areEqual_0 : decode cX1_areEqual 0 = .ok (.aload_n 0, 1) := by decide +kernel
theorem dX1_areEqual_1 : decode cX1_areEqual 1 = .ok (.getfield 60, 3) := by decide +kernel
theorem dX1_areEqual_4 : decode cX1_areEqual 4 = .ok (.aload_n 0, 1) := by decide +kernel
theorem dX1_areEqual_5 : decode cX1_areEqual 5 = .ok (.getfield 31, 3) := by decide +kernel
theorem dX1_areEqual_8 : decode cX1_areEqual 8 = .ok (.aload_n 1, 1) := by decide +kernel
theorem dX1_areEqual_9 : decode cX1_areEqual 9 = .ok (.getfield 90, 3) := by decide +kernel
theorem dX1_areEqual_12 : decode cX1_areEqual 12 = .ok (.aload_n 2, 1) := by decide +kernel
theorem dX1_areEqual_13 : decode cX1_areEqual 13 = .ok (.getfield 110, 3) := by decide +kernel
theorem dX1_areEqual_16 : decode cX1_areEqual 16 = .ok (.invokevirtual 113, 3) := by decide +kernel
theorem dX1_areEqual_19 : decode cX1_areEqual 19 = .ok (.aload_n 0, 1) := by decide +kernel
theorem dX1_areEqual_20 : decode cX1_areEqual 20 = .ok (.getfield 60, 3) := by decide +kernel
theorem dX1_areEqual_23 : decode cX1_areEqual 23 = .ok (.aload_n 0, 1) := by decide +kernel
theorem dX1_areEqual_24 : decode cX1_areEqual 24 = .ok (.getfield 35, 3) := by decide +kernel
theorem dX1_areEqual_27 : decode cX1_areEqual 27 = .ok (.aload_n 2, 1) := by decide +kernel
theorem dX1_areEqual_28 : decode cX1_areEqual 28 = .ok (.getfield 90, 3) := by decide +kernel
theorem dX1_areEqual_31 : decode cX1_areEqual 31 = .ok (.aload_n 1, 1) := by decide +kernel
theorem dX1_areEqual_32 : decode cX1_areEqual 32 = .ok (.getfield 110, 3) := by decide +kernel
theorem dX1_areEqual_35 : decode cX1_areEqual 35 = .ok (.invokevirtual 113, 3) := by decide +kernel
theorem dX1_areEqual_38 : decode cX1_areEqual 38 = .ok (.aload_n 0, 1) := by decide +kernel
theorem dX1_areEqual_39 : decode cX1_areEqual 39 = .ok (.getfield 60, 3) := by decide +kernel
theorem dX1_areEqual_42 : decode cX1_areEqual 42 = .ok (.aload_n 0, 1) := by decide +kernel
theorem dX1_areEqual_43 : decode cX1_areEqual 43 = .ok (.getfield 38, 3) := by decide +kernel
theorem dX1_areEqual_46 : decode cX1_areEqual 46 = .ok (.aload_n 1, 1) := by decide +kernel
theorem dX1_areEqual_47 : decode cX1_areEqual 47 = .ok (.getfield 100, 3) := by decide +kernel
theorem dX1_areEqual_50 : decode cX1_areEqual 50 = .ok (.aload_n 2, 1) := by decide +kernel
theorem dX1_areEqual_51 : decode cX1_areEqual 51 = .ok (.getfield 110, 3) := by decide +kernel
theorem dX1_areEqual_54 : decode cX1_areEqual 54 = .ok (.invokevirtual 113, 3) := by decide +kernel
theorem dX1_areEqual_57 : decode cX1_areEqual 57 = .ok (.aload_n 0, 1) := by decide +kernel
theorem dX1_areEqual_58 : decode cX1_areEqual 58 = .ok (.getfield 60, 3) := by decide +kernel
theorem dX1_areEqual_61 : decode cX1_areEqual 61 = .ok (.aload_n 0, 1) := by decide +kernel
theorem dX1_areEqual_62 : decode cX1_areEqual 62 = .ok (.getfield 41, 3) := by decide +kernel
theorem dX1_areEqual_65 : decode cX1_areEqual 65 = .ok (.aload_n 2, 1) := by decide +kernel
theorem dX1_areEqual_66 : decode cX1_areEqual 66 = .ok (.getfield 100, 3) := by decide +kernel
theorem dX1_areEqual_69 : decode cX1_areEqual 69 = .ok (.aload_n 1, 1) := by decide +kernel
theorem dX1_areEqual_70 : decode cX1_areEqual 70 = .ok (.getfield 110, 3) := by decide +kernel
theorem dX1_areEqual_73 : decode cX1_areEqual 73 = .ok (.invokevirtual 113, 3) := by decide +kernel
theorem dX1_areEqual_76 : decode cX1_areEqual 76 = .ok (.aload_n 0, 1) := by decide +kernel
theorem dX1_areEqual_77 : decode cX1_areEqual 77 = .ok (.getfield 60, 3) := by decide +kernel
theorem dX1_areEqual_80 : decode cX1_areEqual 80 = .ok (.aload_n 0, 1) := by decide +kernel
theorem dX1_areEqual_81 : decode cX1_areEqual 81 = .ok (.getfield 31, 3) := by decide +kernel
theorem dX1_areEqual_84 : decode cX1_areEqual 84 = .ok (.aload_n 0, 1) := by decide +kernel
theorem dX1_areEqual_85 : decode cX1_areEqual 85 = .ok (.getfield 35, 3) := by decide +kernel
theorem dX1_areEqual_88 : decode cX1_areEqual 88 = .ok (.invokevirtual 141, 3) := by decide +kernel
theorem dX1_areEqual_91 : decode cX1_areEqual 91 = .ok (.ifCond .eq 25, 3) := by decide +kernel
theorem dX1_areEqual_94 : decode cX1_areEqual 94 = .ok (.aload_n 0, 1) := by decide +kernel
theorem dX1_areEqual_95 : decode cX1_areEqual 95 = .ok (.getfield 60, 3) := by decide +kernel
theorem dX1_areEqual_98 : decode cX1_areEqual 98 = .ok (.aload_n 0, 1) := by decide +kernel
theorem dX1_areEqual_99 : decode cX1_areEqual 99 = .ok (.getfield 38, 3) := by decide +kernel
theorem dX1_areEqual_102 : decode cX1_areEqual 102 = .ok (.aload_n 0, 1) := by decide +kernel
theorem dX1_areEqual_103 : decode cX1_areEqual 103 = .ok (.getfield 41, 3) := by decide +kernel
theorem dX1_areEqual_106 : decode cX1_areEqual 106 = .ok (.invokevirtual 141, 3) := by decide +kernel
theorem dX1_areEqual_109 : decode cX1_areEqual 109 = .ok (.ifCond .eq 7, 3) := by decide +kernel
theorem dX1_areEqual_112 : decode cX1_areEqual 112 = .ok (.iconst 1, 1) := by decide +kernel
theorem dX1_areEqual_113 : decode cX1_areEqual 113 = .ok (.goto 4, 3) := by decide +kernel
theorem dX1_areEqual_116 : decode cX1_areEqual 116 = .ok (.iconst 0, 1) := by decide +kernel
theorem dX1_areEqual_117 : decode cX1_areEqual 117 = .ok (.ireturn, 1) := by decide +kernel
theorem dX1_smallOrder_0 : decode cX1_smallOrder 0 = .ok (.aload_n 0, 1) := by decide +kernel
theorem dX1_smallOrder_1 : decode cX1_smallOrder 1 = .ok (.aload_n 0, 1) := by decide +kernel
theorem dX1_smallOrder_2 : decode cX1_smallOrder 2 = .ok (.getfield 18, 3) := by decide +kernel
theorem dX1_smallOrder_5 : decode cX1_smallOrder 5 = .ok (.aload_n 1, 1) := by decide +kernel
theorem dX1_smallOrder_6 : decode cX1_smallOrder 6 = .ok (.invokevirtual 145, 3) := by decide +kernel
theorem dX1_smallOrder_9 : decode cX1_smallOrder 9 = .ok (.iconst 1, 1) := by decide +kernel
theorem dX1_smallOrder_10 : decode cX1_smallOrder 10 = .ok (.istore_n 2, 1) := by decide +kernel
theorem dX1_smallOrder_11 : decode cX1_smallOrder 11 = .ok (.iload_n 2, 1) := by decide +kernel
theorem dX1_smallOrder_12 : decode cX1_smallOrder 12 = .ok (.bipush 8, 2) := by decide +kernel
theorem dX1_smallOrder_14 : decode cX1_smallOrder 14 = .ok (.if_icmp .gt 35, 3) := by decide +kernel
theorem dX1_smallOrder_17 : decode cX1_smallOrder 17 = .ok (.aload_n 0, 1) := by decide +kernel
theorem dX1_smallOrder_18 : decode cX1_smallOrder 18 = .ok (.aload_n 0, 1) := by decide +kernel
theorem dX1_smallOrder_19 : decode cX1_smallOrder 19 = .ok (.getfield 18, 3) := by decide +kernel
theorem dX1_smallOrder_22 : decode cX1_smallOrder 22 = .ok (.invokevirtual 147, 3) := by decide +kernel
theorem dX1_smallOrder_25 : decode cX1_smallOrder 25 = .ok (.ifCond .eq 5, 3) := by decide +kernel
theorem dX1_smallOrder_28 : decode cX1_smallOrder 28 = .ok (.iload_n 2, 1) := by decide +kernel
theorem dX1_smallOrder_29 : decode cX1_smallOrder 29 = .ok (.ireturn, 1) := by decide +kernel
theorem dX1_smallOrder_30 : decode cX1_smallOrder 30 = .ok (.aload_n 0, 1) := by decide +kernel
theorem dX1_smallOrder_31 : decode cX1_smallOrder 31 = .ok (.aload_n 0, 1) := by decide +kernel
theorem dX1_smallOrder_32 : decode cX1_smallOrder 32 = .ok (.getfield 18, 3) := by decide +kernel
theorem dX1_smallOrder_35 : decode cX1_smallOrder 35 = .ok (.aload_n 0, 1) := by decide +kernel
theorem dX1_smallOrder_36 : decode cX1_smallOrder 36 = .ok (.getfield 18, 3) := by decide +kernel
theorem dX1_smallOrder_39 : decode cX1_smallOrder 39 = .ok (.invokevirtual 126, 3) := by decide +kernel
theorem dX1_smallOrder_42 : decode cX1_smallOrder 42 = .ok (.iload_n 2, 1) := by decide +kernel
theorem dX1_smallOrder_43 : decode cX1_smallOrder 43 = .ok (.iconst 2, 1) := by decide +kernel
theorem dX1_smallOrder_44 : decode cX1_smallOrder 44 = .ok (.imul, 1) := by decide +kernel
theorem dX1_smallOrder_45 : decode cX1_smallOrder 45 = .ok (.istore_n 2, 1) := by decide +kernel
theorem dX1_smallOrder_46 : decode cX1_smallOrder 46 = .ok (.goto (-35), 3) := by decide +kernel
theorem dX1_smallOrder_49 : decode cX1_smallOrder 49 = .ok (.iconst 0, 1) := by decide +kernel
theorem dX1_smallOrder_50 : decode cX1_smallOrder 50 = .ok (.ireturn, 1) := by decide +kernel
theorem dX1_encode_0 : decode cX1_encode 0 = .ok (.aload_n 0, 1) := by decide +kernel
theorem dX1_encode_1 : decode cX1_encode 1 = .ok (.getfield 60, 3) := by decide +kernel
theorem dX1_encode_4 : decode cX1_encode 4 = .ok (.aload_n 0, 1) := by decide +kernel
theorem dX1_encode_5 : decode cX1_encode 5 = .ok (.getfield 31, 3) := by decide +kernel
theorem dX1_encode_8 : decode cX1_encode 8 = .ok (.aload_n 2, 1) := by decide +kernel
theorem dX1_encode_9 : decode cX1_encode 9 = .ok (.getfield 110, 3) := by decide +kernel
theorem dX1_encode_12 : decode cX1_encode 12 = .ok (.invokevirtual 151, 3) := by decide +kernel
theorem dX1_encode_15 : decode cX1_encode 15 = .ok (.aload_n 0, 1) := by decide +kernel
theorem dX1_encode_16 : decode cX1_encode 16 = .ok (.getfield 60, 3) := by decide +kernel
theorem dX1_encode_19 : decode cX1_encode 19 = .ok (.aload_n 0, 1) := by decide +kernel
theorem dX1_encode_20 : decode cX1_encode 20 = .ok (.getfield 35, 3) := by decide +kernel
theorem dX1_encode_23 : decode cX1_encode 23 = .ok (.aload_n 2, 1) := by decide +kernel
theorem dX1_encode_24 : decode cX1_encode 24 = .ok (.getfield 90, 3) := by decide +kernel
theorem dX1_encode_27 : decode cX1_encode 27 = .ok (.aload_n 0, 1) := by decide +kernel
theorem dX1_encode_28 : decode cX1_encode 28 = .ok (.getfield 31, 3) := by decide +kernel
theorem dX1_encode_31 : decode cX1_encode 31 = .ok (.invokevirtual 113, 3) := by decide +kernel
theorem dX1_encode_34 : decode cX1_encode 34 = .ok (.aload_n 0, 1) := by decide +kernel
theorem dX1_encode_35 : decode cX1_encode 35 = .ok (.getfield 60, 3) := by decide +kernel
theorem dX1_encode_38 : decode cX1_encode 38 = .ok (.aload_n 0, 1) := by decide +kernel
theorem dX1_encode_39 : decode cX1_encode 39 = .ok (.getfield 38, 3) := by decide +kernel
theorem dX1_encode_42 : decode cX1_encode 42 = .ok (.aload_n 2, 1) := by decide +kernel
theorem dX1_encode_43 : decode cX1_encode 43 = .ok (.getfield 100, 3) := by decide +kernel
theorem dX1_encode_46 : decode cX1_encode 46 = .ok (.aload_n 0, 1) := by decide +kernel
theorem dX1_encode_47 : decode cX1_encode 47 = .ok (.getfield 31, 3) := by decide +kernel
theorem dX1_encode_50 : decode cX1_encode 50 = .ok (.invokevirtual 113, 3) := by decide +kernel
theorem dX1_encode_53 : decode cX1_encode 53 = .ok (.aload_n 0, 1) := by decide +kernel
theorem dX1_encode_54 : decode cX1_encode 54 = .ok (.aload_n 1, 1) := by decide +kernel
theorem dX1_encode_55 : decode cX1_encode 55 = .ok (.aload_n 0, 1) := by decide +kernel
theorem dX1_encode_56 : decode cX1_encode 56 = .ok (.getfield 38, 3) := by decide +kernel
theorem dX1_encode_59 : decode cX1_encode 59 = .ok (.aload_n 0, 1) := by decide +kernel
theorem dX1_encode_60 : decode cX1_encode 60 = .ok (.getfield 60, 3) := by decide +kernel
theorem dX1_encode_63 : decode cX1_encode 63 = .ok (.aload_n 0, 1) := by decide +kernel
theorem dX1_encode_64 : decode cX1_encode 64 = .ok (.getfield 35, 3) := by decide +kernel
theorem dX1_encode_67 : decode cX1_encode 67 = .ok (.invokevirtual 154, 3) := by decide +kernel
theorem dX1_encode_70 : decode cX1_encode 70 = .ok (.invokevirtual 157, 3) := by decide +kernel
theorem dX1_encode_73 : decode cX1_encode 73 = .ok (.return_, 1) := by decide +kernel
theorem dX1_decode_0 : decode cX1_decode 0 = .ok (.aload_n 2, 1) := by decide +kernel
theorem dX1_decode_1 : decode cX1_decode 1 = .ok (.aload_n 0, 1) := by decide +kernel
theorem dX1_decode_2 : decode cX1_decode 2 = .ok (.getfield 64, 3) := by decide +kernel
theorem dX1_decode_5 : decode cX1_decode 5 = .ok (.iconst 1, 1) := by decide +kernel
theorem dX1_decode_6 : decode cX1_decode 6 = .ok (.isub, 1) := by decide +kernel
theorem dX1_decode_7 : decode cX1_decode 7 = .ok (.iaload, 1) := by decide +kernel
theorem dX1_decode_8 : decode cX1_decode 8 = .ok (.sipush 128, 3) := by decide +kernel
theorem dX1_decode_11 : decode cX1_decode 11 = .ok (.if_icmp .lt 7, 3) := by decide +kernel
theorem dX1_decode_14 : decode cX1_decode 14 = .ok (.iconst 1, 1) := by decide +kernel
theorem dX1_decode_15 : decode cX1_decode 15 = .ok (.goto 4, 3) := by decide +kernel
theorem dX1_decode_18 : decode cX1_decode 18 = .ok (.iconst 0, 1) := by decide +kernel
theorem dX1_decode_19 : decode cX1_decode 19 = .ok (.istore_n 3, 1) := by decide +kernel
theorem dX1_decode_20 : decode cX1_decode 20 = .ok (.aload_n 0, 1) := by decide +kernel
theorem dX1_decode_21 : decode cX1_decode 21 = .ok (.getfield 60, 3) := by decide +kernel
theorem dX1_decode_24 : decode cX1_decode 24 = .ok (.aload_n 0, 1) := by decide +kernel
theorem dX1_decode_25 : decode cX1_decode 25 = .ok (.getfield 35, 3) := by decide +kernel
theorem dX1_decode_28 : decode cX1_decode 28 = .ok (.aload_n 2, 1) := by decide +kernel
theorem dX1_decode_29 : decode cX1_decode 29 = .ok (.invokevirtual 161, 3) := by decide +kernel
theorem dX1_decode_32 : decode cX1_decode 32 = .ok (.aload_n 0, 1) := by decide +kernel
theorem dX1_decode_33 : decode cX1_decode 33 = .ok (.aload_n 0, 1) := by decide +kernel
theorem dX1_decode_34 : decode cX1_decode 34 = .ok (.getfield 26, 3) := by decide +kernel
theorem dX1_decode_37 : decode cX1_decode 37 = .ok (.aload_n 0, 1) := by decide +kernel
theorem dX1_decode_38 : decode cX1_decode 38 = .ok (.getfield 35, 3) := by decide +kernel
theorem dX1_decode_41 : decode cX1_decode 41 = .ok (.iload_n 3, 1) := by decide +kernel
theorem dX1_decode_42 : decode cX1_decode 42 = .ok (.invokevirtual 157, 3) := by decide +kernel
theorem dX1_decode_45 : decode cX1_decode 45 = .ok (.iconst 0, 1) := by decide +kernel
theorem dX1_decode_46 : decode cX1_decode 46 = .ok (.istore 4, 2) := by decide +kernel
theorem dX1_decode_48 : decode cX1_decode 48 = .ok (.iload 4, 2) := by decide +kernel
theorem dX1_decode_50 : decode cX1_decode 50 = .ok (.aload_n 0, 1) := by decide +kernel
theorem dX1_decode_51 : decode cX1_decode 51 = .ok (.getfield 64, 3) := by decide +kernel
theorem dX1_decode_54 : decode cX1_decode 54 = .ok (.if_icmp .ge 25, 3) := by decide +kernel
theorem dX1_decode_57 : decode cX1_decode 57 = .ok (.aload_n 0, 1) := by decide +kernel
theorem dX1_decode_58 : decode cX1_decode 58 = .ok (.getfield 26, 3) := by decide +kernel
theorem dX1_decode_61 : decode cX1_decode 61 = .ok (.iload 4, 2) := by decide +kernel
theorem dX1_decode_63 : decode cX1_decode 63 = .ok (.iaload, 1) := by decide +kernel
theorem dX1_decode_64 : decode cX1_decode 64 = .ok (.aload_n 2, 1) := by decide +kernel
theorem dX1_decode_65 : decode cX1_decode 65 = .ok (.iload 4, 2) := by decide +kernel
theorem dX1_decode_67 : decode cX1_decode 67 = .ok (.iaload, 1) := by decide +kernel
theorem dX1_decode_68 : decode cX1_decode 68 = .ok (.if_icmp .eq 5, 3) := by decide +kernel
theorem dX1_decode_71 : decode cX1_decode 71 = .ok (.iconst 0, 1) := by decide +kernel
theorem dX1_decode_72 : decode cX1_decode 72 = .ok (.ireturn, 1) := by decide +kernel
theorem dX1_decode_73 : decode cX1_decode 73 = .ok (.iinc 4 1, 3) := by decide +kernel
theorem dX1_decode_76 : decode cX1_decode 76 = .ok (.goto (-28), 3) := by decide +kernel
theorem dX1_decode_79 : decode cX1_decode 79 = .ok (.aload_n 0, 1) := by decide +kernel
theorem dX1_decode_80 : decode cX1_decode 80 = .ok (.invokevirtual 165, 3) := by decide +kernel
theorem dX1_decode_83 : decode cX1_decode 83 = .ok (.ifCond .eq 21, 3) := by decide +kernel
theorem dX1_decode_86 : decode cX1_decode 86 = .ok (.iload_n 3, 1) := by decide +kernel
theorem dX1_decode_87 : decode cX1_decode 87 = .ok (.ifCond .eq 19, 3) := by decide +kernel
theorem dX1_decode_90 : decode cX1_decode 90 = .ok (.aload_n 0, 1) := by decide +kernel
theorem dX1_decode_91 : decode cX1_decode 91 = .ok (.getfield 60, 3) := by decide +kernel
theorem dX1_decode_94 : decode cX1_decode 94 = .ok (.aload_n 0, 1) := by decide +kernel
theorem dX1_decode_95 : decode cX1_decode 95 = .ok (.getfield 31, 3) := by decide +kernel
theorem dX1_decode_98 : decode cX1_decode 98 = .ok (.invokevirtual 137, 3) := by decide +kernel
theorem dX1_decode_101 : decode cX1_decode 101 = .ok (.ifCond .eq 5, 3) := by decide +kernel
theorem dX1_decode_104 : decode cX1_decode 104 = .ok (.iconst 0, 1) := by decide +kernel
theorem dX1_decode_105 : decode cX1_decode 105 = .ok (.ireturn, 1) := by decide +kernel
theorem dX1_decode_106 : decode cX1_decode 106 = .ok (.aload_n 0, 1) := by decide +kernel
theorem dX1_decode_107 : decode cX1_decode 107 = .ok (.getfield 60, 3) := by decide +kernel
theorem dX1_decode_110 : decode cX1_decode 110 = .ok (.aload_n 0, 1) := by decide +kernel
theorem dX1_decode_111 : decode cX1_decode 111 = .ok (.getfield 31, 3) := by decide +kernel
theorem dX1_decode_114 : decode cX1_decode 114 = .ok (.invokevirtual 154, 3) := by decide +kernel
theorem dX1_decode_117 : decode cX1_decode 117 = .ok (.iload_n 3, 1) := by decide +kernel
theorem dX1_decode_118 : decode cX1_decode 118 = .ok (.if_icmp .eq 18, 3) := by decide +kernel
theorem dX1_decode_121 : decode cX1_decode 121 = .ok (.aload_n 0, 1) := by decide +kernel
theorem dX1_decode_122 : decode cX1_decode 122 = .ok (.getfield 60, 3) := by decide +kernel
theorem dX1_decode_125 : decode cX1_decode 125 = .ok (.aload_n 0, 1) := by decide +kernel
theorem dX1_decode_126 : decode cX1_decode 126 = .ok (.getfield 31, 3) := by decide +kernel
theorem dX1_decode_129 : decode cX1_decode 129 = .ok (.aload_n 0, 1) := by decide +kernel
theorem dX1_decode_130 : decode cX1_decode 130 = .ok (.getfield 31, 3) := by decide +kernel
theorem dX1_decode_133 : decode cX1_decode 133 = .ok (.invokevirtual 83, 3) := by decide +kernel
theorem dX1_decode_136 : decode cX1_decode 136 = .ok (.aload_n 0, 1) := by decide +kernel
theorem dX1_decode_137 : decode cX1_decode 137 = .ok (.getfield 60, 3) := by decide +kernel
theorem dX1_decode_140 : decode cX1_decode 140 = .ok (.aload_n 1, 1) := by decide +kernel
theorem dX1_decode_141 : decode cX1_decode 141 = .ok (.getfield 90, 3) := by decide +kernel
theorem dX1_decode_144 : decode cX1_decode 144 = .ok (.aload_n 0, 1) := by decide +kernel
theorem dX1_decode_145 : decode cX1_decode 145 = .ok (.getfield 31, 3) := by decide +kernel
theorem dX1_decode_148 : decode cX1_decode 148 = .ok (.invokevirtual 97, 3) := by decide +kernel
theorem dX1_decode_151 : decode cX1_decode 151 = .ok (.aload_n 0, 1) := by decide +kernel
theorem dX1_decode_152 : decode cX1_decode 152 = .ok (.getfield 60, 3) := by decide +kernel
theorem dX1_decode_155 : decode cX1_decode 155 = .ok (.aload_n 1, 1) := by decide +kernel
theorem dX1_decode_156 : decode cX1_decode 156 = .ok (.getfield 100, 3) := by decide +kernel
theorem dX1_decode_159 : decode cX1_decode 159 = .ok (.aload_n 0, 1) := by decide +kernel
theorem dX1_decode_160 : decode cX1_decode 160 = .ok (.getfield 35, 3) := by decide +kernel
theorem dX1_decode_163 : decode cX1_decode 163 = .ok (.invokevirtual 97, 3) := by decide +kernel
theorem dX1_decode_166 : decode cX1_decode 166 = .ok (.aload_n 0, 1) := by decide +kernel
theorem dX1_decode_167 : decode cX1_decode 167 = .ok (.getfield 60, 3) := by decide +kernel
theorem dX1_decode_170 : decode cX1_decode 170 = .ok (.aload_n 1, 1) := by decide +kernel
theorem dX1_decode_171 : decode cX1_decode 171 = .ok (.getfield 110, 3) := by decide +kernel
theorem dX1_decode_174 : decode cX1_decode 174 = .ok (.aload_n 0, 1) := by decide +kernel
theorem dX1_decode_175 : decode cX1_decode 175 = .ok (.getfield 60, 3) := by decide +kernel
theorem dX1_decode_178 : decode cX1_decode 178 = .ok (.getfield 169, 3) := by decide +kernel
theorem dX1_decode_181 : decode cX1_decode 181 = .ok (.invokevirtual 97, 3) := by decide +kernel
theorem dX1_decode_184 : decode cX1_decode 184 = .ok (.iconst 1, 1) := by decide +kernel
theorem dX1_decode_185 : decode cX1_decode 185 = .ok (.ireturn, 1) := by decide +kernel
theorem dX1_findX_0 : decode cX1_findX 0 = .ok (.aload_n 0, 1) := by decide +kernel
theorem dX1_findX_1 : decode cX1_findX 1 = .ok (.getfield 60, 3) := by decide +kernel
theorem dX1_findX_4 : decode cX1_findX 4 = .ok (.aload_n 0, 1) := by decide +kernel
theorem dX1_findX_5 : decode cX1_findX 5 = .ok (.getfield 38, 3) := by decide +kernel
theorem dX1_findX_8 : decode cX1_findX 8 = .ok (.aload_n 0, 1) := by decide +kernel
theorem dX1_findX_9 : decode cX1_findX 9 = .ok (.getfield 35, 3) := by decide +kernel
theorem dX1_findX_12 : decode cX1_findX 12 = .ok (.invokevirtual 117, 3) := by decide +kernel
theorem dX1_findX_15 : decode cX1_findX 15 = .ok (.aload_n 0, 1) := by decide +kernel
theorem dX1_findX_16 : decode cX1_findX 16 = .ok (.getfield 60, 3) := by decide +kernel
theorem dX1_findX_19 : decode cX1_findX 19 = .ok (.aload_n 0, 1) := by decide +kernel
theorem dX1_findX_20 : decode cX1_findX 20 = .ok (.getfield 41, 3) := by decide +kernel
theorem dX1_findX_23 : decode cX1_findX 23 = .ok (.aload_n 0, 1) := by decide +kernel
theorem dX1_findX_24 : decode cX1_findX 24 = .ok (.getfield 38, 3) := by decide +kernel
theorem dX1_findX_27 : decode cX1_findX 27 = .ok (.aload_n 0, 1) := by decide +kernel
theorem dX1_findX_28 : decode cX1_findX 28 = .ok (.getfield 87, 3) := by decide +kernel
theorem dX1_findX_31 : decode cX1_findX 31 = .ok (.invokevirtual 113, 3) := by decide +kernel
theorem dX1_findX_34 : decode cX1_findX 34 = .ok (.aload_n 0, 1) := by decide +kernel
theorem dX1_findX_35 : decode cX1_findX 35 = .ok (.getfield 60, 3) := by decide +kernel
theorem dX1_findX_38 : decode cX1_findX 38 = .ok (.aload_n 0, 1) := by decide +kernel
theorem dX1_findX_39 : decode cX1_findX 39 = .ok (.getfield 38, 3) := by decide +kernel
theorem dX1_findX_42 : decode cX1_findX 42 = .ok (.aload_n 0, 1) := by decide +kernel
theorem dX1_findX_43 : decode cX1_findX 43 = .ok (.getfield 38, 3) := by decide +kernel
theorem dX1_findX_46 : decode cX1_findX 46 = .ok (.aload_n 0, 1) := by decide +kernel
theorem dX1_findX_47 : decode cX1_findX 47 = .ok (.getfield 60, 3) := by decide +kernel
theorem dX1_findX_50 : decode cX1_findX 50 = .ok (.getfield 169, 3) := by decide +kernel
theorem dX1_findX_53 : decode cX1_findX 53 = .ok (.invokevirtual 120, 3) := by decide +kernel
theorem dX1_findX_56 : decode cX1_findX 56 = .ok (.aload_n 0, 1) := by decide +kernel
theorem dX1_findX_57 : decode cX1_findX 57 = .ok (.getfield 56, 3) := by decide +kernel
theorem dX1_findX_60 : decode cX1_findX 60 = .ok (.ifCond .eq 28, 3) := by decide +kernel
theorem dX1_findX_63 : decode cX1_findX 63 = .ok (.aload_n 0, 1) := by decide +kernel
theorem dX1_findX_64 : decode cX1_findX 64 = .ok (.getfield 60, 3) := by decide +kernel
theorem dX1_findX_67 : decode cX1_findX 67 = .ok (.aload_n 0, 1) := by decide +kernel
theorem dX1_findX_68 : decode cX1_findX 68 = .ok (.getfield 41, 3) := by decide +kernel
theorem dX1_findX_71 : decode cX1_findX 71 = .ok (.aload_n 0, 1) := by decide +kernel
theorem dX1_findX_72 : decode cX1_findX 72 = .ok (.getfield 41, 3) := by decide +kernel
theorem dX1_findX_75 : decode cX1_findX 75 = .ok (.aload_n 0, 1) := by decide +kernel
theorem dX1_findX_76 : decode cX1_findX 76 = .ok (.getfield 60, 3) := by decide +kernel
theorem dX1_findX_79 : decode cX1_findX 79 = .ok (.getfield 169, 3) := by decide +kernel
theorem dX1_findX_82 : decode cX1_findX 82 = .ok (.invokevirtual 120, 3) := by decide +kernel
theorem dX1_findX_85 : decode cX1_findX 85 = .ok (.goto 25, 3) := by decide +kernel
theorem dX1_findX_88 : decode cX1_findX 88 = .ok (.aload_n 0, 1) := by decide +kernel
theorem dX1_findX_89 : decode cX1_findX 89 = .ok (.getfield 60, 3) := by decide +kernel
theorem dX1_findX_92 : decode cX1_findX 92 = .ok (.aload_n 0, 1) := by decide +kernel
theorem dX1_findX_93 : decode cX1_findX 93 = .ok (.getfield 41, 3) := by decide +kernel
theorem dX1_findX_96 : decode cX1_findX 96 = .ok (.aload_n 0, 1) := by decide +kernel
theorem dX1_findX_97 : decode cX1_findX 97 = .ok (.getfield 41, 3) := by decide +kernel
theorem dX1_findX_100 : decode cX1_findX 100 = .ok (.aload_n 0, 1) := by decide +kernel
theorem dX1_findX_101 : decode cX1_findX 101 = .ok (.getfield 60, 3) := by decide +kernel
theorem dX1_findX_104 : decode cX1_findX 104 = .ok (.getfield 169, 3) := by decide +kernel
theorem dX1_findX_107 : decode cX1_findX 107 = .ok (.invokevirtual 123, 3) := by decide +kernel
theorem dX1_findX_110 : decode cX1_findX 110 = .ok (.aload_n 0, 1) := by decide +kernel
theorem dX1_findX_111 : decode cX1_findX 111 = .ok (.getfield 60, 3) := by decide +kernel
theorem dX1_findX_114 : decode cX1_findX 114 = .ok (.aload_n 0, 1) := by decide +kernel
theorem dX1_findX_115 : decode cX1_findX 115 = .ok (.getfield 44, 3) := by decide +kernel
theorem dX1_findX_118 : decode cX1_findX 118 = .ok (.aload_n 0, 1) := by decide +kernel
theorem dX1_findX_119 : decode cX1_findX 119 = .ok (.getfield 38, 3) := by decide +kernel
theorem dX1_findX_122 : decode cX1_findX 122 = .ok (.aload_n 0, 1) := by decide +kernel
theorem dX1_findX_123 : decode cX1_findX 123 = .ok (.getfield 41, 3) := by decide +kernel
theorem dX1_findX_126 : decode cX1_findX 126 = .ok (.invokevirtual 113, 3) := by decide +kernel
theorem dX1_findX_129 : decode cX1_findX 129 = .ok (.aload_n 0, 1) := by decide +kernel
theorem dX1_findX_130 : decode cX1_findX 130 = .ok (.getfield 60, 3) := by decide +kernel
theorem dX1_findX_133 : decode cX1_findX 133 = .ok (.aload_n 0, 1) := by decide +kernel
theorem dX1_findX_134 : decode cX1_findX 134 = .ok (.getfield 31, 3) := by decide +kernel
theorem dX1_findX_137 : decode cX1_findX 137 = .ok (.aload_n 0, 1) := by decide +kernel
theorem dX1_findX_138 : decode cX1_findX 138 = .ok (.getfield 44, 3) := by decide +kernel
theorem dX1_findX_141 : decode cX1_findX 141 = .ok (.invokevirtual 172, 3) := by decide +kernel
theorem dX1_findX_144 : decode cX1_findX 144 = .ok (.aload_n 0, 1) := by decide +kernel
theorem dX1_findX_145 : decode cX1_findX 145 = .ok (.getfield 60, 3) := by decide +kernel
theorem dX1_findX_148 : decode cX1_findX 148 = .ok (.aload_n 0, 1) := by decide +kernel
theorem dX1_findX_149 : decode cX1_findX 149 = .ok (.getfield 31, 3) := by decide +kernel
theorem dX1_findX_152 : decode cX1_findX 152 = .ok (.aload_n 0, 1) := by decide +kernel
theorem dX1_findX_153 : decode cX1_findX 153 = .ok (.getfield 31, 3) := by decide +kernel
theorem dX1_findX_156 : decode cX1_findX 156 = .ok (.aload_n 0, 1) := by decide +kernel
theorem dX1_findX_157 : decode cX1_findX 157 = .ok (.getfield 38, 3) := by decide +kernel
theorem dX1_findX_160 : decode cX1_findX 160 = .ok (.invokevirtual 113, 3) := by decide +kernel
theorem dX1_findX_163 : decode cX1_findX 163 = .ok (.aload_n 0, 1) := by decide +kernel
theorem dX1_findX_164 : decode cX1_findX 164 = .ok (.getfield 60, 3) := by decide +kernel
theorem dX1_findX_167 : decode cX1_findX 167 = .ok (.aload_n 0, 1) := by decide +kernel
theorem dX1_findX_168 : decode cX1_findX 168 = .ok (.getfield 44, 3) := by decide +kernel
theorem dX1_findX_171 : decode cX1_findX 171 = .ok (.aload_n 0, 1) := by decide +kernel
theorem dX1_findX_172 : decode cX1_findX 172 = .ok (.getfield 31, 3) := by decide +kernel
theorem dX1_findX_175 : decode cX1_findX 175 = .ok (.invokevirtual 117, 3) := by decide +kernel
theorem dX1_findX_178 : decode cX1_findX 178 = .ok (.aload_n 0, 1) := by decide +kernel
theorem dX1_findX_179 : decode cX1_findX 179 = .ok (.getfield 60, 3) := by decide +kernel
theorem dX1_findX_182 : decode cX1_findX 182 = .ok (.aload_n 0, 1) := by decide +kernel
theorem dX1_findX_183 : decode cX1_findX 183 = .ok (.getfield 44, 3) := by decide +kernel
theorem dX1_findX_186 : decode cX1_findX 186 = .ok (.aload_n 0, 1) := by decide +kernel
theorem dX1_findX_187 : decode cX1_findX 187 = .ok (.getfield 44, 3) := by decide +kernel
theorem dX1_findX_190 : decode cX1_findX 190 = .ok (.aload_n 0, 1) := by decide +kernel
theorem dX1_findX_191 : decode cX1_findX 191 = .ok (.getfield 41, 3) := by decide +kernel
theorem dX1_findX_194 : decode cX1_findX 194 = .ok (.invokevirtual 113, 3) := by decide +kernel
theorem dX1_findX_197 : decode cX1_findX 197 = .ok (.aload_n 0, 1) := by decide +kernel
theorem dX1_findX_198 : decode cX1_findX 198 = .ok (.getfield 60, 3) := by decide +kernel
theorem dX1_findX_201 : decode cX1_findX 201 = .ok (.aload_n 0, 1) := by decide +kernel
theorem dX1_findX_202 : decode cX1_findX 202 = .ok (.getfield 44, 3) := by decide +kernel
theorem dX1_findX_205 : decode cX1_findX 205 = .ok (.aload_n 0, 1) := by decide +kernel
theorem dX1_findX_206 : decode cX1_findX 206 = .ok (.getfield 38, 3) := by decide +kernel
theorem dX1_findX_209 : decode cX1_findX 209 = .ok (.invokevirtual 141, 3) := by decide +kernel
theorem dX1_findX_212 : decode cX1_findX 212 = .ok (.ifCond .eq 5, 3) := by decide +kernel
theorem dX1_findX_215 : decode cX1_findX 215 = .ok (.iconst 1, 1) := by decide +kernel
theorem dX1_findX_216 : decode cX1_findX 216 = .ok (.ireturn, 1) := by decide +kernel
theorem dX1_findX_217 : decode cX1_findX 217 = .ok (.aload_n 0, 1) := by decide +kernel
theorem dX1_findX_218 : decode cX1_findX 218 = .ok (.getfield 60, 3) := by decide +kernel
theorem dX1_findX_221 : decode cX1_findX 221 = .ok (.aload_n 0, 1) := by decide +kernel
theorem dX1_findX_222 : decode cX1_findX 222 = .ok (.getfield 44, 3) := by decide +kernel
theorem dX1_findX_225 : decode cX1_findX 225 = .ok (.aload_n 0, 1) := by decide +kernel
theorem dX1_findX_226 : decode cX1_findX 226 = .ok (.getfield 44, 3) := by decide +kernel
theorem dX1_findX_229 : decode cX1_findX 229 = .ok (.invokevirtual 83, 3) := by decide +kernel
theorem dX1_findX_232 : decode cX1_findX 232 = .ok (.aload_n 0, 1) := by decide +kernel
theorem dX1_findX_233 : decode cX1_findX 233 = .ok (.getfield 56, 3) := by decide +kernel
theorem dX1_findX_236 : decode cX1_findX 236 = .ok (.ifCond .ne 21, 3) := by decide +kernel
theorem dX1_findX_239 : decode cX1_findX 239 = .ok (.aload_n 0, 1) := by decide +kernel
theorem dX1_findX_240 : decode cX1_findX 240 = .ok (.getfield 60, 3) := by decide +kernel
theorem dX1_findX_243 : decode cX1_findX 243 = .ok (.aload_n 0, 1) := by decide +kernel
theorem dX1_findX_244 : decode cX1_findX 244 = .ok (.getfield 44, 3) := by decide +kernel
theorem dX1_findX_247 : decode cX1_findX 247 = .ok (.aload_n 0, 1) := by decide +kernel
theorem dX1_findX_248 : decode cX1_findX 248 = .ok (.getfield 38, 3) := by decide +kernel
theorem dX1_findX_251 : decode cX1_findX 251 = .ok (.invokevirtual 141, 3) := by decide +kernel
theorem dX1_findX_254 : decode cX1_findX 254 = .ok (.ifCond .ne 5, 3) := by decide +kernel
theorem dX1_findX_257 : decode cX1_findX 257 = .ok (.iconst 0, 1) := by decide +kernel
theorem dX1_findX_258 : decode cX1_findX 258 = .ok (.ireturn, 1) := by decide +kernel
theorem dX1_findX_259 : decode cX1_findX 259 = .ok (.aload_n 0, 1) := by decide +kernel
theorem dX1_findX_260 : decode cX1_findX 260 = .ok (.getfield 60, 3) := by decide +kernel
theorem dX1_findX_263 : decode cX1_findX 263 = .ok (.aload_n 0, 1) := by decide +kernel
theorem dX1_findX_264 : decode cX1_findX 264 = .ok (.getfield 31, 3) := by decide +kernel
theorem dX1_findX_267 : decode cX1_findX 267 = .ok (.aload_n 0, 1) := by decide +kernel
theorem dX1_findX_268 : decode cX1_findX 268 = .ok (.getfield 31, 3) := by decide +kernel
theorem dX1_findX_271 : decode cX1_findX 271 = .ok (.aload_n 0, 1) := by decide +kernel
theorem dX1_findX_272 : decode cX1_findX 272 = .ok (.getfield 76, 3) := by decide +kernel
theorem dX1_findX_275 : decode cX1_findX 275 = .ok (.invokevirtual 113, 3) := by decide +kernel
theorem dX1_findX_278 : decode cX1_findX 278 = .ok (.iconst 1, 1) := by decide +kernel
theorem dX1_findX_279 : decode cX1_findX 279 = .ok (.ireturn, 1) := by decide +kernel
theorem dX1_writeCode_0 : decode cX1_writeCode 0 = .ok (.aload_n 1, 1) := by decide +kernel
theorem dX1_writeCode_1 : decode cX1_writeCode 1 = .ok (.aload_n 0, 1) := by decide +kernel
theorem dX1_writeCode_2 : decode cX1_writeCode 2 = .ok (.getfield 64, 3) := by decide +kernel
theorem dX1_writeCode_5 : decode cX1_writeCode 5 = .ok (.iconst 1, 1) := by decide +kernel
theorem dX1_writeCode_6 : decode cX1_writeCode 6 = .ok (.isub, 1) := by decide +kernel
theorem dX1_writeCode_7 : decode cX1_writeCode 7 = .ok (.iconst 0, 1) := by decide +kernel
theorem dX1_writeCode_8 : decode cX1_writeCode 8 = .ok (.iastore, 1) := by decide +kernel
theorem dX1_writeCode_9 : decode cX1_writeCode 9 = .ok (.aload_n 0, 1) := by decide +kernel
theorem dX1_writeCode_10 : decode cX1_writeCode 10 = .ok (.getfield 60, 3) := by decide +kernel
theorem dX1_writeCode_13 : decode cX1_writeCode 13 = .ok (.aload_n 1, 1) := by decide +kernel
theorem dX1_writeCode_14 : decode cX1_writeCode 14 = .ok (.aload_n 2, 1) := by decide +kernel
theorem dX1_writeCode_15 : decode cX1_writeCode 15 = .ok (.invokevirtual 175, 3) := by decide +kernel
theorem dX1_writeCode_18 : decode cX1_writeCode 18 = .ok (.iload_n 3, 1) := by decide +kernel
theorem dX1_writeCode_19 : decode cX1_writeCode 19 = .ok (.ifCond .eq 17, 3) := by decide +kernel
theorem dX1_writeCode_22 : decode cX1_writeCode 22 = .ok (.aload_n 1, 1) := by decide +kernel
theorem dX1_writeCode_23 : decode cX1_writeCode 23 = .ok (.aload_n 0, 1) := by decide +kernel
theorem dX1_writeCode_24 : decode cX1_writeCode 24 = .ok (.getfield 64, 3) := by decide +kernel
theorem dX1_writeCode_27 : decode cX1_writeCode 27 = .ok (.iconst 1, 1) := by decide +kernel
theorem dX1_writeCode_28 : decode cX1_writeCode 28 = .ok (.isub, 1) := by decide +kernel
theorem dX1_writeCode_29 : decode cX1_writeCode 29 = .ok (.dup2, 1) := by decide +kernel
theorem dX1_writeCode_30 : decode cX1_writeCode 30 = .ok (.iaload, 1) := by decide +kernel
theorem dX1_writeCode_31 : decode cX1_writeCode 31 = .ok (.sipush 128, 3) := by decide +kernel
theorem dX1_writeCode_34 : decode cX1_writeCode 34 = .ok (.ior, 1) := by decide +kernel
theorem dX1_writeCode_35 : decode cX1_writeCode 35 = .ok (.iastore, 1) := by decide +kernel
theorem dX1_writeCode_36 : decode cX1_writeCode 36 = .ok (.return_, 1) := by decide +kernel
theorem dX1_copy_0 : decode cX1_copy 0 = .ok (.aload_n 0, 1) := by decide +kernel
theorem dX1_copy_1 : decode cX1_copy 1 = .ok (.getfield 60, 3) := by decide +kernel
theorem dX1_copy_4 : decode cX1_copy 4 = .ok (.aload_n 1, 1) := by decide +kernel
theorem dX1_copy_5 : decode cX1_copy 5 = .ok (.getfield 90, 3) := by decide +kernel
theorem dX1_copy_8 : decode cX1_copy 8 = .ok (.aload_n 2, 1) := by decide +kernel
theorem dX1_copy_9 : decode cX1_copy 9 = .ok (.getfield 90, 3) := by decide +kernel
theorem dX1_copy_12 : decode cX1_copy 12 = .ok (.invokevirtual 97, 3) := by decide +kernel
theorem dX1_copy_15 : decode cX1_copy 15 = .ok (.aload_n 0, 1) := by decide +kernel
theorem dX1_copy_16 : decode cX1_copy 16 = .ok (.getfield 60, 3) := by decide +kernel
theorem dX1_copy_19 : decode cX1_copy 19 = .ok (.aload_n 1, 1) := by decide +kernel
theorem dX1_copy_20 : decode cX1_copy 20 = .ok (.getfield 100, 3) := by decide +kernel
theorem dX1_copy_23 : decode cX1_copy 23 = .ok (.aload_n 2, 1) := by decide +kernel
theorem dX1_copy_24 : decode cX1_copy 24 = .ok (.getfield 100, 3) := by decide +kernel
theorem dX1_copy_27 : decode cX1_copy 27 = .ok (.invokevirtual 97, 3) := by decide +kernel
theorem dX1_copy_30 : decode cX1_copy 30 = .ok (.aload_n 0, 1) := by decide +kernel
theorem dX1_copy_31 : decode cX1_copy 31 = .ok (.getfield 60, 3) := by decide +kernel
theorem dX1_copy_34 : decode cX1_copy 34 = .ok (.aload_n 1, 1) := by decide +kernel
theorem dX1_copy_35 : decode cX1_copy 35 = .ok (.getfield 110, 3) := by decide +kernel
theorem dX1_copy_38 : decode cX1_copy 38 = .ok (.aload_n 2, 1) := by decide +kernel
theorem dX1_copy_39 : decode cX1_copy 39 = .ok (.getfield 110, 3) := by decide +kernel
theorem dX1_copy_42 : decode cX1_copy 42 = .ok (.invokevirtual 97, 3) := by decide +kernel
theorem dX1_copy_45 : decode cX1_copy 45 = .ok (.return_, 1) := by decide +kernel
theorem dX1_fillTable_0 : decode cX1_fillTable 0 = .ok (.iconst 1, 1) := by decide +kernel
theorem dX1_fillTable_1 : decode cX1_fillTable 1 = .ok (.istore_n 3, 1) := by decide +kernel
theorem dX1_fillTable_2 : decode cX1_fillTable 2 = .ok (.iload_n 3, 1) := by decide +kernel
theorem dX1_fillTable_3 : decode cX1_fillTable 3 = .ok (.bipush 16, 2) := by decide +kernel
theorem dX1_fillTable_5 : decode cX1_fillTable 5 = .ok (.if_icmp .ge 55, 3) := by decide +kernel
theorem dX1_fillTable_8 : decode cX1_fillTable 8 = .ok (.iload_n 3, 1) := by decide +kernel
theorem dX1_fillTable_9 : decode cX1_fillTable 9 = .ok (.iconst 4, 1) := by decide +kernel
theorem dX1_fillTable_10 : decode cX1_fillTable 10 = .ok (.if_icmp .ge 25, 3) := by decide +kernel
theorem dX1_fillTable_13 : decode cX1_fillTable 13 = .ok (.aload_n 0, 1) := by decide +kernel
theorem dX1_fillTable_14 : decode cX1_fillTable 14 = .ok (.aload_n 0, 1) := by decide +kernel
theorem dX1_fillTable_15 : decode cX1_fillTable 15 = .ok (.getfield 13, 3) := by decide +kernel
theorem dX1_fillTable_18 : decode cX1_fillTable 18 = .ok (.iload_n 3, 1) := by decide +kernel
theorem dX1_fillTable_19 : decode cX1_fillTable 19 = .ok (.aaload, 1) := by decide +kernel
theorem dX1_fillTable_20 : decode cX1_fillTable 20 = .ok (.aload_n 0, 1) := by decide +kernel
theorem dX1_fillTable_21 : decode cX1_fillTable 21 = .ok (.getfield 13, 3) := by decide +kernel
theorem dX1_fillTable_24 : decode cX1_fillTable 24 = .ok (.iload_n 3, 1) := by decide +kernel
theorem dX1_fillTable_25 : decode cX1_fillTable 25 = .ok (.iconst 1, 1) := by decide +kernel
theorem dX1_fillTable_26 : decode cX1_fillTable 26 = .ok (.isub, 1) := by decide +kernel
theorem dX1_fillTable_27 : decode cX1_fillTable 27 = .ok (.aaload, 1) := by decide +kernel
theorem dX1_fillTable_28 : decode cX1_fillTable 28 = .ok (.aload_n 1, 1) := by decide +kernel
theorem dX1_fillTable_29 : decode cX1_fillTable 29 = .ok (.invokevirtual 179, 3) := by decide +kernel
theorem dX1_fillTable_32 : decode cX1_fillTable 32 = .ok (.goto 22, 3) := by decide +kernel
theorem dX1_fillTable_35 : decode cX1_fillTable 35 = .ok (.aload_n 0, 1) := by decide +kernel
theorem dX1_fillTable_36 : decode cX1_fillTable 36 = .ok (.aload_n 0, 1) := by decide +kernel
theorem dX1_fillTable_37 : decode cX1_fillTable 37 = .ok (.getfield 13, 3) := by decide +kernel
theorem dX1_fillTable_40 : decode cX1_fillTable 40 = .ok (.iload_n 3, 1) := by decide +kernel
theorem dX1_fillTable_41 : decode cX1_fillTable 41 = .ok (.aaload, 1) := by decide +kernel
theorem dX1_fillTable_42 : decode cX1_fillTable 42 = .ok (.aload_n 0, 1) := by decide +kernel
theorem dX1_fillTable_43 : decode cX1_fillTable 43 = .ok (.getfield 13, 3) := by decide +kernel
theorem dX1_fillTable_46 : decode cX1_fillTable 46 = .ok (.iload_n 3, 1) := by decide +kernel
theorem dX1_fillTable_47 : decode cX1_fillTable 47 = .ok (.iconst 4, 1) := by decide +kernel
theorem dX1_fillTable_48 : decode cX1_fillTable 48 = .ok (.isub, 1) := by decide +kernel
theorem dX1_fillTable_49 : decode cX1_fillTable 49 = .ok (.aaload, 1) := by decide +kernel
theorem dX1_fillTable_50 : decode cX1_fillTable 50 = .ok (.aload_n 2, 1) := by decide +kernel
theorem dX1_fillTable_51 : decode cX1_fillTable 51 = .ok (.invokevirtual 179, 3) := by decide +kernel
theorem dX1_fillTable_54 : decode cX1_fillTable 54 = .ok (.iinc 3 1, 3) := by decide +kernel
theorem dX1_fillTable_57 : decode cX1_fillTable 57 = .ok (.goto (-55), 3) := by decide +kernel
theorem dX1_fillTable_60 : decode cX1_fillTable 60 = .ok (.return_, 1) := by decide +kernel
theorem dX1_walk_0 : decode cX1_walk 0 = .ok (.iload_n 2, 1) := by decide +kernel
theorem dX1_walk_1 : decode cX1_walk 1 = .ok (.istore 4, 2) := by decide +kernel
theorem dX1_walk_3 : decode cX1_walk 3 = .ok (.iload 4, 2) := by decide +kernel
theorem dX1_walk_5 : decode cX1_walk 5 = .ok (.ifCond .le 21, 3) := by decide +kernel
theorem dX1_walk_8 : decode cX1_walk 8 = .ok (.aload_n 0, 1) := by decide +kernel
theorem dX1_walk_9 : decode cX1_walk 9 = .ok (.getfield 22, 3) := by decide +kernel
theorem dX1_walk_12 : decode cX1_walk 12 = .ok (.iload 4, 2) := by decide +kernel
theorem dX1_walk_14 : decode cX1_walk 14 = .ok (.iconst 1, 1) := by decide +kernel
theorem dX1_walk_15 : decode cX1_walk 15 = .ok (.isub, 1) := by decide +kernel
theorem dX1_walk_16 : decode cX1_walk 16 = .ok (.iaload, 1) := by decide +kernel
theorem dX1_walk_17 : decode cX1_walk 17 = .ok (.ifCond .ne 9, 3) := by decide +kernel
theorem dX1_walk_20 : decode cX1_walk 20 = .ok (.iinc 4 (-1), 3) := by decide +kernel
theorem dX1_walk_23 : decode cX1_walk 23 = .ok (.goto (-20), 3) := by decide +kernel
theorem dX1_walk_26 : decode cX1_walk 26 = .ok (.aload_n 0, 1) := by decide +kernel
theorem dX1_walk_27 : decode cX1_walk 27 = .ok (.aload_n 1, 1) := by decide +kernel
theorem dX1_walk_28 : decode cX1_walk 28 = .ok (.aload_n 0, 1) := by decide +kernel
theorem dX1_walk_29 : decode cX1_walk 29 = .ok (.getfield 13, 3) := by decide +kernel
theorem dX1_walk_32 : decode cX1_walk 32 = .ok (.iload 4, 2) := by decide +kernel
theorem dX1_walk_34 : decode cX1_walk 34 = .ok (.ifCond .le 15, 3) := by decide +kernel
theorem dX1_walk_37 : decode cX1_walk 37 = .ok (.aload_n 0, 1) := by decide +kernel
theorem dX1_walk_38 : decode cX1_walk 38 = .ok (.getfield 22, 3) := by decide +kernel
theorem dX1_walk_41 : decode cX1_walk 41 = .ok (.iload 4, 2) := by decide +kernel
theorem dX1_walk_43 : decode cX1_walk 43 = .ok (.iconst 1, 1) := by decide +kernel
theorem dX1_walk_44 : decode cX1_walk 44 = .ok (.isub, 1) := by decide +kernel
theorem dX1_walk_45 : decode cX1_walk 45 = .ok (.iaload, 1) := by decide +kernel
theorem dX1_walk_46 : decode cX1_walk 46 = .ok (.goto 4, 3) := by decide +kernel
theorem dX1_walk_49 : decode cX1_walk 49 = .ok (.iconst 0, 1) := by decide +kernel
theorem dX1_walk_50 : decode cX1_walk 50 = .ok (.aaload, 1) := by decide +kernel
theorem dX1_walk_51 : decode cX1_walk 51 = .ok (.invokevirtual 145, 3) := by decide +kernel
theorem dX1_walk_54 : decode cX1_walk 54 = .ok (.iload 4, 2) := by decide +kernel
theorem dX1_walk_56 : decode cX1_walk 56 = .ok (.iconst 2, 1) := by decide +kernel
theorem dX1_walk_57 : decode cX1_walk 57 = .ok (.isub, 1) := by decide +kernel
theorem dX1_walk_58 : decode cX1_walk 58 = .ok (.istore 5, 2) := by decide +kernel
theorem dX1_walk_60 : decode cX1_walk 60 = .ok (.iload 5, 2) := by decide +kernel
theorem dX1_walk_62 : decode cX1_walk 62 = .ok (.ifCond .lt 58, 3) := by decide +kernel
theorem dX1_walk_65 : decode cX1_walk 65 = .ok (.iconst 0, 1) := by decide +kernel
theorem dX1_walk_66 : decode cX1_walk 66 = .ok (.istore 6, 2) := by decide +kernel
theorem dX1_walk_68 : decode cX1_walk 68 = .ok (.iload 6, 2) := by decide +kernel
theorem dX1_walk_70 : decode cX1_walk 70 = .ok (.iload_n 3, 1) := by decide +kernel
theorem dX1_walk_71 : decode cX1_walk 71 = .ok (.if_icmp .ge 15, 3) := by decide +kernel
theorem dX1_walk_74 : decode cX1_walk 74 = .ok (.aload_n 0, 1) := by decide +kernel
theorem dX1_walk_75 : decode cX1_walk 75 = .ok (.aload_n 1, 1) := by decide +kernel
theorem dX1_walk_76 : decode cX1_walk 76 = .ok (.aload_n 1, 1) := by decide +kernel
theorem dX1_walk_77 : decode cX1_walk 77 = .ok (.invokevirtual 126, 3) := by decide +kernel
theorem dX1_walk_80 : decode cX1_walk 80 = .ok (.iinc 6 1, 3) := by decide +kernel
theorem dX1_walk_83 : decode cX1_walk 83 = .ok (.goto (-15), 3) := by decide +kernel
theorem dX1_walk_86 : decode cX1_walk 86 = .ok (.aload_n 0, 1) := by decide +kernel
theorem dX1_walk_87 : decode cX1_walk 87 = .ok (.getfield 22, 3) := by decide +kernel
theorem dX1_walk_90 : decode cX1_walk 90 = .ok (.iload 5, 2) := by decide +kernel
theorem dX1_walk_92 : decode cX1_walk 92 = .ok (.iaload, 1) := by decide +kernel
theorem dX1_walk_93 : decode cX1_walk 93 = .ok (.ifCond .eq 21, 3) := by decide +kernel
theorem dX1_walk_96 : decode cX1_walk 96 = .ok (.aload_n 0, 1) := by decide +kernel
theorem dX1_walk_97 : decode cX1_walk 97 = .ok (.aload_n 1, 1) := by decide +kernel
theorem dX1_walk_98 : decode cX1_walk 98 = .ok (.aload_n 1, 1) := by decide +kernel
theorem dX1_walk_99 : decode cX1_walk 99 = .ok (.aload_n 0, 1) := by decide +kernel
theorem dX1_walk_100 : decode cX1_walk 100 = .ok (.getfield 13, 3) := by decide +kernel
theorem dX1_walk_103 : decode cX1_walk 103 = .ok (.aload_n 0, 1) := by decide +kernel
theorem dX1_walk_104 : decode cX1_walk 104 = .ok (.getfield 22, 3) := by decide +kernel
theorem dX1_walk_107 : decode cX1_walk 107 = .ok (.iload 5, 2) := by decide +kernel
theorem dX1_walk_109 : decode cX1_walk 109 = .ok (.iaload, 1) := by decide +kernel
theorem dX1_walk_110 : decode cX1_walk 110 = .ok (.aaload, 1) := by decide +kernel
theorem dX1_walk_111 : decode cX1_walk 111 = .ok (.invokevirtual 179, 3) := by decide +kernel
theorem dX1_walk_114 : decode cX1_walk 114 = .ok (.iinc 5 (-1), 3) := by decide +kernel
theorem dX1_walk_117 : decode cX1_walk 117 = .ok (.goto (-57), 3) := by decide +kernel
theorem dX1_walk_120 : decode cX1_walk 120 = .ok (.return_, 1) := by decide +kernel
theorem dX3_init_0 : decode cX3_init 0 = .ok (.aload_n 0, 1) := by decide +kernel
theorem dX3_init_1 : decode cX3_init 1 = .ok (.invokespecial 1, 3) := by decide +kernel
theorem dX3_init_4 : decode cX3_init 4 = .ok (.aload_n 0, 1) := by decide +kernel
theorem dX3_init_5 : decode cX3_init 5 = .ok (.bipush 16, 2) := by decide +kernel
theorem dX3_init_7 : decode cX3_init 7 = .ok (.newarray .long, 2) := by decide +kernel
theorem dX3_init_9 : decode cX3_init 9 = .ok (.putfield 9, 3) := by decide +kernel
theorem dX3_init_12 : decode cX3_init 12 = .ok (.aload_n 0, 1) := by decide +kernel
theorem dX3_init_13 : decode cX3_init 13 = .ok (.bipush 16, 2) := by decide +kernel
theorem dX3_init_15 : decode cX3_init 15 = .ok (.newarray .long, 2) := by decide +kernel
theorem dX3_init_17 : decode cX3_init 17 = .ok (.putfield 15, 3) := by decide +kernel
theorem dX3_init_20 : decode cX3_init 20 = .ok (.aload_n 0, 1) := by decide +kernel
theorem dX3_init_21 : decode cX3_init 21 = .ok (.bipush 32, 2) := by decide +kernel
theorem dX3_init_23 : decode cX3_init 23 = .ok (.newarray .long, 2) := by decide +kernel
theorem dX3_init_25 : decode cX3_init 25 = .ok (.putfield 18, 3) := by decide +kernel
theorem dX3_init_28 : decode cX3_init 28 = .ok (.aload_n 0, 1) := by decide +kernel
theorem dX3_init_29 : decode cX3_init 29 = .ok (.bipush 16, 2) := by decide +kernel
theorem dX3_init_31 : decode cX3_init 31 = .ok (.newarray .long, 2) := by decide +kernel
theorem dX3_init_33 : decode cX3_init 33 = .ok (.putfield 21, 3) := by decide +kernel
theorem dX3_init_36 : decode cX3_init 36 = .ok (.aload_n 0, 1) := by decide +kernel
theorem dX3_init_37 : decode cX3_init 37 = .ok (.bipush 16, 2) := by decide +kernel
theorem dX3_init_39 : decode cX3_init 39 = .ok (.newarray .long, 2) := by decide +kernel
theorem dX3_init_41 : decode cX3_init 41 = .ok (.putfield 24, 3) := by decide +kernel
theorem dX3_init_44 : decode cX3_init 44 = .ok (.aload_n 0, 1) := by decide +kernel
theorem dX3_init_45 : decode cX3_init 45 = .ok (.bipush 16, 2) := by decide +kernel
theorem dX3_init_47 : decode cX3_init 47 = .ok (.newarray .long, 2) := by decide +kernel
theorem dX3_init_49 : decode cX3_init 49 = .ok (.putfield 27, 3) := by decide +kernel
theorem dX3_init_52 : decode cX3_init 52 = .ok (.aload_n 0, 1) := by decide +kernel
theorem dX3_init_53 : decode cX3_init 53 = .ok (.bipush 16, 2) := by decide +kernel
theorem dX3_init_55 : decode cX3_init 55 = .ok (.newarray .long, 2) := by decide +kernel
theorem dX3_init_57 : decode cX3_init 57 = .ok (.putfield 30, 3) := by decide +kernel
theorem dX3_init_60 : decode cX3_init 60 = .ok (.aload_n 0, 1) := by decide +kernel
theorem dX3_init_61 : decode cX3_init 61 = .ok (.bipush 16, 2) := by decide +kernel
theorem dX3_init_63 : decode cX3_init 63 = .ok (.newarray .long, 2) := by decide +kernel
theorem dX3_init_65 : decode cX3_init 65 = .ok (.putfield 33, 3) := by decide +kernel
theorem dX3_init_68 : decode cX3_init 68 = .ok (.aload_n 0, 1) := by decide +kernel
theorem dX3_init_69 : decode cX3_init 69 = .ok (.bipush 16, 2) := by decide +kernel
theorem dX3_init_71 : decode cX3_init 71 = .ok (.newarray .long, 2) := by decide +kernel
theorem dX3_init_73 : decode cX3_init 73 = .ok (.putfield 36, 3) := by decide +kernel
theorem dX3_init_76 : decode cX3_init 76 = .ok (.aload_n 0, 1) := by decide +kernel
theorem dX3_init_77 : decode cX3_init 77 = .ok (.iload_n 1, 1) := by decide +kernel
theorem dX3_init_78 : decode cX3_init 78 = .ok (.putfield 39, 3) := by decide +kernel
theorem dX3_init_81 : decode cX3_init 81 = .ok (.aload_n 0, 1) := by decide +kernel
theorem dX3_init_82 : decode cX3_init 82 = .ok (.iload_n 1, 1) := by decide +kernel
theorem dX3_init_83 : decode cX3_init 83 = .ok (.ifCond .eq 8, 3) := by decide +kernel
theorem dX3_init_86 : decode cX3_init 86 = .ok (.bipush 56, 2) := by decide +kernel
theorem dX3_init_88 : decode cX3_init 88 = .ok (.goto 5, 3) := by decide +kernel
theorem dX3_init_91 : decode cX3_init 91 = .ok (.bipush 32, 2) := by decide +kernel
theorem dX3_init_93 : decode cX3_init 93 = .ok (.putfield 43, 3) := by decide +kernel
theorem dX3_init_96 : decode cX3_init 96 = .ok (.aload_n 0, 1) := by decide +kernel
theorem dX3_init_97 : decode cX3_init 97 = .ok (.iload_n 1, 1) := by decide +kernel
theorem dX3_init_98 : decode cX3_init 98 = .ok (.ifCond .eq 8, 3) := by decide +kernel
theorem dX3_init_101 : decode cX3_init 101 = .ok (.bipush 16, 2) := by decide +kernel
theorem dX3_init_103 : decode cX3_init 103 = .ok (.goto 5, 3) := by decide +kernel
theorem dX3_init_106 : decode cX3_init 106 = .ok (.bipush 9, 2) := by decide +kernel
theorem dX3_init_108 : decode cX3_init 108 = .ok (.putfield 47, 3) := by decide +kernel
theorem dX3_init_111 : decode cX3_init 111 = .ok (.aload_n 0, 1) := by decide +kernel
theorem dX3_init_112 : decode cX3_init 112 = .ok (.iload_n 1, 1) := by decide +kernel
theorem dX3_init_113 : decode cX3_init 113 = .ok (.ifCond .eq 8, 3) := by decide +kernel
theorem dX3_init_116 : decode cX3_init 116 = .ok (.bipush 28, 2) := by decide +kernel
theorem dX3_init_118 : decode cX3_init 118 = .ok (.goto 5, 3) := by decide +kernel
theorem dX3_init_121 : decode cX3_init 121 = .ok (.bipush 29, 2) := by decide +kernel
theorem dX3_init_123 : decode cX3_init 123 = .ok (.putfield 50, 3) := by decide +kernel
theorem dX3_init_126 : decode cX3_init 126 = .ok (.aload_n 0, 1) := by decide +kernel
theorem dX3_init_127 : decode cX3_init 127 = .ok (.iload_n 1, 1) := by decide +kernel
theorem dX3_init_128 : decode cX3_init 128 = .ok (.ifCond .eq 8, 3) := by decide +kernel
theorem dX3_init_131 : decode cX3_init 131 = .ok (.bipush 28, 2) := by decide +kernel
theorem dX3_init_133 : decode cX3_init 133 = .ok (.goto 5, 3) := by decide +kernel
theorem dX3_init_136 : decode cX3_init 136 = .ok (.bipush 23, 2) := by decide +kernel
theorem dX3_init_138 : decode cX3_init 138 = .ok (.putfield 53, 3) := by decide +kernel
theorem dX3_init_141 : decode cX3_init 141 = .ok (.aload_n 0, 1) := by decide +kernel
theorem dX3_init_142 : decode cX3_init 142 = .ok (.lconst 1, 1) := by decide +kernel
theorem dX3_init_143 : decode cX3_init 143 = .ok (.aload_n 0, 1) := by decide +kernel
theorem dX3_init_144 : decode cX3_init 144 = .ok (.getfield 50, 3) := by decide +kernel
theorem dX3_init_147 : decode cX3_init 147 = .ok (.lshl, 1) := by decide +kernel
theorem dX3_init_148 : decode cX3_init 148 = .ok (.lconst 1, 1) := by decide +kernel
theorem dX3_init_149 : decode cX3_init 149 = .ok (.lsub, 1) := by decide +kernel
theorem dX3_init_150 : decode cX3_init 150 = .ok (.putfield 56, 3) := by decide +kernel
theorem dX3_init_153 : decode cX3_init 153 = .ok (.aload_n 0, 1) := by decide +kernel
theorem dX3_init_154 : decode cX3_init 154 = .ok (.lconst 1, 1) := by decide +kernel
theorem dX3_init_155 : decode cX3_init 155 = .ok (.aload_n 0, 1) := by decide +kernel
theorem dX3_init_156 : decode cX3_init 156 = .ok (.getfield 53, 3) := by decide +kernel
theorem dX3_init_159 : decode cX3_init 159 = .ok (.lshl, 1) := by decide +kernel
theorem dX3_init_160 : decode cX3_init 160 = .ok (.lconst 1, 1) := by decide +kernel
theorem dX3_init_161 : decode cX3_init 161 = .ok (.lsub, 1) := by decide +kernel
theorem dX3_init_162 : decode cX3_init 162 = .ok (.putfield 60, 3) := by decide +kernel
theorem dX3_init_165 : decode cX3_init 165 = .ok (.aload_n 0, 1) := by decide +kernel
theorem dX3_init_166 : decode cX3_init 166 = .ok (.getfield 9, 3) := by decide +kernel
theorem dX3_init_169 : decode cX3_init 169 = .ok (.iconst 0, 1) := by decide +kernel
theorem dX3_init_170 : decode cX3_init 170 = .ok (.lconst 1, 1) := by decide +kernel
theorem dX3_init_171 : decode cX3_init 171 = .ok (.lastore, 1) := by decide +kernel
theorem dX3_init_172 : decode cX3_init 172 = .ok (.iconst 0, 1) := by decide +kernel
theorem dX3_init_173 : decode cX3_init 173 = .ok (.istore_n 2, 1) := by decide +kernel
theorem dX3_init_174 : decode cX3_init 174 = .ok (.iload_n 2, 1) := by decide +kernel
theorem dX3_init_175 : decode cX3_init 175 = .ok (.aload_n 0, 1) := by decide +kernel
theorem dX3_init_176 : decode cX3_init 176 = .ok (.getfield 47, 3) := by decide +kernel
theorem dX3_init_179 : decode cX3_init 179 = .ok (.if_icmp .ge 19, 3) := by decide +kernel
theorem dX3_init_182 : decode cX3_init 182 = .ok (.aload_n 0, 1) := by decide +kernel
theorem dX3_init_183 : decode cX3_init 183 = .ok (.getfield 15, 3) := by decide +kernel
theorem dX3_init_186 : decode cX3_init 186 = .ok (.iload_n 2, 1) := by decide +kernel
theorem dX3_init_187 : decode cX3_init 187 = .ok (.aload_n 0, 1) := by decide +kernel
theorem dX3_init_188 : decode cX3_init 188 = .ok (.getfield 56, 3) := by decide +kernel
theorem dX3_init_191 : decode cX3_init 191 = .ok (.lastore, 1) := by decide +kernel
theorem dX3_init_192 : decode cX3_init 192 = .ok (.iinc 2 1, 3) := by decide +kernel
theorem dX3_init_195 : decode cX3_init 195 = .ok (.goto (-21), 3) := by decide +kernel
theorem dX3_init_198 : decode cX3_init 198 = .ok (.aload_n 0, 1) := by decide +kernel
theorem dX3_init_199 : decode cX3_init 199 = .ok (.getfield 15, 3) := by decide +kernel
theorem dX3_init_202 : decode cX3_init 202 = .ok (.aload_n 0, 1) := by decide +kernel
theorem dX3_init_203 : decode cX3_init 203 = .ok (.getfield 47, 3) := by decide +kernel
theorem dX3_init_206 : decode cX3_init 206 = .ok (.iconst 1, 1) := by decide +kernel
theorem dX3_init_207 : decode cX3_init 207 = .ok (.isub, 1) := by decide +kernel
theorem dX3_init_208 : decode cX3_init 208 = .ok (.aload_n 0, 1) := by decide +kernel
theorem dX3_init_209 : decode cX3_init 209 = .ok (.getfield 60, 3) := by decide +kernel
theorem dX3_init_212 : decode cX3_init 212 = .ok (.lastore, 1) := by decide +kernel
theorem dX3_init_213 : decode cX3_init 213 = .ok (.iload_n 1, 1) := by decide +kernel
theorem dX3_init_214 : decode cX3_init 214 = .ok (.ifCond .eq 17, 3) := by decide +kernel
theorem dX3_init_217 : decode cX3_init 217 = .ok (.aload_n 0, 1) := by decide +kernel
theorem dX3_init_218 : decode cX3_init 218 = .ok (.getfield 15, 3) := by decide +kernel
theorem dX3_init_221 : decode cX3_init 221 = .ok (.bipush 8, 2) := by decide +kernel
theorem dX3_init_223 : decode cX3_init 223 = .ok (.dup2, 1) := by decide +kernel
theorem dX3_init_224 : decode cX3_init 224 = .ok (.laload, 1) := by decide +kernel
theorem dX3_init_225 : decode cX3_init 225 = .ok (.lconst 1, 1) := by decide +kernel
theorem dX3_init_226 : decode cX3_init 226 = .ok (.lsub, 1) := by decide +kernel
theorem dX3_init_227 : decode cX3_init 227 = .ok (.lastore, 1) := by decide +kernel
theorem dX3_init_228 : decode cX3_init 228 = .ok (.goto 15, 3) := by decide +kernel
theorem dX3_init_231 : decode cX3_init 231 = .ok (.aload_n 0, 1) := by decide +kernel
theorem dX3_init_232 : decode cX3_init 232 = .ok (.getfield 15, 3) := by decide +kernel
theorem dX3_init_235 : decode cX3_init 235 = .ok (.iconst 0, 1) := by decide +kernel
theorem dX3_init_236 : decode cX3_init 236 = .ok (.dup2, 1) := by decide +kernel
theorem dX3_init_237 : decode cX3_init 237 = .ok (.laload, 1) := by decide +kernel
theorem dX3_init_238 : decode cX3_init 238 = .ok (.ldc2_w 63, 3) := by decide +kernel
theorem dX3_init_241 : decode cX3_init 241 = .ok (.lsub, 1) := by decide +kernel
theorem dX3_init_242 : decode cX3_init 242 = .ok (.lastore, 1) := by decide +kernel
theorem dX3_init_243 : decode cX3_init 243 = .ok (.return_, 1) := by decide +kernel
theorem dX3_constant_0 : decode cX3_constant 0 = .ok (.aload_n 1, 1) := by decide +kernel
theorem dX3_constant_1 : decode cX3_constant 1 = .ok (.aload_n 0, 1) := by decide +kernel
theorem dX3_constant_2 : decode cX3_constant 2 = .ok (.getfield 50, 3) := by decide +kernel
theorem dX3_constant_5 : decode cX3_constant 5 = .ok (.invokestatic 65, 3) := by decide +kernel
theorem dX3_constant_8 : decode cX3_constant 8 = .ok (.areturn, 1) := by decide +kernel
theorem dX3_read_0 : decode cX3_read 0 = .ok (.aload_n 1, 1) := by decide +kernel
theorem dX3_read_1 : decode cX3_read 1 = .ok (.aload_n 0, 1) := by decide +kernel
theorem dX3_read_2 : decode cX3_read 2 = .ok (.getfield 50, 3) := by decide +kernel
theorem dX3_read_5 : decode cX3_read 5 = .ok (.aload_n 2, 1) := by decide +kernel
theorem dX3_read_6 : decode cX3_read 6 = .ok (.aload_n 0, 1) := by decide +kernel
theorem dX3_read_7 : decode cX3_read 7 = .ok (.getfield 43, 3) := by decide +kernel
theorem dX3_read_10 : decode cX3_read 10 = .ok (.invokestatic 69, 3) := by decide +kernel
theorem dX3_read_13 : decode cX3_read 13 = .ok (.aload_n 1, 1) := by decide +kernel
theorem dX3_read_14 : decode cX3_read 14 = .ok (.aload_n 0, 1) := by decide +kernel
theorem dX3_read_15 : decode cX3_read 15 = .ok (.getfield 47, 3) := by decide +kernel
theorem dX3_read_18 : decode cX3_read 18 = .ok (.iconst 1, 1) := by decide +kernel
theorem dX3_read_19 : decode cX3_read 19 = .ok (.isub, 1) := by decide +kernel
theorem dX3_read_20 : decode cX3_read 20 = .ok (.dup2, 1) := by decide +kernel
theorem dX3_read_21 : decode cX3_read 21 = .ok (.laload, 1) := by decide +kernel
theorem dX3_read_22 : decode cX3_read 22 = .ok (.aload_n 0, 1) := by decide +kernel
theorem dX3_read_23 : decode cX3_read 23 = .ok (.getfield 60, 3) := by decide +kernel
theorem dX3_read_26 : decode cX3_read 26 = .ok (.land, 1) := by decide +kernel
theorem dX3_read_27 : decode cX3_read 27 = .ok (.lastore, 1) := by decide +kernel
theorem dX3_read_28 : decode cX3_read 28 = .ok (.return_, 1) := by decide +kernel
theorem dX3_write_0 : decode cX3_write 0 = .ok (.aload_n 0, 1) := by decide +kernel
theorem dX3_write_1 : decode cX3_write 1 = .ok (.aload_n 2, 1) := by decide +kernel
theorem dX3_write_2 : decode cX3_write 2 = .ok (.invokevirtual 73, 3) := by decide +kernel
theorem dX3_write_5 : decode cX3_write 5 = .ok (.aload_n 1, 1) := by decide +kernel
theorem dX3_write_6 : decode cX3_write 6 = .ok (.iconst 0, 1) := by decide +kernel
theorem dX3_write_7 : decode cX3_write 7 = .ok (.aload_n 0, 1) := by decide +kernel
theorem dX3_write_8 : decode cX3_write 8 = .ok (.getfield 43, 3) := by decide +kernel
theorem dX3_write_11 : decode cX3_write 11 = .ok (.aload_n 0, 1) := by decide +kernel
theorem dX3_write_12 : decode cX3_write 12 = .ok (.getfield 21, 3) := by decide +kernel
theorem dX3_write_15 : decode cX3_write 15 = .ok (.aload_n 0, 1) := by decide +kernel
theorem dX3_write_16 : decode cX3_write 16 = .ok (.getfield 50, 3) := by decide +kernel
theorem dX3_write_19 : decode cX3_write 19 = .ok (.invokestatic 77, 3) := by decide +kernel
theorem dX3_write_22 : decode cX3_write 22 = .ok (.return_, 1) := by decide +kernel
theorem dX3_copy_0 : decode cX3_copy 0 = .ok (.aload_n 2, 1) := by decide +kernel
theorem dX3_copy_1 : decode cX3_copy 1 = .ok (.iconst 0, 1) := by decide +kernel
theorem dX3_copy_2 : decode cX3_copy 2 = .ok (.aload_n 1, 1) := by decide +kernel
theorem dX3_copy_3 : decode cX3_copy 3 = .ok (.iconst 0, 1) := by decide +kernel
theorem dX3_copy_4 : decode cX3_copy 4 = .ok (.aload_n 0, 1) := by decide +kernel
theorem dX3_copy_5 : decode cX3_copy 5 = .ok (.getfield 47, 3) := by decide +kernel
theorem dX3_copy_8 : decode cX3_copy 8 = .ok (.invokestatic 81, 3) := by decide +kernel
theorem dX3_copy_11 : decode cX3_copy 11 = .ok (.return_, 1) := by decide +kernel
theorem dX3_plus_0 : decode cX3_plus 0 = .ok (.iconst 0, 1) := by decide +kernel
theorem dX3_plus_1 : decode cX3_plus 1 = .ok (.istore 4, 2) := by decide +kernel
theorem dX3_plus_3 : decode cX3_plus 3 = .ok (.iload 4, 2) := by decide +kernel
theorem dX3_plus_5 : decode cX3_plus 5 = .ok (.aload_n 0, 1) := by decide +kernel
theorem dX3_plus_6 : decode cX3_plus 6 = .ok (.getfield 47, 3) := by decide +kernel
theorem dX3_plus_9 : decode cX3_plus 9 = .ok (.if_icmp .ge 22, 3) := by decide +kernel
theorem dX3_plus_12 : decode cX3_plus 12 = .ok (.aload_n 1, 1) := by decide +kernel
theorem dX3_plus_13 : decode cX3_plus 13 = .ok (.iload 4, 2) := by decide +kernel
theorem dX3_plus_15 : decode cX3_plus 15 = .ok (.aload_n 2, 1) := by decide +kernel
theorem dX3_plus_16 : decode cX3_plus 16 = .ok (.iload 4, 2) := by decide +kernel
theorem dX3_plus_18 : decode cX3_plus 18 = .ok (.laload, 1) := by decide +kernel
theorem dX3_plus_19 : decode cX3_plus 19 = .ok (.aload_n 3, 1) := by decide +kernel
theorem dX3_plus_20 : decode cX3_plus 20 = .ok (.iload 4, 2) := by decide +kernel
theorem dX3_plus_22 : decode cX3_plus 22 = .ok (.laload, 1) := by decide +kernel
theorem dX3_plus_23 : decode cX3_plus 23 = .ok (.ladd, 1) := by decide +kernel
theorem dX3_plus_24 : decode cX3_plus 24 = .ok (.lastore, 1) := by decide +kernel
theorem dX3_plus_25 : decode cX3_plus 25 = .ok (.iinc 4 1, 3) := by decide +kernel
theorem dX3_plus_28 : decode cX3_plus 28 = .ok (.goto (-25), 3) := by decide +kernel
theorem dX3_plus_31 : decode cX3_plus 31 = .ok (.aload_n 0, 1) := by decide +kernel
theorem dX3_plus_32 : decode cX3_plus 32 = .ok (.aload_n 1, 1) := by decide +kernel
theorem dX3_plus_33 : decode cX3_plus 33 = .ok (.aload_n 1, 1) := by decide +kernel
theorem dX3_plus_34 : decode cX3_plus 34 = .ok (.invokevirtual 87, 3) := by decide +kernel
theorem dX3_plus_37 : decode cX3_plus 37 = .ok (.return_, 1) := by decide +kernel
theorem dX3_minus_0 : decode cX3_minus 0 = .ok (.iconst 0, 1) := by decide +kernel
theorem dX3_minus_1 : decode cX3_minus 1 = .ok (.istore 4, 2) := by decide +kernel
theorem dX3_minus_3 : decode cX3_minus 3 = .ok (.iload 4, 2) := by decide +kernel
theorem dX3_minus_5 : decode cX3_minus 5 = .ok (.aload_n 0, 1) := by decide +kernel
theorem dX3_minus_6 : decode cX3_minus 6 = .ok (.getfield 47, 3) := by decide +kernel
theorem dX3_minus_9 : decode cX3_minus 9 = .ok (.if_icmp .ge 22, 3) := by decide +kernel
theorem dX3_minus_12 : decode cX3_minus 12 = .ok (.aload_n 1, 1) := by decide +kernel
theorem dX3_minus_13 : decode cX3_minus 13 = .ok (.iload 4, 2) := by decide +kernel
theorem dX3_minus_15 : decode cX3_minus 15 = .ok (.aload_n 2, 1) := by decide +kernel
theorem dX3_minus_16 : decode cX3_minus 16 = .ok (.iload 4, 2) := by decide +kernel
theorem dX3_minus_18 : decode cX3_minus 18 = .ok (.laload, 1) := by decide +kernel
theorem dX3_minus_19 : decode cX3_minus 19 = .ok (.aload_n 3, 1) := by decide +kernel
theorem dX3_minus_20 : decode cX3_minus 20 = .ok (.iload 4, 2) := by decide +kernel
theorem dX3_minus_22 : decode cX3_minus 22 = .ok (.laload, 1) := by decide +kernel
theorem dX3_minus_23 : decode cX3_minus 23 = .ok (.lsub, 1) := by decide +kernel
theorem dX3_minus_24 : decode cX3_minus 24 = .ok (.lastore, 1) := by decide +kernel
theorem dX3_minus_25 : decode cX3_minus 25 = .ok (.iinc 4 1, 3) := by decide +kernel
theorem dX3_minus_28 : decode cX3_minus 28 = .ok (.goto (-25), 3) := by decide +kernel
theorem dX3_minus_31 : decode cX3_minus 31 = .ok (.aload_n 0, 1) := by decide +kernel
theorem dX3_minus_32 : decode cX3_minus 32 = .ok (.aload_n 1, 1) := by decide +kernel
theorem dX3_minus_33 : decode cX3_minus 33 = .ok (.aload_n 1, 1) := by decide +kernel
theorem dX3_minus_34 : decode cX3_minus 34 = .ok (.invokevirtual 87, 3) := by decide +kernel
theorem dX3_minus_37 : decode cX3_minus 37 = .ok (.return_, 1) := by decide +kernel
theorem dX3_negate_0 : decode cX3_negate 0 = .ok (.iconst 0, 1) := by decide +kernel
theorem dX3_negate_1 : decode cX3_negate 1 = .ok (.istore_n 3, 1) := by decide +kernel
theorem dX3_negate_2 : decode cX3_negate 2 = .ok (.iload_n 3, 1) := by decide +kernel
theorem dX3_negate_3 : decode cX3_negate 3 = .ok (.aload_n 0, 1) := by decide +kernel
theorem dX3_negate_4 : decode cX3_negate 4 = .ok (.getfield 47, 3) := by decide +kernel
theorem dX3_negate_7 : decode cX3_negate 7 = .ok (.if_icmp .ge 16, 3) := by decide +kernel
theorem dX3_negate_10 : decode cX3_negate 10 = .ok (.aload_n 1, 1) := by decide +kernel
theorem dX3_negate_11 : decode cX3_negate 11 = .ok (.iload_n 3, 1) := by decide +kernel
theorem dX3_negate_12 : decode cX3_negate 12 = .ok (.aload_n 2, 1) := by decide +kernel
theorem dX3_negate_13 : decode cX3_negate 13 = .ok (.iload_n 3, 1) := by decide +kernel
theorem dX3_negate_14 : decode cX3_negate 14 = .ok (.laload, 1) := by decide +kernel
theorem dX3_negate_15 : decode cX3_negate 15 = .ok (.lneg, 1) := by decide +kernel
theorem dX3_negate_16 : decode cX3_negate 16 = .ok (.lastore, 1) := by decide +kernel
theorem dX3_negate_17 : decode cX3_negate 17 = .ok (.iinc 3 1, 3) := by decide +kernel
theorem dX3_negate_20 : decode cX3_negate 20 = .ok (.goto (-18), 3) := by decide +kernel
theorem dX3_negate_23 : decode cX3_negate 23 = .ok (.aload_n 0, 1) := by decide +kernel
theorem dX3_negate_24 : decode cX3_negate 24 = .ok (.aload_n 1, 1) := by decide +kernel
theorem dX3_negate_25 : decode cX3_negate 25 = .ok (.aload_n 1, 1) := by decide +kernel
theorem dX3_negate_26 : decode cX3_negate 26 = .ok (.invokevirtual 87, 3) := by decide +kernel
theorem dX3_negate_29 : decode cX3_negate 29 = .ok (.return_, 1) := by decide +kernel
theorem dX3_multiply_0 : decode cX3_multiply 0 = .ok (.aload_n 0, 1) := by decide +kernel
theorem dX3_multiply_1 : decode cX3_multiply 1 = .ok (.getfield 18, 3) := by decide +kernel
theorem dX3_multiply_4 : decode cX3_multiply 4 = .ok (.astore 4, 2) := by decide +kernel
theorem dX3_multiply_6 : decode cX3_multiply 6 = .ok (.aload_n 0, 1) := by decide +kernel
theorem dX3_multiply_7 : decode cX3_multiply 7 = .ok (.getfield 47, 3) := by decide +kernel
theorem dX3_multiply_10 : decode cX3_multiply 10 = .ok (.istore 5, 2) := by decide +kernel
theorem dX3_multiply_12 : decode cX3_multiply 12 = .ok (.aload 4, 2) := by decide +kernel
theorem dX3_multiply_14 : decode cX3_multiply 14 = .ok (.lconst 0, 1) := by decide +kernel
theorem dX3_multiply_15 : decode cX3_multiply 15 = .ok (.invokestatic 91, 3) := by decide +kernel
theorem dX3_multiply_18 : decode cX3_multiply 18 = .ok (.iconst 0, 1) := by decide +kernel
theorem dX3_multiply_19 : decode cX3_multiply 19 = .ok (.istore 6, 2) := by decide +kernel
theorem dX3_multiply_21 : decode cX3_multiply 21 = .ok (.iload 6, 2) := by decide +kernel
theorem dX3_multiply_23 : decode cX3_multiply 23 = .ok (.iload 5, 2) := by decide +kernel
theorem dX3_multiply_25 : decode cX3_multiply 25 = .ok (.if_icmp .ge 49, 3) := by decide +kernel
theorem dX3_multiply_28 : decode cX3_multiply 28 = .ok (.aload_n 2, 1) := by decide +kernel
theorem dX3_multiply_29 : decode cX3_multiply 29 = .ok (.iload 6, 2) := by decide +kernel
theorem dX3_multiply_31 : decode cX3_multiply 31 = .ok (.laload, 1) := by decide +kernel
theorem dX3_multiply_32 : decode cX3_multiply 32 = .ok (.lstore 7, 2) := by decide +kernel
theorem dX3_multiply_34 : decode cX3_multiply 34 = .ok (.iconst 0, 1) := by decide +kernel
theorem dX3_multiply_35 : decode cX3_multiply 35 = .ok (.istore 9, 2) := by decide +kernel
theorem dX3_multiply_37 : decode cX3_multiply 37 = .ok (.iload 9, 2) := by decide +kernel
theorem dX3_multiply_39 : decode cX3_multiply 39 = .ok (.iload 5, 2) := by decide +kernel
theorem dX3_multiply_41 : decode cX3_multiply 41 = .ok (.if_icmp .ge 27, 3) := by decide +kernel
theorem dX3_multiply_44 : decode cX3_multiply 44 = .ok (.aload 4, 2) := by decide +kernel
theorem dX3_multiply_46 : decode cX3_multiply 46 = .ok (.iload 6, 2) := by decide +kernel
theorem dX3_multiply_48 : decode cX3_multiply 48 = .ok (.iload 9, 2) := by decide +kernel
theorem dX3_multiply_50 : decode cX3_multiply 50 = .ok (.iadd, 1) := by decide +kernel
theorem dX3_multiply_51 : decode cX3_multiply 51 = .ok (.dup2, 1) := by decide +kernel
theorem dX3_multiply_52 : decode cX3_multiply 52 = .ok (.laload, 1) := by decide +kernel
theorem dX3_multiply_53 : decode cX3_multiply 53 = .ok (.lload 7, 2) := by decide +kernel
theorem dX3_multiply_55 : decode cX3_multiply 55 = .ok (.aload_n 3, 1) := by decide +kernel
theorem dX3_multiply_56 : decode cX3_multiply 56 = .ok (.iload 9, 2) := by decide +kernel
theorem dX3_multiply_58 : decode cX3_multiply 58 = .ok (.laload, 1) := by decide +kernel
theorem dX3_multiply_59 : decode cX3_multiply 59 = .ok (.lmul, 1) := by decide +kernel
theorem dX3_multiply_60 : decode cX3_multiply 60 = .ok (.ladd, 1) := by decide +kernel
theorem dX3_multiply_61 : decode cX3_multiply 61 = .ok (.lastore, 1) := by decide +kernel
theorem dX3_multiply_62 : decode cX3_multiply 62 = .ok (.iinc 9 1, 3) := by decide +kernel
theorem dX3_multiply_65 : decode cX3_multiply 65 = .ok (.goto (-28), 3) := by decide +kernel
theorem dX3_multiply_68 : decode cX3_multiply 68 = .ok (.iinc 6 1, 3) := by decide +kernel
theorem dX3_multiply_71 : decode cX3_multiply 71 = .ok (.goto (-50), 3) := by decide +kernel
theorem dX3_multiply_74 : decode cX3_multiply 74 = .ok (.aload_n 0, 1) := by decide +kernel
theorem dX3_multiply_75 : decode cX3_multiply 75 = .ok (.invokevirtual 97, 3) := by decide +kernel
theorem dX3_multiply_78 : decode cX3_multiply 78 = .ok (.aload_n 0, 1) := by decide +kernel
theorem dX3_multiply_79 : decode cX3_multiply 79 = .ok (.aload_n 1, 1) := by decide +kernel
theorem dX3_multiply_80 : decode cX3_multiply 80 = .ok (.aload_n 0, 1) := by decide +kernel
theorem dX3_multiply_81 : decode cX3_multiply 81 = .ok (.getfield 18, 3) := by decide +kernel
theorem dX3_multiply_84 : decode cX3_multiply 84 = .ok (.invokevirtual 87, 3) := by decide +kernel
theorem dX3_multiply_87 : decode cX3_multiply 87 = .ok (.aload_n 0, 1) := by decide +kernel
theorem dX3_multiply_88 : decode cX3_multiply 88 = .ok (.aload_n 1, 1) := by decide +kernel
theorem dX3_multiply_89 : decode cX3_multiply 89 = .ok (.aload_n 1, 1) := by decide +kernel
theorem dX3_multiply_90 : decode cX3_multiply 90 = .ok (.invokevirtual 87, 3) := by decide +kernel
theorem dX3_multiply_93 : decode cX3_multiply 93 = .ok (.return_, 1) := by decide +kernel
theorem dX3_square_0 : decode cX3_square 0 = .ok (.aload_n 0, 1) := by decide +kernel
theorem dX3_square_1 : decode cX3_square 1 = .ok (.getfield 18, 3) := by decide +kernel
theorem dX3_square_4 : decode cX3_square 4 = .ok (.astore_n 3, 1) := by decide +kernel
theorem dX3_square_5 : decode cX3_square 5 = .ok (.aload_n 0, 1) := by decide +kernel
theorem dX3_square_6 : decode cX3_square 6 = .ok (.getfield 47, 3) := by decide +kernel
theorem dX3_square_9 : decode cX3_square 9 = .ok (.istore 4, 2) := by decide +kernel
theorem dX3_square_11 : decode cX3_square 11 = .ok (.aload_n 3, 1) := by decide +kernel
theorem dX3_square_12 : decode cX3_square 12 = .ok (.lconst 0, 1) := by decide +kernel
theorem dX3_square_13 : decode cX3_square 13 = .ok (.invokestatic 91, 3) := by decide +kernel
theorem dX3_square_16 : decode cX3_square 16 = .ok (.iconst 0, 1) := by decide +kernel
theorem dX3_square_17 : decode cX3_square 17 = .ok (.istore 5, 2) := by decide +kernel
theorem dX3_square_19 : decode cX3_square 19 = .ok (.iload 5, 2) := by decide +kernel
theorem dX3_square_21 : decode cX3_square 21 = .ok (.iload 4, 2) := by decide +kernel
theorem dX3_square_23 : decode cX3_square 23 = .ok (.if_icmp .ge 73, 3) := by decide +kernel
theorem dX3_square_26 : decode cX3_square 26 = .ok (.aload_n 2, 1) := by decide +kernel
theorem dX3_square_27 : decode cX3_square 27 = .ok (.iload 5, 2) := by decide +kernel
theorem dX3_square_29 : decode cX3_square 29 = .ok (.laload, 1) := by decide +kernel
theorem dX3_square_30 : decode cX3_square 30 = .ok (.lstore 6, 2) := by decide +kernel
theorem dX3_square_32 : decode cX3_square 32 = .ok (.aload_n 3, 1) := by decide +kernel
theorem dX3_square_33 : decode cX3_square 33 = .ok (.iconst 2, 1) := by decide +kernel
theorem dX3_square_34 : decode cX3_square 34 = .ok (.iload 5, 2) := by decide +kernel
theorem dX3_square_36 : decode cX3_square 36 = .ok (.imul, 1) := by decide +kernel
theorem dX3_square_37 : decode cX3_square 37 = .ok (.dup2, 1) := by decide +kernel
theorem dX3_square_38 : decode cX3_square 38 = .ok (.laload, 1) := by decide +kernel
theorem dX3_square_39 : decode cX3_square 39 = .ok (.lload 6, 2) := by decide +kernel
theorem dX3_square_41 : decode cX3_square 41 = .ok (.lload 6, 2) := by decide +kernel
theorem dX3_square_43 : decode cX3_square 43 = .ok (.lmul, 1) := by decide +kernel
theorem dX3_square_44 : decode cX3_square 44 = .ok (.ladd, 1) := by decide +kernel
theorem dX3_square_45 : decode cX3_square 45 = .ok (.lastore, 1) := by decide +kernel
theorem dX3_square_46 : decode cX3_square 46 = .ok (.ldc2_w 100, 3) := by decide +kernel
theorem dX3_square_49 : decode cX3_square 49 = .ok (.lload 6, 2) := by decide +kernel
theorem dX3_square_51 : decode cX3_square 51 = .ok (.lmul, 1) := by decide +kernel
theorem dX3_square_52 : decode cX3_square 52 = .ok (.lstore 8, 2) := by decide +kernel
theorem dX3_square_54 : decode cX3_square 54 = .ok (.iload 5, 2) := by decide +kernel
theorem dX3_square_56 : decode cX3_square 56 = .ok (.iconst 1, 1) := by decide +kernel
theorem dX3_square_57 : decode cX3_square 57 = .ok (.iadd, 1) := by decide +kernel
theorem dX3_square_58 : decode cX3_square 58 = .ok (.istore 10, 2) := by decide +kernel
theorem dX3_square_60 : decode cX3_square 60 = .ok (.iload 10, 2) := by decide +kernel
theorem dX3_square_62 : decode cX3_square 62 = .ok (.iload 4, 2) := by decide +kernel
theorem dX3_square_64 : decode cX3_square 64 = .ok (.if_icmp .ge 26, 3) := by decide +kernel
theorem dX3_square_67 : decode cX3_square 67 = .ok (.aload_n 3, 1) := by decide +kernel
theorem dX3_square_68 : decode cX3_square 68 = .ok (.iload 5, 2) := by decide +kernel
theorem dX3_square_70 : decode cX3_square 70 = .ok (.iload 10, 2) := by decide +kernel
theorem dX3_square_72 : decode cX3_square 72 = .ok (.iadd, 1) := by decide +kernel
theorem dX3_square_73 : decode cX3_square 73 = .ok (.dup2, 1) := by decide +kernel
theorem dX3_square_74 : decode cX3_square 74 = .ok (.laload, 1) := by decide +kernel
theorem dX3_square_75 : decode cX3_square 75 = .ok (.lload 8, 2) := by decide +kernel
theorem dX3_square_77 : decode cX3_square 77 = .ok (.aload_n 2, 1) := by decide +kernel
theorem dX3_square_78 : decode cX3_square 78 = .ok (.iload 10, 2) := by decide +kernel
theorem dX3_square_80 : decode cX3_square 80 = .ok (.laload, 1) := by decide +kernel
theorem dX3_square_81 : decode cX3_square 81 = .ok (.lmul, 1) := by decide +kernel
theorem dX3_square_82 : decode cX3_square 82 = .ok (.ladd, 1) := by decide +kernel
theorem dX3_square_83 : decode cX3_square 83 = .ok (.lastore, 1) := by decide +kernel
theorem dX3_square_84 : decode cX3_square 84 = .ok (.iinc 10 1, 3) := by decide +kernel
theorem dX3_square_87 : decode cX3_square 87 = .ok (.goto (-27), 3) := by decide +kernel
theorem dX3_square_90 : decode cX3_square 90 = .ok (.iinc 5 1, 3) := by decide +kernel
theorem dX3_square_93 : decode cX3_square 93 = .ok (.goto (-74), 3) := by decide +kernel
theorem dX3_square_96 : decode cX3_square 96 = .ok (.aload_n 0, 1) := by decide +kernel
theorem dX3_square_97 : decode cX3_square 97 = .ok (.invokevirtual 97, 3) := by decide +kernel
theorem dX3_square_100 : decode cX3_square 100 = .ok (.aload_n 0, 1) := by decide +kernel
theorem dX3_square_101 : decode cX3_square 101 = .ok (.aload_n 1, 1) := by decide +kernel
theorem dX3_square_102 : decode cX3_square 102 = .ok (.aload_n 0, 1) := by decide +kernel
theorem dX3_square_103 : decode cX3_square 103 = .ok (.getfield 18, 3) := by decide +kernel
theorem dX3_square_106 : decode cX3_square 106 = .ok (.invokevirtual 87, 3) := by decide +kernel
theorem dX3_square_109 : decode cX3_square 109 = .ok (.aload_n 0, 1) := by decide +kernel
theorem dX3_square_110 : decode cX3_square 110 = .ok (.aload_n 1, 1) := by decide +kernel
theorem dX3_square_111 : decode cX3_square 111 = .ok (.aload_n 1, 1) := by decide +kernel
