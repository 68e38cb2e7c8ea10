theorem dX7_readPath_8 : decode cX7_readPath 8 = .ok (.aload_n 0, 1) := by decide +kernel
theorem dX7_readPath_9 : decode cX7_readPath 9 = .ok (.getfield 217, 3) := by decide +kernel
theorem dX7_readPath_12 : decode cX7_readPath 12 = .ok (.bipush 40, 2) := by decide +kernel
theorem dX7_readPath_14 : decode cX7_readPath 14 = .ok (.if_icmp .ne 7, 3) := by decide +kernel
theorem dX7_readPath_17 : decode cX7_readPath 17 = .ok (.aload_n 0, 1) := by decide +kernel
theorem dX7_readPath_18 : decode cX7_readPath 18 = .ok (.invokevirtual 89, 3) := by decide +kernel
theorem dX7_readPath_21 : decode cX7_readPath 21 = .ok (.aload_n 0, 1) := by decide +kernel
theorem dX7_readPath_22 : decode cX7_readPath 22 = .ok (.invokevirtual 81, 3) := by decide +kernel
theorem dX7_readPath_25 : decode cX7_readPath 25 = .ok (.ifCond .ne 4, 3) := by decide +kernel
theorem dX7_readPath_28 : decode cX7_readPath 28 = .ok (.return_, 1) := by decide +kernel
theorem dX7_readPath_29 : decode cX7_readPath 29 = .ok (.bipush 40, 2) := by decide +kernel
theorem dX7_readPath_31 : decode cX7_readPath 31 = .ok (.aload_n 0, 1) := by decide +kernel
theorem dX7_readPath_32 : decode cX7_readPath 32 = .ok (.getfield 211, 3) := by decide +kernel
theorem dX7_readPath_35 : decode cX7_readPath 35 = .ok (.imul, 1) := by decide +kernel
theorem dX7_readPath_36 : decode cX7_readPath 36 = .ok (.aload_n 0, 1) := by decide +kernel
theorem dX7_readPath_37 : decode cX7_readPath 37 = .ok (.getfield 217, 3) := by decide +kernel
theorem dX7_readPath_40 : decode cX7_readPath 40 = .ok (.iadd, 1) := by decide +kernel
theorem dX7_readPath_41 : decode cX7_readPath 41 = .ok (.istore_n 2, 1) := by decide +kernel
theorem dX7_readPath_42 : decode cX7_readPath 42 = .ok (.aload_n 0, 1) := by decide +kernel
theorem dX7_readPath_43 : decode cX7_readPath 43 = .ok (.getfield 287, 3) := by decide +kernel
theorem dX7_readPath_46 : decode cX7_readPath 46 = .ok (.iload_n 2, 1) := by decide +kernel
theorem dX7_readPath_47 : decode cX7_readPath 47 = .ok (.sipush 160, 3) := by decide +kernel
theorem dX7_readPath_50 : decode cX7_readPath 50 = .ok (.aload_n 0, 1) := by decide +kernel
theorem dX7_readPath_51 : decode cX7_readPath 51 = .ok (.getfield 211, 3) := by decide +kernel
theorem dX7_readPath_54 : decode cX7_readPath 54 = .ok (.imul, 1) := by decide +kernel
theorem dX7_readPath_55 : decode cX7_readPath 55 = .ok (.aload_n 0, 1) := by decide +kernel
theorem dX7_readPath_56 : decode cX7_readPath 56 = .ok (.getfield 220, 3) := by decide +kernel
theorem dX7_readPath_59 : decode cX7_readPath 59 = .ok (.iadd, 1) := by decide +kernel
theorem dX7_readPath_60 : decode cX7_readPath 60 = .ok (.iastore, 1) := by decide +kernel
theorem dX7_readPath_61 : decode cX7_readPath 61 = .ok (.aload_n 0, 1) := by decide +kernel
theorem dX7_readPath_62 : decode cX7_readPath 62 = .ok (.dup, 1) := by decide +kernel
theorem dX7_readPath_63 : decode cX7_readPath 63 = .ok (.getfield 217, 3) := by decide +kernel
theorem dX7_readPath_66 : decode cX7_readPath 66 = .ok (.iconst 1, 1) := by decide +kernel
theorem dX7_readPath_67 : decode cX7_readPath 67 = .ok (.iadd, 1) := by decide +kernel
theorem dX7_readPath_68 : decode cX7_readPath 68 = .ok (.putfield 217, 3) := by decide +kernel
theorem dX7_readPath_71 : decode cX7_readPath 71 = .ok (.iload_n 1, 1) := by decide +kernel
theorem dX7_readPath_72 : decode cX7_readPath 72 = .ok (.istore_n 3, 1) := by decide +kernel
theorem dX7_readPath_73 : decode cX7_readPath 73 = .ok (.iconst 0, 1) := by decide +kernel
theorem dX7_readPath_74 : decode cX7_readPath 74 = .ok (.istore 4, 2) := by decide +kernel
theorem dX7_readPath_76 : decode cX7_readPath 76 = .ok (.iconst 1, 1) := by decide +kernel
theorem dX7_readPath_77 : decode cX7_readPath 77 = .ok (.istore 5, 2) := by decide +kernel
theorem dX7_readPath_79 : decode cX7_readPath 79 = .ok (.iload 5, 2) := by decide +kernel
theorem dX7_readPath_81 : decode cX7_readPath 81 = .ok (.ifCond .eq 162, 3) := by decide +kernel
theorem dX7_readPath_84 : decode cX7_readPath 84 = .ok (.aload_n 0, 1) := by decide +kernel
theorem dX7_readPath_85 : decode cX7_readPath 85 = .ok (.invokevirtual 81, 3) := by decide +kernel
theorem dX7_readPath_88 : decode cX7_readPath 88 = .ok (.ifCond .eq 155, 3) := by decide +kernel
theorem dX7_readPath_91 : decode cX7_readPath 91 = .ok (.aload_n 0, 1) := by decide +kernel
theorem dX7_readPath_92 : decode cX7_readPath 92 = .ok (.getfield 53, 3) := by decide +kernel
theorem dX7_readPath_95 : decode cX7_readPath 95 = .ok (.iconst 2, 1) := by decide +kernel
theorem dX7_readPath_96 : decode cX7_readPath 96 = .ok (.if_icmp .ne 9, 3) := by decide +kernel
theorem dX7_readPath_99 : decode cX7_readPath 99 = .ok (.iload 4, 2) := by decide +kernel
theorem dX7_readPath_101 : decode cX7_readPath 101 = .ok (.iconst 4, 1) := by decide +kernel
theorem dX7_readPath_102 : decode cX7_readPath 102 = .ok (.if_icmp .ne 7, 3) := by decide +kernel
theorem dX7_readPath_105 : decode cX7_readPath 105 = .ok (.aload_n 0, 1) := by decide +kernel
theorem dX7_readPath_106 : decode cX7_readPath 106 = .ok (.invokevirtual 89, 3) := by decide +kernel
theorem dX7_readPath_109 : decode cX7_readPath 109 = .ok (.aload_n 0, 1) := by decide +kernel
theorem dX7_readPath_110 : decode cX7_readPath 110 = .ok (.invokevirtual 81, 3) := by decide +kernel
theorem dX7_readPath_113 : decode cX7_readPath 113 = .ok (.ifCond .ne 4, 3) := by decide +kernel
theorem dX7_readPath_116 : decode cX7_readPath 116 = .ok (.return_, 1) := by decide +kernel
theorem dX7_readPath_117 : decode cX7_readPath 117 = .ok (.aload_n 0, 1) := by decide +kernel
theorem dX7_readPath_118 : decode cX7_readPath 118 = .ok (.getfield 46, 3) := by decide +kernel
theorem dX7_readPath_121 : decode cX7_readPath 121 = .ok (.istore 6, 2) := by decide +kernel
theorem dX7_readPath_123 : decode cX7_readPath 123 = .ok (.aload_n 0, 1) := by decide +kernel
theorem dX7_readPath_124 : decode cX7_readPath 124 = .ok (.iload_n 3, 1) := by decide +kernel
theorem dX7_readPath_125 : decode cX7_readPath 125 = .ok (.aload_n 0, 1) := by decide +kernel
theorem dX7_readPath_126 : decode cX7_readPath 126 = .ok (.getfield 60, 3) := by decide +kernel
theorem dX7_readPath_129 : decode cX7_readPath 129 = .ok (.invokevirtual 172, 3) := by decide +kernel
theorem dX7_readPath_132 : decode cX7_readPath 132 = .ok (.istore 7, 2) := by decide +kernel
theorem dX7_readPath_134 : decode cX7_readPath 134 = .ok (.aload_n 0, 1) := by decide +kernel
theorem dX7_readPath_135 : decode cX7_readPath 135 = .ok (.invokevirtual 85, 3) := by decide +kernel
theorem dX7_readPath_138 : decode cX7_readPath 138 = .ok (.aload_n 0, 1) := by decide +kernel
theorem dX7_readPath_139 : decode cX7_readPath 139 = .ok (.bipush 46, 2) := by decide +kernel
theorem dX7_readPath_141 : decode cX7_readPath 141 = .ok (.invokevirtual 163, 3) := by decide +kernel
theorem dX7_readPath_144 : decode cX7_readPath 144 = .ok (.istore 5, 2) := by decide +kernel
theorem dX7_readPath_146 : decode cX7_readPath 146 = .ok (.iload 7, 2) := by decide +kernel
theorem dX7_readPath_148 : decode cX7_readPath 148 = .ok (.ifCond .lt 23, 3) := by decide +kernel
theorem dX7_readPath_151 : decode cX7_readPath 151 = .ok (.aload_n 0, 1) := by decide +kernel
theorem dX7_readPath_152 : decode cX7_readPath 152 = .ok (.getfield 175, 3) := by decide +kernel
theorem dX7_readPath_155 : decode cX7_readPath 155 = .ok (.iload 7, 2) := by decide +kernel
theorem dX7_readPath_157 : decode cX7_readPath 157 = .ok (.iaload, 1) := by decide +kernel
theorem dX7_readPath_158 : decode cX7_readPath 158 = .ok (.ifCond .lt 7, 3) := by decide +kernel
theorem dX7_readPath_161 : decode cX7_readPath 161 = .ok (.iconst 1, 1) := by decide +kernel
theorem dX7_readPath_162 : decode cX7_readPath 162 = .ok (.goto 4, 3) := by decide +kernel
theorem dX7_readPath_165 : decode cX7_readPath 165 = .ok (.iconst 0, 1) := by decide +kernel
theorem dX7_readPath_166 : decode cX7_readPath 166 = .ok (.iload 5, 2) := by decide +kernel
theorem dX7_readPath_168 : decode cX7_readPath 168 = .ok (.if_icmp .eq 10, 3) := by decide +kernel
theorem dX7_readPath_171 : decode cX7_readPath 171 = .ok (.aload_n 0, 1) := by decide +kernel
theorem dX7_readPath_172 : decode cX7_readPath 172 = .ok (.iconst 4, 1) := by decide +kernel
theorem dX7_readPath_173 : decode cX7_readPath 173 = .ok (.iload 6, 2) := by decide +kernel
theorem dX7_readPath_175 : decode cX7_readPath 175 = .ok (.invokevirtual 77, 3) := by decide +kernel
theorem dX7_readPath_178 : decode cX7_readPath 178 = .ok (.aload_n 0, 1) := by decide +kernel
theorem dX7_readPath_179 : decode cX7_readPath 179 = .ok (.invokevirtual 81, 3) := by decide +kernel
theorem dX7_readPath_182 : decode cX7_readPath 182 = .ok (.ifCond .ne 4, 3) := by decide +kernel
theorem dX7_readPath_185 : decode cX7_readPath 185 = .ok (.return_, 1) := by decide +kernel
theorem dX7_readPath_186 : decode cX7_readPath 186 = .ok (.aload_n 0, 1) := by decide +kernel
theorem dX7_readPath_187 : decode cX7_readPath 187 = .ok (.getfield 290, 3) := by decide +kernel
theorem dX7_readPath_190 : decode cX7_readPath 190 = .ok (.sipush 160, 3) := by decide +kernel
theorem dX7_readPath_193 : decode cX7_readPath 193 = .ok (.aload_n 0, 1) := by decide +kernel
theorem dX7_readPath_194 : decode cX7_readPath 194 = .ok (.getfield 211, 3) := by decide +kernel
theorem dX7_readPath_197 : decode cX7_readPath 197 = .ok (.imul, 1) := by decide +kernel
theorem dX7_readPath_198 : decode cX7_readPath 198 = .ok (.aload_n 0, 1) := by decide +kernel
theorem dX7_readPath_199 : decode cX7_readPath 199 = .ok (.getfield 220, 3) := by decide +kernel
theorem dX7_readPath_202 : decode cX7_readPath 202 = .ok (.iadd, 1) := by decide +kernel
theorem dX7_readPath_203 : decode cX7_readPath 203 = .ok (.iload 7, 2) := by decide +kernel
theorem dX7_readPath_205 : decode cX7_readPath 205 = .ok (.iconst 5, 1) := by decide +kernel
theorem dX7_readPath_206 : decode cX7_readPath 206 = .ok (.iload_n 3, 1) := by decide +kernel
theorem dX7_readPath_207 : decode cX7_readPath 207 = .ok (.imul, 1) := by decide +kernel
theorem dX7_readPath_208 : decode cX7_readPath 208 = .ok (.isub, 1) := by decide +kernel
theorem dX7_readPath_209 : decode cX7_readPath 209 = .ok (.iastore, 1) := by decide +kernel
theorem dX7_readPath_210 : decode cX7_readPath 210 = .ok (.aload_n 0, 1) := by decide +kernel
theorem dX7_readPath_211 : decode cX7_readPath 211 = .ok (.dup, 1) := by decide +kernel
theorem dX7_readPath_212 : decode cX7_readPath 212 = .ok (.getfield 220, 3) := by decide +kernel
theorem dX7_readPath_215 : decode cX7_readPath 215 = .ok (.iconst 1, 1) := by decide +kernel
theorem dX7_readPath_216 : decode cX7_readPath 216 = .ok (.iadd, 1) := by decide +kernel
theorem dX7_readPath_217 : decode cX7_readPath 217 = .ok (.putfield 220, 3) := by decide +kernel
theorem dX7_readPath_220 : decode cX7_readPath 220 = .ok (.iinc 4 1, 3) := by decide +kernel
theorem dX7_readPath_223 : decode cX7_readPath 223 = .ok (.iload 5, 2) := by decide +kernel
theorem dX7_readPath_225 : decode cX7_readPath 225 = .ok (.ifCond .eq 15, 3) := by decide +kernel
theorem dX7_readPath_228 : decode cX7_readPath 228 = .ok (.aload_n 0, 1) := by decide +kernel
theorem dX7_readPath_229 : decode cX7_readPath 229 = .ok (.getfield 175, 3) := by decide +kernel
theorem dX7_readPath_232 : decode cX7_readPath 232 = .ok (.iload 7, 2) := by decide +kernel
theorem dX7_readPath_234 : decode cX7_readPath 234 = .ok (.iaload, 1) := by decide +kernel
theorem dX7_readPath_235 : decode cX7_readPath 235 = .ok (.istore_n 3, 1) := by decide +kernel
theorem dX7_readPath_236 : decode cX7_readPath 236 = .ok (.aload_n 0, 1) := by decide +kernel
theorem dX7_readPath_237 : decode cX7_readPath 237 = .ok (.invokevirtual 85, 3) := by decide +kernel
theorem dX7_readPath_240 : decode cX7_readPath 240 = .ok (.goto (-161), 3) := by decide +kernel
theorem dX7_readPath_243 : decode cX7_readPath 243 = .ok (.aload_n 0, 1) := by decide +kernel
theorem dX7_readPath_244 : decode cX7_readPath 244 = .ok (.getfield 293, 3) := by decide +kernel
theorem dX7_readPath_247 : decode cX7_readPath 247 = .ok (.iload_n 2, 1) := by decide +kernel
theorem dX7_readPath_248 : decode cX7_readPath 248 = .ok (.sipush 160, 3) := by decide +kernel
theorem dX7_readPath_251 : decode cX7_readPath 251 = .ok (.aload_n 0, 1) := by decide +kernel
theorem dX7_readPath_252 : decode cX7_readPath 252 = .ok (.getfield 211, 3) := by decide +kernel
theorem dX7_readPath_255 : decode cX7_readPath 255 = .ok (.imul, 1) := by decide +kernel
theorem dX7_readPath_256 : decode cX7_readPath 256 = .ok (.aload_n 0, 1) := by decide +kernel
theorem dX7_readPath_257 : decode cX7_readPath 257 = .ok (.getfield 220, 3) := by decide +kernel
theorem dX7_readPath_260 : decode cX7_readPath 260 = .ok (.iadd, 1) := by decide +kernel
theorem dX7_readPath_261 : decode cX7_readPath 261 = .ok (.iastore, 1) := by decide +kernel
theorem dX7_readPath_262 : decode cX7_readPath 262 = .ok (.return_, 1) := by decide +kernel
theorem dX7_behind_0 : decode cX7_behind 0 = .ok (.aload_n 0, 1) := by decide +kernel
theorem dX7_behind_1 : decode cX7_behind 1 = .ok (.ldc2_w 35, 3) := by decide +kernel
theorem dX7_behind_4 : decode cX7_behind 4 = .ok (.invokevirtual 125, 3) := by decide +kernel
theorem dX7_behind_7 : decode cX7_behind 7 = .ok (.ifCond .eq 7, 3) := by decide +kernel
theorem dX7_behind_10 : decode cX7_behind 10 = .ok (.iconst 2, 1) := by decide +kernel
theorem dX7_behind_11 : decode cX7_behind 11 = .ok (.goto 18, 3) := by decide +kernel
theorem dX7_behind_14 : decode cX7_behind 14 = .ok (.aload_n 0, 1) := by decide +kernel
theorem dX7_behind_15 : decode cX7_behind 15 = .ok (.ldc2_w 37, 3) := by decide +kernel
theorem dX7_behind_18 : decode cX7_behind 18 = .ok (.invokevirtual 125, 3) := by decide +kernel
theorem dX7_behind_21 : decode cX7_behind 21 = .ok (.ifCond .eq 7, 3) := by decide +kernel
theorem dX7_behind_24 : decode cX7_behind 24 = .ok (.iconst 1, 1) := by decide +kernel
theorem dX7_behind_25 : decode cX7_behind 25 = .ok (.goto 4, 3) := by decide +kernel
theorem dX7_behind_28 : decode cX7_behind 28 = .ok (.iconst 0, 1) := by decide +kernel
theorem dX7_behind_29 : decode cX7_behind 29 = .ok (.istore_n 1, 1) := by decide +kernel
theorem dX7_behind_30 : decode cX7_behind 30 = .ok (.aload_n 0, 1) := by decide +kernel
theorem dX7_behind_31 : decode cX7_behind 31 = .ok (.getfield 263, 3) := by decide +kernel
theorem dX7_behind_34 : decode cX7_behind 34 = .ok (.aload_n 0, 1) := by decide +kernel
theorem dX7_behind_35 : decode cX7_behind 35 = .ok (.getfield 266, 3) := by decide +kernel
theorem dX7_behind_38 : decode cX7_behind 38 = .ok (.iconst 1, 1) := by decide +kernel
theorem dX7_behind_39 : decode cX7_behind 39 = .ok (.isub, 1) := by decide +kernel
theorem dX7_behind_40 : decode cX7_behind 40 = .ok (.iaload, 1) := by decide +kernel
theorem dX7_behind_41 : decode cX7_behind 41 = .ok (.iconst 3, 1) := by decide +kernel
theorem dX7_behind_42 : decode cX7_behind 42 = .ok (.if_icmp .gt 97, 3) := by decide +kernel
theorem dX7_behind_45 : decode cX7_behind 45 = .ok (.aload_n 0, 1) := by decide +kernel
theorem dX7_behind_46 : decode cX7_behind 46 = .ok (.getfield 263, 3) := by decide +kernel
theorem dX7_behind_49 : decode cX7_behind 49 = .ok (.aload_n 0, 1) := by decide +kernel
theorem dX7_behind_50 : decode cX7_behind 50 = .ok (.getfield 266, 3) := by decide +kernel
theorem dX7_behind_53 : decode cX7_behind 53 = .ok (.iconst 1, 1) := by decide +kernel
theorem dX7_behind_54 : decode cX7_behind 54 = .ok (.isub, 1) := by decide +kernel
theorem dX7_behind_55 : decode cX7_behind 55 = .ok (.iaload, 1) := by decide +kernel
theorem dX7_behind_56 : decode cX7_behind 56 = .ok (.iload_n 1, 1) := by decide +kernel
theorem dX7_behind_57 : decode cX7_behind 57 = .ok (.if_icmp .lt 82, 3) := by decide +kernel
theorem dX7_behind_60 : decode cX7_behind 60 = .ok (.aload_n 0, 1) := by decide +kernel
theorem dX7_behind_61 : decode cX7_behind 61 = .ok (.dup, 1) := by decide +kernel
theorem dX7_behind_62 : decode cX7_behind 62 = .ok (.getfield 266, 3) := by decide +kernel
theorem dX7_behind_65 : decode cX7_behind 65 = .ok (.iconst 1, 1) := by decide +kernel
theorem dX7_behind_66 : decode cX7_behind 66 = .ok (.isub, 1) := by decide +kernel
theorem dX7_behind_67 : decode cX7_behind 67 = .ok (.putfield 266, 3) := by decide +kernel
theorem dX7_behind_70 : decode cX7_behind 70 = .ok (.aload_n 0, 1) := by decide +kernel
theorem dX7_behind_71 : decode cX7_behind 71 = .ok (.getfield 263, 3) := by decide +kernel
theorem dX7_behind_74 : decode cX7_behind 74 = .ok (.aload_n 0, 1) := by decide +kernel
theorem dX7_behind_75 : decode cX7_behind 75 = .ok (.getfield 266, 3) := by decide +kernel
theorem dX7_behind_78 : decode cX7_behind 78 = .ok (.iaload, 1) := by decide +kernel
theorem dX7_behind_79 : decode cX7_behind 79 = .ok (.iconst 3, 1) := by decide +kernel
theorem dX7_behind_80 : decode cX7_behind 80 = .ok (.if_icmp .ne 13, 3) := by decide +kernel
theorem dX7_behind_83 : decode cX7_behind 83 = .ok (.aload_n 0, 1) := by decide +kernel
theorem dX7_behind_84 : decode cX7_behind 84 = .ok (.dup, 1) := by decide +kernel
theorem dX7_behind_85 : decode cX7_behind 85 = .ok (.getfield 269, 3) := by decide +kernel
theorem dX7_behind_88 : decode cX7_behind 88 = .ok (.iconst 1, 1) := by decide +kernel
theorem dX7_behind_89 : decode cX7_behind 89 = .ok (.isub, 1) := by decide +kernel
theorem dX7_behind_90 : decode cX7_behind 90 = .ok (.putfield 269, 3) := by decide +kernel
theorem dX7_behind_93 : decode cX7_behind 93 = .ok (.aload_n 0, 1) := by decide +kernel
theorem dX7_behind_94 : decode cX7_behind 94 = .ok (.aload_n 0, 1) := by decide +kernel
theorem dX7_behind_95 : decode cX7_behind 95 = .ok (.getfield 263, 3) := by decide +kernel
theorem dX7_behind_98 : decode cX7_behind 98 = .ok (.aload_n 0, 1) := by decide +kernel
theorem dX7_behind_99 : decode cX7_behind 99 = .ok (.getfield 266, 3) := by decide +kernel
theorem dX7_behind_102 : decode cX7_behind 102 = .ok (.iaload, 1) := by decide +kernel
theorem dX7_behind_103 : decode cX7_behind 103 = .ok (.iconst 3, 1) := by decide +kernel
theorem dX7_behind_104 : decode cX7_behind 104 = .ok (.if_icmp .ne 8, 3) := by decide +kernel
theorem dX7_behind_107 : decode cX7_behind 107 = .ok (.bipush 126, 2) := by decide +kernel
theorem dX7_behind_109 : decode cX7_behind 109 = .ok (.goto 23, 3) := by decide +kernel
theorem dX7_behind_112 : decode cX7_behind 112 = .ok (.aload_n 0, 1) := by decide +kernel
theorem dX7_behind_113 : decode cX7_behind 113 = .ok (.getfield 263, 3) := by decide +kernel
theorem dX7_behind_116 : decode cX7_behind 116 = .ok (.aload_n 0, 1) := by decide +kernel
theorem dX7_behind_117 : decode cX7_behind 117 = .ok (.getfield 266, 3) := by decide +kernel
theorem dX7_behind_120 : decode cX7_behind 120 = .ok (.iaload, 1) := by decide +kernel
theorem dX7_behind_121 : decode cX7_behind 121 = .ok (.iconst 2, 1) := by decide +kernel
theorem dX7_behind_122 : decode cX7_behind 122 = .ok (.if_icmp .ne 8, 3) := by decide +kernel
theorem dX7_behind_125 : decode cX7_behind 125 = .ok (.bipush 38, 2) := by decide +kernel
theorem dX7_behind_127 : decode cX7_behind 127 = .ok (.goto 5, 3) := by decide +kernel
theorem dX7_behind_130 : decode cX7_behind 130 = .ok (.bipush 124, 2) := by decide +kernel
theorem dX7_behind_132 : decode cX7_behind 132 = .ok (.iconst 0, 1) := by decide +kernel
theorem dX7_behind_133 : decode cX7_behind 133 = .ok (.invokevirtual 284, 3) := by decide +kernel
theorem dX7_behind_136 : decode cX7_behind 136 = .ok (.goto (-106), 3) := by decide +kernel
theorem dX7_behind_139 : decode cX7_behind 139 = .ok (.iload_n 1, 1) := by decide +kernel
theorem dX7_behind_140 : decode cX7_behind 140 = .ok (.ifCond .le 14, 3) := by decide +kernel
theorem dX7_behind_143 : decode cX7_behind 143 = .ok (.aload_n 0, 1) := by decide +kernel
theorem dX7_behind_144 : decode cX7_behind 144 = .ok (.iload_n 1, 1) := by decide +kernel
theorem dX7_behind_145 : decode cX7_behind 145 = .ok (.invokevirtual 272, 3) := by decide +kernel
theorem dX7_behind_148 : decode cX7_behind 148 = .ok (.aload_n 0, 1) := by decide +kernel
theorem dX7_behind_149 : decode cX7_behind 149 = .ok (.invokevirtual 85, 3) := by decide +kernel
theorem dX7_behind_152 : decode cX7_behind 152 = .ok (.iconst 1, 1) := by decide +kernel
theorem dX7_behind_153 : decode cX7_behind 153 = .ok (.ireturn, 1) := by decide +kernel
theorem dX7_behind_154 : decode cX7_behind 154 = .ok (.aload_n 0, 1) := by decide +kernel
theorem dX7_behind_155 : decode cX7_behind 155 = .ok (.dup, 1) := by decide +kernel
theorem dX7_behind_156 : decode cX7_behind 156 = .ok (.getfield 266, 3) := by decide +kernel
theorem dX7_behind_159 : decode cX7_behind 159 = .ok (.iconst 1, 1) := by decide +kernel
theorem dX7_behind_160 : decode cX7_behind 160 = .ok (.isub, 1) := by decide +kernel
theorem dX7_behind_161 : decode cX7_behind 161 = .ok (.putfield 266, 3) := by decide +kernel
theorem dX7_behind_164 : decode cX7_behind 164 = .ok (.aload_n 0, 1) := by decide +kernel
theorem dX7_behind_165 : decode cX7_behind 165 = .ok (.getfield 263, 3) := by decide +kernel
theorem dX7_behind_168 : decode cX7_behind 168 = .ok (.aload_n 0, 1) := by decide +kernel
theorem dX7_behind_169 : decode cX7_behind 169 = .ok (.getfield 266, 3) := by decide +kernel
theorem dX7_behind_172 : decode cX7_behind 172 = .ok (.iaload, 1) := by decide +kernel
theorem dX7_behind_173 : decode cX7_behind 173 = .ok (.iconst 4, 1) := by decide +kernel
theorem dX7_behind_174 : decode cX7_behind 174 = .ok (.if_icmp .ne 23, 3) := by decide +kernel
theorem dX7_behind_177 : decode cX7_behind 177 = .ok (.aload_n 0, 1) := by decide +kernel
theorem dX7_behind_178 : decode cX7_behind 178 = .ok (.dup, 1) := by decide +kernel
theorem dX7_behind_179 : decode cX7_behind 179 = .ok (.getfield 269, 3) := by decide +kernel
theorem dX7_behind_182 : decode cX7_behind 182 = .ok (.iconst 1, 1) := by decide +kernel
theorem dX7_behind_183 : decode cX7_behind 183 = .ok (.isub, 1) := by decide +kernel
theorem dX7_behind_184 : decode cX7_behind 184 = .ok (.putfield 269, 3) := by decide +kernel
theorem dX7_behind_187 : decode cX7_behind 187 = .ok (.aload_n 0, 1) := by decide +kernel
theorem dX7_behind_188 : decode cX7_behind 188 = .ok (.aload_n 0, 1) := by decide +kernel
theorem dX7_behind_189 : decode cX7_behind 189 = .ok (.bipush 41, 2) := by decide +kernel
theorem dX7_behind_191 : decode cX7_behind 191 = .ok (.invokevirtual 163, 3) := by decide +kernel
theorem dX7_behind_194 : decode cX7_behind 194 = .ok (.invokevirtual 166, 3) := by decide +kernel
theorem dX7_behind_197 : decode cX7_behind 197 = .ok (.iconst 0, 1) := by decide +kernel
theorem dX7_behind_198 : decode cX7_behind 198 = .ok (.ireturn, 1) := by decide +kernel
theorem dX7_along_0 : decode cX7_along 0 = .ok (.iload_n 2, 1) := by decide +kernel
theorem dX7_along_1 : decode cX7_along 1 = .ok (.istore_n 3, 1) := by decide +kernel
theorem dX7_along_2 : decode cX7_along 2 = .ok (.aload_n 0, 1) := by decide +kernel
theorem dX7_along_3 : decode cX7_along 3 = .ok (.getfield 287, 3) := by decide +kernel
theorem dX7_along_6 : decode cX7_along 6 = .ok (.iload_n 1, 1) := by decide +kernel
theorem dX7_along_7 : decode cX7_along 7 = .ok (.iaload, 1) := by decide +kernel
theorem dX7_along_8 : decode cX7_along 8 = .ok (.istore 4, 2) := by decide +kernel
theorem dX7_along_10 : decode cX7_along 10 = .ok (.iload 4, 2) := by decide +kernel
theorem dX7_along_12 : decode cX7_along 12 = .ok (.aload_n 0, 1) := by decide +kernel
theorem dX7_along_13 : decode cX7_along 13 = .ok (.getfield 293, 3) := by decide +kernel
theorem dX7_along_16 : decode cX7_along 16 = .ok (.iload_n 1, 1) := by decide +kernel
theorem dX7_along_17 : decode cX7_along 17 = .ok (.iaload, 1) := by decide +kernel
theorem dX7_along_18 : decode cX7_along 18 = .ok (.if_icmp .ge 26, 3) := by decide +kernel
theorem dX7_along_21 : decode cX7_along 21 = .ok (.iload_n 3, 1) := by decide +kernel
theorem dX7_along_22 : decode cX7_along 22 = .ok (.ifCond .lt 22, 3) := by decide +kernel
theorem dX7_along_25 : decode cX7_along 25 = .ok (.aload_n 0, 1) := by decide +kernel
theorem dX7_along_26 : decode cX7_along 26 = .ok (.iload_n 3, 1) := by decide +kernel
theorem dX7_along_27 : decode cX7_along 27 = .ok (.aload_n 0, 1) := by decide +kernel
theorem dX7_along_28 : decode cX7_along 28 = .ok (.getfield 290, 3) := by decide +kernel
theorem dX7_along_31 : decode cX7_along 31 = .ok (.iload 4, 2) := by decide +kernel
theorem dX7_along_33 : decode cX7_along 33 = .ok (.iaload, 1) := by decide +kernel
theorem dX7_along_34 : decode cX7_along 34 = .ok (.invokevirtual 207, 3) := by decide +kernel
theorem dX7_along_37 : decode cX7_along 37 = .ok (.istore_n 3, 1) := by decide +kernel
theorem dX7_along_38 : decode cX7_along 38 = .ok (.iinc 4 1, 3) := by decide +kernel
theorem dX7_along_41 : decode cX7_along 41 = .ok (.goto (-31), 3) := by decide +kernel
theorem dX7_along_44 : decode cX7_along 44 = .ok (.iload_n 3, 1) := by decide +kernel
theorem dX7_along_45 : decode cX7_along 45 = .ok (.ireturn, 1) := by decide +kernel
theorem dX7_related_0 : decode cX7_related 0 = .ok (.iload_n 0, 1) := by decide +kernel
theorem dX7_related_1 : decode cX7_related 1 = .ok (.bipush 61, 2) := by decide +kernel
theorem dX7_related_3 : decode cX7_related 3 = .ok (.if_icmp .ne 14, 3) := by decide +kernel
theorem dX7_related_6 : decode cX7_related 6 = .ok (.iload_n 1, 1) := by decide +kernel
theorem dX7_related_7 : decode cX7_related 7 = .ok (.iload_n 2, 1) := by decide +kernel
theorem dX7_related_8 : decode cX7_related 8 = .ok (.if_icmp .ne 7, 3) := by decide +kernel
theorem dX7_related_11 : decode cX7_related 11 = .ok (.iconst 1, 1) := by decide +kernel
theorem dX7_related_12 : decode cX7_related 12 = .ok (.goto 4, 3) := by decide +kernel
theorem dX7_related_15 : decode cX7_related 15 = .ok (.iconst 0, 1) := by decide +kernel
theorem dX7_related_16 : decode cX7_related 16 = .ok (.ireturn, 1) := by decide +kernel
theorem dX7_related_17 : decode cX7_related 17 = .ok (.iload_n 1, 1) := by decide +kernel
theorem dX7_related_18 : decode cX7_related 18 = .ok (.ifCond .lt 30, 3) := by decide +kernel
theorem dX7_related_21 : decode cX7_related 21 = .ok (.iload_n 2, 1) := by decide +kernel
theorem dX7_related_22 : decode cX7_related 22 = .ok (.ifCond .lt 26, 3) := by decide +kernel
theorem dX7_related_25 : decode cX7_related 25 = .ok (.iload_n 0, 1) := by decide +kernel
theorem dX7_related_26 : decode cX7_related 26 = .ok (.bipush 60, 2) := by decide +kernel
theorem dX7_related_28 : decode cX7_related 28 = .ok (.if_icmp .ne 11, 3) := by decide +kernel
theorem dX7_related_31 : decode cX7_related 31 = .ok (.iload_n 1, 1) := by decide +kernel
theorem dX7_related_32 : decode cX7_related 32 = .ok (.iload_n 2, 1) := by decide +kernel
theorem dX7_related_33 : decode cX7_related 33 = .ok (.if_icmp .ge 15, 3) := by decide +kernel
theorem dX7_related_36 : decode cX7_related 36 = .ok (.goto 8, 3) := by decide +kernel
theorem dX7_related_39 : decode cX7_related 39 = .ok (.iload_n 1, 1) := by decide +kernel
theorem dX7_related_40 : decode cX7_related 40 = .ok (.iload_n 2, 1) := by decide +kernel
theorem dX7_related_41 : decode cX7_related 41 = .ok (.if_icmp .le 7, 3) := by decide +kernel
theorem dX7_related_44 : decode cX7_related 44 = .ok (.iconst 1, 1) := by decide +kernel
theorem dX7_related_45 : decode cX7_related 45 = .ok (.goto 4, 3) := by decide +kernel
theorem dX7_related_48 : decode cX7_related 48 = .ok (.iconst 0, 1) := by decide +kernel
theorem dX7_related_49 : decode cX7_related 49 = .ok (.ireturn, 1) := by decide +kernel
theorem dX7_holdsFor_0 : decode cX7_holdsFor 0 = .ok (.iconst 0, 1) := by decide +kernel
theorem dX7_holdsFor_1 : decode cX7_holdsFor 1 = .ok (.istore_n 3, 1) := by decide +kernel
theorem dX7_holdsFor_2 : decode cX7_holdsFor 2 = .ok (.iconst (-1), 1) := by decide +kernel
theorem dX7_holdsFor_3 : decode cX7_holdsFor 3 = .ok (.istore 4, 2) := by decide +kernel
theorem dX7_holdsFor_5 : decode cX7_holdsFor 5 = .ok (.sipush 600, 3) := by decide +kernel
theorem dX7_holdsFor_8 : decode cX7_holdsFor 8 = .ok (.aload_n 0, 1) := by decide +kernel
theorem dX7_holdsFor_9 : decode cX7_holdsFor 9 = .ok (.getfield 141, 3) := by decide +kernel
theorem dX7_holdsFor_12 : decode cX7_holdsFor 12 = .ok (.imul, 1) := by decide +kernel
theorem dX7_holdsFor_13 : decode cX7_holdsFor 13 = .ok (.aload_n 0, 1) := by decide +kernel
theorem dX7_holdsFor_14 : decode cX7_holdsFor 14 = .ok (.getfield 245, 3) := by decide +kernel
theorem dX7_holdsFor_17 : decode cX7_holdsFor 17 = .ok (.iload_n 1, 1) := by decide +kernel
theorem dX7_holdsFor_18 : decode cX7_holdsFor 18 = .ok (.iaload, 1) := by decide +kernel
theorem dX7_holdsFor_19 : decode cX7_holdsFor 19 = .ok (.iadd, 1) := by decide +kernel
theorem dX7_holdsFor_20 : decode cX7_holdsFor 20 = .ok (.istore 5, 2) := by decide +kernel
theorem dX7_holdsFor_22 : decode cX7_holdsFor 22 = .ok (.iload 5, 2) := by decide +kernel
theorem dX7_holdsFor_24 : decode cX7_holdsFor 24 = .ok (.sipush 600, 3) := by decide +kernel
theorem dX7_holdsFor_27 : decode cX7_holdsFor 27 = .ok (.aload_n 0, 1) := by decide +kernel
theorem dX7_holdsFor_28 : decode cX7_holdsFor 28 = .ok (.getfield 141, 3) := by decide +kernel
theorem dX7_holdsFor_31 : decode cX7_holdsFor 31 = .ok (.imul, 1) := by decide +kernel
theorem dX7_holdsFor_32 : decode cX7_holdsFor 32 = .ok (.aload_n 0, 1) := by decide +kernel
theorem dX7_holdsFor_33 : decode cX7_holdsFor 33 = .ok (.getfield 251, 3) := by decide +kernel
theorem dX7_holdsFor_36 : decode cX7_holdsFor 36 = .ok (.iload_n 1, 1) := by decide +kernel
theorem dX7_holdsFor_37 : decode cX7_holdsFor 37 = .ok (.iaload, 1) := by decide +kernel
theorem dX7_holdsFor_38 : decode cX7_holdsFor 38 = .ok (.iadd, 1) := by decide +kernel
theorem dX7_holdsFor_39 : decode cX7_holdsFor 39 = .ok (.if_icmp .ge 187, 3) := by decide +kernel
theorem dX7_holdsFor_42 : decode cX7_holdsFor 42 = .ok (.aload_n 0, 1) := by decide +kernel
theorem dX7_holdsFor_43 : decode cX7_holdsFor 43 = .ok (.getfield 257, 3) := by decide +kernel
theorem dX7_holdsFor_46 : decode cX7_holdsFor 46 = .ok (.iload 5, 2) := by decide +kernel
theorem dX7_holdsFor_48 : decode cX7_holdsFor 48 = .ok (.iaload, 1) := by decide +kernel
theorem dX7_holdsFor_49 : decode cX7_holdsFor 49 = .ok (.istore 6, 2) := by decide +kernel
theorem dX7_holdsFor_51 : decode cX7_holdsFor 51 = .ok (.iload 6, 2) := by decide +kernel
theorem dX7_holdsFor_53 : decode cX7_holdsFor 53 = .ok (.bipush 112, 2) := by decide +kernel
theorem dX7_holdsFor_55 : decode cX7_holdsFor 55 = .ok (.if_icmp .ne 20, 3) := by decide +kernel
theorem dX7_holdsFor_58 : decode cX7_holdsFor 58 = .ok (.aload_n 0, 1) := by decide +kernel
theorem dX7_holdsFor_59 : decode cX7_holdsFor 59 = .ok (.aload_n 0, 1) := by decide +kernel
theorem dX7_holdsFor_60 : decode cX7_holdsFor 60 = .ok (.getfield 260, 3) := by decide +kernel
theorem dX7_holdsFor_63 : decode cX7_holdsFor 63 = .ok (.iload 5, 2) := by decide +kernel
theorem dX7_holdsFor_65 : decode cX7_holdsFor 65 = .ok (.iaload, 1) := by decide +kernel
theorem dX7_holdsFor_66 : decode cX7_holdsFor 66 = .ok (.iload_n 2, 1) := by decide +kernel
theorem dX7_holdsFor_67 : decode cX7_holdsFor 67 = .ok (.invokevirtual 296, 3) := by decide +kernel
theorem dX7_holdsFor_70 : decode cX7_holdsFor 70 = .ok (.istore 4, 2) := by decide +kernel
theorem dX7_holdsFor_72 : decode cX7_holdsFor 72 = .ok (.goto 148, 3) := by decide +kernel
theorem dX7_holdsFor_75 : decode cX7_holdsFor 75 = .ok (.iload 6, 2) := by decide +kernel
theorem dX7_holdsFor_77 : decode cX7_holdsFor 77 = .ok (.bipush 126, 2) := by decide +kernel
theorem dX7_holdsFor_79 : decode cX7_holdsFor 79 = .ok (.if_icmp .ne 30, 3) := by decide +kernel
theorem dX7_holdsFor_82 : decode cX7_holdsFor 82 = .ok (.aload_n 0, 1) := by decide +kernel
theorem dX7_holdsFor_83 : decode cX7_holdsFor 83 = .ok (.getfield 299, 3) := by decide +kernel
theorem dX7_holdsFor_86 : decode cX7_holdsFor 86 = .ok (.iload_n 3, 1) := by decide +kernel
theorem dX7_holdsFor_87 : decode cX7_holdsFor 87 = .ok (.iconst 1, 1) := by decide +kernel
theorem dX7_holdsFor_88 : decode cX7_holdsFor 88 = .ok (.isub, 1) := by decide +kernel
theorem dX7_holdsFor_89 : decode cX7_holdsFor 89 = .ok (.aload_n 0, 1) := by decide +kernel
theorem dX7_holdsFor_90 : decode cX7_holdsFor 90 = .ok (.getfield 299, 3) := by decide +kernel
theorem dX7_holdsFor_93 : decode cX7_holdsFor 93 = .ok (.iload_n 3, 1) := by decide +kernel
theorem dX7_holdsFor_94 : decode cX7_holdsFor 94 = .ok (.iconst 1, 1) := by decide +kernel
theorem dX7_holdsFor_95 : decode cX7_holdsFor 95 = .ok (.isub, 1) := by decide +kernel
theorem dX7_holdsFor_96 : decode cX7_holdsFor 96 = .ok (.baload, 1) := by decide +kernel
theorem dX7_holdsFor_97 : decode cX7_holdsFor 97 = .ok (.ifCond .ne 7, 3) := by decide +kernel
theorem dX7_holdsFor_100 : decode cX7_holdsFor 100 = .ok (.iconst 1, 1) := by decide +kernel
theorem dX7_holdsFor_101 : decode cX7_holdsFor 101 = .ok (.goto 4, 3) := by decide +kernel
theorem dX7_holdsFor_104 : decode cX7_holdsFor 104 = .ok (.iconst 0, 1) := by decide +kernel
theorem dX7_holdsFor_105 : decode cX7_holdsFor 105 = .ok (.bastore, 1) := by decide +kernel
theorem dX7_holdsFor_106 : decode cX7_holdsFor 106 = .ok (.goto 114, 3) := by decide +kernel
theorem dX7_holdsFor_109 : decode cX7_holdsFor 109 = .ok (.iload 6, 2) := by decide +kernel
theorem dX7_holdsFor_111 : decode cX7_holdsFor 111 = .ok (.bipush 38, 2) := by decide +kernel
theorem dX7_holdsFor_113 : decode cX7_holdsFor 113 = .ok (.if_icmp .eq 10, 3) := by decide +kernel
theorem dX7_holdsFor_116 : decode cX7_holdsFor 116 = .ok (.iload 6, 2) := by decide +kernel
theorem dX7_holdsFor_118 : decode cX7_holdsFor 118 = .ok (.bipush 124, 2) := by decide +kernel
theorem dX7_holdsFor_120 : decode cX7_holdsFor 120 = .ok (.if_icmp .ne 77, 3) := by decide +kernel
theorem dX7_holdsFor_123 : decode cX7_holdsFor 123 = .ok (.iinc 3 (-1), 3) := by decide +kernel
theorem dX7_holdsFor_126 : decode cX7_holdsFor 126 = .ok (.aload_n 0, 1) := by decide +kernel
theorem dX7_holdsFor_127 : decode cX7_holdsFor 127 = .ok (.getfield 299, 3) := by decide +kernel
theorem dX7_holdsFor_130 : decode cX7_holdsFor 130 = .ok (.iload_n 3, 1) := by decide +kernel
theorem dX7_holdsFor_131 : decode cX7_holdsFor 131 = .ok (.iconst 1, 1) := by decide +kernel
theorem dX7_holdsFor_132 : decode cX7_holdsFor 132 = .ok (.isub, 1) := by decide +kernel
theorem dX7_holdsFor_133 : decode cX7_holdsFor 133 = .ok (.iload 6, 2) := by decide +kernel
theorem dX7_holdsFor_135 : decode cX7_holdsFor 135 = .ok (.bipush 38, 2) := by decide +kernel
theorem dX7_holdsFor_137 : decode cX7_holdsFor 137 = .ok (.if_icmp .ne 31, 3) := by decide +kernel
theorem dX7_holdsFor_140 : decode cX7_holdsFor 140 = .ok (.aload_n 0, 1) := by decide +kernel
theorem dX7_holdsFor_141 : decode cX7_holdsFor 141 = .ok (.getfield 299, 3) := by decide +kernel
theorem dX7_holdsFor_144 : decode cX7_holdsFor 144 = .ok (.iload_n 3, 1) := by decide +kernel
theorem dX7_holdsFor_145 : decode cX7_holdsFor 145 = .ok (.iconst 1, 1) := by decide +kernel
theorem dX7_holdsFor_146 : decode cX7_holdsFor 146 = .ok (.isub, 1) := by decide +kernel
theorem dX7_holdsFor_147 : decode cX7_holdsFor 147 = .ok (.baload, 1) := by decide +kernel
theorem dX7_holdsFor_148 : decode cX7_holdsFor 148 = .ok (.ifCond .eq 16, 3) := by decide +kernel
theorem dX7_holdsFor_151 : decode cX7_holdsFor 151 = .ok (.aload_n 0, 1) := by decide +kernel
theorem dX7_holdsFor_152 : decode cX7_holdsFor 152 = .ok (.getfield 299, 3) := by decide +kernel
theorem dX7_holdsFor_155 : decode cX7_holdsFor 155 = .ok (.iload_n 3, 1) := by decide +kernel
theorem dX7_holdsFor_156 : decode cX7_holdsFor 156 = .ok (.baload, 1) := by decide +kernel
theorem dX7_holdsFor_157 : decode cX7_holdsFor 157 = .ok (.ifCond .eq 7, 3) := by decide +kernel
theorem dX7_holdsFor_160 : decode cX7_holdsFor 160 = .ok (.iconst 1, 1) := by decide +kernel
theorem dX7_holdsFor_161 : decode cX7_holdsFor 161 = .ok (.goto 32, 3) := by decide +kernel
theorem dX7_holdsFor_164 : decode cX7_holdsFor 164 = .ok (.iconst 0, 1) := by decide +kernel
theorem dX7_holdsFor_165 : decode cX7_holdsFor 165 = .ok (.goto 28, 3) := by decide +kernel
theorem dX7_holdsFor_168 : decode cX7_holdsFor 168 = .ok (.aload_n 0, 1) := by decide +kernel
theorem dX7_holdsFor_169 : decode cX7_holdsFor 169 = .ok (.getfield 299, 3) := by decide +kernel
theorem dX7_holdsFor_172 : decode cX7_holdsFor 172 = .ok (.iload_n 3, 1) := by decide +kernel
theorem dX7_holdsFor_173 : decode cX7_holdsFor 173 = .ok (.iconst 1, 1) := by decide +kernel
theorem dX7_holdsFor_174 : decode cX7_holdsFor 174 = .ok (.isub, 1) := by decide +kernel
theorem dX7_holdsFor_175 : decode cX7_holdsFor 175 = .ok (.baload, 1) := by decide +kernel
theorem dX7_holdsFor_176 : decode cX7_holdsFor 176 = .ok (.ifCond .ne 12, 3) := by decide +kernel
theorem dX7_holdsFor_179 : decode cX7_holdsFor 179 = .ok (.aload_n 0, 1) := by decide +kernel
theorem dX7_holdsFor_180 : decode cX7_holdsFor 180 = .ok (.getfield 299, 3) := by decide +kernel
theorem dX7_holdsFor_183 : decode cX7_holdsFor 183 = .ok (.iload_n 3, 1) := by decide +kernel
theorem dX7_holdsFor_184 : decode cX7_holdsFor 184 = .ok (.baload, 1) := by decide +kernel
theorem dX7_holdsFor_185 : decode cX7_holdsFor 185 = .ok (.ifCond .eq 7, 3) := by decide +kernel
theorem dX7_holdsFor_188 : decode cX7_holdsFor 188 = .ok (.iconst 1, 1) := by decide +kernel
theorem dX7_holdsFor_189 : decode cX7_holdsFor 189 = .ok (.goto 4, 3) := by decide +kernel
theorem dX7_holdsFor_192 : decode cX7_holdsFor 192 = .ok (.iconst 0, 1) := by decide +kernel
theorem dX7_holdsFor_193 : decode cX7_holdsFor 193 = .ok (.bastore, 1) := by decide +kernel
theorem dX7_holdsFor_194 : decode cX7_holdsFor 194 = .ok (.goto 26, 3) := by decide +kernel
theorem dX7_holdsFor_197 : decode cX7_holdsFor 197 = .ok (.aload_n 0, 1) := by decide +kernel
theorem dX7_holdsFor_198 : decode cX7_holdsFor 198 = .ok (.getfield 299, 3) := by decide +kernel
theorem dX7_holdsFor_201 : decode cX7_holdsFor 201 = .ok (.iload_n 3, 1) := by decide +kernel
theorem dX7_holdsFor_202 : decode cX7_holdsFor 202 = .ok (.iload 6, 2) := by decide +kernel
theorem dX7_holdsFor_204 : decode cX7_holdsFor 204 = .ok (.iload 4, 2) := by decide +kernel
theorem dX7_holdsFor_206 : decode cX7_holdsFor 206 = .ok (.aload_n 0, 1) := by decide +kernel
theorem dX7_holdsFor_207 : decode cX7_holdsFor 207 = .ok (.getfield 260, 3) := by decide +kernel
theorem dX7_holdsFor_210 : decode cX7_holdsFor 210 = .ok (.iload 5, 2) := by decide +kernel
theorem dX7_holdsFor_212 : decode cX7_holdsFor 212 = .ok (.iaload, 1) := by decide +kernel
theorem dX7_holdsFor_213 : decode cX7_holdsFor 213 = .ok (.invokestatic 303, 3) := by decide +kernel
theorem dX7_holdsFor_216 : decode cX7_holdsFor 216 = .ok (.bastore, 1) := by decide +kernel
theorem dX7_holdsFor_217 : decode cX7_holdsFor 217 = .ok (.iinc 3 1, 3) := by decide +kernel
theorem dX7_holdsFor_220 : decode cX7_holdsFor 220 = .ok (.iinc 5 1, 3) := by decide +kernel
theorem dX7_holdsFor_223 : decode cX7_holdsFor 223 = .ok (.goto (-201), 3) := by decide +kernel
theorem dX7_holdsFor_226 : decode cX7_holdsFor 226 = .ok (.iload_n 3, 1) := by decide +kernel
theorem dX7_holdsFor_227 : decode cX7_holdsFor 227 = .ok (.ifCond .eq 12, 3) := by decide +kernel
theorem dX7_holdsFor_230 : decode cX7_holdsFor 230 = .ok (.aload_n 0, 1) := by decide +kernel
theorem dX7_holdsFor_231 : decode cX7_holdsFor 231 = .ok (.getfield 299, 3) := by decide +kernel
theorem dX7_holdsFor_234 : decode cX7_holdsFor 234 = .ok (.iconst 0, 1) := by decide +kernel
theorem dX7_holdsFor_235 : decode cX7_holdsFor 235 = .ok (.baload, 1) := by decide +kernel
theorem dX7_holdsFor_236 : decode cX7_holdsFor 236 = .ok (.ifCond .eq 7, 3) := by decide +kernel
theorem dX7_holdsFor_239 : decode cX7_holdsFor 239 = .ok (.iconst 1, 1) := by decide +kernel
theorem dX7_holdsFor_240 : decode cX7_holdsFor 240 = .ok (.goto 4, 3) := by decide +kernel
theorem dX7_holdsFor_243 : decode cX7_holdsFor 243 = .ok (.iconst 0, 1) := by decide +kernel
theorem dX7_holdsFor_244 : decode cX7_holdsFor 244 = .ok (.ireturn, 1) := by decide +kernel
theorem dX7_holds_0 : decode cX7_holds 0 = .ok (.bipush 10, 2) := by decide +kernel
theorem dX7_holds_2 : decode cX7_holds 2 = .ok (.aload_n 0, 1) := by decide +kernel
theorem dX7_holds_3 : decode cX7_holds 3 = .ok (.getfield 141, 3) := by decide +kernel
theorem dX7_holds_6 : decode cX7_holds 6 = .ok (.imul, 1) := by decide +kernel
theorem dX7_holds_7 : decode cX7_holds 7 = .ok (.iload_n 1, 1) := by decide +kernel
theorem dX7_holds_8 : decode cX7_holds 8 = .ok (.iadd, 1) := by decide +kernel
theorem dX7_holds_9 : decode cX7_holds 9 = .ok (.istore_n 3, 1) := by decide +kernel
theorem dX7_holds_10 : decode cX7_holds 10 = .ok (.iload_n 1, 1) := by decide +kernel
theorem dX7_holds_11 : decode cX7_holds 11 = .ok (.ifCond .lt 47, 3) := by decide +kernel
theorem dX7_holds_14 : decode cX7_holds 14 = .ok (.iload_n 1, 1) := by decide +kernel
theorem dX7_holds_15 : decode cX7_holds 15 = .ok (.aload_n 0, 1) := by decide +kernel
theorem dX7_holds_16 : decode cX7_holds 16 = .ok (.getfield 138, 3) := by decide +kernel
theorem dX7_holds_19 : decode cX7_holds 19 = .ok (.aload_n 0, 1) := by decide +kernel
theorem dX7_holds_20 : decode cX7_holds 20 = .ok (.getfield 141, 3) := by decide +kernel
theorem dX7_holds_23 : decode cX7_holds 23 = .ok (.iaload, 1) := by decide +kernel
theorem dX7_holds_24 : decode cX7_holds 24 = .ok (.if_icmp .ge 34, 3) := by decide +kernel
theorem dX7_holds_27 : decode cX7_holds 27 = .ok (.aload_n 0, 1) := by decide +kernel
theorem dX7_holds_28 : decode cX7_holds 28 = .ok (.getfield 226, 3) := by decide +kernel
theorem dX7_holds_31 : decode cX7_holds 31 = .ok (.iload_n 3, 1) := by decide +kernel
theorem dX7_holds_32 : decode cX7_holds 32 = .ok (.iaload, 1) := by decide +kernel
theorem dX7_holds_33 : decode cX7_holds 33 = .ok (.ifCond .ge 25, 3) := by decide +kernel
theorem dX7_holds_36 : decode cX7_holds 36 = .ok (.aload_n 0, 1) := by decide +kernel
theorem dX7_holds_37 : decode cX7_holds 37 = .ok (.iload_n 2, 1) := by decide +kernel
theorem dX7_holds_38 : decode cX7_holds 38 = .ok (.invokevirtual 200, 3) := by decide +kernel
theorem dX7_holds_41 : decode cX7_holds 41 = .ok (.ifCond .eq 17, 3) := by decide +kernel
theorem dX7_holds_44 : decode cX7_holds 44 = .ok (.aload_n 0, 1) := by decide +kernel
theorem dX7_holds_45 : decode cX7_holds 45 = .ok (.iload_n 2, 1) := by decide +kernel
theorem dX7_holds_46 : decode cX7_holds 46 = .ok (.invokevirtual 194, 3) := by decide +kernel
theorem dX7_holds_49 : decode cX7_holds 49 = .ok (.aload_n 0, 1) := by decide +kernel
theorem dX7_holds_50 : decode cX7_holds 50 = .ok (.getfield 229, 3) := by decide +kernel
theorem dX7_holds_53 : decode cX7_holds 53 = .ok (.iload_n 3, 1) := by decide +kernel
theorem dX7_holds_54 : decode cX7_holds 54 = .ok (.iaload, 1) := by decide +kernel
theorem dX7_holds_55 : decode cX7_holds 55 = .ok (.if_icmp .eq 5, 3) := by decide +kernel
theorem dX7_holds_58 : decode cX7_holds 58 = .ok (.iconst (-1), 1) := by decide +kernel
theorem dX7_holds_59 : decode cX7_holds 59 = .ok (.ireturn, 1) := by decide +kernel
theorem dX7_holds_60 : decode cX7_holds 60 = .ok (.aload_n 0, 1) := by decide +kernel
theorem dX7_holds_61 : decode cX7_holds 61 = .ok (.iload_n 3, 1) := by decide +kernel
theorem dX7_holds_62 : decode cX7_holds 62 = .ok (.iload_n 2, 1) := by decide +kernel
theorem dX7_holds_63 : decode cX7_holds 63 = .ok (.invokevirtual 307, 3) := by decide +kernel
theorem dX7_holds_66 : decode cX7_holds 66 = .ok (.ifCond .eq 7, 3) := by decide +kernel
theorem dX7_holds_69 : decode cX7_holds 69 = .ok (.iconst 1, 1) := by decide +kernel
theorem dX7_holds_70 : decode cX7_holds 70 = .ok (.goto 4, 3) := by decide +kernel
theorem dX7_holds_73 : decode cX7_holds 73 = .ok (.iconst 0, 1) := by decide +kernel
theorem dX7_holds_74 : decode cX7_holds 74 = .ok (.ireturn, 1) := by decide +kernel
theorem dX7_bitsOf_0 : decode cX7_bitsOf 0 = .ok (.iconst 0, 1) := by decide +kernel
theorem dX7_bitsOf_1 : decode cX7_bitsOf 1 = .ok (.istore_n 1, 1) := by decide +kernel
theorem dX7_bitsOf_2 : decode cX7_bitsOf 2 = .ok (.iconst 0, 1) := by decide +kernel
theorem dX7_bitsOf_3 : decode cX7_bitsOf 3 = .ok (.istore_n 2, 1) := by decide +kernel
theorem dX7_bitsOf_4 : decode cX7_bitsOf 4 = .ok (.iload_n 2, 1) := by decide +kernel
theorem dX7_bitsOf_5 : decode cX7_bitsOf 5 = .ok (.bipush 16, 2) := by decide +kernel
theorem dX7_bitsOf_7 : decode cX7_bitsOf 7 = .ok (.if_icmp .ge 17, 3) := by decide +kernel
theorem dX7_bitsOf_10 : decode cX7_bitsOf 10 = .ok (.iload_n 1, 1) := by decide +kernel
theorem dX7_bitsOf_11 : decode cX7_bitsOf 11 = .ok (.iload_n 0, 1) := by decide +kernel
theorem dX7_bitsOf_12 : decode cX7_bitsOf 12 = .ok (.iload_n 2, 1) := by decide +kernel
theorem dX7_bitsOf_13 : decode cX7_bitsOf 13 = .ok (.ishr, 1) := by decide +kernel
theorem dX7_bitsOf_14 : decode cX7_bitsOf 14 = .ok (.iconst 1, 1) := by decide +kernel
theorem dX7_bitsOf_15 : decode cX7_bitsOf 15 = .ok (.iand, 1) := by decide +kernel
theorem dX7_bitsOf_16 : decode cX7_bitsOf 16 = .ok (.iadd, 1) := by decide +kernel
theorem dX7_bitsOf_17 : decode cX7_bitsOf 17 = .ok (.istore_n 1, 1) := by decide +kernel
theorem dX7_bitsOf_18 : decode cX7_bitsOf 18 = .ok (.iinc 2 1, 3) := by decide +kernel
theorem dX7_bitsOf_21 : decode cX7_bitsOf 21 = .ok (.goto (-17), 3) := by decide +kernel
theorem dX7_bitsOf_24 : decode cX7_bitsOf 24 = .ok (.iload_n 1, 1) := by decide +kernel
theorem dX7_bitsOf_25 : decode cX7_bitsOf 25 = .ok (.ireturn, 1) := by decide +kernel
theorem dX7_lookAt_0 : decode cX7_lookAt 0 = .ok (.iconst 0, 1) := by decide +kernel
theorem dX7_lookAt_1 : decode cX7_lookAt 1 = .ok (.istore_n 1, 1) := by decide +kernel
theorem dX7_lookAt_2 : decode cX7_lookAt 2 = .ok (.iload_n 1, 1) := by decide +kernel
theorem dX7_lookAt_3 : decode cX7_lookAt 3 = .ok (.aload_n 0, 1) := by decide +kernel
theorem dX7_lookAt_4 : decode cX7_lookAt 4 = .ok (.getfield 122, 3) := by decide +kernel
theorem dX7_lookAt_7 : decode cX7_lookAt 7 = .ok (.aload_n 0, 1) := by decide +kernel
theorem dX7_lookAt_8 : decode cX7_lookAt 8 = .ok (.getfield 116, 3) := by decide +kernel
theorem dX7_lookAt_11 : decode cX7_lookAt 11 = .ok (.iaload, 1) := by decide +kernel
theorem dX7_lookAt_12 : decode cX7_lookAt 12 = .ok (.if_icmp .ge 73, 3) := by decide +kernel
theorem dX7_lookAt_15 : decode cX7_lookAt 15 = .ok (.aload_n 0, 1) := by decide +kernel
theorem dX7_lookAt_16 : decode cX7_lookAt 16 = .ok (.getfield 310, 3) := by decide +kernel
theorem dX7_lookAt_19 : decode cX7_lookAt 19 = .ok (.iload_n 1, 1) := by decide +kernel
theorem dX7_lookAt_20 : decode cX7_lookAt 20 = .ok (.iconst 0, 1) := by decide +kernel
theorem dX7_lookAt_21 : decode cX7_lookAt 21 = .ok (.iastore, 1) := by decide +kernel
theorem dX7_lookAt_22 : decode cX7_lookAt 22 = .ok (.iconst 0, 1) := by decide +kernel
theorem dX7_lookAt_23 : decode cX7_lookAt 23 = .ok (.istore_n 2, 1) := by decide +kernel
theorem dX7_lookAt_24 : decode cX7_lookAt 24 = .ok (.iload_n 2, 1) := by decide +kernel
theorem dX7_lookAt_25 : decode cX7_lookAt 25 = .ok (.aload_n 0, 1) := by decide +kernel
theorem dX7_lookAt_26 : decode cX7_lookAt 26 = .ok (.getfield 106, 3) := by decide +kernel
theorem dX7_lookAt_29 : decode cX7_lookAt 29 = .ok (.aload_n 0, 1) := by decide +kernel
theorem dX7_lookAt_30 : decode cX7_lookAt 30 = .ok (.iload_n 1, 1) := by decide +kernel
theorem dX7_lookAt_31 : decode cX7_lookAt 31 = .ok (.invokevirtual 194, 3) := by decide +kernel
theorem dX7_lookAt_34 : decode cX7_lookAt 34 = .ok (.iaload, 1) := by decide +kernel
theorem dX7_lookAt_35 : decode cX7_lookAt 35 = .ok (.if_icmp .ge 44, 3) := by decide +kernel
theorem dX7_lookAt_38 : decode cX7_lookAt 38 = .ok (.aload_n 0, 1) := by decide +kernel
theorem dX7_lookAt_39 : decode cX7_lookAt 39 = .ok (.iload_n 1, 1) := by decide +kernel
theorem dX7_lookAt_40 : decode cX7_lookAt 40 = .ok (.iload_n 2, 1) := by decide +kernel
theorem dX7_lookAt_41 : decode cX7_lookAt 41 = .ok (.invokevirtual 313, 3) := by decide +kernel
theorem dX7_lookAt_44 : decode cX7_lookAt 44 = .ok (.ifCond .eq 29, 3) := by decide +kernel
theorem dX7_lookAt_47 : decode cX7_lookAt 47 = .ok (.aload_n 0, 1) := by decide +kernel
theorem dX7_lookAt_48 : decode cX7_lookAt 48 = .ok (.iload_n 1, 1) := by decide +kernel
theorem dX7_lookAt_49 : decode cX7_lookAt 49 = .ok (.iload_n 2, 1) := by decide +kernel
theorem dX7_lookAt_50 : decode cX7_lookAt 50 = .ok (.invokevirtual 207, 3) := by decide +kernel
theorem dX7_lookAt_53 : decode cX7_lookAt 53 = .ok (.ifCond .lt 20, 3) := by decide +kernel
theorem dX7_lookAt_56 : decode cX7_lookAt 56 = .ok (.aload_n 0, 1) := by decide +kernel
theorem dX7_lookAt_57 : decode cX7_lookAt 57 = .ok (.getfield 310, 3) := by decide +kernel
theorem dX7_lookAt_60 : decode cX7_lookAt 60 = .ok (.iload_n 1, 1) := by decide +kernel
theorem dX7_lookAt_61 : decode cX7_lookAt 61 = .ok (.dup2, 1) := by decide +kernel
theorem dX7_lookAt_62 : decode cX7_lookAt 62 = .ok (.iaload, 1) := by decide +kernel
theorem dX7_lookAt_63 : decode cX7_lookAt 63 = .ok (.iconst 1, 1) := by decide +kernel
theorem dX7_lookAt_64 : decode cX7_lookAt 64 = .ok (.aload_n 0, 1) := by decide +kernel
theorem dX7_lookAt_65 : decode cX7_lookAt 65 = .ok (.iload_n 1, 1) := by decide +kernel
theorem dX7_lookAt_66 : decode cX7_lookAt 66 = .ok (.iload_n 2, 1) := by decide +kernel
theorem dX7_lookAt_67 : decode cX7_lookAt 67 = .ok (.invokevirtual 207, 3) := by decide +kernel
theorem dX7_lookAt_70 : decode cX7_lookAt 70 = .ok (.ishl, 1) := by decide +kernel
theorem dX7_lookAt_71 : decode cX7_lookAt 71 = .ok (.ior, 1) := by decide +kernel
theorem dX7_lookAt_72 : decode cX7_lookAt 72 = .ok (.iastore, 1) := by decide +kernel
theorem dX7_lookAt_73 : decode cX7_lookAt 73 = .ok (.iinc 2 1, 3) := by decide +kernel
theorem dX7_lookAt_76 : decode cX7_lookAt 76 = .ok (.goto (-52), 3) := by decide +kernel
theorem dX7_lookAt_79 : decode cX7_lookAt 79 = .ok (.iinc 1 1, 3) := by decide +kernel
theorem dX7_lookAt_82 : decode cX7_lookAt 82 = .ok (.goto (-80), 3) := by decide +kernel
theorem dX7_lookAt_85 : decode cX7_lookAt 85 = .ok (.iconst 0, 1) := by decide +kernel
theorem dX7_lookAt_86 : decode cX7_lookAt 86 = .ok (.istore_n 1, 1) := by decide +kernel
theorem dX7_lookAt_87 : decode cX7_lookAt 87 = .ok (.iload_n 1, 1) := by decide +kernel
theorem dX7_lookAt_88 : decode cX7_lookAt 88 = .ok (.aload_n 0, 1) := by decide +kernel
theorem dX7_lookAt_89 : decode cX7_lookAt 89 = .ok (.getfield 138, 3) := by decide +kernel
theorem dX7_lookAt_92 : decode cX7_lookAt 92 = .ok (.aload_n 0, 1) := by decide +kernel
theorem dX7_lookAt_93 : decode cX7_lookAt 93 = .ok (.getfield 141, 3) := by decide +kernel
theorem dX7_lookAt_96 : decode cX7_lookAt 96 = .ok (.iaload, 1) := by decide +kernel
theorem dX7_lookAt_97 : decode cX7_lookAt 97 = .ok (.if_icmp .ge 210, 3) := by decide +kernel
theorem dX7_lookAt_100 : decode cX7_lookAt 100 = .ok (.bipush 10, 2) := by decide +kernel
theorem dX7_lookAt_102 : decode cX7_lookAt 102 = .ok (.aload_n 0, 1) := by decide +kernel
theorem dX7_lookAt_103 : decode cX7_lookAt 103 = .ok (.getfield 141, 3) := by decide +kernel
theorem dX7_lookAt_106 : decode cX7_lookAt 106 = .ok (.imul, 1) := by decide +kernel
theorem dX7_lookAt_107 : decode cX7_lookAt 107 = .ok (.iload_n 1, 1) := by decide +kernel
theorem dX7_lookAt_108 : decode cX7_lookAt 108 = .ok (.iadd, 1) := by decide +kernel
theorem dX7_lookAt_109 : decode cX7_lookAt 109 = .ok (.istore_n 2, 1) := by decide +kernel
theorem dX7_lookAt_110 : decode cX7_lookAt 110 = .ok (.aload_n 0, 1) := by decide +kernel
theorem dX7_lookAt_111 : decode cX7_lookAt 111 = .ok (.getfield 316, 3) := by decide +kernel
theorem dX7_lookAt_114 : decode cX7_lookAt 114 = .ok (.iload_n 1, 1) := by decide +kernel
theorem dX7_lookAt_115 : decode cX7_lookAt 115 = .ok (.iconst 0, 1) := by decide +kernel
theorem dX7_lookAt_116 : decode cX7_lookAt 116 = .ok (.iastore, 1) := by decide +kernel
theorem dX7_lookAt_117 : decode cX7_lookAt 117 = .ok (.iconst 0, 1) := by decide +kernel
theorem dX7_lookAt_118 : decode cX7_lookAt 118 = .ok (.istore_n 3, 1) := by decide +kernel
theorem dX7_lookAt_119 : decode cX7_lookAt 119 = .ok (.iload_n 3, 1) := by decide +kernel
theorem dX7_lookAt_120 : decode cX7_lookAt 120 = .ok (.aload_n 0, 1) := by decide +kernel
theorem dX7_lookAt_121 : decode cX7_lookAt 121 = .ok (.getfield 122, 3) := by decide +kernel
theorem dX7_lookAt_124 : decode cX7_lookAt 124 = .ok (.aload_n 0, 1) := by decide +kernel
theorem dX7_lookAt_125 : decode cX7_lookAt 125 = .ok (.getfield 116, 3) := by decide +kernel
theorem dX7_lookAt_128 : decode cX7_lookAt 128 = .ok (.iaload, 1) := by decide +kernel
theorem dX7_lookAt_129 : decode cX7_lookAt 129 = .ok (.if_icmp .ge 172, 3) := by decide +kernel
theorem dX7_lookAt_132 : decode cX7_lookAt 132 = .ok (.aload_n 0, 1) := by decide +kernel
theorem dX7_lookAt_133 : decode cX7_lookAt 133 = .ok (.getfield 226, 3) := by decide +kernel
theorem dX7_lookAt_136 : decode cX7_lookAt 136 = .ok (.iload_n 2, 1) := by decide +kernel
theorem dX7_lookAt_137 : decode cX7_lookAt 137 = .ok (.iaload, 1) := by decide +kernel
theorem dX7_lookAt_138 : decode cX7_lookAt 138 = .ok (.ifCond .ge 38, 3) := by decide +kernel
theorem dX7_lookAt_141 : decode cX7_lookAt 141 = .ok (.aload_n 0, 1) := by decide +kernel
theorem dX7_lookAt_142 : decode cX7_lookAt 142 = .ok (.iload_n 3, 1) := by decide +kernel
theorem dX7_lookAt_143 : decode cX7_lookAt 143 = .ok (.invokevirtual 194, 3) := by decide +kernel
theorem dX7_lookAt_146 : decode cX7_lookAt 146 = .ok (.aload_n 0, 1) := by decide +kernel
theorem dX7_lookAt_147 : decode cX7_lookAt 147 = .ok (.getfield 229, 3) := by decide +kernel
theorem dX7_lookAt_150 : decode cX7_lookAt 150 = .ok (.iload_n 2, 1) := by decide +kernel
theorem dX7_lookAt_151 : decode cX7_lookAt 151 = .ok (.iaload, 1) := by decide +kernel
theorem dX7_lookAt_152 : decode cX7_lookAt 152 = .ok (.if_icmp .ne 24, 3) := by decide +kernel
theorem dX7_lookAt_155 : decode cX7_lookAt 155 = .ok (.aload_n 0, 1) := by decide +kernel
theorem dX7_lookAt_156 : decode cX7_lookAt 156 = .ok (.iload_n 2, 1) := by decide +kernel
theorem dX7_lookAt_157 : decode cX7_lookAt 157 = .ok (.iload_n 3, 1) := by decide +kernel
theorem dX7_lookAt_158 : decode cX7_lookAt 158 = .ok (.invokevirtual 307, 3) := by decide +kernel
theorem dX7_lookAt_161 : decode cX7_lookAt 161 = .ok (.ifCond .eq 15, 3) := by decide +kernel
theorem dX7_lookAt_164 : decode cX7_lookAt 164 = .ok (.aload_n 0, 1) := by decide +kernel
theorem dX7_lookAt_165 : decode cX7_lookAt 165 = .ok (.getfield 316, 3) := by decide +kernel
theorem dX7_lookAt_168 : decode cX7_lookAt 168 = .ok (.iload_n 1, 1) := by decide +kernel
theorem dX7_lookAt_169 : decode cX7_lookAt 169 = .ok (.dup2, 1) := by decide +kernel
theorem dX7_lookAt_170 : decode cX7_lookAt 170 = .ok (.iaload, 1) := by decide +kernel
theorem dX7_lookAt_171 : decode cX7_lookAt 171 = .ok (.iconst 1, 1) := by decide +kernel
theorem dX7_lookAt_172 : decode cX7_lookAt 172 = .ok (.iload_n 3, 1) := by decide +kernel
theorem dX7_lookAt_173 : decode cX7_lookAt 173 = .ok (.ishl, 1) := by decide +kernel
theorem dX7_lookAt_174 : decode cX7_lookAt 174 = .ok (.ior, 1) := by decide +kernel
theorem dX7_lookAt_175 : decode cX7_lookAt 175 = .ok (.iastore, 1) := by decide +kernel
theorem dX7_lookAt_176 : decode cX7_lookAt 176 = .ok (.aload_n 0, 1) := by decide +kernel
theorem dX7_lookAt_177 : decode cX7_lookAt 177 = .ok (.getfield 319, 3) := by decide +kernel
theorem dX7_lookAt_180 : decode cX7_lookAt 180 = .ok (.bipush 16, 2) := by decide +kernel
theorem dX7_lookAt_182 : decode cX7_lookAt 182 = .ok (.iload_n 1, 1) := by decide +kernel
theorem dX7_lookAt_183 : decode cX7_lookAt 183 = .ok (.imul, 1) := by decide +kernel
theorem dX7_lookAt_184 : decode cX7_lookAt 184 = .ok (.iload_n 3, 1) := by decide +kernel
theorem dX7_lookAt_185 : decode cX7_lookAt 185 = .ok (.iadd, 1) := by decide +kernel
theorem dX7_lookAt_186 : decode cX7_lookAt 186 = .ok (.iconst 0, 1) := by decide +kernel
theorem dX7_lookAt_187 : decode cX7_lookAt 187 = .ok (.iastore, 1) := by decide +kernel
theorem dX7_lookAt_188 : decode cX7_lookAt 188 = .ok (.iconst 0, 1) := by decide +kernel
theorem dX7_lookAt_189 : decode cX7_lookAt 189 = .ok (.istore 4, 2) := by decide +kernel
theorem dX7_lookAt_191 : decode cX7_lookAt 191 = .ok (.iload 4, 2) := by decide +kernel
theorem dX7_lookAt_193 : decode cX7_lookAt 193 = .ok (.aload_n 0, 1) := by decide +kernel
theorem dX7_lookAt_194 : decode cX7_lookAt 194 = .ok (.getfield 122, 3) := by decide +kernel
theorem dX7_lookAt_197 : decode cX7_lookAt 197 = .ok (.aload_n 0, 1) := by decide +kernel
theorem dX7_lookAt_198 : decode cX7_lookAt 198 = .ok (.getfield 116, 3) := by decide +kernel
theorem dX7_lookAt_201 : decode cX7_lookAt 201 = .ok (.iaload, 1) := by decide +kernel
theorem dX7_lookAt_202 : decode cX7_lookAt 202 = .ok (.if_icmp .ge 93, 3) := by decide +kernel
theorem dX7_lookAt_205 : decode cX7_lookAt 205 = .ok (.aload_n 0, 1) := by decide +kernel
theorem dX7_lookAt_206 : decode cX7_lookAt 206 = .ok (.getfield 226, 3) := by decide +kernel
theorem dX7_lookAt_209 : decode cX7_lookAt 209 = .ok (.iload_n 2, 1) := by decide +kernel
theorem dX7_lookAt_210 : decode cX7_lookAt 210 = .ok (.iaload, 1) := by decide +kernel
theorem dX7_lookAt_211 : decode cX7_lookAt 211 = .ok (.ifCond .lt 84, 3) := by decide +kernel
theorem dX7_lookAt_214 : decode cX7_lookAt 214 = .ok (.aload_n 0, 1) := by decide +kernel
theorem dX7_lookAt_215 : decode cX7_lookAt 215 = .ok (.iload_n 3, 1) := by decide +kernel
theorem dX7_lookAt_216 : decode cX7_lookAt 216 = .ok (.invokevirtual 194, 3) := by decide +kernel
theorem dX7_lookAt_219 : decode cX7_lookAt 219 = .ok (.aload_n 0, 1) := by decide +kernel
theorem dX7_lookAt_220 : decode cX7_lookAt 220 = .ok (.getfield 229, 3) := by decide +kernel
theorem dX7_lookAt_223 : decode cX7_lookAt 223 = .ok (.iload_n 2, 1) := by decide +kernel
theorem dX7_lookAt_224 : decode cX7_lookAt 224 = .ok (.iaload, 1) := by decide +kernel
theorem dX7_lookAt_225 : decode cX7_lookAt 225 = .ok (.if_icmp .ne 70, 3) := by decide +kernel
theorem dX7_lookAt_228 : decode cX7_lookAt 228 = .ok (.aload_n 0, 1) := by decide +kernel
theorem dX7_lookAt_229 : decode cX7_lookAt 229 = .ok (.iload 4, 2) := by decide +kernel
theorem dX7_lookAt_231 : decode cX7_lookAt 231 = .ok (.invokevirtual 194, 3) := by decide +kernel
theorem dX7_lookAt_234 : decode cX7_lookAt 234 = .ok (.aload_n 0, 1) := by decide +kernel
theorem dX7_lookAt_235 : decode cX7_lookAt 235 = .ok (.getfield 226, 3) := by decide +kernel
theorem dX7_lookAt_238 : decode cX7_lookAt 238 = .ok (.iload_n 2, 1) := by decide +kernel
theorem dX7_lookAt_239 : decode cX7_lookAt 239 = .ok (.iaload, 1) := by decide +kernel
theorem dX7_lookAt_240 : decode cX7_lookAt 240 = .ok (.if_icmp .ne 49, 3) := by decide +kernel
theorem dX7_lookAt_243 : decode cX7_lookAt 243 = .ok (.aload_n 0, 1) := by decide +kernel
theorem dX7_lookAt_244 : decode cX7_lookAt 244 = .ok (.getfield 147, 3) := by decide +kernel
theorem dX7_lookAt_247 : decode cX7_lookAt 247 = .ok (.iload 4, 2) := by decide +kernel
theorem dX7_lookAt_249 : decode cX7_lookAt 249 = .ok (.ishr, 1) := by decide +kernel
theorem dX7_lookAt_250 : decode cX7_lookAt 250 = .ok (.iconst 1, 1) := by decide +kernel
theorem dX7_lookAt_251 : decode cX7_lookAt 251 = .ok (.iand, 1) := by decide +kernel
theorem dX7_lookAt_252 : decode cX7_lookAt 252 = .ok (.ifCond .ne 37, 3) := by decide +kernel
theorem dX7_lookAt_255 : decode cX7_lookAt 255 = .ok (.aload_n 0, 1) := by decide +kernel
theorem dX7_lookAt_256 : decode cX7_lookAt 256 = .ok (.iload 4, 2) := by decide +kernel
theorem dX7_lookAt_258 : decode cX7_lookAt 258 = .ok (.aload_n 0, 1) := by decide +kernel
theorem dX7_lookAt_259 : decode cX7_lookAt 259 = .ok (.getfield 254, 3) := by decide +kernel
theorem dX7_lookAt_262 : decode cX7_lookAt 262 = .ok (.iload_n 2, 1) := by decide +kernel
theorem dX7_lookAt_263 : decode cX7_lookAt 263 = .ok (.iaload, 1) := by decide +kernel
theorem dX7_lookAt_264 : decode cX7_lookAt 264 = .ok (.invokevirtual 207, 3) := by decide +kernel
theorem dX7_lookAt_267 : decode cX7_lookAt 267 = .ok (.iload_n 3, 1) := by decide +kernel
theorem dX7_lookAt_268 : decode cX7_lookAt 268 = .ok (.if_icmp .ne 21, 3) := by decide +kernel
theorem dX7_lookAt_271 : decode cX7_lookAt 271 = .ok (.aload_n 0, 1) := by decide +kernel
theorem dX7_lookAt_272 : decode cX7_lookAt 272 = .ok (.getfield 319, 3) := by decide +kernel
theorem dX7_lookAt_275 : decode cX7_lookAt 275 = .ok (.bipush 16, 2) := by decide +kernel
theorem dX7_lookAt_277 : decode cX7_lookAt 277 = .ok (.iload_n 1, 1) := by decide +kernel
theorem dX7_lookAt_278 : decode cX7_lookAt 278 = .ok (.imul, 1) := by decide +kernel
theorem dX7_lookAt_279 : decode cX7_lookAt 279 = .ok (.iload_n 3, 1) := by decide +kernel
theorem dX7_lookAt_280 : decode cX7_lookAt 280 = .ok (.iadd, 1) := by decide +kernel
theorem dX7_lookAt_281 : decode cX7_lookAt 281 = .ok (.dup2, 1) := by decide +kernel
theorem dX7_lookAt_282 : decode cX7_lookAt 282 = .ok (.iaload, 1) := by decide +kernel
theorem dX7_lookAt_283 : decode cX7_lookAt 283 = .ok (.iconst 1, 1) := by decide +kernel
theorem dX7_lookAt_284 : decode cX7_lookAt 284 = .ok (.iload 4, 2) := by decide +kernel
theorem dX7_lookAt_286 : decode cX7_lookAt 286 = .ok (.ishl, 1) := by decide +kernel
theorem dX7_lookAt_287 : decode cX7_lookAt 287 = .ok (.ior, 1) := by decide +kernel
theorem dX7_lookAt_288 : decode cX7_lookAt 288 = .ok (.iastore, 1) := by decide +kernel
theorem dX7_lookAt_289 : decode cX7_lookAt 289 = .ok (.iinc 4 1, 3) := by decide +kernel
theorem dX7_lookAt_292 : decode cX7_lookAt 292 = .ok (.goto (-101), 3) := by decide +kernel
theorem dX7_lookAt_295 : decode cX7_lookAt 295 = .ok (.iinc 3 1, 3) := by decide +kernel
theorem dX7_lookAt_298 : decode cX7_lookAt 298 = .ok (.goto (-179), 3) := by decide +kernel
theorem dX7_lookAt_301 : decode cX7_lookAt 301 = .ok (.iinc 1 1, 3) := by decide +kernel
theorem dX7_lookAt_304 : decode cX7_lookAt 304 = .ok (.goto (-217), 3) := by decide +kernel
theorem dX7_lookAt_307 : decode cX7_lookAt 307 = .ok (.return_, 1) := by decide +kernel
theorem dX7_isPiece_0 : decode cX7_isPiece 0 = .ok (.iload_n 1, 1) := by decide +kernel
theorem dX7_isPiece_1 : decode cX7_isPiece 1 = .ok (.aload_n 0, 1) := by decide +kernel
theorem dX7_isPiece_2 : decode cX7_isPiece 2 = .ok (.getfield 147, 3) := by decide +kernel
theorem dX7_isPiece_5 : decode cX7_isPiece 5 = .ok (.iand, 1) := by decide +kernel
theorem dX7_isPiece_6 : decode cX7_isPiece 6 = .ok (.ifCond .eq 5, 3) := by decide +kernel
theorem dX7_isPiece_9 : decode cX7_isPiece 9 = .ok (.iconst 0, 1) := by decide +kernel
theorem dX7_isPiece_10 : decode cX7_isPiece 10 = .ok (.ireturn, 1) := by decide +kernel
theorem dX7_isPiece_11 : decode cX7_isPiece 11 = .ok (.iconst 0, 1) := by decide +kernel
theorem dX7_isPiece_12 : decode cX7_isPiece 12 = .ok (.istore_n 2, 1) := by decide +kernel
theorem dX7_isPiece_13 : decode cX7_isPiece 13 = .ok (.iload_n 2, 1) := by decide +kernel
theorem dX7_isPiece_14 : decode cX7_isPiece 14 = .ok (.aload_n 0, 1) := by decide +kernel
theorem dX7_isPiece_15 : decode cX7_isPiece 15 = .ok (.getfield 122, 3) := by decide +kernel
theorem dX7_isPiece_18 : decode cX7_isPiece 18 = .ok (.aload_n 0, 1) := by decide +kernel
theorem dX7_isPiece_19 : decode cX7_isPiece 19 = .ok (.getfield 116, 3) := by decide +kernel
theorem dX7_isPiece_22 : decode cX7_isPiece 22 = .ok (.iaload, 1) := by decide +kernel
theorem dX7_isPiece_23 : decode cX7_isPiece 23 = .ok (.if_icmp .ge 33, 3) := by decide +kernel
theorem dX7_isPiece_26 : decode cX7_isPiece 26 = .ok (.iload_n 1, 1) := by decide +kernel
theorem dX7_isPiece_27 : decode cX7_isPiece 27 = .ok (.iload_n 2, 1) := by decide +kernel
theorem dX7_isPiece_28 : decode cX7_isPiece 28 = .ok (.ishr, 1) := by decide +kernel
theorem dX7_isPiece_29 : decode cX7_isPiece 29 = .ok (.iconst 1, 1) := by decide +kernel
theorem dX7_isPiece_30 : decode cX7_isPiece 30 = .ok (.iand, 1) := by decide +kernel
theorem dX7_isPiece_31 : decode cX7_isPiece 31 = .ok (.iconst 1, 1) := by decide +kernel
theorem dX7_isPiece_32 : decode cX7_isPiece 32 = .ok (.if_icmp .ne 18, 3) := by decide +kernel
theorem dX7_isPiece_35 : decode cX7_isPiece 35 = .ok (.aload_n 0, 1) := by decide +kernel
theorem dX7_isPiece_36 : decode cX7_isPiece 36 = .ok (.getfield 310, 3) := by decide +kernel
theorem dX7_isPiece_39 : decode cX7_isPiece 39 = .ok (.iload_n 2, 1) := by decide +kernel
theorem dX7_isPiece_40 : decode cX7_isPiece 40 = .ok (.iaload, 1) := by decide +kernel
theorem dX7_isPiece_41 : decode cX7_isPiece 41 = .ok (.iload_n 1, 1) := by decide +kernel
theorem dX7_isPiece_42 : decode cX7_isPiece 42 = .ok (.iconst (-1), 1) := by decide +kernel
theorem dX7_isPiece_43 : decode cX7_isPiece 43 = .ok (.ixor, 1) := by decide +kernel
theorem dX7_isPiece_44 : decode cX7_isPiece 44 = .ok (.iand, 1) := by decide +kernel
theorem dX7_isPiece_45 : decode cX7_isPiece 45 = .ok (.ifCond .eq 5, 3) := by decide +kernel
theorem dX7_isPiece_48 : decode cX7_isPiece 48 = .ok (.iconst 0, 1) := by decide +kernel
theorem dX7_isPiece_49 : decode cX7_isPiece 49 = .ok (.ireturn, 1) := by decide +kernel
theorem dX7_isPiece_50 : decode cX7_isPiece 50 = .ok (.iinc 2 1, 3) := by decide +kernel
theorem dX7_isPiece_53 : decode cX7_isPiece 53 = .ok (.goto (-40), 3) := by decide +kernel
theorem dX7_isPiece_56 : decode cX7_isPiece 56 = .ok (.iconst 0, 1) := by decide +kernel
theorem dX7_isPiece_57 : decode cX7_isPiece 57 = .ok (.istore_n 2, 1) := by decide +kernel
theorem dX7_isPiece_58 : decode cX7_isPiece 58 = .ok (.iload_n 2, 1) := by decide +kernel
theorem dX7_isPiece_59 : decode cX7_isPiece 59 = .ok (.aload_n 0, 1) := by decide +kernel
theorem dX7_isPiece_60 : decode cX7_isPiece 60 = .ok (.getfield 138, 3) := by decide +kernel
theorem dX7_isPiece_63 : decode cX7_isPiece 63 = .ok (.aload_n 0, 1) := by decide +kernel
theorem dX7_isPiece_64 : decode cX7_isPiece 64 = .ok (.getfield 141, 3) := by decide +kernel
theorem dX7_isPiece_67 : decode cX7_isPiece 67 = .ok (.iaload, 1) := by decide +kernel
theorem dX7_isPiece_68 : decode cX7_isPiece 68 = .ok (.if_icmp .ge 133, 3) := by decide +kernel
theorem dX7_isPiece_71 : decode cX7_isPiece 71 = .ok (.bipush 10, 2) := by decide +kernel
theorem dX7_isPiece_73 : decode cX7_isPiece 73 = .ok (.aload_n 0, 1) := by decide +kernel
theorem dX7_isPiece_74 : decode cX7_isPiece 74 = .ok (.getfield 141, 3) := by decide +kernel
theorem dX7_isPiece_77 : decode cX7_isPiece 77 = .ok (.imul, 1) := by decide +kernel
theorem dX7_isPiece_78 : decode cX7_isPiece 78 = .ok (.iload_n 2, 1) := by decide +kernel
theorem dX7_isPiece_79 : decode cX7_isPiece 79 = .ok (.iadd, 1) := by decide +kernel
theorem dX7_isPiece_80 : decode cX7_isPiece 80 = .ok (.istore_n 3, 1) := by decide +kernel
theorem dX7_isPiece_81 : decode cX7_isPiece 81 = .ok (.aload_n 0, 1) := by decide +kernel
theorem dX7_isPiece_82 : decode cX7_isPiece 82 = .ok (.getfield 226, 3) := by decide +kernel
theorem dX7_isPiece_85 : decode cX7_isPiece 85 = .ok (.iload_n 3, 1) := by decide +kernel
theorem dX7_isPiece_86 : decode cX7_isPiece 86 = .ok (.iaload, 1) := by decide +kernel
theorem dX7_isPiece_87 : decode cX7_isPiece 87 = .ok (.ifCond .ge 25, 3) := by decide +kernel
theorem dX7_isPiece_90 : decode cX7_isPiece 90 = .ok (.aload_n 0, 1) := by decide +kernel
theorem dX7_isPiece_91 : decode cX7_isPiece 91 = .ok (.getfield 316, 3) := by decide +kernel
theorem dX7_isPiece_94 : decode cX7_isPiece 94 = .ok (.iload_n 2, 1) := by decide +kernel
theorem dX7_isPiece_95 : decode cX7_isPiece 95 = .ok (.iaload, 1) := by decide +kernel
theorem dX7_isPiece_96 : decode cX7_isPiece 96 = .ok (.iload_n 1, 1) := by decide +kernel
theorem dX7_isPiece_97 : decode cX7_isPiece 97 = .ok (.iand, 1) := by decide +kernel
theorem dX7_isPiece_98 : decode cX7_isPiece 98 = .ok (.invokestatic 322, 3) := by decide +kernel
theorem dX7_isPiece_101 : decode cX7_isPiece 101 = .ok (.aload_n 0, 1) := by decide +kernel
theorem dX7_isPiece_102 : decode cX7_isPiece 102 = .ok (.getfield 236, 3) := by decide +kernel
theorem dX7_isPiece_105 : decode cX7_isPiece 105 = .ok (.iload_n 3, 1) := by decide +kernel
theorem dX7_isPiece_106 : decode cX7_isPiece 106 = .ok (.iaload, 1) := by decide +kernel
theorem dX7_isPiece_107 : decode cX7_isPiece 107 = .ok (.if_icmp .ge 5, 3) := by decide +kernel
theorem dX7_isPiece_110 : decode cX7_isPiece 110 = .ok (.iconst 0, 1) := by decide +kernel
theorem dX7_isPiece_111 : decode cX7_isPiece 111 = .ok (.ireturn, 1) := by decide +kernel
theorem dX7_isPiece_112 : decode cX7_isPiece 112 = .ok (.iconst 0, 1) := by decide +kernel
theorem dX7_isPiece_113 : decode cX7_isPiece 113 = .ok (.istore 4, 2) := by decide +kernel
theorem dX7_isPiece_115 : decode cX7_isPiece 115 = .ok (.iload 4, 2) := by decide +kernel
theorem dX7_isPiece_117 : decode cX7_isPiece 117 = .ok (.aload_n 0, 1) := by decide +kernel
theorem dX7_isPiece_118 : decode cX7_isPiece 118 = .ok (.getfield 122, 3) := by decide +kernel
theorem dX7_isPiece_121 : decode cX7_isPiece 121 = .ok (.aload_n 0, 1) := by decide +kernel
theorem dX7_isPiece_122 : decode cX7_isPiece 122 = .ok (.getfield 116, 3) := by decide +kernel
theorem dX7_isPiece_125 : decode cX7_isPiece 125 = .ok (.iaload, 1) := by decide +kernel
theorem dX7_isPiece_126 : decode cX7_isPiece 126 = .ok (.if_icmp .ge 69, 3) := by decide +kernel
theorem dX7_isPiece_129 : decode cX7_isPiece 129 = .ok (.aload_n 0, 1) := by decide +kernel
theorem dX7_isPiece_130 : decode cX7_isPiece 130 = .ok (.getfield 226, 3) := by decide +kernel
theorem dX7_isPiece_133 : decode cX7_isPiece 133 = .ok (.iload_n 3, 1) := by decide +kernel
theorem dX7_isPiece_134 : decode cX7_isPiece 134 = .ok (.iaload, 1) := by decide +kernel
theorem dX7_isPiece_135 : decode cX7_isPiece 135 = .ok (.ifCond .lt 60, 3) := by decide +kernel
theorem dX7_isPiece_138 : decode cX7_isPiece 138 = .ok (.aload_n 0, 1) := by decide +kernel
theorem dX7_isPiece_139 : decode cX7_isPiece 139 = .ok (.getfield 319, 3) := by decide +kernel
theorem dX7_isPiece_142 : decode cX7_isPiece 142 = .ok (.bipush 16, 2) := by decide +kernel
theorem dX7_isPiece_144 : decode cX7_isPiece 144 = .ok (.iload_n 2, 1) := by decide +kernel
theorem dX7_isPiece_145 : decode cX7_isPiece 145 = .ok (.imul, 1) := by decide +kernel
theorem dX7_isPiece_146 : decode cX7_isPiece 146 = .ok (.iload 4, 2) := by decide +kernel
theorem dX7_isPiece_148 : decode cX7_isPiece 148 = .ok (.iadd, 1) := by decide +kernel
theorem dX7_isPiece_149 : decode cX7_isPiece 149 = .ok (.iaload, 1) := by decide +kernel
theorem dX7_isPiece_150 : decode cX7_isPiece 150 = .ok (.istore 5, 2) := by decide +kernel
theorem dX7_isPiece_152 : decode cX7_isPiece 152 = .ok (.iload_n 1, 1) := by decide +kernel
theorem dX7_isPiece_153 : decode cX7_isPiece 153 = .ok (.iload 4, 2) := by decide +kernel
theorem dX7_isPiece_155 : decode cX7_isPiece 155 = .ok (.ishr, 1) := by decide +kernel
theorem dX7_isPiece_156 : decode cX7_isPiece 156 = .ok (.iconst 1, 1) := by decide +kernel
theorem dX7_isPiece_157 : decode cX7_isPiece 157 = .ok (.iand, 1) := by decide +kernel
theorem dX7_isPiece_158 : decode cX7_isPiece 158 = .ok (.iconst 1, 1) := by decide +kernel
theorem dX7_isPiece_159 : decode cX7_isPiece 159 = .ok (.if_icmp .ne 30, 3) := by decide +kernel
theorem dX7_isPiece_162 : decode cX7_isPiece 162 = .ok (.iload 5, 2) := by decide +kernel
theorem dX7_isPiece_164 : decode cX7_isPiece 164 = .ok (.iload_n 1, 1) := by decide +kernel
theorem dX7_isPiece_165 : decode cX7_isPiece 165 = .ok (.iconst (-1), 1) := by decide +kernel
theorem dX7_isPiece_166 : decode cX7_isPiece 166 = .ok (.ixor, 1) := by decide +kernel
theorem dX7_isPiece_167 : decode cX7_isPiece 167 = .ok (.iand, 1) := by decide +kernel
theorem dX7_isPiece_168 : decode cX7_isPiece 168 = .ok (.ifCond .eq 21, 3) := by decide +kernel
theorem dX7_isPiece_171 : decode cX7_isPiece 171 = .ok (.iload 5, 2) := by decide +kernel
theorem dX7_isPiece_173 : decode cX7_isPiece 173 = .ok (.iload_n 1, 1) := by decide +kernel
theorem dX7_isPiece_174 : decode cX7_isPiece 174 = .ok (.iand, 1) := by decide +kernel
theorem dX7_isPiece_175 : decode cX7_isPiece 175 = .ok (.invokestatic 322, 3) := by decide +kernel
theorem dX7_isPiece_178 : decode cX7_isPiece 178 = .ok (.aload_n 0, 1) := by decide +kernel
theorem dX7_isPiece_179 : decode cX7_isPiece 179 = .ok (.getfield 236, 3) := by decide +kernel
theorem dX7_isPiece_182 : decode cX7_isPiece 182 = .ok (.iload_n 3, 1) := by decide +kernel
theorem dX7_isPiece_183 : decode cX7_isPiece 183 = .ok (.iaload, 1) := by decide +kernel
theorem dX7_isPiece_184 : decode cX7_isPiece 184 = .ok (.if_icmp .ge 5, 3) := by decide +kernel
theorem dX7_isPiece_187 : decode cX7_isPiece 187 = .ok (.iconst 0, 1) := by decide +kernel
theorem dX7_isPiece_188 : decode cX7_isPiece 188 = .ok (.ireturn, 1) := by decide +kernel
theorem dX7_isPiece_189 : decode cX7_isPiece 189 = .ok (.iinc 4 1, 3) := by decide +kernel
theorem dX7_isPiece_192 : decode cX7_isPiece 192 = .ok (.goto (-77), 3) := by decide +kernel
theorem dX7_isPiece_195 : decode cX7_isPiece 195 = .ok (.iinc 2 1, 3) := by decide +kernel
theorem dX7_isPiece_198 : decode cX7_isPiece 198 = .ok (.goto (-140), 3) := by decide +kernel
theorem dX7_isPiece_201 : decode cX7_isPiece 201 = .ok (.iconst 1, 1) := by decide +kernel
theorem dX7_isPiece_202 : decode cX7_isPiece 202 = .ok (.ireturn, 1) := by decide +kernel
theorem dX7_isAhead_0 : decode cX7_isAhead 0 = .ok (.iload_n 0, 1) := by decide +kernel
theorem dX7_isAhead_1 : decode cX7_isAhead 1 = .ok (.iload_n 1, 1) := by decide +kernel
theorem dX7_isAhead_2 : decode cX7_isAhead 2 = .ok (.ixor, 1) := by decide +kernel
theorem dX7_isAhead_3 : decode cX7_isAhead 3 = .ok (.istore_n 2, 1) := by decide +kernel
theorem dX7_isAhead_4 : decode cX7_isAhead 4 = .ok (.iload_n 2, 1) := by decide +kernel
theorem dX7_isAhead_5 : decode cX7_isAhead 5 = .ok (.ifCond .eq 16, 3) := by decide +kernel
theorem dX7_isAhead_8 : decode cX7_isAhead 8 = .ok (.iload_n 0, 1) := by decide +kernel
theorem dX7_isAhead_9 : decode cX7_isAhead 9 = .ok (.iload_n 2, 1) := by decide +kernel
theorem dX7_isAhead_10 : decode cX7_isAhead 10 = .ok (.iand, 1) := by decide +kernel
theorem dX7_isAhead_11 : decode cX7_isAhead 11 = .ok (.iload_n 2, 1) := by decide +kernel
theorem dX7_isAhead_12 : decode cX7_isAhead 12 = .ok (.ineg, 1) := by decide +kernel
theorem dX7_isAhead_13 : decode cX7_isAhead 13 = .ok (.iand, 1) := by decide +kernel
theorem dX7_isAhead_14 : decode cX7_isAhead 14 = .ok (.ifCond .eq 7, 3) := by decide +kernel
theorem dX7_isAhead_17 : decode cX7_isAhead 17 = .ok (.iconst 1, 1) := by decide +kernel
theorem dX7_isAhead_18 : decode cX7_isAhead 18 = .ok (.goto 4, 3) := by decide +kernel
theorem dX7_isAhead_21 : decode cX7_isAhead 21 = .ok (.iconst 0, 1) := by decide +kernel
theorem dX7_isAhead_22 : decode cX7_isAhead 22 = .ok (.ireturn, 1) := by decide +kernel
theorem dX7_know_0 : decode cX7_know 0 = .ok (.aload_n 0, 1) := by decide +kernel
theorem dX7_know_1 : decode cX7_know 1 = .ok (.getfield 153, 3) := by decide +kernel
theorem dX7_know_4 : decode cX7_know 4 = .ok (.ifCond .eq 4, 3) := by decide +kernel
theorem dX7_know_7 : decode cX7_know 7 = .ok (.return_, 1) := by decide +kernel
theorem dX7_know_8 : decode cX7_know 8 = .ok (.aload_n 0, 1) := by decide +kernel
theorem dX7_know_9 : decode cX7_know 9 = .ok (.iconst 1, 1) := by decide +kernel
theorem dX7_know_10 : decode cX7_know 10 = .ok (.putfield 153, 3) := by decide +kernel
theorem dX7_know_13 : decode cX7_know 13 = .ok (.aload_n 0, 1) := by decide +kernel
theorem dX7_know_14 : decode cX7_know 14 = .ok (.invokevirtual 325, 3) := by decide +kernel
theorem dX7_know_17 : decode cX7_know 17 = .ok (.aload_n 0, 1) := by decide +kernel
theorem dX7_know_18 : decode cX7_know 18 = .ok (.iconst (-1), 1) := by decide +kernel
theorem dX7_know_19 : decode cX7_know 19 = .ok (.putfield 328, 3) := by decide +kernel
theorem dX7_know_22 : decode cX7_know 22 = .ok (.iconst 0, 1) := by decide +kernel
theorem dX7_know_23 : decode cX7_know 23 = .ok (.istore_n 1, 1) := by decide +kernel
theorem dX7_know_24 : decode cX7_know 24 = .ok (.iload_n 1, 1) := by decide +kernel
theorem dX7_know_25 : decode cX7_know 25 = .ok (.iconst 1, 1) := by decide +kernel
theorem dX7_know_26 : decode cX7_know 26 = .ok (.aload_n 0, 1) := by decide +kernel
theorem dX7_know_27 : decode cX7_know 27 = .ok (.getfield 122, 3) := by decide +kernel
theorem dX7_know_30 : decode cX7_know 30 = .ok (.aload_n 0, 1) := by decide +kernel
theorem dX7_know_31 : decode cX7_know 31 = .ok (.getfield 116, 3) := by decide +kernel
theorem dX7_know_34 : decode cX7_know 34 = .ok (.iaload, 1) := by decide +kernel
theorem dX7_know_35 : decode cX7_know 35 = .ok (.ishl, 1) := by decide +kernel
theorem dX7_know_36 : decode cX7_know 36 = .ok (.if_icmp .ge 78, 3) := by decide +kernel
theorem dX7_know_39 : decode cX7_know 39 = .ok (.aload_n 0, 1) := by decide +kernel
theorem dX7_know_40 : decode cX7_know 40 = .ok (.getfield 328, 3) := by decide +kernel
theorem dX7_know_43 : decode cX7_know 43 = .ok (.ifCond .lt 17, 3) := by decide +kernel
theorem dX7_know_46 : decode cX7_know 46 = .ok (.iload_n 1, 1) := by decide +kernel
theorem dX7_know_47 : decode cX7_know 47 = .ok (.invokestatic 322, 3) := by decide +kernel
theorem dX7_know_50 : decode cX7_know 50 = .ok (.aload_n 0, 1) := by decide +kernel
theorem dX7_know_51 : decode cX7_know 51 = .ok (.getfield 328, 3) := by decide +kernel
theorem dX7_know_54 : decode cX7_know 54 = .ok (.invokestatic 322, 3) := by decide +kernel
theorem dX7_know_57 : decode cX7_know 57 = .ok (.if_icmp .gt 51, 3) := by decide +kernel
theorem dX7_know_60 : decode cX7_know 60 = .ok (.aload_n 0, 1) := by decide +kernel
theorem dX7_know_61 : decode cX7_know 61 = .ok (.iload_n 1, 1) := by decide +kernel
theorem dX7_know_62 : decode cX7_know 62 = .ok (.invokevirtual 331, 3) := by decide +kernel
theorem dX7_know_65 : decode cX7_know 65 = .ok (.ifCond .ne 6, 3) := by decide +kernel
theorem dX7_know_68 : decode cX7_know 68 = .ok (.goto 40, 3) := by decide +kernel
theorem dX7_know_71 : decode cX7_know 71 = .ok (.aload_n 0, 1) := by decide +kernel
theorem dX7_know_72 : decode cX7_know 72 = .ok (.getfield 328, 3) := by decide +kernel
theorem dX7_know_75 : decode cX7_know 75 = .ok (.ifCond .lt 28, 3) := by decide +kernel
theorem dX7_know_78 : decode cX7_know 78 = .ok (.iload_n 1, 1) := by decide +kernel
theorem dX7_know_79 : decode cX7_know 79 = .ok (.invokestatic 322, 3) := by decide +kernel
theorem dX7_know_82 : decode cX7_know 82 = .ok (.aload_n 0, 1) := by decide +kernel
theorem dX7_know_83 : decode cX7_know 83 = .ok (.getfield 328, 3) := by decide +kernel
theorem dX7_know_86 : decode cX7_know 86 = .ok (.invokestatic 322, 3) := by decide +kernel
theorem dX7_know_89 : decode cX7_know 89 = .ok (.if_icmp .lt 14, 3) := by decide +kernel
theorem dX7_know_92 : decode cX7_know 92 = .ok (.iload_n 1, 1) := by decide +kernel
theorem dX7_know_93 : decode cX7_know 93 = .ok (.aload_n 0, 1) := by decide +kernel
theorem dX7_know_94 : decode cX7_know 94 = .ok (.getfield 328, 3) := by decide +kernel
theorem dX7_know_97 : decode cX7_know 97 = .ok (.invokestatic 334, 3) := by decide +kernel
theorem dX7_know_100 : decode cX7_know 100 = .ok (.ifCond .eq 8, 3) := by decide +kernel
theorem dX7_know_103 : decode cX7_know 103 = .ok (.aload_n 0, 1) := by decide +kernel
theorem dX7_know_104 : decode cX7_know 104 = .ok (.iload_n 1, 1) := by decide +kernel
theorem dX7_know_105 : decode cX7_know 105 = .ok (.putfield 328, 3) := by decide +kernel
theorem dX7_know_108 : decode cX7_know 108 = .ok (.iinc 1 1, 3) := by decide +kernel
theorem dX7_know_111 : decode cX7_know 111 = .ok (.goto (-87), 3) := by decide +kernel
theorem dX7_know_114 : decode cX7_know 114 = .ok (.return_, 1) := by decide +kernel
theorem dX7_gone_0 : decode cX7_gone 0 = .ok (.aload_n 0, 1) := by decide +kernel
theorem dX7_gone_1 : decode cX7_gone 1 = .ok (.iload_n 1, 1) := by decide +kernel
theorem dX7_gone_2 : decode cX7_gone 2 = .ok (.invokevirtual 200, 3) := by decide +kernel
theorem dX7_gone_5 : decode cX7_gone 5 = .ok (.ifCond .eq 15, 3) := by decide +kernel
theorem dX7_gone_8 : decode cX7_gone 8 = .ok (.aload_n 0, 1) := by decide +kernel
theorem dX7_gone_9 : decode cX7_gone 9 = .ok (.getfield 147, 3) := by decide +kernel
theorem dX7_gone_12 : decode cX7_gone 12 = .ok (.iload_n 1, 1) := by decide +kernel
theorem dX7_gone_13 : decode cX7_gone 13 = .ok (.ishr, 1) := by decide +kernel
theorem dX7_gone_14 : decode cX7_gone 14 = .ok (.iconst 1, 1) := by decide +kernel
theorem dX7_gone_15 : decode cX7_gone 15 = .ok (.iand, 1) := by decide +kernel
theorem dX7_gone_16 : decode cX7_gone 16 = .ok (.iconst 1, 1) := by decide +kernel
theorem dX7_gone_17 : decode cX7_gone 17 = .ok (.if_icmp .ne 5, 3) := by decide +kernel
theorem dX7_gone_20 : decode cX7_gone 20 = .ok (.iconst 0, 1) := by decide +kernel
theorem dX7_gone_21 : decode cX7_gone 21 = .ok (.ireturn, 1) := by decide +kernel
theorem dX7_gone_22 : decode cX7_gone 22 = .ok (.aload_n 0, 1) := by decide +kernel
theorem dX7_gone_23 : decode cX7_gone 23 = .ok (.invokevirtual 325, 3) := by decide +kernel
theorem dX7_gone_26 : decode cX7_gone 26 = .ok (.iconst 0, 1) := by decide +kernel
theorem dX7_gone_27 : decode cX7_gone 27 = .ok (.istore_n 2, 1) := by decide +kernel
theorem dX7_gone_28 : decode cX7_gone 28 = .ok (.iload_n 2, 1) := by decide +kernel
theorem dX7_gone_29 : decode cX7_gone 29 = .ok (.aload_n 0, 1) := by decide +kernel
theorem dX7_gone_30 : decode cX7_gone 30 = .ok (.getfield 122, 3) := by decide +kernel
theorem dX7_gone_33 : decode cX7_gone 33 = .ok (.aload_n 0, 1) := by decide +kernel
theorem dX7_gone_34 : decode cX7_gone 34 = .ok (.getfield 116, 3) := by decide +kernel
theorem dX7_gone_37 : decode cX7_gone 37 = .ok (.iaload, 1) := by decide +kernel
theorem dX7_gone_38 : decode cX7_gone 38 = .ok (.if_icmp .ge 36, 3) := by decide +kernel
theorem dX7_gone_41 : decode cX7_gone 41 = .ok (.aload_n 0, 1) := by decide +kernel
theorem dX7_gone_42 : decode cX7_gone 42 = .ok (.getfield 147, 3) := by decide +kernel
theorem dX7_gone_45 : decode cX7_gone 45 = .ok (.iload_n 2, 1) := by decide +kernel
theorem dX7_gone_46 : decode cX7_gone 46 = .ok (.ishr, 1) := by decide +kernel
theorem dX7_gone_47 : decode cX7_gone 47 = .ok (.iconst 1, 1) := by decide +kernel
theorem dX7_gone_48 : decode cX7_gone 48 = .ok (.iand, 1) := by decide +kernel
theorem dX7_gone_49 : decode cX7_gone 49 = .ok (.ifCond .ne 19, 3) := by decide +kernel
theorem dX7_gone_52 : decode cX7_gone 52 = .ok (.aload_n 0, 1) := by decide +kernel
theorem dX7_gone_53 : decode cX7_gone 53 = .ok (.getfield 310, 3) := by decide +kernel
theorem dX7_gone_56 : decode cX7_gone 56 = .ok (.iload_n 2, 1) := by decide +kernel
theorem dX7_gone_57 : decode cX7_gone 57 = .ok (.iaload, 1) := by decide +kernel
theorem dX7_gone_58 : decode cX7_gone 58 = .ok (.iload_n 1, 1) := by decide +kernel
theorem dX7_gone_59 : decode cX7_gone 59 = .ok (.ishr, 1) := by decide +kernel
theorem dX7_gone_60 : decode cX7_gone 60 = .ok (.iconst 1, 1) := by decide +kernel
theorem dX7_gone_61 : decode cX7_gone 61 = .ok (.iand, 1) := by decide +kernel
theorem dX7_gone_62 : decode cX7_gone 62 = .ok (.iconst 1, 1) := by decide +kernel
theorem dX7_gone_63 : decode cX7_gone 63 = .ok (.if_icmp .ne 5, 3) := by decide +kernel
theorem dX7_gone_66 : decode cX7_gone 66 = .ok (.iconst 0, 1) := by decide +kernel
theorem dX7_gone_67 : decode cX7_gone 67 = .ok (.ireturn, 1) := by decide +kernel
theorem dX7_gone_68 : decode cX7_gone 68 = .ok (.iinc 2 1, 3) := by decide +kernel
theorem dX7_gone_71 : decode cX7_gone 71 = .ok (.goto (-43), 3) := by decide +kernel
theorem dX7_gone_74 : decode cX7_gone 74 = .ok (.aload_n 0, 1) := by decide +kernel
theorem dX7_gone_75 : decode cX7_gone 75 = .ok (.dup, 1) := by decide +kernel
theorem dX7_gone_76 : decode cX7_gone 76 = .ok (.getfield 147, 3) := by decide +kernel
theorem dX7_gone_79 : decode cX7_gone 79 = .ok (.iconst 1, 1) := by decide +kernel
theorem dX7_gone_80 : decode cX7_gone 80 = .ok (.iload_n 1, 1) := by decide +kernel
theorem dX7_gone_81 : decode cX7_gone 81 = .ok (.ishl, 1) := by decide +kernel
theorem dX7_gone_82 : decode cX7_gone 82 = .ok (.ior, 1) := by decide +kernel
theorem dX7_gone_83 : decode cX7_gone 83 = .ok (.putfield 147, 3) := by decide +kernel
theorem dX7_gone_86 : decode cX7_gone 86 = .ok (.aload_n 0, 1) := by decide +kernel
theorem dX7_gone_87 : decode cX7_gone 87 = .ok (.iconst 0, 1) := by decide +kernel
theorem dX7_gone_88 : decode cX7_gone 88 = .ok (.putfield 153, 3) := by decide +kernel
theorem dX7_gone_91 : decode cX7_gone 91 = .ok (.iconst 1, 1) := by decide +kernel
theorem dX7_gone_92 : decode cX7_gone 92 = .ok (.ireturn, 1) := by decide +kernel
theorem dX7_least_0 : decode cX7_least 0 = .ok (.aload_n 0, 1) := by decide +kernel
theorem dX7_least_1 : decode cX7_least 1 = .ok (.invokevirtual 337, 3) := by decide +kernel
theorem dX7_least_4 : decode cX7_least 4 = .ok (.aload_n 0, 1) := by decide +kernel
theorem dX7_least_5 : decode cX7_least 5 = .ok (.getfield 328, 3) := by decide +kernel
theorem dX7_least_8 : decode cX7_least 8 = .ok (.ireturn, 1) := by decide +kernel
theorem dX7_keep_0 : decode cX7_keep 0 = .ok (.aload_n 0, 1) := by decide +kernel
theorem dX7_keep_1 : decode cX7_keep 1 = .ok (.invokevirtual 337, 3) := by decide +kernel
theorem dX7_keep_4 : decode cX7_keep 4 = .ok (.aload_n 0, 1) := by decide +kernel
theorem dX7_keep_5 : decode cX7_keep 5 = .ok (.getfield 328, 3) := by decide +kernel
theorem dX7_keep_8 : decode cX7_keep 8 = .ok (.ifCond .ge 5, 3) := by decide +kernel
theorem dX7_keep_11 : decode cX7_keep 11 = .ok (.iconst 0, 1) := by decide +kernel
theorem dX7_keep_12 : decode cX7_keep 12 = .ok (.ireturn, 1) := by decide +kernel
theorem dX7_keep_13 : decode cX7_keep 13 = .ok (.aload_n 0, 1) := by decide +kernel
theorem dX7_keep_14 : decode cX7_keep 14 = .ok (.aload_n 0, 1) := by decide +kernel
theorem dX7_keep_15 : decode cX7_keep 15 = .ok (.getfield 328, 3) := by decide +kernel
theorem dX7_keep_18 : decode cX7_keep 18 = .ok (.putfield 144, 3) := by decide +kernel
theorem dX7_keep_21 : decode cX7_keep 21 = .ok (.iconst 1, 1) := by decide +kernel
theorem dX7_keep_22 : decode cX7_keep 22 = .ok (.ireturn, 1) := by decide +kernel
theorem dX7_steady_0 : decode cX7_steady 0 = .ok (.aload_n 0, 1) := by decide +kernel
theorem dX7_steady_1 : decode cX7_steady 1 = .ok (.invokevirtual 337, 3) := by decide +kernel
theorem dX7_steady_4 : decode cX7_steady 4 = .ok (.iconst (-1), 1) := by decide +kernel
theorem dX7_steady_5 : decode cX7_steady 5 = .ok (.istore_n 1, 1) := by decide +kernel
theorem dX7_steady_6 : decode cX7_steady 6 = .ok (.iconst 0, 1) := by decide +kernel
theorem dX7_steady_7 : decode cX7_steady 7 = .ok (.istore_n 2, 1) := by decide +kernel
theorem dX7_steady_8 : decode cX7_steady 8 = .ok (.iconst 0, 1) := by decide +kernel
theorem dX7_steady_9 : decode cX7_steady 9 = .ok (.istore_n 3, 1) := by decide +kernel
theorem dX7_steady_10 : decode cX7_steady 10 = .ok (.iload_n 3, 1) := by decide +kernel
theorem dX7_steady_11 : decode cX7_steady 11 = .ok (.iconst 1, 1) := by decide +kernel
theorem dX7_steady_12 : decode cX7_steady 12 = .ok (.aload_n 0, 1) := by decide +kernel
theorem dX7_steady_13 : decode cX7_steady 13 = .ok (.getfield 122, 3) := by decide +kernel
theorem dX7_steady_16 : decode cX7_steady 16 = .ok (.aload_n 0, 1) := by decide +kernel
theorem dX7_steady_17 : decode cX7_steady 17 = .ok (.getfield 116, 3) := by decide +kernel
theorem dX7_steady_20 : decode cX7_steady 20 = .ok (.iaload, 1) := by decide +kernel
theorem dX7_steady_21 : decode cX7_steady 21 = .ok (.ishl, 1) := by decide +kernel
theorem dX7_steady_22 : decode cX7_steady 22 = .ok (.if_icmp .ge 96, 3) := by decide +kernel
theorem dX7_steady_25 : decode cX7_steady 25 = .ok (.iload_n 3, 1) := by decide +kernel
theorem dX7_steady_26 : decode cX7_steady 26 = .ok (.aload_n 0, 1) := by decide +kernel
theorem dX7_steady_27 : decode cX7_steady 27 = .ok (.getfield 144, 3) := by decide +kernel
theorem dX7_steady_30 : decode cX7_steady 30 = .ok (.ixor, 1) := by decide +kernel
theorem dX7_steady_31 : decode cX7_steady 31 = .ok (.aload_n 0, 1) := by decide +kernel
theorem dX7_steady_32 : decode cX7_steady 32 = .ok (.getfield 147, 3) := by decide +kernel
theorem dX7_steady_35 : decode cX7_steady 35 = .ok (.iconst (-1), 1) := by decide +kernel
theorem dX7_steady_36 : decode cX7_steady 36 = .ok (.ixor, 1) := by decide +kernel
theorem dX7_steady_37 : decode cX7_steady 37 = .ok (.iand, 1) := by decide +kernel
theorem dX7_steady_38 : decode cX7_steady 38 = .ok (.invokestatic 322, 3) := by decide +kernel
theorem dX7_steady_41 : decode cX7_steady 41 = .ok (.istore 4, 2) := by decide +kernel
theorem dX7_steady_43 : decode cX7_steady 43 = .ok (.iload_n 1, 1) := by decide +kernel
theorem dX7_steady_44 : decode cX7_steady 44 = .ok (.ifCond .lt 9, 3) := by decide +kernel
theorem dX7_steady_47 : decode cX7_steady 47 = .ok (.iload 4, 2) := by decide +kernel
theorem dX7_steady_49 : decode cX7_steady 49 = .ok (.iload_n 2, 1) := by decide +kernel
theorem dX7_steady_50 : decode cX7_steady 50 = .ok (.if_icmp .gt 62, 3) := by decide +kernel
theorem dX7_steady_53 : decode cX7_steady 53 = .ok (.aload_n 0, 1) := by decide +kernel
theorem dX7_steady_54 : decode cX7_steady 54 = .ok (.iload_n 3, 1) := by decide +kernel
theorem dX7_steady_55 : decode cX7_steady 55 = .ok (.invokevirtual 331, 3) := by decide +kernel
theorem dX7_steady_58 : decode cX7_steady 58 = .ok (.ifCond .ne 6, 3) := by decide +kernel
theorem dX7_steady_61 : decode cX7_steady 61 = .ok (.goto 51, 3) := by decide +kernel
theorem dX7_steady_64 : decode cX7_steady 64 = .ok (.iload_n 1, 1) := by decide +kernel
theorem dX7_steady_65 : decode cX7_steady 65 = .ok (.ifCond .lt 42, 3) := by decide +kernel
theorem dX7_steady_68 : decode cX7_steady 68 = .ok (.iload 4, 2) := by decide +kernel
theorem dX7_steady_70 : decode cX7_steady 70 = .ok (.iload_n 2, 1) := by decide +kernel
theorem dX7_steady_71 : decode cX7_steady 71 = .ok (.if_icmp .ne 36, 3) := by decide +kernel
theorem dX7_steady_74 : decode cX7_steady 74 = .ok (.iload_n 3, 1) := by decide +kernel
theorem dX7_steady_75 : decode cX7_steady 75 = .ok (.invokestatic 322, 3) := by decide +kernel
theorem dX7_steady_78 : decode cX7_steady 78 = .ok (.iload_n 1, 1) := by decide +kernel
theorem dX7_steady_79 : decode cX7_steady 79 = .ok (.invokestatic 322, 3) := by decide +kernel
theorem dX7_steady_82 : decode cX7_steady 82 = .ok (.if_icmp .gt 30, 3) := by decide +kernel
theorem dX7_steady_85 : decode cX7_steady 85 = .ok (.iload_n 3, 1) := by decide +kernel
theorem dX7_steady_86 : decode cX7_steady 86 = .ok (.invokestatic 322, 3) := by decide +kernel
theorem dX7_steady_89 : decode cX7_steady 89 = .ok (.iload_n 1, 1) := by decide +kernel
theorem dX7_steady_90 : decode cX7_steady 90 = .ok (.invokestatic 322, 3) := by decide +kernel
theorem dX7_steady_93 : decode cX7_steady 93 = .ok (.if_icmp .ne 14, 3) := by decide +kernel
theorem dX7_steady_96 : decode cX7_steady 96 = .ok (.iload_n 3, 1) := by decide +kernel
theorem dX7_steady_97 : decode cX7_steady 97 = .ok (.iload_n 1, 1) := by decide +kernel
theorem dX7_steady_98 : decode cX7_steady 98 = .ok (.invokestatic 334, 3) := by decide +kernel
theorem dX7_steady_101 : decode cX7_steady 101 = .ok (.ifCond .ne 6, 3) := by decide +kernel
theorem dX7_steady_104 : decode cX7_steady 104 = .ok (.goto 8, 3) := by decide +kernel
theorem dX7_steady_107 : decode cX7_steady 107 = .ok (.iload_n 3, 1) := by decide +kernel
theorem dX7_steady_108 : decode cX7_steady 108 = .ok (.istore_n 1, 1) := by decide +kernel
theorem dX7_steady_109 : decode cX7_steady 109 = .ok (.iload 4, 2) := by decide +kernel
theorem dX7_steady_111 : decode cX7_steady 111 = .ok (.istore_n 2, 1) := by decide +kernel
theorem dX7_steady_112 : decode cX7_steady 112 = .ok (.iinc 3 1, 3) := by decide +kernel
theorem dX7_steady_115 : decode cX7_steady 115 = .ok (.goto (-105), 3) := by decide +kernel
theorem dX7_steady_118 : decode cX7_steady 118 = .ok (.iload_n 1, 1) := by decide +kernel
theorem dX7_steady_119 : decode cX7_steady 119 = .ok (.ireturn, 1) := by decide +kernel
theorem dX7_piece_0 : decode cX7_piece 0 = .ok (.iload_n 1, 1) := by decide +kernel
theorem dX7_piece_1 : decode cX7_piece 1 = .ok (.ifCond .lt 18, 3) := by decide +kernel
theorem dX7_piece_4 : decode cX7_piece 4 = .ok (.iload_n 1, 1) := by decide +kernel
theorem dX7_piece_5 : decode cX7_piece 5 = .ok (.iconst 1, 1) := by decide +kernel
theorem dX7_piece_6 : decode cX7_piece 6 = .ok (.aload_n 0, 1) := by decide +kernel
theorem dX7_piece_7 : decode cX7_piece 7 = .ok (.getfield 122, 3) := by decide +kernel
theorem dX7_piece_10 : decode cX7_piece 10 = .ok (.aload_n 0, 1) := by decide +kernel
theorem dX7_piece_11 : decode cX7_piece 11 = .ok (.getfield 116, 3) := by decide +kernel
theorem dX7_piece_14 : decode cX7_piece 14 = .ok (.iaload, 1) := by decide +kernel
theorem dX7_piece_15 : decode cX7_piece 15 = .ok (.ishl, 1) := by decide +kernel
theorem dX7_piece_16 : decode cX7_piece 16 = .ok (.if_icmp .lt 5, 3) := by decide +kernel
theorem dX7_piece_19 : decode cX7_piece 19 = .ok (.iconst (-1), 1) := by decide +kernel
theorem dX7_piece_20 : decode cX7_piece 20 = .ok (.ireturn, 1) := by decide +kernel
theorem dX7_piece_21 : decode cX7_piece 21 = .ok (.aload_n 0, 1) := by decide +kernel
theorem dX7_piece_22 : decode cX7_piece 22 = .ok (.invokevirtual 337, 3) := by decide +kernel
theorem dX7_piece_25 : decode cX7_piece 25 = .ok (.aload_n 0, 1) := by decide +kernel
theorem dX7_piece_26 : decode cX7_piece 26 = .ok (.iload_n 1, 1) := by decide +kernel
theorem dX7_piece_27 : decode cX7_piece 27 = .ok (.invokevirtual 331, 3) := by decide +kernel
theorem dX7_piece_30 : decode cX7_piece 30 = .ok (.ifCond .eq 7, 3) := by decide +kernel
theorem dX7_piece_33 : decode cX7_piece 33 = .ok (.iconst 1, 1) := by decide +kernel
theorem dX7_piece_34 : decode cX7_piece 34 = .ok (.goto 4, 3) := by decide +kernel
theorem dX7_piece_37 : decode cX7_piece 37 = .ok (.iconst 0, 1) := by decide +kernel
theorem dX7_piece_38 : decode cX7_piece 38 = .ok (.ireturn, 1) := by decide +kernel
theorem dX7_why_0 : decode cX7_why 0 = .ok (.aload_n 0, 1) := by decide +kernel
theorem dX7_why_1 : decode cX7_why 1 = .ok (.iload_n 1, 1) := by decide +kernel
theorem dX7_why_2 : decode cX7_why 2 = .ok (.invokevirtual 200, 3) := by decide +kernel
theorem dX7_why_5 : decode cX7_why 5 = .ok (.ifCond .eq 10, 3) := by decide +kernel
theorem dX7_why_8 : decode cX7_why 8 = .ok (.aload_n 0, 1) := by decide +kernel
theorem dX7_why_9 : decode cX7_why 9 = .ok (.invokevirtual 340, 3) := by decide +kernel
theorem dX7_why_12 : decode cX7_why 12 = .ok (.ifCond .ge 5, 3) := by decide +kernel
theorem dX7_why_15 : decode cX7_why 15 = .ok (.iconst (-1), 1) := by decide +kernel
theorem dX7_why_16 : decode cX7_why 16 = .ok (.ireturn, 1) := by decide +kernel
theorem dX7_why_17 : decode cX7_why 17 = .ok (.aload_n 0, 1) := by decide +kernel
theorem dX7_why_18 : decode cX7_why 18 = .ok (.getfield 328, 3) := by decide +kernel
theorem dX7_why_21 : decode cX7_why 21 = .ok (.iload_n 1, 1) := by decide +kernel
theorem dX7_why_22 : decode cX7_why 22 = .ok (.ishr, 1) := by decide +kernel
theorem dX7_why_23 : decode cX7_why 23 = .ok (.iconst 1, 1) := by decide +kernel
theorem dX7_why_24 : decode cX7_why 24 = .ok (.iand, 1) := by decide +kernel
theorem dX7_why_25 : decode cX7_why 25 = .ok (.ifCond .ne 5, 3) := by decide +kernel
theorem dX7_why_28 : decode cX7_why 28 = .ok (.iconst 0, 1) := by decide +kernel
theorem dX7_why_29 : decode cX7_why 29 = .ok (.ireturn, 1) := by decide +kernel
theorem dX7_why_30 : decode cX7_why 30 = .ok (.iconst 0, 1) := by decide +kernel
theorem dX7_why_31 : decode cX7_why 31 = .ok (.istore_n 2, 1) := by decide +kernel
theorem dX7_why_32 : decode cX7_why 32 = .ok (.iload_n 2, 1) := by decide +kernel
theorem dX7_why_33 : decode cX7_why 33 = .ok (.aload_n 0, 1) := by decide +kernel
theorem dX7_why_34 : decode cX7_why 34 = .ok (.getfield 138, 3) := by decide +kernel
theorem dX7_why_37 : decode cX7_why 37 = .ok (.aload_n 0, 1) := by decide +kernel
theorem dX7_why_38 : decode cX7_why 38 = .ok (.getfield 141, 3) := by decide +kernel
theorem dX7_why_41 : decode cX7_why 41 = .ok (.iaload, 1) := by decide +kernel
theorem dX7_why_42 : decode cX7_why 42 = .ok (.if_icmp .ge 67, 3) := by decide +kernel
theorem dX7_why_45 : decode cX7_why 45 = .ok (.bipush 10, 2) := by decide +kernel
theorem dX7_why_47 : decode cX7_why 47 = .ok (.aload_n 0, 1) := by decide +kernel
theorem dX7_why_48 : decode cX7_why 48 = .ok (.getfield 141, 3) := by decide +kernel
theorem dX7_why_51 : decode cX7_why 51 = .ok (.imul, 1) := by decide +kernel
theorem dX7_why_52 : decode cX7_why 52 = .ok (.iload_n 2, 1) := by decide +kernel
theorem dX7_why_53 : decode cX7_why 53 = .ok (.iadd, 1) := by decide +kernel
theorem dX7_why_54 : decode cX7_why 54 = .ok (.istore_n 3, 1) := by decide +kernel
theorem dX7_why_55 : decode cX7_why 55 = .ok (.aload_n 0, 1) := by decide +kernel
theorem dX7_why_56 : decode cX7_why 56 = .ok (.getfield 226, 3) := by decide +kernel
theorem dX7_why_59 : decode cX7_why 59 = .ok (.iload_n 3, 1) := by decide +kernel
theorem dX7_why_60 : decode cX7_why 60 = .ok (.iaload, 1) := by decide +kernel
theorem dX7_why_61 : decode cX7_why 61 = .ok (.ifCond .ge 42, 3) := by decide +kernel
theorem dX7_why_64 : decode cX7_why 64 = .ok (.aload_n 0, 1) := by decide +kernel
theorem dX7_why_65 : decode cX7_why 65 = .ok (.getfield 316, 3) := by decide +kernel
theorem dX7_why_68 : decode cX7_why 68 = .ok (.iload_n 2, 1) := by decide +kernel
theorem dX7_why_69 : decode cX7_why 69 = .ok (.iaload, 1) := by decide +kernel
theorem dX7_why_70 : decode cX7_why 70 = .ok (.iload_n 1, 1) := by decide +kernel
theorem dX7_why_71 : decode cX7_why 71 = .ok (.ishr, 1) := by decide +kernel
theorem dX7_why_72 : decode cX7_why 72 = .ok (.iconst 1, 1) := by decide +kernel
theorem dX7_why_73 : decode cX7_why 73 = .ok (.iand, 1) := by decide +kernel
theorem dX7_why_74 : decode cX7_why 74 = .ok (.iconst 1, 1) := by decide +kernel
theorem dX7_why_75 : decode cX7_why 75 = .ok (.if_icmp .ne 28, 3) := by decide +kernel
theorem dX7_why_78 : decode cX7_why 78 = .ok (.aload_n 0, 1) := by decide +kernel
theorem dX7_why_79 : decode cX7_why 79 = .ok (.getfield 316, 3) := by decide +kernel
theorem dX7_why_82 : decode cX7_why 82 = .ok (.iload_n 2, 1) := by decide +kernel
theorem dX7_why_83 : decode cX7_why 83 = .ok (.iaload, 1) := by decide +kernel
theorem dX7_why_84 : decode cX7_why 84 = .ok (.aload_n 0, 1) := by decide +kernel
theorem dX7_why_85 : decode cX7_why 85 = .ok (.getfield 328, 3) := by decide +kernel
theorem dX7_why_88 : decode cX7_why 88 = .ok (.iand, 1) := by decide +kernel
theorem dX7_why_89 : decode cX7_why 89 = .ok (.invokestatic 322, 3) := by decide +kernel
theorem dX7_why_92 : decode cX7_why 92 = .ok (.aload_n 0, 1) := by decide +kernel
theorem dX7_why_93 : decode cX7_why 93 = .ok (.getfield 236, 3) := by decide +kernel
theorem dX7_why_96 : decode cX7_why 96 = .ok (.iload_n 3, 1) := by decide +kernel
theorem dX7_why_97 : decode cX7_why 97 = .ok (.iaload, 1) := by decide +kernel
theorem dX7_why_98 : decode cX7_why 98 = .ok (.if_icmp .gt 5, 3) := by decide +kernel
theorem dX7_why_101 : decode cX7_why 101 = .ok (.iconst 1, 1) := by decide +kernel
theorem dX7_why_102 : decode cX7_why 102 = .ok (.ireturn, 1) := by decide +kernel
theorem dX7_why_103 : decode cX7_why 103 = .ok (.iinc 2 1, 3) := by decide +kernel
theorem dX7_why_106 : decode cX7_why 106 = .ok (.goto (-74), 3) := by decide +kernel
theorem dX7_why_109 : decode cX7_why 109 = .ok (.iconst 0, 1) := by decide +kernel
theorem dX7_why_110 : decode cX7_why 110 = .ok (.istore_n 2, 1) := by decide +kernel
theorem dX7_why_111 : decode cX7_why 111 = .ok (.iload_n 2, 1) := by decide +kernel
theorem dX7_why_112 : decode cX7_why 112 = .ok (.aload_n 0, 1) := by decide +kernel
theorem dX7_why_113 : decode cX7_why 113 = .ok (.getfield 122, 3) := by decide +kernel
theorem dX7_why_116 : decode cX7_why 116 = .ok (.aload_n 0, 1) := by decide +kernel
theorem dX7_why_117 : decode cX7_why 117 = .ok (.getfield 116, 3) := by decide +kernel
theorem dX7_why_120 : decode cX7_why 120 = .ok (.iaload, 1) := by decide +kernel
theorem dX7_why_121 : decode cX7_why 121 = .ok (.if_icmp .ge 42, 3) := by decide +kernel
theorem dX7_why_124 : decode cX7_why 124 = .ok (.iload_n 2, 1) := by decide +kernel
theorem dX7_why_125 : decode cX7_why 125 = .ok (.iload_n 1, 1) := by decide +kernel
theorem dX7_why_126 : decode cX7_why 126 = .ok (.if_icmp .eq 31, 3) := by decide +kernel
theorem dX7_why_129 : decode cX7_why 129 = .ok (.aload_n 0, 1) := by decide +kernel
theorem dX7_why_130 : decode cX7_why 130 = .ok (.getfield 328, 3) := by decide +kernel
theorem dX7_why_133 : decode cX7_why 133 = .ok (.iload_n 2, 1) := by decide +kernel
theorem dX7_why_134 : decode cX7_why 134 = .ok (.ishr, 1) := by decide +kernel
theorem dX7_why_135 : decode cX7_why 135 = .ok (.iconst 1, 1) := by decide +kernel
theorem dX7_why_136 : decode cX7_why 136 = .ok (.iand, 1) := by decide +kernel
theorem dX7_why_137 : decode cX7_why 137 = .ok (.iconst 1, 1) := by decide +kernel
theorem dX7_why_138 : decode cX7_why 138 = .ok (.if_icmp .ne 19, 3) := by decide +kernel
theorem dX7_why_141 : decode cX7_why 141 = .ok (.aload_n 0, 1) := by decide +kernel
theorem dX7_why_142 : decode cX7_why 142 = .ok (.getfield 310, 3) := by decide +kernel
theorem dX7_why_145 : decode cX7_why 145 = .ok (.iload_n 2, 1) := by decide +kernel
theorem dX7_why_146 : decode cX7_why 146 = .ok (.iaload, 1) := by decide +kernel
theorem dX7_why_147 : decode cX7_why 147 = .ok (.iload_n 1, 1) := by decide +kernel
theorem dX7_why_148 : decode cX7_why 148 = .ok (.ishr, 1) := by decide +kernel
theorem dX7_why_149 : decode cX7_why 149 = .ok (.iconst 1, 1) := by decide +kernel
theorem dX7_why_150 : decode cX7_why 150 = .ok (.iand, 1) := by decide +kernel
theorem dX7_why_151 : decode cX7_why 151 = .ok (.iconst 1, 1) := by decide +kernel
theorem dX7_why_152 : decode cX7_why 152 = .ok (.if_icmp .ne 5, 3) := by decide +kernel
theorem dX7_why_155 : decode cX7_why 155 = .ok (.iconst 2, 1) := by decide +kernel
theorem dX7_why_156 : decode cX7_why 156 = .ok (.ireturn, 1) := by decide +kernel
theorem dX7_why_157 : decode cX7_why 157 = .ok (.iinc 2 1, 3) := by decide +kernel
theorem dX7_why_160 : decode cX7_why 160 = .ok (.goto (-49), 3) := by decide +kernel
theorem dX7_why_163 : decode cX7_why 163 = .ok (.iconst 3, 1) := by decide +kernel
theorem dX7_why_164 : decode cX7_why 164 = .ok (.ireturn, 1) := by decide +kernel
theorem dX7_place_0 : decode cX7_place 0 = .ok (.aload_n 0, 1) := by decide +kernel
theorem dX7_place_1 : decode cX7_place 1 = .ok (.getfield 328, 3) := by decide +kernel
theorem dX7_place_4 : decode cX7_place 4 = .ok (.istore_n 1, 1) := by decide +kernel
theorem dX7_place_5 : decode cX7_place 5 = .ok (.iconst 0, 1) := by decide +kernel
theorem dX7_place_6 : decode cX7_place 6 = .ok (.istore_n 2, 1) := by decide +kernel
theorem dX7_place_7 : decode cX7_place 7 = .ok (.iconst 0, 1) := by decide +kernel
theorem dX7_place_8 : decode cX7_place 8 = .ok (.istore_n 3, 1) := by decide +kernel
theorem dX7_place_9 : decode cX7_place 9 = .ok (.iload_n 3, 1) := by decide +kernel
theorem dX7_place_10 : decode cX7_place 10 = .ok (.aload_n 0, 1) := by decide +kernel
theorem dX7_place_11 : decode cX7_place 11 = .ok (.getfield 122, 3) := by decide +kernel
theorem dX7_place_14 : decode cX7_place 14 = .ok (.aload_n 0, 1) := by decide +kernel
theorem dX7_place_15 : decode cX7_place 15 = .ok (.getfield 116, 3) := by decide +kernel
theorem dX7_place_18 : decode cX7_place 18 = .ok (.iaload, 1) := by decide +kernel
theorem dX7_place_19 : decode cX7_place 19 = .ok (.if_icmp .ge 55, 3) := by decide +kernel
theorem dX7_place_22 : decode cX7_place 22 = .ok (.iload_n 1, 1) := by decide +kernel
theorem dX7_place_23 : decode cX7_place 23 = .ok (.iload_n 3, 1) := by decide +kernel
theorem dX7_place_24 : decode cX7_place 24 = .ok (.ishr, 1) := by decide +kernel
theorem dX7_place_25 : decode cX7_place 25 = .ok (.iconst 1, 1) := by decide +kernel
theorem dX7_place_26 : decode cX7_place 26 = .ok (.iand, 1) := by decide +kernel
theorem dX7_place_27 : decode cX7_place 27 = .ok (.ifCond .eq 20, 3) := by decide +kernel
theorem dX7_place_30 : decode cX7_place 30 = .ok (.aload_n 0, 1) := by decide +kernel
theorem dX7_place_31 : decode cX7_place 31 = .ok (.getfield 310, 3) := by decide +kernel
theorem dX7_place_34 : decode cX7_place 34 = .ok (.iload_n 3, 1) := by decide +kernel
theorem dX7_place_35 : decode cX7_place 35 = .ok (.iaload, 1) := by decide +kernel
theorem dX7_place_36 : decode cX7_place 36 = .ok (.iload_n 1, 1) := by decide +kernel
theorem dX7_place_37 : decode cX7_place 37 = .ok (.iand, 1) := by decide +kernel
theorem dX7_place_38 : decode cX7_place 38 = .ok (.iconst 1, 1) := by decide +kernel
theorem dX7_place_39 : decode cX7_place 39 = .ok (.iload_n 3, 1) := by decide +kernel
theorem dX7_place_40 : decode cX7_place 40 = .ok (.ishl, 1) := by decide +kernel
theorem dX7_place_41 : decode cX7_place 41 = .ok (.iconst (-1), 1) := by decide +kernel
theorem dX7_place_42 : decode cX7_place 42 = .ok (.ixor, 1) := by decide +kernel
theorem dX7_place_43 : decode cX7_place 43 = .ok (.iand, 1) := by decide +kernel
theorem dX7_place_44 : decode cX7_place 44 = .ok (.ifCond .eq 9, 3) := by decide +kernel
theorem dX7_place_47 : decode cX7_place 47 = .ok (.iinc 3 1, 3) := by decide +kernel
theorem dX7_place_50 : decode cX7_place 50 = .ok (.goto (-41), 3) := by decide +kernel
theorem dX7_place_53 : decode cX7_place 53 = .ok (.aload_n 0, 1) := by decide +kernel
theorem dX7_place_54 : decode cX7_place 54 = .ok (.getfield 343, 3) := by decide +kernel
theorem dX7_place_57 : decode cX7_place 57 = .ok (.iload_n 2, 1) := by decide +kernel
theorem dX7_place_58 : decode cX7_place 58 = .ok (.iload_n 3, 1) := by decide +kernel
theorem dX7_place_59 : decode cX7_place 59 = .ok (.iastore, 1) := by decide +kernel
theorem dX7_place_60 : decode cX7_place 60 = .ok (.iinc 2 1, 3) := by decide +kernel
theorem dX7_place_63 : decode cX7_place 63 = .ok (.iload_n 1, 1) := by decide +kernel
theorem dX7_place_64 : decode cX7_place 64 = .ok (.iconst 1, 1) := by decide +kernel
theorem dX7_place_65 : decode cX7_place 65 = .ok (.iload_n 3, 1) := by decide +kernel
theorem dX7_place_66 : decode cX7_place 66 = .ok (.ishl, 1) := by decide +kernel
theorem dX7_place_67 : decode cX7_place 67 = .ok (.ixor, 1) := by decide +kernel
theorem dX7_place_68 : decode cX7_place 68 = .ok (.istore_n 1, 1) := by decide +kernel
theorem dX7_place_69 : decode cX7_place 69 = .ok (.iconst 0, 1) := by decide +kernel
theorem dX7_place_70 : decode cX7_place 70 = .ok (.istore_n 3, 1) := by decide +kernel
theorem dX7_place_71 : decode cX7_place 71 = .ok (.goto (-62), 3) := by decide +kernel
theorem dX7_place_74 : decode cX7_place 74 = .ok (.iload_n 2, 1) := by decide +kernel
theorem dX7_place_75 : decode cX7_place 75 = .ok (.ireturn, 1) := by decide +kernel
theorem dX7_order_0 : decode cX7_order 0 = .ok (.aload_n 0, 1) := by decide +kernel
theorem dX7_order_1 : decode cX7_order 1 = .ok (.invokevirtual 340, 3) := by decide +kernel
theorem dX7_order_4 : decode cX7_order 4 = .ok (.ifCond .lt 15, 3) := by decide +kernel
theorem dX7_order_7 : decode cX7_order 7 = .ok (.iload_n 1, 1) := by decide +kernel
theorem dX7_order_8 : decode cX7_order 8 = .ok (.ifCond .lt 11, 3) := by decide +kernel
theorem dX7_order_11 : decode cX7_order 11 = .ok (.iload_n 1, 1) := by decide +kernel
theorem dX7_order_12 : decode cX7_order 12 = .ok (.aload_n 0, 1) := by decide +kernel
theorem dX7_order_13 : decode cX7_order 13 = .ok (.invokevirtual 346, 3) := by decide +kernel
theorem dX7_order_16 : decode cX7_order 16 = .ok (.if_icmp .lt 7, 3) := by decide +kernel
theorem dX7_order_19 : decode cX7_order 19 = .ok (.iconst (-1), 1) := by decide +kernel
theorem dX7_order_20 : decode cX7_order 20 = .ok (.goto 9, 3) := by decide +kernel
theorem dX7_order_23 : decode cX7_order 23 = .ok (.aload_n 0, 1) := by decide +kernel
theorem dX7_order_24 : decode cX7_order 24 = .ok (.getfield 343, 3) := by decide +kernel
theorem dX7_order_27 : decode cX7_order 27 = .ok (.iload_n 1, 1) := by decide +kernel
theorem dX7_order_28 : decode cX7_order 28 = .ok (.iaload, 1) := by decide +kernel
theorem dX7_order_29 : decode cX7_order 29 = .ok (.ireturn, 1) := by decide +kernel
theorem dX7_rings_0 : decode cX7_rings 0 = .ok (.aload_n 0, 1) := by decide +kernel
theorem dX7_rings_1 : decode cX7_rings 1 = .ok (.invokevirtual 340, 3) := by decide +kernel
theorem dX7_rings_4 : decode cX7_rings 4 = .ok (.ifCond .ge 7, 3) := by decide +kernel
theorem dX7_rings_7 : decode cX7_rings 7 = .ok (.iconst (-1), 1) := by decide +kernel
theorem dX7_rings_8 : decode cX7_rings 8 = .ok (.goto 15, 3) := by decide +kernel
theorem dX7_rings_11 : decode cX7_rings 11 = .ok (.aload_n 0, 1) := by decide +kernel
theorem dX7_rings_12 : decode cX7_rings 12 = .ok (.getfield 328, 3) := by decide +kernel
theorem dX7_rings_15 : decode cX7_rings 15 = .ok (.invokestatic 322, 3) := by decide +kernel
theorem dX7_rings_18 : decode cX7_rings 18 = .ok (.aload_n 0, 1) := by decide +kernel
theorem dX7_rings_19 : decode cX7_rings 19 = .ok (.invokevirtual 346, 3) := by decide +kernel
theorem dX7_rings_22 : decode cX7_rings 22 = .ok (.isub, 1) := by decide +kernel
theorem dX7_rings_23 : decode cX7_rings 23 = .ok (.ireturn, 1) := by decide +kernel
theorem dX7_init_0 : decode cX7_init 0 = .ok (.aload_n 0, 1) := by decide +kernel
theorem dX7_init_1 : decode cX7_init 1 = .ok (.invokespecial 349, 3) := by decide +kernel
theorem dX7_init_4 : decode cX7_init 4 = .ok (.aload_n 0, 1) := by decide +kernel
theorem dX7_init_5 : decode cX7_init 5 = .ok (.sipush 1220, 3) := by decide +kernel
theorem dX7_init_8 : decode cX7_init 8 = .ok (.newarray .byte, 2) := by decide +kernel
theorem dX7_init_10 : decode cX7_init 10 = .ok (.putfield 95, 3) := by decide +kernel
theorem dX7_init_13 : decode cX7_init 13 = .ok (.aload_n 0, 1) := by decide +kernel
theorem dX7_init_14 : decode cX7_init 14 = .ok (.sipush 1200, 3) := by decide +kernel
theorem dX7_init_17 : decode cX7_init 17 = .ok (.newarray .byte, 2) := by decide +kernel
theorem dX7_init_19 : decode cX7_init 19 = .ok (.putfield 7, 3) := by decide +kernel
theorem dX7_init_22 : decode cX7_init 22 = .ok (.aload_n 0, 1) := by decide +kernel
theorem dX7_init_23 : decode cX7_init 23 = .ok (.iconst (-1), 1) := by decide +kernel
theorem dX7_init_24 : decode cX7_init 24 = .ok (.putfield 14, 3) := by decide +kernel
theorem dX7_init_27 : decode cX7_init 27 = .ok (.aload_n 0, 1) := by decide +kernel
theorem dX7_init_28 : decode cX7_init 28 = .ok (.bipush 10, 2) := by decide +kernel
theorem dX7_init_30 : decode cX7_init 30 = .ok (.newarray .long, 2) := by decide +kernel
theorem dX7_init_32 : decode cX7_init 32 = .ok (.putfield 102, 3) := by decide +kernel
theorem dX7_init_35 : decode cX7_init 35 = .ok (.aload_n 0, 1) := by decide +kernel
theorem dX7_init_36 : decode cX7_init 36 = .ok (.bipush 50, 2) := by decide +kernel
theorem dX7_init_38 : decode cX7_init 38 = .ok (.newarray .long, 2) := by decide +kernel
theorem dX7_init_40 : decode cX7_init 40 = .ok (.putfield 109, 3) := by decide +kernel
theorem dX7_init_43 : decode cX7_init 43 = .ok (.aload_n 0, 1) := by decide +kernel
theorem dX7_init_44 : decode cX7_init 44 = .ok (.bipush 10, 2) := by decide +kernel
theorem dX7_init_46 : decode cX7_init 46 = .ok (.newarray .int, 2) := by decide +kernel
theorem dX7_init_48 : decode cX7_init 48 = .ok (.putfield 106, 3) := by decide +kernel
theorem dX7_init_51 : decode cX7_init 51 = .ok (.aload_n 0, 1) := by decide +kernel
theorem dX7_init_52 : decode cX7_init 52 = .ok (.bipush 10, 2) := by decide +kernel
theorem dX7_init_54 : decode cX7_init 54 = .ok (.newarray .int, 2) := by decide +kernel
theorem dX7_init_56 : decode cX7_init 56 = .ok (.putfield 160, 3) := by decide +kernel
theorem dX7_init_59 : decode cX7_init 59 = .ok (.aload_n 0, 1) := by decide +kernel
theorem dX7_init_60 : decode cX7_init 60 = .ok (.bipush 50, 2) := by decide +kernel
theorem dX7_init_62 : decode cX7_init 62 = .ok (.newarray .int, 2) := by decide +kernel
theorem dX7_init_64 : decode cX7_init 64 = .ok (.putfield 175, 3) := by decide +kernel
theorem dX7_init_67 : decode cX7_init 67 = .ok (.aload_n 0, 1) := by decide +kernel
theorem dX7_init_68 : decode cX7_init 68 = .ok (.bipush 32, 2) := by decide +kernel
theorem dX7_init_70 : decode cX7_init 70 = .ok (.newarray .int, 2) := by decide +kernel
theorem dX7_init_72 : decode cX7_init 72 = .ok (.putfield 182, 3) := by decide +kernel
theorem dX7_init_75 : decode cX7_init 75 = .ok (.aload_n 0, 1) := by decide +kernel
theorem dX7_init_76 : decode cX7_init 76 = .ok (.bipush 32, 2) := by decide +kernel
theorem dX7_init_78 : decode cX7_init 78 = .ok (.newarray .int, 2) := by decide +kernel
theorem dX7_init_80 : decode cX7_init 80 = .ok (.putfield 185, 3) := by decide +kernel
theorem dX7_init_83 : decode cX7_init 83 = .ok (.aload_n 0, 1) := by decide +kernel
theorem dX7_init_84 : decode cX7_init 84 = .ok (.sipush 160, 3) := by decide +kernel
theorem dX7_init_87 : decode cX7_init 87 = .ok (.newarray .int, 2) := by decide +kernel
theorem dX7_init_89 : decode cX7_init 89 = .ok (.putfield 188, 3) := by decide +kernel
theorem dX7_init_92 : decode cX7_init 92 = .ok (.aload_n 0, 1) := by decide +kernel
theorem dX7_init_93 : decode cX7_init 93 = .ok (.sipush 160, 3) := by decide +kernel
theorem dX7_init_96 : decode cX7_init 96 = .ok (.newarray .int, 2) := by decide +kernel
theorem dX7_init_98 : decode cX7_init 98 = .ok (.putfield 191, 3) := by decide +kernel
theorem dX7_init_101 : decode cX7_init 101 = .ok (.aload_n 0, 1) := by decide +kernel
theorem dX7_init_102 : decode cX7_init 102 = .ok (.iconst 2, 1) := by decide +kernel
theorem dX7_init_103 : decode cX7_init 103 = .ok (.newarray .int, 2) := by decide +kernel
theorem dX7_init_105 : decode cX7_init 105 = .ok (.putfield 98, 3) := by decide +kernel
theorem dX7_init_108 : decode cX7_init 108 = .ok (.aload_n 0, 1) := by decide +kernel
theorem dX7_init_109 : decode cX7_init 109 = .ok (.iconst 2, 1) := by decide +kernel
theorem dX7_init_110 : decode cX7_init 110 = .ok (.newarray .int, 2) := by decide +kernel
theorem dX7_init_112 : decode cX7_init 112 = .ok (.putfield 122, 3) := by decide +kernel
theorem dX7_init_115 : decode cX7_init 115 = .ok (.aload_n 0, 1) := by decide +kernel
theorem dX7_init_116 : decode cX7_init 116 = .ok (.iconst 2, 1) := by decide +kernel
theorem dX7_init_117 : decode cX7_init 117 = .ok (.newarray .int, 2) := by decide +kernel
theorem dX7_init_119 : decode cX7_init 119 = .ok (.putfield 138, 3) := by decide +kernel
theorem dX7_init_122 : decode cX7_init 122 = .ok (.aload_n 0, 1) := by decide +kernel
theorem dX7_init_123 : decode cX7_init 123 = .ok (.bipush 20, 2) := by decide +kernel
theorem dX7_init_125 : decode cX7_init 125 = .ok (.newarray .int, 2) := by decide +kernel
theorem dX7_init_127 : decode cX7_init 127 = .ok (.putfield 229, 3) := by decide +kernel
theorem dX7_init_130 : decode cX7_init 130 = .ok (.aload_n 0, 1) := by decide +kernel
theorem dX7_init_131 : decode cX7_init 131 = .ok (.bipush 20, 2) := by decide +kernel
theorem dX7_init_133 : decode cX7_init 133 = .ok (.newarray .int, 2) := by decide +kernel
theorem dX7_init_135 : decode cX7_init 135 = .ok (.putfield 236, 3) := by decide +kernel
theorem dX7_init_138 : decode cX7_init 138 = .ok (.aload_n 0, 1) := by decide +kernel
theorem dX7_init_139 : decode cX7_init 139 = .ok (.bipush 20, 2) := by decide +kernel
theorem dX7_init_141 : decode cX7_init 141 = .ok (.newarray .int, 2) := by decide +kernel
theorem dX7_init_143 : decode cX7_init 143 = .ok (.putfield 226, 3) := by decide +kernel
theorem dX7_init_146 : decode cX7_init 146 = .ok (.aload_n 0, 1) := by decide +kernel
theorem dX7_init_147 : decode cX7_init 147 = .ok (.bipush 20, 2) := by decide +kernel
theorem dX7_init_149 : decode cX7_init 149 = .ok (.newarray .int, 2) := by decide +kernel
theorem dX7_init_151 : decode cX7_init 151 = .ok (.putfield 254, 3) := by decide +kernel
theorem dX7_init_154 : decode cX7_init 154 = .ok (.aload_n 0, 1) := by decide +kernel
theorem dX7_init_155 : decode cX7_init 155 = .ok (.bipush 20, 2) := by decide +kernel
theorem dX7_init_157 : decode cX7_init 157 = .ok (.newarray .int, 2) := by decide +kernel
theorem dX7_init_159 : decode cX7_init 159 = .ok (.putfield 245, 3) := by decide +kernel
theorem dX7_init_162 : decode cX7_init 162 = .ok (.aload_n 0, 1) := by decide +kernel
theorem dX7_init_163 : decode cX7_init 163 = .ok (.bipush 20, 2) := by decide +kernel
theorem dX7_init_165 : decode cX7_init 165 = .ok (.newarray .int, 2) := by decide +kernel
theorem dX7_init_167 : decode cX7_init 167 = .ok (.putfield 251, 3) := by decide +kernel
theorem dX7_init_170 : decode cX7_init 170 = .ok (.aload_n 0, 1) := by decide +kernel
theorem dX7_init_171 : decode cX7_init 171 = .ok (.sipush 1200, 3) := by decide +kernel
theorem dX7_init_174 : decode cX7_init 174 = .ok (.newarray .int, 2) := by decide +kernel
theorem dX7_init_176 : decode cX7_init 176 = .ok (.putfield 257, 3) := by decide +kernel
theorem dX7_init_179 : decode cX7_init 179 = .ok (.aload_n 0, 1) := by decide +kernel
theorem dX7_init_180 : decode cX7_init 180 = .ok (.sipush 1200, 3) := by decide +kernel
theorem dX7_init_183 : decode cX7_init 183 = .ok (.newarray .int, 2) := by decide +kernel
theorem dX7_init_185 : decode cX7_init 185 = .ok (.putfield 260, 3) := by decide +kernel
theorem dX7_init_188 : decode cX7_init 188 = .ok (.aload_n 0, 1) := by decide +kernel
theorem dX7_init_189 : decode cX7_init 189 = .ok (.bipush 80, 2) := by decide +kernel
theorem dX7_init_191 : decode cX7_init 191 = .ok (.newarray .int, 2) := by decide +kernel
theorem dX7_init_193 : decode cX7_init 193 = .ok (.putfield 287, 3) := by decide +kernel
theorem dX7_init_196 : decode cX7_init 196 = .ok (.aload_n 0, 1) := by decide +kernel
theorem dX7_init_197 : decode cX7_init 197 = .ok (.bipush 80, 2) := by decide +kernel
theorem dX7_init_199 : decode cX7_init 199 = .ok (.newarray .int, 2) := by decide +kernel
theorem dX7_init_201 : decode cX7_init 201 = .ok (.putfield 293, 3) := by decide +kernel
theorem dX7_init_204 : decode cX7_init 204 = .ok (.aload_n 0, 1) := by decide +kernel
theorem dX7_init_205 : decode cX7_init 205 = .ok (.sipush 320, 3) := by decide +kernel
theorem dX7_init_208 : decode cX7_init 208 = .ok (.newarray .int, 2) := by decide +kernel
theorem dX7_init_210 : decode cX7_init 210 = .ok (.putfield 290, 3) := by decide +kernel
theorem dX7_init_213 : decode cX7_init 213 = .ok (.aload_n 0, 1) := by decide +kernel
theorem dX7_init_214 : decode cX7_init 214 = .ok (.bipush 60, 2) := by decide +kernel
theorem dX7_init_216 : decode cX7_init 216 = .ok (.newarray .int, 2) := by decide +kernel
theorem dX7_init_218 : decode cX7_init 218 = .ok (.putfield 263, 3) := by decide +kernel
theorem dX7_init_221 : decode cX7_init 221 = .ok (.aload_n 0, 1) := by decide +kernel
theorem dX7_init_222 : decode cX7_init 222 = .ok (.bipush 50, 2) := by decide +kernel
theorem dX7_init_224 : decode cX7_init 224 = .ok (.newarray .boolean, 2) := by decide +kernel
theorem dX7_init_226 : decode cX7_init 226 = .ok (.putfield 299, 3) := by decide +kernel
theorem dX7_init_229 : decode cX7_init 229 = .ok (.aload_n 0, 1) := by decide +kernel
theorem dX7_init_230 : decode cX7_init 230 = .ok (.bipush 16, 2) := by decide +kernel
theorem dX7_init_232 : decode cX7_init 232 = .ok (.newarray .int, 2) := by decide +kernel
theorem dX7_init_234 : decode cX7_init 234 = .ok (.putfield 310, 3) := by decide +kernel
theorem dX7_init_237 : decode cX7_init 237 = .ok (.aload_n 0, 1) := by decide +kernel
theorem dX7_init_238 : decode cX7_init 238 = .ok (.bipush 10, 2) := by decide +kernel
theorem dX7_init_240 : decode cX7_init 240 = .ok (.newarray .int, 2) := by decide +kernel
theorem dX7_init_242 : decode cX7_init 242 = .ok (.putfield 316, 3) := by decide +kernel
theorem dX7_init_245 : decode cX7_init 245 = .ok (.aload_n 0, 1) := by decide +kernel
theorem dX7_init_246 : decode cX7_init 246 = .ok (.sipush 160, 3) := by decide +kernel
theorem dX7_init_249 : decode cX7_init 249 = .ok (.newarray .int, 2) := by decide +kernel
theorem dX7_init_251 : decode cX7_init 251 = .ok (.putfield 319, 3) := by decide +kernel
theorem dX7_init_254 : decode cX7_init 254 = .ok (.aload_n 0, 1) := by decide +kernel
theorem dX7_init_255 : decode cX7_init 255 = .ok (.bipush 16, 2) := by decide +kernel
theorem dX7_init_257 : decode cX7_init 257 = .ok (.newarray .int, 2) := by decide +kernel
theorem dX7_init_259 : decode cX7_init 259 = .ok (.putfield 343, 3) := by decide +kernel
theorem dX7_init_262 : decode cX7_init 262 = .ok (.aload_n 0, 1) := by decide +kernel
theorem dX7_init_263 : decode cX7_init 263 = .ok (.bipush 25, 2) := by decide +kernel
theorem dX7_init_265 : decode cX7_init 265 = .ok (.newarray .int, 2) := by decide +kernel
theorem dX7_init_267 : decode cX7_init 267 = .ok (.putfield 150, 3) := by decide +kernel
theorem dX7_init_270 : decode cX7_init 270 = .ok (.iconst 0, 1) := by decide +kernel
theorem dX7_init_271 : decode cX7_init 271 = .ok (.istore_n 1, 1) := by decide +kernel
theorem dX7_init_272 : decode cX7_init 272 = .ok (.iload_n 1, 1) := by decide +kernel
theorem dX7_init_273 : decode cX7_init 273 = .ok (.bipush 25, 2) := by decide +kernel
theorem dX7_init_275 : decode cX7_init 275 = .ok (.if_icmp .ge 16, 3) := by decide +kernel
theorem dX7_init_278 : decode cX7_init 278 = .ok (.aload_n 0, 1) := by decide +kernel
theorem dX7_init_279 : decode cX7_init 279 = .ok (.getfield 150, 3) := by decide +kernel
theorem dX7_init_282 : decode cX7_init 282 = .ok (.iload_n 1, 1) := by decide +kernel
theorem dX7_init_283 : decode cX7_init 283 = .ok (.iconst (-1), 1) := by decide +kernel
theorem dX7_init_284 : decode cX7_init 284 = .ok (.iastore, 1) := by decide +kernel
theorem dX7_init_285 : decode cX7_init 285 = .ok (.iinc 1 1, 3) := by decide +kernel
theorem dX7_init_288 : decode cX7_init 288 = .ok (.goto (-16), 3) := by decide +kernel
theorem dX7_init_291 : decode cX7_init 291 = .ok (.return_, 1) := by decide +kernel
theorem dX7_isPlain_0 : decode cX7_isPlain 0 = .ok (.iload_n 1, 1) := by decide +kernel
theorem dX7_isPlain_1 : decode cX7_isPlain 1 = .ok (.ifCond .lt 61, 3) := by decide +kernel
theorem dX7_isPlain_4 : decode cX7_isPlain 4 = .ok (.iload_n 1, 1) := by decide +kernel
theorem dX7_isPlain_5 : decode cX7_isPlain 5 = .ok (.aload_n 0, 1) := by decide +kernel
theorem dX7_isPlain_6 : decode cX7_isPlain 6 = .ok (.getfield 98, 3) := by decide +kernel
theorem dX7_isPlain_9 : decode cX7_isPlain 9 = .ok (.aload_n 0, 1) := by decide +kernel
theorem dX7_isPlain_10 : decode cX7_isPlain 10 = .ok (.getfield 116, 3) := by decide +kernel
theorem dX7_isPlain_13 : decode cX7_isPlain 13 = .ok (.iaload, 1) := by decide +kernel
theorem dX7_isPlain_14 : decode cX7_isPlain 14 = .ok (.if_icmp .ge 48, 3) := by decide +kernel
theorem dX7_isPlain_17 : decode cX7_isPlain 17 = .ok (.iload_n 2, 1) := by decide +kernel
theorem dX7_isPlain_18 : decode cX7_isPlain 18 = .ok (.ifCond .lt 44, 3) := by decide +kernel
theorem dX7_isPlain_21 : decode cX7_isPlain 21 = .ok (.iload_n 2, 1) := by decide +kernel
theorem dX7_isPlain_22 : decode cX7_isPlain 22 = .ok (.aload_n 0, 1) := by decide +kernel
theorem dX7_isPlain_23 : decode cX7_isPlain 23 = .ok (.getfield 106, 3) := by decide +kernel
theorem dX7_isPlain_26 : decode cX7_isPlain 26 = .ok (.iconst 5, 1) := by decide +kernel
theorem dX7_isPlain_27 : decode cX7_isPlain 27 = .ok (.aload_n 0, 1) := by decide +kernel
theorem dX7_isPlain_28 : decode cX7_isPlain 28 = .ok (.getfield 116, 3) := by decide +kernel
theorem dX7_isPlain_31 : decode cX7_isPlain 31 = .ok (.imul, 1) := by decide +kernel
theorem dX7_isPlain_32 : decode cX7_isPlain 32 = .ok (.iload_n 1, 1) := by decide +kernel
theorem dX7_isPlain_33 : decode cX7_isPlain 33 = .ok (.iadd, 1) := by decide +kernel
theorem dX7_isPlain_34 : decode cX7_isPlain 34 = .ok (.iaload, 1) := by decide +kernel
theorem dX7_isPlain_35 : decode cX7_isPlain 35 = .ok (.if_icmp .ge 27, 3) := by decide +kernel
theorem dX7_isPlain_38 : decode cX7_isPlain 38 = .ok (.aload_n 0, 1) := by decide +kernel
theorem dX7_isPlain_39 : decode cX7_isPlain 39 = .ok (.getfield 175, 3) := by decide +kernel
theorem dX7_isPlain_42 : decode cX7_isPlain 42 = .ok (.iconst 5, 1) := by decide +kernel
theorem dX7_isPlain_43 : decode cX7_isPlain 43 = .ok (.iconst 5, 1) := by decide +kernel
theorem dX7_isPlain_44 : decode cX7_isPlain 44 = .ok (.aload_n 0, 1) := by decide +kernel
theorem dX7_isPlain_45 : decode cX7_isPlain 45 = .ok (.getfield 116, 3) := by decide +kernel
theorem dX7_isPlain_48 : decode cX7_isPlain 48 = .ok (.imul, 1) := by decide +kernel
theorem dX7_isPlain_49 : decode cX7_isPlain 49 = .ok (.iload_n 1, 1) := by decide +kernel
theorem dX7_isPlain_50 : decode cX7_isPlain 50 = .ok (.iadd, 1) := by decide +kernel
theorem dX7_isPlain_51 : decode cX7_isPlain 51 = .ok (.imul, 1) := by decide +kernel
theorem dX7_isPlain_52 : decode cX7_isPlain 52 = .ok (.iload_n 2, 1) := by decide +kernel
theorem dX7_isPlain_53 : decode cX7_isPlain 53 = .ok (.iadd, 1) := by decide +kernel
theorem dX7_isPlain_54 : decode cX7_isPlain 54 = .ok (.iaload, 1) := by decide +kernel
theorem dX7_isPlain_55 : decode cX7_isPlain 55 = .ok (.ifCond .ge 7, 3) := by decide +kernel
theorem dX7_isPlain_58 : decode cX7_isPlain 58 = .ok (.iconst 1, 1) := by decide +kernel
theorem dX7_isPlain_59 : decode cX7_isPlain 59 = .ok (.goto 4, 3) := by decide +kernel
theorem dX7_isPlain_62 : decode cX7_isPlain 62 = .ok (.iconst 0, 1) := by decide +kernel
theorem dX7_isPlain_63 : decode cX7_isPlain 63 = .ok (.ireturn, 1) := by decide +kernel
theorem dX7_hide_0 : decode cX7_hide 0 = .ok (.aload_n 0, 1) := by decide +kernel
theorem dX7_hide_1 : decode cX7_hide 1 = .ok (.iload_n 1, 1) := by decide +kernel
theorem dX7_hide_2 : decode cX7_hide 2 = .ok (.iload_n 2, 1) := by decide +kernel
theorem dX7_hide_3 : decode cX7_hide 3 = .ok (.invokevirtual 354, 3) := by decide +kernel
theorem dX7_hide_6 : decode cX7_hide 6 = .ok (.ifCond .eq 15, 3) := by decide +kernel
theorem dX7_hide_9 : decode cX7_hide 9 = .ok (.iload_n 3, 1) := by decide +kernel
theorem dX7_hide_10 : decode cX7_hide 10 = .ok (.iconst (-1), 1) := by decide +kernel
theorem dX7_hide_11 : decode cX7_hide 11 = .ok (.if_icmp .lt 10, 3) := by decide +kernel
theorem dX7_hide_14 : decode cX7_hide 14 = .ok (.iload_n 3, 1) := by decide +kernel
theorem dX7_hide_15 : decode cX7_hide 15 = .ok (.sipush 9999, 3) := by decide +kernel
theorem dX7_hide_18 : decode cX7_hide 18 = .ok (.if_icmp .le 5, 3) := by decide +kernel
theorem dX7_hide_21 : decode cX7_hide 21 = .ok (.iconst 0, 1) := by decide +kernel
theorem dX7_hide_22 : decode cX7_hide 22 = .ok (.ireturn, 1) := by decide +kernel
theorem dX7_hide_23 : decode cX7_hide 23 = .ok (.aload_n 0, 1) := by decide +kernel
theorem dX7_hide_24 : decode cX7_hide 24 = .ok (.getfield 150, 3) := by decide +kernel
theorem dX7_hide_27 : decode cX7_hide 27 = .ok (.iconst 5, 1) := by decide +kernel
theorem dX7_hide_28 : decode cX7_hide 28 = .ok (.iload_n 1, 1) := by decide +kernel
theorem dX7_hide_29 : decode cX7_hide 29 = .ok (.imul, 1) := by decide +kernel
theorem dX7_hide_30 : decode cX7_hide 30 = .ok (.iload_n 2, 1) := by decide +kernel
theorem dX7_hide_31 : decode cX7_hide 31 = .ok (.iadd, 1) := by decide +kernel
theorem dX7_hide_32 : decode cX7_hide 32 = .ok (.iload_n 3, 1) := by decide +kernel
theorem dX7_hide_33 : decode cX7_hide 33 = .ok (.iastore, 1) := by decide +kernel
theorem dX7_hide_34 : decode cX7_hide 34 = .ok (.iconst 1, 1) := by decide +kernel
theorem dX7_hide_35 : decode cX7_hide 35 = .ok (.ireturn, 1) := by decide +kernel
theorem dX7_shown_0 : decode cX7_shown 0 = .ok (.aload_n 0, 1) := by decide +kernel
theorem dX7_shown_1 : decode cX7_shown 1 = .ok (.iload_n 1, 1) := by decide +kernel
theorem dX7_shown_2 : decode cX7_shown 2 = .ok (.iload_n 2, 1) := by decide +kernel
theorem dX7_shown_3 : decode cX7_shown 3 = .ok (.invokevirtual 357, 3) := by decide +kernel
theorem dX7_shown_6 : decode cX7_shown 6 = .ok (.istore_n 3, 1) := by decide +kernel
theorem dX7_shown_7 : decode cX7_shown 7 = .ok (.aload_n 0, 1) := by decide +kernel
theorem dX7_shown_8 : decode cX7_shown 8 = .ok (.iload_n 1, 1) := by decide +kernel
theorem dX7_shown_9 : decode cX7_shown 9 = .ok (.iload_n 2, 1) := by decide +kernel
theorem dX7_shown_10 : decode cX7_shown 10 = .ok (.invokevirtual 203, 3) := by decide +kernel
theorem dX7_shown_13 : decode cX7_shown 13 = .ok (.ifCond .eq 27, 3) := by decide +kernel
theorem dX7_shown_16 : decode cX7_shown 16 = .ok (.aload_n 0, 1) := by decide +kernel
theorem dX7_shown_17 : decode cX7_shown 17 = .ok (.getfield 150, 3) := by decide +kernel
theorem dX7_shown_20 : decode cX7_shown 20 = .ok (.iconst 5, 1) := by decide +kernel
theorem dX7_shown_21 : decode cX7_shown 21 = .ok (.aload_n 0, 1) := by decide +kernel
theorem dX7_shown_22 : decode cX7_shown 22 = .ok (.iload_n 1, 1) := by decide +kernel
theorem dX7_shown_23 : decode cX7_shown 23 = .ok (.invokevirtual 194, 3) := by decide +kernel
theorem dX7_shown_26 : decode cX7_shown 26 = .ok (.iconst 5, 1) := by decide +kernel
theorem dX7_shown_27 : decode cX7_shown 27 = .ok (.aload_n 0, 1) := by decide +kernel
theorem dX7_shown_28 : decode cX7_shown 28 = .ok (.getfield 116, 3) := by decide +kernel
theorem dX7_shown_31 : decode cX7_shown 31 = .ok (.imul, 1) := by decide +kernel
theorem dX7_shown_32 : decode cX7_shown 32 = .ok (.isub, 1) := by decide +kernel
theorem dX7_shown_33 : decode cX7_shown 33 = .ok (.imul, 1) := by decide +kernel
theorem dX7_shown_34 : decode cX7_shown 34 = .ok (.iload_n 2, 1) := by decide +kernel
theorem dX7_shown_35 : decode cX7_shown 35 = .ok (.iadd, 1) := by decide +kernel
theorem dX7_shown_36 : decode cX7_shown 36 = .ok (.iaload, 1) := by decide +kernel
theorem dX7_shown_37 : decode cX7_shown 37 = .ok (.goto 4, 3) := by decide +kernel
theorem dX7_shown_40 : decode cX7_shown 40 = .ok (.iconst (-1), 1) := by decide +kernel
theorem dX7_shown_41 : decode cX7_shown 41 = .ok (.istore 4, 2) := by decide +kernel
theorem dX7_shown_43 : decode cX7_shown 43 = .ok (.iload_n 3, 1) := by decide +kernel
theorem dX7_shown_44 : decode cX7_shown 44 = .ok (.ifCond .lt 8, 3) := by decide +kernel
theorem dX7_shown_47 : decode cX7_shown 47 = .ok (.iload 4, 2) := by decide +kernel
theorem dX7_shown_49 : decode cX7_shown 49 = .ok (.ifCond .ge 7, 3) := by decide +kernel
theorem dX7_shown_52 : decode cX7_shown 52 = .ok (.iload_n 3, 1) := by decide +kernel
theorem dX7_shown_53 : decode cX7_shown 53 = .ok (.goto 22, 3) := by decide +kernel
theorem dX7_shown_56 : decode cX7_shown 56 = .ok (.iload_n 3, 1) := by decide +kernel
theorem dX7_shown_57 : decode cX7_shown 57 = .ok (.i2l, 1) := by decide +kernel
theorem dX7_shown_58 : decode cX7_shown 58 = .ok (.iconst 2, 1) := by decide +kernel
theorem dX7_shown_59 : decode cX7_shown 59 = .ok (.iload 4, 2) := by decide +kernel
theorem dX7_shown_61 : decode cX7_shown 61 = .ok (.imul, 1) := by decide +kernel
theorem dX7_shown_62 : decode cX7_shown 62 = .ok (.iconst 1, 1) := by decide +kernel
theorem dX7_shown_63 : decode cX7_shown 63 = .ok (.iadd, 1) := by decide +kernel
theorem dX7_shown_64 : decode cX7_shown 64 = .ok (.i2l, 1) := by decide +kernel
theorem dX7_shown_65 : decode cX7_shown 65 = .ok (.lmul, 1) := by decide +kernel
theorem dX7_shown_66 : decode cX7_shown 66 = .ok (.iload 4, 2) := by decide +kernel
theorem dX7_shown_68 : decode cX7_shown 68 = .ok (.i2l, 1) := by decide +kernel
theorem dX7_shown_69 : decode cX7_shown 69 = .ok (.ladd, 1) := by decide +kernel
theorem dX7_shown_70 : decode cX7_shown 70 = .ok (.ldc2_w 360, 3) := by decide +kernel
theorem dX7_shown_73 : decode cX7_shown 73 = .ok (.lrem, 1) := by decide +kernel
theorem dX7_shown_74 : decode cX7_shown 74 = .ok (.l2i, 1) := by decide +kernel
theorem dX7_shown_75 : decode cX7_shown 75 = .ok (.ireturn, 1) := by decide +kernel
theorem dX7_total_0 : decode cX7_total 0 = .ok (.iconst 0, 1) := by decide +kernel
theorem dX7_total_1 : decode cX7_total 1 = .ok (.istore 4, 2) := by decide +kernel
theorem dX7_total_3 : decode cX7_total 3 = .ok (.iconst 0, 1) := by decide +kernel
theorem dX7_total_4 : decode cX7_total 4 = .ok (.istore 5, 2) := by decide +kernel
theorem dX7_total_6 : decode cX7_total 6 = .ok (.iload 5, 2) := by decide +kernel
theorem dX7_total_8 : decode cX7_total 8 = .ok (.aload_n 0, 1) := by decide +kernel
theorem dX7_total_9 : decode cX7_total 9 = .ok (.getfield 122, 3) := by decide +kernel
theorem dX7_total_12 : decode cX7_total 12 = .ok (.aload_n 0, 1) := by decide +kernel
theorem dX7_total_13 : decode cX7_total 13 = .ok (.getfield 116, 3) := by decide +kernel
theorem dX7_total_16 : decode cX7_total 16 = .ok (.iaload, 1) := by decide +kernel
theorem dX7_total_17 : decode cX7_total 17 = .ok (.if_icmp .ge 60, 3) := by decide +kernel
theorem dX7_total_20 : decode cX7_total 20 = .ok (.iload_n 3, 1) := by decide +kernel
theorem dX7_total_21 : decode cX7_total 21 = .ok (.iload 5, 2) := by decide +kernel
theorem dX7_total_23 : decode cX7_total 23 = .ok (.ishr, 1) := by decide +kernel
theorem dX7_total_24 : decode cX7_total 24 = .ok (.iconst 1, 1) := by decide +kernel
theorem dX7_total_25 : decode cX7_total 25 = .ok (.iand, 1) := by decide +kernel
theorem dX7_total_26 : decode cX7_total 26 = .ok (.ifCond .eq 45, 3) := by decide +kernel
theorem dX7_total_29 : decode cX7_total 29 = .ok (.aload_n 0, 1) := by decide +kernel
theorem dX7_total_30 : decode cX7_total 30 = .ok (.iload 5, 2) := by decide +kernel
theorem dX7_total_32 : decode cX7_total 32 = .ok (.invokevirtual 194, 3) := by decide +kernel
theorem dX7_total_35 : decode cX7_total 35 = .ok (.iconst 5, 1) := by decide +kernel
theorem dX7_total_36 : decode cX7_total 36 = .ok (.aload_n 0, 1) := by decide +kernel
theorem dX7_total_37 : decode cX7_total 37 = .ok (.getfield 116, 3) := by decide +kernel
theorem dX7_total_40 : decode cX7_total 40 = .ok (.imul, 1) := by decide +kernel
theorem dX7_total_41 : decode cX7_total 41 = .ok (.iload_n 1, 1) := by decide +kernel
theorem dX7_total_42 : decode cX7_total 42 = .ok (.iadd, 1) := by decide +kernel
theorem dX7_total_43 : decode cX7_total 43 = .ok (.if_icmp .ne 28, 3) := by decide +kernel
theorem dX7_total_46 : decode cX7_total 46 = .ok (.aload_n 0, 1) := by decide +kernel
theorem dX7_total_47 : decode cX7_total 47 = .ok (.iload 5, 2) := by decide +kernel
theorem dX7_total_49 : decode cX7_total 49 = .ok (.iload_n 2, 1) := by decide +kernel
theorem dX7_total_50 : decode cX7_total 50 = .ok (.invokevirtual 207, 3) := by decide +kernel
theorem dX7_total_53 : decode cX7_total 53 = .ok (.ifCond .ge 6, 3) := by decide +kernel
theorem dX7_total_56 : decode cX7_total 56 = .ok (.goto 15, 3) := by decide +kernel
theorem dX7_total_59 : decode cX7_total 59 = .ok (.iload 4, 2) := by decide +kernel
theorem dX7_total_61 : decode cX7_total 61 = .ok (.aload_n 0, 1) := by decide +kernel
theorem dX7_total_62 : decode cX7_total 62 = .ok (.iload 5, 2) := by decide +kernel
theorem dX7_total_64 : decode cX7_total 64 = .ok (.iload_n 2, 1) := by decide +kernel
theorem dX7_total_65 : decode cX7_total 65 = .ok (.invokevirtual 207, 3) := by decide +kernel
theorem dX7_total_68 : decode cX7_total 68 = .ok (.iadd, 1) := by decide +kernel
theorem dX7_total_69 : decode cX7_total 69 = .ok (.istore 4, 2) := by decide +kernel
theorem dX7_total_71 : decode cX7_total 71 = .ok (.iinc 5 1, 3) := by decide +kernel
theorem dX7_total_74 : decode cX7_total 74 = .ok (.goto (-68), 3) := by decide +kernel
theorem dX7_total_77 : decode cX7_total 77 = .ok (.iload 4, 2) := by decide +kernel
theorem dX7_total_79 : decode cX7_total 79 = .ok (.ireturn, 1) := by decide +kernel
theorem dX7_weight_0 : decode cX7_weight 0 = .ok (.aload_n 0, 1) := by decide +kernel
theorem dX7_weight_1 : decode cX7_weight 1 = .ok (.iload_n 1, 1) := by decide +kernel
theorem dX7_weight_2 : decode cX7_weight 2 = .ok (.iload_n 2, 1) := by decide +kernel
theorem dX7_weight_3 : decode cX7_weight 3 = .ok (.invokevirtual 354, 3) := by decide +kernel
theorem dX7_weight_6 : decode cX7_weight 6 = .ok (.ifCond .eq 10, 3) := by decide +kernel
theorem dX7_weight_9 : decode cX7_weight 9 = .ok (.aload_n 0, 1) := by decide +kernel
theorem dX7_weight_10 : decode cX7_weight 10 = .ok (.invokevirtual 340, 3) := by decide +kernel
theorem dX7_weight_13 : decode cX7_weight 13 = .ok (.ifCond .ge 5, 3) := by decide +kernel
theorem dX7_weight_16 : decode cX7_weight 16 = .ok (.iconst (-1), 1) := by decide +kernel
theorem dX7_weight_17 : decode cX7_weight 17 = .ok (.ireturn, 1) := by decide +kernel
theorem dX7_weight_18 : decode cX7_weight 18 = .ok (.aload_n 0, 1) := by decide +kernel
theorem dX7_weight_19 : decode cX7_weight 19 = .ok (.iload_n 1, 1) := by decide +kernel
theorem dX7_weight_20 : decode cX7_weight 20 = .ok (.iload_n 2, 1) := by decide +kernel
theorem dX7_weight_21 : decode cX7_weight 21 = .ok (.aload_n 0, 1) := by decide +kernel
theorem dX7_weight_22 : decode cX7_weight 22 = .ok (.getfield 147, 3) := by decide +kernel
theorem dX7_weight_25 : decode cX7_weight 25 = .ok (.iconst (-1), 1) := by decide +kernel
theorem dX7_weight_26 : decode cX7_weight 26 = .ok (.ixor, 1) := by decide +kernel
theorem dX7_weight_27 : decode cX7_weight 27 = .ok (.invokevirtual 362, 3) := by decide +kernel
theorem dX7_weight_30 : decode cX7_weight 30 = .ok (.istore 4, 2) := by decide +kernel
theorem dX7_weight_32 : decode cX7_weight 32 = .ok (.aload_n 0, 1) := by decide +kernel
theorem dX7_weight_33 : decode cX7_weight 33 = .ok (.iload_n 1, 1) := by decide +kernel
theorem dX7_weight_34 : decode cX7_weight 34 = .ok (.iload_n 2, 1) := by decide +kernel
theorem dX7_weight_35 : decode cX7_weight 35 = .ok (.aload_n 0, 1) := by decide +kernel
theorem dX7_weight_36 : decode cX7_weight 36 = .ok (.getfield 328, 3) := by decide +kernel
theorem dX7_weight_39 : decode cX7_weight 39 = .ok (.invokevirtual 362, 3) := by decide +kernel
theorem dX7_weight_42 : decode cX7_weight 42 = .ok (.istore 5, 2) := by decide +kernel
theorem dX7_weight_44 : decode cX7_weight 44 = .ok (.iload 5, 2) := by decide +kernel
theorem dX7_weight_46 : decode cX7_weight 46 = .ok (.ifCond .ne 5, 3) := by decide +kernel
theorem dX7_weight_49 : decode cX7_weight 49 = .ok (.iconst (-1), 1) := by decide +kernel
theorem dX7_weight_50 : decode cX7_weight 50 = .ok (.ireturn, 1) := by decide +kernel
theorem dX7_weight_51 : decode cX7_weight 51 = .ok (.iload 4, 2) := by decide +kernel
theorem dX7_weight_53 : decode cX7_weight 53 = .ok (.istore 6, 2) := by decide +kernel
theorem dX7_weight_55 : decode cX7_weight 55 = .ok (.iload 5, 2) := by decide +kernel
theorem dX7_weight_57 : decode cX7_weight 57 = .ok (.istore 7, 2) := by decide +kernel
theorem dX7_weight_59 : decode cX7_weight 59 = .ok (.iload 7, 2) := by decide +kernel
theorem dX7_weight_61 : decode cX7_weight 61 = .ok (.ifCond .le 21, 3) := by decide +kernel
theorem dX7_weight_64 : decode cX7_weight 64 = .ok (.iload 6, 2) := by decide +kernel
theorem dX7_weight_66 : decode cX7_weight 66 = .ok (.iload 7, 2) := by decide +kernel
theorem dX7_weight_68 : decode cX7_weight 68 = .ok (.irem, 1) := by decide +kernel
theorem dX7_weight_69 : decode cX7_weight 69 = .ok (.istore 8, 2) := by decide +kernel
theorem dX7_weight_71 : decode cX7_weight 71 = .ok (.iload 7, 2) := by decide +kernel
theorem dX7_weight_73 : decode cX7_weight 73 = .ok (.istore 6, 2) := by decide +kernel
theorem dX7_weight_75 : decode cX7_weight 75 = .ok (.iload 8, 2) := by decide +kernel
theorem dX7_weight_77 : decode cX7_weight 77 = .ok (.istore 7, 2) := by decide +kernel
theorem dX7_weight_79 : decode cX7_weight 79 = .ok (.goto (-20), 3) := by decide +kernel
theorem dX7_weight_82 : decode cX7_weight 82 = .ok (.iload_n 3, 1) := by decide +kernel
theorem dX7_weight_83 : decode cX7_weight 83 = .ok (.ifCond .eq 8, 3) := by decide +kernel
theorem dX7_weight_86 : decode cX7_weight 86 = .ok (.iload 5, 2) := by decide +kernel
theorem dX7_weight_88 : decode cX7_weight 88 = .ok (.goto 5, 3) := by decide +kernel
theorem dX7_weight_91 : decode cX7_weight 91 = .ok (.iload 4, 2) := by decide +kernel
theorem dX7_weight_93 : decode cX7_weight 93 = .ok (.iload 6, 2) := by decide +kernel
theorem dX7_weight_95 : decode cX7_weight 95 = .ok (.idiv, 1) := by decide +kernel
theorem dX7_weight_96 : decode cX7_weight 96 = .ok (.ireturn, 1) := by decide +kernel
theorem dX7_about_0 : decode cX7_about 0 = .ok (.iload_n 1, 1) := by decide +kernel
theorem dX7_about_1 : decode cX7_about 1 = .ok (.tableswitch 87 0 5 #[39, 49, 59, 69, 77, 82], 39) := by decide +kernel
theorem dX7_about_40 : decode cX7_about 40 = .ok (.aload_n 0, 1) := by decide +kernel
theorem dX7_about_41 : decode cX7_about 41 = .ok (.getfield 98, 3) := by decide +kernel
theorem dX7_about_44 : decode cX7_about 44 = .ok (.aload_n 0, 1) := by decide +kernel
theorem dX7_about_45 : decode cX7_about 45 = .ok (.getfield 116, 3) := by decide +kernel
theorem dX7_about_48 : decode cX7_about 48 = .ok (.iaload, 1) := by decide +kernel
theorem dX7_about_49 : decode cX7_about 49 = .ok (.ireturn, 1) := by decide +kernel
theorem dX7_about_50 : decode cX7_about 50 = .ok (.aload_n 0, 1) := by decide +kernel
theorem dX7_about_51 : decode cX7_about 51 = .ok (.getfield 122, 3) := by decide +kernel
theorem dX7_about_54 : decode cX7_about 54 = .ok (.aload_n 0, 1) := by decide +kernel
theorem dX7_about_55 : decode cX7_about 55 = .ok (.getfield 116, 3) := by decide +kernel
theorem dX7_about_58 : decode cX7_about 58 = .ok (.iaload, 1) := by decide +kernel
theorem dX7_about_59 : decode cX7_about 59 = .ok (.ireturn, 1) := by decide +kernel
theorem dX7_about_60 : decode cX7_about 60 = .ok (.aload_n 0, 1) := by decide +kernel
theorem dX7_about_61 : decode cX7_about 61 = .ok (.getfield 138, 3) := by decide +kernel
theorem dX7_about_64 : decode cX7_about 64 = .ok (.aload_n 0, 1) := by decide +kernel
theorem dX7_about_65 : decode cX7_about 65 = .ok (.getfield 141, 3) := by decide +kernel
theorem dX7_about_68 : decode cX7_about 68 = .ok (.iaload, 1) := by decide +kernel
theorem dX7_about_69 : decode cX7_about 69 = .ok (.ireturn, 1) := by decide +kernel
theorem dX7_about_70 : decode cX7_about 70 = .ok (.aload_n 0, 1) := by decide +kernel
theorem dX7_about_71 : decode cX7_about 71 = .ok (.getfield 147, 3) := by decide +kernel
theorem dX7_about_74 : decode cX7_about 74 = .ok (.invokestatic 322, 3) := by decide +kernel
theorem dX7_about_77 : decode cX7_about 77 = .ok (.ireturn, 1) := by decide +kernel
theorem dX7_about_78 : decode cX7_about 78 = .ok (.aload_n 0, 1) := by decide +kernel
theorem dX7_about_79 : decode cX7_about 79 = .ok (.getfield 144, 3) := by decide +kernel
theorem dX7_about_82 : decode cX7_about 82 = .ok (.ireturn, 1) := by decide +kernel
theorem dX7_about_83 : decode cX7_about 83 = .ok (.aload_n 0, 1) := by decide +kernel
theorem dX7_about_84 : decode cX7_about 84 = .ok (.getfield 92, 3) := by decide +kernel
theorem dX7_about_87 : decode cX7_about 87 = .ok (.ireturn, 1) := by decide +kernel
theorem dX7_about_88 : decode cX7_about 88 = .ok (.iload_n 1, 1) := by decide +kernel
theorem dX7_about_89 : decode cX7_about 89 = .ok (.bipush 10, 2) := by decide +kernel
theorem dX7_about_91 : decode cX7_about 91 = .ok (.if_icmp .lt 36, 3) := by decide +kernel
theorem dX7_about_94 : decode cX7_about 94 = .ok (.iload_n 1, 1) := by decide +kernel
theorem dX7_about_95 : decode cX7_about 95 = .ok (.bipush 10, 2) := by decide +kernel
theorem dX7_about_97 : decode cX7_about 97 = .ok (.aload_n 0, 1) := by decide +kernel
theorem dX7_about_98 : decode cX7_about 98 = .ok (.getfield 98, 3) := by decide +kernel
theorem dX7_about_101 : decode cX7_about 101 = .ok (.aload_n 0, 1) := by decide +kernel
theorem dX7_about_102 : decode cX7_about 102 = .ok (.getfield 116, 3) := by decide +kernel
theorem dX7_about_105 : decode cX7_about 105 = .ok (.iaload, 1) := by decide +kernel
theorem dX7_about_106 : decode cX7_about 106 = .ok (.iadd, 1) := by decide +kernel
theorem dX7_about_107 : decode cX7_about 107 = .ok (.if_icmp .ge 20, 3) := by decide +kernel
theorem dX7_about_110 : decode cX7_about 110 = .ok (.aload_n 0, 1) := by decide +kernel
theorem dX7_about_111 : decode cX7_about 111 = .ok (.getfield 106, 3) := by decide +kernel
theorem dX7_about_114 : decode cX7_about 114 = .ok (.iconst 5, 1) := by decide +kernel
theorem dX7_about_115 : decode cX7_about 115 = .ok (.aload_n 0, 1) := by decide +kernel
theorem dX7_about_116 : decode cX7_about 116 = .ok (.getfield 116, 3) := by decide +kernel
theorem dX7_about_119 : decode cX7_about 119 = .ok (.imul, 1) := by decide +kernel
theorem dX7_about_120 : decode cX7_about 120 = .ok (.iload_n 1, 1) := by decide +kernel
theorem dX7_about_121 : decode cX7_about 121 = .ok (.iadd, 1) := by decide +kernel
theorem dX7_about_122 : decode cX7_about 122 = .ok (.bipush 10, 2) := by decide +kernel
theorem dX7_about_124 : decode cX7_about 124 = .ok (.isub, 1) := by decide +kernel
theorem dX7_about_125 : decode cX7_about 125 = .ok (.iaload, 1) := by decide +kernel
theorem dX7_about_126 : decode cX7_about 126 = .ok (.ireturn, 1) := by decide +kernel
theorem dX7_about_127 : decode cX7_about 127 = .ok (.iload_n 1, 1) := by decide +kernel
theorem dX7_about_128 : decode cX7_about 128 = .ok (.bipush 20, 2) := by decide +kernel
theorem dX7_about_130 : decode cX7_about 130 = .ok (.if_icmp .lt 38, 3) := by decide +kernel
theorem dX7_about_133 : decode cX7_about 133 = .ok (.iload_n 1, 1) := by decide +kernel
theorem dX7_about_134 : decode cX7_about 134 = .ok (.bipush 20, 2) := by decide +kernel
theorem dX7_about_136 : decode cX7_about 136 = .ok (.aload_n 0, 1) := by decide +kernel
theorem dX7_about_137 : decode cX7_about 137 = .ok (.getfield 98, 3) := by decide +kernel
theorem dX7_about_140 : decode cX7_about 140 = .ok (.aload_n 0, 1) := by decide +kernel
theorem dX7_about_141 : decode cX7_about 141 = .ok (.getfield 116, 3) := by decide +kernel
theorem dX7_about_144 : decode cX7_about 144 = .ok (.iaload, 1) := by decide +kernel
theorem dX7_about_145 : decode cX7_about 145 = .ok (.iadd, 1) := by decide +kernel
theorem dX7_about_146 : decode cX7_about 146 = .ok (.if_icmp .ge 22, 3) := by decide +kernel
theorem dX7_about_149 : decode cX7_about 149 = .ok (.aload_n 0, 1) := by decide +kernel
theorem dX7_about_150 : decode cX7_about 150 = .ok (.getfield 160, 3) := by decide +kernel
theorem dX7_about_153 : decode cX7_about 153 = .ok (.iconst 5, 1) := by decide +kernel
theorem dX7_about_154 : decode cX7_about 154 = .ok (.aload_n 0, 1) := by decide +kernel
theorem dX7_about_155 : decode cX7_about 155 = .ok (.getfield 116, 3) := by decide +kernel
theorem dX7_about_158 : decode cX7_about 158 = .ok (.imul, 1) := by decide +kernel
theorem dX7_about_159 : decode cX7_about 159 = .ok (.iload_n 1, 1) := by decide +kernel
theorem dX7_about_160 : decode cX7_about 160 = .ok (.iadd, 1) := by decide +kernel
theorem dX7_about_161 : decode cX7_about 161 = .ok (.bipush 20, 2) := by decide +kernel
theorem dX7_about_163 : decode cX7_about 163 = .ok (.isub, 1) := by decide +kernel
theorem dX7_about_164 : decode cX7_about 164 = .ok (.iaload, 1) := by decide +kernel
theorem dX7_about_165 : decode cX7_about 165 = .ok (.goto 4, 3) := by decide +kernel
theorem dX7_about_168 : decode cX7_about 168 = .ok (.iconst (-1), 1) := by decide +kernel
theorem dX7_about_169 : decode cX7_about 169 = .ok (.ireturn, 1) := by decide +kernel
theorem dX7_feed_0 : decode cX7_feed 0 = .ok (.aload_n 0, 1) := by decide +kernel
theorem dX7_feed_1 : decode cX7_feed 1 = .ok (.getfield 92, 3) := by decide +kernel
theorem dX7_feed_4 : decode cX7_feed 4 = .ok (.bipush 20, 2) := by decide +kernel
theorem dX7_feed_6 : decode cX7_feed 6 = .ok (.iadd, 1) := by decide +kernel
theorem dX7_feed_7 : decode cX7_feed 7 = .ok (.sipush 1200, 3) := by decide +kernel
theorem dX7_feed_10 : decode cX7_feed 10 = .ok (.if_icmp .le 5, 3) := by decide +kernel
theorem dX7_feed_13 : decode cX7_feed 13 = .ok (.iconst (-1), 1) := by decide +kernel
theorem dX7_feed_14 : decode cX7_feed 14 = .ok (.ireturn, 1) := by decide +kernel
theorem dX7_feed_15 : decode cX7_feed 15 = .ok (.iconst 0, 1) := by decide +kernel
theorem dX7_feed_16 : decode cX7_feed 16 = .ok (.istore 6, 2) := by decide +kernel
theorem dX7_feed_18 : decode cX7_feed 18 = .ok (.iload 6, 2) := by decide +kernel
theorem dX7_feed_20 : decode cX7_feed 20 = .ok (.bipush 20, 2) := by decide +kernel
theorem dX7_feed_22 : decode cX7_feed 22 = .ok (.if_icmp .ge 83, 3) := by decide +kernel
theorem dX7_feed_25 : decode cX7_feed 25 = .ok (.iload 6, 2) := by decide +kernel
theorem dX7_feed_27 : decode cX7_feed 27 = .ok (.iconst 4, 1) := by decide +kernel
theorem dX7_feed_28 : decode cX7_feed 28 = .ok (.if_icmp .ge 7, 3) := by decide +kernel
theorem dX7_feed_31 : decode cX7_feed 31 = .ok (.iload_n 1, 1) := by decide +kernel
theorem dX7_feed_32 : decode cX7_feed 32 = .ok (.goto 39, 3) := by decide +kernel
theorem dX7_feed_35 : decode cX7_feed 35 = .ok (.iload 6, 2) := by decide +kernel
theorem dX7_feed_37 : decode cX7_feed 37 = .ok (.bipush 8, 2) := by decide +kernel
theorem dX7_feed_39 : decode cX7_feed 39 = .ok (.if_icmp .ge 7, 3) := by decide +kernel
theorem dX7_feed_42 : decode cX7_feed 42 = .ok (.iload_n 2, 1) := by decide +kernel
theorem dX7_feed_43 : decode cX7_feed 43 = .ok (.goto 28, 3) := by decide +kernel
theorem dX7_feed_46 : decode cX7_feed 46 = .ok (.iload 6, 2) := by decide +kernel
theorem dX7_feed_48 : decode cX7_feed 48 = .ok (.bipush 12, 2) := by decide +kernel
theorem dX7_feed_50 : decode cX7_feed 50 = .ok (.if_icmp .ge 7, 3) := by decide +kernel
theorem dX7_feed_53 : decode cX7_feed 53 = .ok (.iload_n 3, 1) := by decide +kernel
theorem dX7_feed_54 : decode cX7_feed 54 = .ok (.goto 17, 3) := by decide +kernel
theorem dX7_feed_57 : decode cX7_feed 57 = .ok (.iload 6, 2) := by decide +kernel
theorem dX7_feed_59 : decode cX7_feed 59 = .ok (.bipush 16, 2) := by decide +kernel
theorem dX7_feed_61 : decode cX7_feed 61 = .ok (.if_icmp .ge 8, 3) := by decide +kernel
theorem dX7_feed_64 : decode cX7_feed 64 = .ok (.iload 4, 2) := by decide +kernel
theorem dX7_feed_66 : decode cX7_feed 66 = .ok (.goto 5, 3) := by decide +kernel
theorem dX7_feed_69 : decode cX7_feed 69 = .ok (.iload 5, 2) := by decide +kernel
theorem dX7_feed_71 : decode cX7_feed 71 = .ok (.istore 7, 2) := by decide +kernel
theorem dX7_feed_73 : decode cX7_feed 73 = .ok (.aload_n 0, 1) := by decide +kernel
theorem dX7_feed_74 : decode cX7_feed 74 = .ok (.getfield 95, 3) := by decide +kernel
theorem dX7_feed_77 : decode cX7_feed 77 = .ok (.aload_n 0, 1) := by decide +kernel
theorem dX7_feed_78 : decode cX7_feed 78 = .ok (.getfield 92, 3) := by decide +kernel
theorem dX7_feed_81 : decode cX7_feed 81 = .ok (.iload 6, 2) := by decide +kernel
theorem dX7_feed_83 : decode cX7_feed 83 = .ok (.iadd, 1) := by decide +kernel
theorem dX7_feed_84 : decode cX7_feed 84 = .ok (.iload 7, 2) := by decide +kernel
theorem dX7_feed_86 : decode cX7_feed 86 = .ok (.bipush 24, 2) := by decide +kernel
theorem dX7_feed_88 : decode cX7_feed 88 = .ok (.bipush 8, 2) := by decide +kernel
theorem dX7_feed_90 : decode cX7_feed 90 = .ok (.iload 6, 2) := by decide +kernel
theorem dX7_feed_92 : decode cX7_feed 92 = .ok (.iconst 3, 1) := by decide +kernel
theorem dX7_feed_93 : decode cX7_feed 93 = .ok (.iand, 1) := by decide +kernel
theorem dX7_feed_94 : decode cX7_feed 94 = .ok (.imul, 1) := by decide +kernel
theorem dX7_feed_95 : decode cX7_feed 95 = .ok (.isub, 1) := by decide +kernel
theorem dX7_feed_96 : decode cX7_feed 96 = .ok (.ishr, 1) := by decide +kernel
theorem dX7_feed_97 : decode cX7_feed 97 = .ok (.i2b, 1) := by decide +kernel
theorem dX7_feed_98 : decode cX7_feed 98 = .ok (.bastore, 1) := by decide +kernel
theorem dX7_feed_99 : decode cX7_feed 99 = .ok (.iinc 6 1, 3) := by decide +kernel
theorem dX7_feed_102 : decode cX7_feed 102 = .ok (.goto (-84), 3) := by decide +kernel
theorem dX7_feed_105 : decode cX7_feed 105 = .ok (.aload_n 0, 1) := by decide +kernel
theorem dX7_feed_106 : decode cX7_feed 106 = .ok (.dup, 1) := by decide +kernel
theorem dX7_feed_107 : decode cX7_feed 107 = .ok (.getfield 92, 3) := by decide +kernel
theorem dX7_feed_110 : decode cX7_feed 110 = .ok (.bipush 20, 2) := by decide +kernel
theorem dX7_feed_112 : decode cX7_feed 112 = .ok (.iadd, 1) := by decide +kernel
theorem dX7_feed_113 : decode cX7_feed 113 = .ok (.putfield 92, 3) := by decide +kernel
theorem dX7_feed_116 : decode cX7_feed 116 = .ok (.aload_n 0, 1) := by decide +kernel
theorem dX7_feed_117 : decode cX7_feed 117 = .ok (.getfield 92, 3) := by decide +kernel
theorem dX7_feed_120 : decode cX7_feed 120 = .ok (.ireturn, 1) := by decide +kernel
theorem dX7_end_0 : decode cX7_end 0 = .ok (.iload_n 1, 1) := by decide +kernel
theorem dX7_end_1 : decode cX7_end 1 = .ok (.ifCond .lt 11, 3) := by decide +kernel
theorem dX7_end_4 : decode cX7_end 4 = .ok (.iload_n 1, 1) := by decide +kernel
theorem dX7_end_5 : decode cX7_end 5 = .ok (.aload_n 0, 1) := by decide +kernel
theorem dX7_end_6 : decode cX7_end 6 = .ok (.getfield 92, 3) := by decide +kernel
theorem dX7_end_9 : decode cX7_end 9 = .ok (.if_icmp .le 5, 3) := by decide +kernel
theorem dX7_end_12 : decode cX7_end 12 = .ok (.iconst (-1), 1) := by decide +kernel
theorem dX7_end_13 : decode cX7_end 13 = .ok (.ireturn, 1) := by decide +kernel
theorem dX7_end_14 : decode cX7_end 14 = .ok (.aload_n 0, 1) := by decide +kernel
theorem dX7_end_15 : decode cX7_end 15 = .ok (.iload_n 1, 1) := by decide +kernel
theorem dX7_end_16 : decode cX7_end 16 = .ok (.putfield 92, 3) := by decide +kernel
theorem dX7_end_19 : decode cX7_end 19 = .ok (.iload_n 1, 1) := by decide +kernel
theorem dX7_end_20 : decode cX7_end 20 = .ok (.ireturn, 1) := by decide +kernel
