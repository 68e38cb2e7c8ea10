theorem dX3_init_0 : decode cX3_init 0 = .ok (.aload_n 0, 1) := by decide +kernel
theorem dX3_init_1 : decode cX3_init 1 = .ok (.invokespecial 3, 3) := by decide +kernel
theorem dX3_init_4 : decode cX3_init 4 = .ok (.aload_n 0, 1) := by decide +kernel
theorem dX3_init_5 : decode cX3_init 5 = .ok (.aload_n 1, 1) := by decide +kernel
theorem dX3_init_6 : decode cX3_init 6 = .ok (.putfield 9, 3) := by decide +kernel
theorem dX3_init_9 : decode cX3_init 9 = .ok (.aload_n 0, 1) := by decide +kernel
theorem dX3_init_10 : decode cX3_init 10 = .ok (.aload_n 2, 1) := by decide +kernel
theorem dX3_init_11 : decode cX3_init 11 = .ok (.putfield 15, 3) := by decide +kernel
theorem dX3_init_14 : decode cX3_init 14 = .ok (.return_, 1) := by decide +kernel
theorem dX3_readAll_0 : decode cX3_readAll 0 = .ok (.aload_n 0, 1) := by decide +kernel
theorem dX3_readAll_1 : decode cX3_readAll 1 = .ok (.getfield 15, 3) := by decide +kernel
theorem dX3_readAll_4 : decode cX3_readAll 4 = .ok (.invokevirtual 19, 3) := by decide +kernel
theorem dX3_readAll_7 : decode cX3_readAll 7 = .ok (.aload_n 0, 1) := by decide +kernel
theorem dX3_readAll_8 : decode cX3_readAll 8 = .ok (.getfield 9, 3) := by decide +kernel
theorem dX3_readAll_11 : decode cX3_readAll 11 = .ok (.iconst 0, 1) := by decide +kernel
theorem dX3_readAll_12 : decode cX3_readAll 12 = .ok (.invokevirtual 24, 3) := by decide +kernel
theorem dX3_readAll_15 : decode cX3_readAll 15 = .ok (.bipush 22, 2) := by decide +kernel
theorem dX3_readAll_17 : decode cX3_readAll 17 = .ok (.istore_n 1, 1) := by decide +kernel
theorem dX3_readAll_18 : decode cX3_readAll 18 = .ok (.iconst 0, 1) := by decide +kernel
theorem dX3_readAll_19 : decode cX3_readAll 19 = .ok (.istore_n 2, 1) := by decide +kernel
theorem dX3_readAll_20 : decode cX3_readAll 20 = .ok (.iload_n 2, 1) := by decide +kernel
theorem dX3_readAll_21 : decode cX3_readAll 21 = .ok (.iload_n 1, 1) := by decide +kernel
theorem dX3_readAll_22 : decode cX3_readAll 22 = .ok (.if_icmp .ge 109, 3) := by decide +kernel
theorem dX3_readAll_25 : decode cX3_readAll 25 = .ok (.aload_n 0, 1) := by decide +kernel
theorem dX3_readAll_26 : decode cX3_readAll 26 = .ok (.getfield 9, 3) := by decide +kernel
theorem dX3_readAll_29 : decode cX3_readAll 29 = .ok (.getfield 30, 3) := by decide +kernel
theorem dX3_readAll_32 : decode cX3_readAll 32 = .ok (.ifCond .ne 99, 3) := by decide +kernel
theorem dX3_readAll_35 : decode cX3_readAll 35 = .ok (.aload_n 0, 1) := by decide +kernel
theorem dX3_readAll_36 : decode cX3_readAll 36 = .ok (.getfield 9, 3) := by decide +kernel
theorem dX3_readAll_39 : decode cX3_readAll 39 = .ok (.getfield 34, 3) := by decide +kernel
theorem dX3_readAll_42 : decode cX3_readAll 42 = .ok (.ifCond .eq 89, 3) := by decide +kernel
theorem dX3_readAll_45 : decode cX3_readAll 45 = .ok (.aload_n 0, 1) := by decide +kernel
theorem dX3_readAll_46 : decode cX3_readAll 46 = .ok (.getfield 9, 3) := by decide +kernel
theorem dX3_readAll_49 : decode cX3_readAll 49 = .ok (.getfield 34, 3) := by decide +kernel
theorem dX3_readAll_52 : decode cX3_readAll 52 = .ok (.iconst 4, 1) := by decide +kernel
theorem dX3_readAll_53 : decode cX3_readAll 53 = .ok (.if_icmp .ne 28, 3) := by decide +kernel
theorem dX3_readAll_56 : decode cX3_readAll 56 = .ok (.aload_n 0, 1) := by decide +kernel
theorem dX3_readAll_57 : decode cX3_readAll 57 = .ok (.getfield 15, 3) := by decide +kernel
theorem dX3_readAll_60 : decode cX3_readAll 60 = .ok (.getfield 37, 3) := by decide +kernel
theorem dX3_readAll_63 : decode cX3_readAll 63 = .ok (.iconst 5, 1) := by decide +kernel
theorem dX3_readAll_64 : decode cX3_readAll 64 = .ok (.if_icmp .ge 17, 3) := by decide +kernel
theorem dX3_readAll_67 : decode cX3_readAll 67 = .ok (.aload_n 0, 1) := by decide +kernel
theorem dX3_readAll_68 : decode cX3_readAll 68 = .ok (.aload_n 0, 1) := by decide +kernel
theorem dX3_readAll_69 : decode cX3_readAll 69 = .ok (.getfield 15, 3) := by decide +kernel
theorem dX3_readAll_72 : decode cX3_readAll 72 = .ok (.getfield 37, 3) := by decide +kernel
theorem dX3_readAll_75 : decode cX3_readAll 75 = .ok (.invokevirtual 40, 3) := by decide +kernel
theorem dX3_readAll_78 : decode cX3_readAll 78 = .ok (.goto 47, 3) := by decide +kernel
theorem dX3_readAll_81 : decode cX3_readAll 81 = .ok (.aload_n 0, 1) := by decide +kernel
theorem dX3_readAll_82 : decode cX3_readAll 82 = .ok (.getfield 9, 3) := by decide +kernel
theorem dX3_readAll_85 : decode cX3_readAll 85 = .ok (.getfield 34, 3) := by decide +kernel
theorem dX3_readAll_88 : decode cX3_readAll 88 = .ok (.iconst 5, 1) := by decide +kernel
theorem dX3_readAll_89 : decode cX3_readAll 89 = .ok (.if_icmp .ne 29, 3) := by decide +kernel
theorem dX3_readAll_92 : decode cX3_readAll 92 = .ok (.aload_n 0, 1) := by decide +kernel
theorem dX3_readAll_93 : decode cX3_readAll 93 = .ok (.getfield 15, 3) := by decide +kernel
theorem dX3_readAll_96 : decode cX3_readAll 96 = .ok (.getfield 44, 3) := by decide +kernel
theorem dX3_readAll_99 : decode cX3_readAll 99 = .ok (.bipush 16, 2) := by decide +kernel
theorem dX3_readAll_101 : decode cX3_readAll 101 = .ok (.if_icmp .ge 17, 3) := by decide +kernel
theorem dX3_readAll_104 : decode cX3_readAll 104 = .ok (.aload_n 0, 1) := by decide +kernel
theorem dX3_readAll_105 : decode cX3_readAll 105 = .ok (.aload_n 0, 1) := by decide +kernel
theorem dX3_readAll_106 : decode cX3_readAll 106 = .ok (.getfield 15, 3) := by decide +kernel
theorem dX3_readAll_109 : decode cX3_readAll 109 = .ok (.getfield 44, 3) := by decide +kernel
theorem dX3_readAll_112 : decode cX3_readAll 112 = .ok (.invokevirtual 47, 3) := by decide +kernel
theorem dX3_readAll_115 : decode cX3_readAll 115 = .ok (.goto 10, 3) := by decide +kernel
theorem dX3_readAll_118 : decode cX3_readAll 118 = .ok (.aload_n 0, 1) := by decide +kernel
theorem dX3_readAll_119 : decode cX3_readAll 119 = .ok (.getfield 9, 3) := by decide +kernel
theorem dX3_readAll_122 : decode cX3_readAll 122 = .ok (.invokevirtual 50, 3) := by decide +kernel
theorem dX3_readAll_125 : decode cX3_readAll 125 = .ok (.iinc 2 1, 3) := by decide +kernel
theorem dX3_readAll_128 : decode cX3_readAll 128 = .ok (.goto (-108), 3) := by decide +kernel
theorem dX3_readAll_131 : decode cX3_readAll 131 = .ok (.aload_n 0, 1) := by decide +kernel
theorem dX3_readAll_132 : decode cX3_readAll 132 = .ok (.getfield 9, 3) := by decide +kernel
theorem dX3_readAll_135 : decode cX3_readAll 135 = .ok (.getfield 30, 3) := by decide +kernel
theorem dX3_readAll_138 : decode cX3_readAll 138 = .ok (.ifCond .ne 7, 3) := by decide +kernel
theorem dX3_readAll_141 : decode cX3_readAll 141 = .ok (.aload_n 0, 1) := by decide +kernel
theorem dX3_readAll_142 : decode cX3_readAll 142 = .ok (.invokevirtual 53, 3) := by decide +kernel
theorem dX3_readAll_145 : decode cX3_readAll 145 = .ok (.aload_n 0, 1) := by decide +kernel
theorem dX3_readAll_146 : decode cX3_readAll 146 = .ok (.getfield 9, 3) := by decide +kernel
theorem dX3_readAll_149 : decode cX3_readAll 149 = .ok (.getfield 30, 3) := by decide +kernel
theorem dX3_readAll_152 : decode cX3_readAll 152 = .ok (.ifCond .ne 10, 3) := by decide +kernel
theorem dX3_readAll_155 : decode cX3_readAll 155 = .ok (.aload_n 0, 1) := by decide +kernel
theorem dX3_readAll_156 : decode cX3_readAll 156 = .ok (.getfield 15, 3) := by decide +kernel
theorem dX3_readAll_159 : decode cX3_readAll 159 = .ok (.invokevirtual 56, 3) := by decide +kernel
theorem dX3_readAll_162 : decode cX3_readAll 162 = .ok (.aload_n 0, 1) := by decide +kernel
theorem dX3_readAll_163 : decode cX3_readAll 163 = .ok (.getfield 9, 3) := by decide +kernel
theorem dX3_readAll_166 : decode cX3_readAll 166 = .ok (.getfield 30, 3) := by decide +kernel
theorem dX3_readAll_169 : decode cX3_readAll 169 = .ok (.ifCond .ne 7, 3) := by decide +kernel
theorem dX3_readAll_172 : decode cX3_readAll 172 = .ok (.iconst 1, 1) := by decide +kernel
theorem dX3_readAll_173 : decode cX3_readAll 173 = .ok (.goto 4, 3) := by decide +kernel
theorem dX3_readAll_176 : decode cX3_readAll 176 = .ok (.iconst 0, 1) := by decide +kernel
theorem dX3_readAll_177 : decode cX3_readAll 177 = .ok (.ireturn, 1) := by decide +kernel
theorem dX3_readTable_0 : decode cX3_readTable 0 = .ok (.aload_n 0, 1) := by decide +kernel
theorem dX3_readTable_1 : decode cX3_readTable 1 = .ok (.getfield 9, 3) := by decide +kernel
theorem dX3_readTable_4 : decode cX3_readTable 4 = .ok (.invokevirtual 59, 3) := by decide +kernel
theorem dX3_readTable_7 : decode cX3_readTable 7 = .ok (.aload_n 0, 1) := by decide +kernel
theorem dX3_readTable_8 : decode cX3_readTable 8 = .ok (.getfield 9, 3) := by decide +kernel
theorem dX3_readTable_11 : decode cX3_readTable 11 = .ok (.getfield 34, 3) := by decide +kernel
theorem dX3_readTable_14 : decode cX3_readTable 14 = .ok (.iconst 2, 1) := by decide +kernel
theorem dX3_readTable_15 : decode cX3_readTable 15 = .ok (.if_icmp .ne 36, 3) := by decide +kernel
theorem dX3_readTable_18 : decode cX3_readTable 18 = .ok (.aload_n 0, 1) := by decide +kernel
theorem dX3_readTable_19 : decode cX3_readTable 19 = .ok (.getfield 15, 3) := by decide +kernel
theorem dX3_readTable_22 : decode cX3_readTable 22 = .ok (.aload_n 0, 1) := by decide +kernel
theorem dX3_readTable_23 : decode cX3_readTable 23 = .ok (.getfield 9, 3) := by decide +kernel
theorem dX3_readTable_26 : decode cX3_readTable 26 = .ok (.getfield 62, 3) := by decide +kernel
theorem dX3_readTable_29 : decode cX3_readTable 29 = .ok (.invokevirtual 66, 3) := by decide +kernel
theorem dX3_readTable_32 : decode cX3_readTable 32 = .ok (.iconst (-1), 1) := by decide +kernel
theorem dX3_readTable_33 : decode cX3_readTable 33 = .ok (.if_icmp .eq 18, 3) := by decide +kernel
theorem dX3_readTable_36 : decode cX3_readTable 36 = .ok (.aload_n 0, 1) := by decide +kernel
theorem dX3_readTable_37 : decode cX3_readTable 37 = .ok (.getfield 9, 3) := by decide +kernel
theorem dX3_readTable_40 : decode cX3_readTable 40 = .ok (.iconst 3, 1) := by decide +kernel
theorem dX3_readTable_41 : decode cX3_readTable 41 = .ok (.aload_n 0, 1) := by decide +kernel
theorem dX3_readTable_42 : decode cX3_readTable 42 = .ok (.getfield 9, 3) := by decide +kernel
theorem dX3_readTable_45 : decode cX3_readTable 45 = .ok (.getfield 70, 3) := by decide +kernel
theorem dX3_readTable_48 : decode cX3_readTable 48 = .ok (.invokevirtual 73, 3) := by decide +kernel
theorem dX3_readTable_51 : decode cX3_readTable 51 = .ok (.aload_n 0, 1) := by decide +kernel
theorem dX3_readTable_52 : decode cX3_readTable 52 = .ok (.getfield 9, 3) := by decide +kernel
theorem dX3_readTable_55 : decode cX3_readTable 55 = .ok (.getfield 62, 3) := by decide +kernel
theorem dX3_readTable_58 : decode cX3_readTable 58 = .ok (.lstore_n 2, 1) := by decide +kernel
theorem dX3_readTable_59 : decode cX3_readTable 59 = .ok (.aload_n 0, 1) := by decide +kernel
theorem dX3_readTable_60 : decode cX3_readTable 60 = .ok (.getfield 9, 3) := by decide +kernel
theorem dX3_readTable_63 : decode cX3_readTable 63 = .ok (.iconst 2, 1) := by decide +kernel
theorem dX3_readTable_64 : decode cX3_readTable 64 = .ok (.invokevirtual 77, 3) := by decide +kernel
theorem dX3_readTable_67 : decode cX3_readTable 67 = .ok (.ifCond .eq 15, 3) := by decide +kernel
theorem dX3_readTable_70 : decode cX3_readTable 70 = .ok (.aload_n 0, 1) := by decide +kernel
theorem dX3_readTable_71 : decode cX3_readTable 71 = .ok (.getfield 9, 3) := by decide +kernel
theorem dX3_readTable_74 : decode cX3_readTable 74 = .ok (.bipush 58, 2) := by decide +kernel
theorem dX3_readTable_76 : decode cX3_readTable 76 = .ok (.invokevirtual 77, 3) := by decide +kernel
theorem dX3_readTable_79 : decode cX3_readTable 79 = .ok (.ifCond .ne 4, 3) := by decide +kernel
theorem dX3_readTable_82 : decode cX3_readTable 82 = .ok (.return_, 1) := by decide +kernel
theorem dX3_readTable_83 : decode cX3_readTable 83 = .ok (.aload_n 0, 1) := by decide +kernel
theorem dX3_readTable_84 : decode cX3_readTable 84 = .ok (.getfield 15, 3) := by decide +kernel
theorem dX3_readTable_87 : decode cX3_readTable 87 = .ok (.getfield 81, 3) := by decide +kernel
theorem dX3_readTable_90 : decode cX3_readTable 90 = .ok (.iload_n 1, 1) := by decide +kernel
theorem dX3_readTable_91 : decode cX3_readTable 91 = .ok (.lload_n 2, 1) := by decide +kernel
theorem dX3_readTable_92 : decode cX3_readTable 92 = .ok (.lastore, 1) := by decide +kernel
theorem dX3_readTable_93 : decode cX3_readTable 93 = .ok (.aload_n 0, 1) := by decide +kernel
theorem dX3_readTable_94 : decode cX3_readTable 94 = .ok (.getfield 15, 3) := by decide +kernel
theorem dX3_readTable_97 : decode cX3_readTable 97 = .ok (.getfield 85, 3) := by decide +kernel
theorem dX3_readTable_100 : decode cX3_readTable 100 = .ok (.iload_n 1, 1) := by decide +kernel
theorem dX3_readTable_101 : decode cX3_readTable 101 = .ok (.iconst 0, 1) := by decide +kernel
theorem dX3_readTable_102 : decode cX3_readTable 102 = .ok (.iastore, 1) := by decide +kernel
theorem dX3_readTable_103 : decode cX3_readTable 103 = .ok (.aload_n 0, 1) := by decide +kernel
theorem dX3_readTable_104 : decode cX3_readTable 104 = .ok (.getfield 15, 3) := by decide +kernel
theorem dX3_readTable_107 : decode cX3_readTable 107 = .ok (.getfield 89, 3) := by decide +kernel
theorem dX3_readTable_110 : decode cX3_readTable 110 = .ok (.iload_n 1, 1) := by decide +kernel
theorem dX3_readTable_111 : decode cX3_readTable 111 = .ok (.iconst 0, 1) := by decide +kernel
theorem dX3_readTable_112 : decode cX3_readTable 112 = .ok (.iastore, 1) := by decide +kernel
theorem dX3_readTable_113 : decode cX3_readTable 113 = .ok (.aload_n 0, 1) := by decide +kernel
theorem dX3_readTable_114 : decode cX3_readTable 114 = .ok (.getfield 15, 3) := by decide +kernel
theorem dX3_readTable_117 : decode cX3_readTable 117 = .ok (.dup, 1) := by decide +kernel
theorem dX3_readTable_118 : decode cX3_readTable 118 = .ok (.getfield 37, 3) := by decide +kernel
theorem dX3_readTable_121 : decode cX3_readTable 121 = .ok (.iconst 1, 1) := by decide +kernel
theorem dX3_readTable_122 : decode cX3_readTable 122 = .ok (.iadd, 1) := by decide +kernel
theorem dX3_readTable_123 : decode cX3_readTable 123 = .ok (.putfield 37, 3) := by decide +kernel
theorem dX3_readTable_126 : decode cX3_readTable 126 = .ok (.iconst 1, 1) := by decide +kernel
theorem dX3_readTable_127 : decode cX3_readTable 127 = .ok (.istore 4, 2) := by decide +kernel
theorem dX3_readTable_129 : decode cX3_readTable 129 = .ok (.iconst 0, 1) := by decide +kernel
theorem dX3_readTable_130 : decode cX3_readTable 130 = .ok (.istore 5, 2) := by decide +kernel
theorem dX3_readTable_132 : decode cX3_readTable 132 = .ok (.iload 5, 2) := by decide +kernel
theorem dX3_readTable_134 : decode cX3_readTable 134 = .ok (.iconst 5, 1) := by decide +kernel
theorem dX3_readTable_135 : decode cX3_readTable 135 = .ok (.if_icmp .gt 60, 3) := by decide +kernel
theorem dX3_readTable_138 : decode cX3_readTable 138 = .ok (.iload 4, 2) := by decide +kernel
theorem dX3_readTable_140 : decode cX3_readTable 140 = .ok (.ifCond .eq 55, 3) := by decide +kernel
theorem dX3_readTable_143 : decode cX3_readTable 143 = .ok (.aload_n 0, 1) := by decide +kernel
theorem dX3_readTable_144 : decode cX3_readTable 144 = .ok (.iload_n 1, 1) := by decide +kernel
theorem dX3_readTable_145 : decode cX3_readTable 145 = .ok (.invokevirtual 92, 3) := by decide +kernel
theorem dX3_readTable_148 : decode cX3_readTable 148 = .ok (.aload_n 0, 1) := by decide +kernel
theorem dX3_readTable_149 : decode cX3_readTable 149 = .ok (.getfield 9, 3) := by decide +kernel
theorem dX3_readTable_152 : decode cX3_readTable 152 = .ok (.getfield 30, 3) := by decide +kernel
theorem dX3_readTable_155 : decode cX3_readTable 155 = .ok (.ifCond .ne 19, 3) := by decide +kernel
theorem dX3_readTable_158 : decode cX3_readTable 158 = .ok (.aload_n 0, 1) := by decide +kernel
theorem dX3_readTable_159 : decode cX3_readTable 159 = .ok (.getfield 9, 3) := by decide +kernel
theorem dX3_readTable_162 : decode cX3_readTable 162 = .ok (.getfield 34, 3) := by decide +kernel
theorem dX3_readTable_165 : decode cX3_readTable 165 = .ok (.bipush 44, 2) := by decide +kernel
theorem dX3_readTable_167 : decode cX3_readTable 167 = .ok (.if_icmp .ne 7, 3) := by decide +kernel
theorem dX3_readTable_170 : decode cX3_readTable 170 = .ok (.iconst 1, 1) := by decide +kernel
theorem dX3_readTable_171 : decode cX3_readTable 171 = .ok (.goto 4, 3) := by decide +kernel
theorem dX3_readTable_174 : decode cX3_readTable 174 = .ok (.iconst 0, 1) := by decide +kernel
theorem dX3_readTable_175 : decode cX3_readTable 175 = .ok (.istore 4, 2) := by decide +kernel
theorem dX3_readTable_177 : decode cX3_readTable 177 = .ok (.iload 4, 2) := by decide +kernel
theorem dX3_readTable_179 : decode cX3_readTable 179 = .ok (.ifCond .eq 10, 3) := by decide +kernel
theorem dX3_readTable_182 : decode cX3_readTable 182 = .ok (.aload_n 0, 1) := by decide +kernel
theorem dX3_readTable_183 : decode cX3_readTable 183 = .ok (.getfield 9, 3) := by decide +kernel
theorem dX3_readTable_186 : decode cX3_readTable 186 = .ok (.invokevirtual 59, 3) := by decide +kernel
theorem dX3_readTable_189 : decode cX3_readTable 189 = .ok (.iinc 5 1, 3) := by decide +kernel
theorem dX3_readTable_192 : decode cX3_readTable 192 = .ok (.goto (-60), 3) := by decide +kernel
theorem dX3_readTable_195 : decode cX3_readTable 195 = .ok (.aload_n 0, 1) := by decide +kernel
theorem dX3_readTable_196 : decode cX3_readTable 196 = .ok (.getfield 9, 3) := by decide +kernel
theorem dX3_readTable_199 : decode cX3_readTable 199 = .ok (.bipush 59, 2) := by decide +kernel
theorem dX3_readTable_201 : decode cX3_readTable 201 = .ok (.invokevirtual 77, 3) := by decide +kernel
theorem dX3_readTable_204 : decode cX3_readTable 204 = .ok (.pop, 1) := by decide +kernel
theorem dX3_readTable_205 : decode cX3_readTable 205 = .ok (.return_, 1) := by decide +kernel
theorem dX3_readColumn_0 : decode cX3_readColumn 0 = .ok (.aload_n 0, 1) := by decide +kernel
theorem dX3_readColumn_1 : decode cX3_readColumn 1 = .ok (.getfield 15, 3) := by decide +kernel
theorem dX3_readColumn_4 : decode cX3_readColumn 4 = .ok (.getfield 85, 3) := by decide +kernel
theorem dX3_readColumn_7 : decode cX3_readColumn 7 = .ok (.iload_n 1, 1) := by decide +kernel
theorem dX3_readColumn_8 : decode cX3_readColumn 8 = .ok (.iaload, 1) := by decide +kernel
theorem dX3_readColumn_9 : decode cX3_readColumn 9 = .ok (.istore_n 2, 1) := by decide +kernel
theorem dX3_readColumn_10 : decode cX3_readColumn 10 = .ok (.aload_n 0, 1) := by decide +kernel
theorem dX3_readColumn_11 : decode cX3_readColumn 11 = .ok (.getfield 9, 3) := by decide +kernel
theorem dX3_readColumn_14 : decode cX3_readColumn 14 = .ok (.getfield 34, 3) := by decide +kernel
theorem dX3_readColumn_17 : decode cX3_readColumn 17 = .ok (.iconst 2, 1) := by decide +kernel
theorem dX3_readColumn_18 : decode cX3_readColumn 18 = .ok (.if_icmp .ne 8, 3) := by decide +kernel
theorem dX3_readColumn_21 : decode cX3_readColumn 21 = .ok (.iload_n 2, 1) := by decide +kernel
theorem dX3_readColumn_22 : decode cX3_readColumn 22 = .ok (.iconst 5, 1) := by decide +kernel
theorem dX3_readColumn_23 : decode cX3_readColumn 23 = .ok (.if_icmp .lt 11, 3) := by decide +kernel
theorem dX3_readColumn_26 : decode cX3_readColumn 26 = .ok (.aload_n 0, 1) := by decide +kernel
theorem dX3_readColumn_27 : decode cX3_readColumn 27 = .ok (.getfield 9, 3) := by decide +kernel
theorem dX3_readColumn_30 : decode cX3_readColumn 30 = .ok (.invokevirtual 50, 3) := by decide +kernel
theorem dX3_readColumn_33 : decode cX3_readColumn 33 = .ok (.return_, 1) := by decide +kernel
theorem dX3_readColumn_34 : decode cX3_readColumn 34 = .ok (.aload_n 0, 1) := by decide +kernel
theorem dX3_readColumn_35 : decode cX3_readColumn 35 = .ok (.getfield 15, 3) := by decide +kernel
theorem dX3_readColumn_38 : decode cX3_readColumn 38 = .ok (.iload_n 1, 1) := by decide +kernel
theorem dX3_readColumn_39 : decode cX3_readColumn 39 = .ok (.aload_n 0, 1) := by decide +kernel
theorem dX3_readColumn_40 : decode cX3_readColumn 40 = .ok (.getfield 9, 3) := by decide +kernel
theorem dX3_readColumn_43 : decode cX3_readColumn 43 = .ok (.getfield 62, 3) := by decide +kernel
theorem dX3_readColumn_46 : decode cX3_readColumn 46 = .ok (.invokevirtual 95, 3) := by decide +kernel
theorem dX3_readColumn_49 : decode cX3_readColumn 49 = .ok (.iconst (-1), 1) := by decide +kernel
theorem dX3_readColumn_50 : decode cX3_readColumn 50 = .ok (.if_icmp .eq 19, 3) := by decide +kernel
theorem dX3_readColumn_53 : decode cX3_readColumn 53 = .ok (.aload_n 0, 1) := by decide +kernel
theorem dX3_readColumn_54 : decode cX3_readColumn 54 = .ok (.getfield 9, 3) := by decide +kernel
theorem dX3_readColumn_57 : decode cX3_readColumn 57 = .ok (.iconst 3, 1) := by decide +kernel
theorem dX3_readColumn_58 : decode cX3_readColumn 58 = .ok (.aload_n 0, 1) := by decide +kernel
theorem dX3_readColumn_59 : decode cX3_readColumn 59 = .ok (.getfield 9, 3) := by decide +kernel
theorem dX3_readColumn_62 : decode cX3_readColumn 62 = .ok (.getfield 70, 3) := by decide +kernel
theorem dX3_readColumn_65 : decode cX3_readColumn 65 = .ok (.invokevirtual 73, 3) := by decide +kernel
theorem dX3_readColumn_68 : decode cX3_readColumn 68 = .ok (.return_, 1) := by decide +kernel
theorem dX3_readColumn_69 : decode cX3_readColumn 69 = .ok (.aload_n 0, 1) := by decide +kernel
theorem dX3_readColumn_70 : decode cX3_readColumn 70 = .ok (.getfield 15, 3) := by decide +kernel
theorem dX3_readColumn_73 : decode cX3_readColumn 73 = .ok (.getfield 99, 3) := by decide +kernel
theorem dX3_readColumn_76 : decode cX3_readColumn 76 = .ok (.iload_n 1, 1) := by decide +kernel
theorem dX3_readColumn_77 : decode cX3_readColumn 77 = .ok (.iload_n 2, 1) := by decide +kernel
theorem dX3_readColumn_78 : decode cX3_readColumn 78 = .ok (.invokestatic 102, 3) := by decide +kernel
theorem dX3_readColumn_81 : decode cX3_readColumn 81 = .ok (.aload_n 0, 1) := by decide +kernel
theorem dX3_readColumn_82 : decode cX3_readColumn 82 = .ok (.getfield 9, 3) := by decide +kernel
theorem dX3_readColumn_85 : decode cX3_readColumn 85 = .ok (.getfield 62, 3) := by decide +kernel
theorem dX3_readColumn_88 : decode cX3_readColumn 88 = .ok (.lastore, 1) := by decide +kernel
theorem dX3_readColumn_89 : decode cX3_readColumn 89 = .ok (.aload_n 0, 1) := by decide +kernel
theorem dX3_readColumn_90 : decode cX3_readColumn 90 = .ok (.getfield 15, 3) := by decide +kernel
theorem dX3_readColumn_93 : decode cX3_readColumn 93 = .ok (.getfield 106, 3) := by decide +kernel
theorem dX3_readColumn_96 : decode cX3_readColumn 96 = .ok (.iload_n 1, 1) := by decide +kernel
theorem dX3_readColumn_97 : decode cX3_readColumn 97 = .ok (.iload_n 2, 1) := by decide +kernel
theorem dX3_readColumn_98 : decode cX3_readColumn 98 = .ok (.invokestatic 102, 3) := by decide +kernel
theorem dX3_readColumn_101 : decode cX3_readColumn 101 = .ok (.iconst (-1), 1) := by decide +kernel
theorem dX3_readColumn_102 : decode cX3_readColumn 102 = .ok (.iastore, 1) := by decide +kernel
theorem dX3_readColumn_103 : decode cX3_readColumn 103 = .ok (.aload_n 0, 1) := by decide +kernel
theorem dX3_readColumn_104 : decode cX3_readColumn 104 = .ok (.getfield 15, 3) := by decide +kernel
theorem dX3_readColumn_107 : decode cX3_readColumn 107 = .ok (.getfield 85, 3) := by decide +kernel
theorem dX3_readColumn_110 : decode cX3_readColumn 110 = .ok (.iload_n 1, 1) := by decide +kernel
theorem dX3_readColumn_111 : decode cX3_readColumn 111 = .ok (.dup2, 1) := by decide +kernel
theorem dX3_readColumn_112 : decode cX3_readColumn 112 = .ok (.iaload, 1) := by decide +kernel
theorem dX3_readColumn_113 : decode cX3_readColumn 113 = .ok (.iconst 1, 1) := by decide +kernel
theorem dX3_readColumn_114 : decode cX3_readColumn 114 = .ok (.iadd, 1) := by decide +kernel
theorem dX3_readColumn_115 : decode cX3_readColumn 115 = .ok (.iastore, 1) := by decide +kernel
theorem dX3_readColumn_116 : decode cX3_readColumn 116 = .ok (.aload_n 0, 1) := by decide +kernel
theorem dX3_readColumn_117 : decode cX3_readColumn 117 = .ok (.getfield 9, 3) := by decide +kernel
theorem dX3_readColumn_120 : decode cX3_readColumn 120 = .ok (.invokevirtual 59, 3) := by decide +kernel
theorem dX3_readColumn_123 : decode cX3_readColumn 123 = .ok (.aload_n 0, 1) := by decide +kernel
theorem dX3_readColumn_124 : decode cX3_readColumn 124 = .ok (.getfield 9, 3) := by decide +kernel
theorem dX3_readColumn_127 : decode cX3_readColumn 127 = .ok (.getfield 34, 3) := by decide +kernel
theorem dX3_readColumn_130 : decode cX3_readColumn 130 = .ok (.bipush 6, 2) := by decide +kernel
theorem dX3_readColumn_132 : decode cX3_readColumn 132 = .ok (.if_icmp .ne 34, 3) := by decide +kernel
theorem dX3_readColumn_135 : decode cX3_readColumn 135 = .ok (.aload_n 0, 1) := by decide +kernel
theorem dX3_readColumn_136 : decode cX3_readColumn 136 = .ok (.getfield 9, 3) := by decide +kernel
theorem dX3_readColumn_139 : decode cX3_readColumn 139 = .ok (.invokevirtual 59, 3) := by decide +kernel
theorem dX3_readColumn_142 : decode cX3_readColumn 142 = .ok (.aload_n 0, 1) := by decide +kernel
theorem dX3_readColumn_143 : decode cX3_readColumn 143 = .ok (.getfield 15, 3) := by decide +kernel
theorem dX3_readColumn_146 : decode cX3_readColumn 146 = .ok (.getfield 106, 3) := by decide +kernel
theorem dX3_readColumn_149 : decode cX3_readColumn 149 = .ok (.iload_n 1, 1) := by decide +kernel
theorem dX3_readColumn_150 : decode cX3_readColumn 150 = .ok (.iload_n 2, 1) := by decide +kernel
theorem dX3_readColumn_151 : decode cX3_readColumn 151 = .ok (.invokestatic 102, 3) := by decide +kernel
theorem dX3_readColumn_154 : decode cX3_readColumn 154 = .ok (.aload_n 0, 1) := by decide +kernel
theorem dX3_readColumn_155 : decode cX3_readColumn 155 = .ok (.getfield 9, 3) := by decide +kernel
theorem dX3_readColumn_158 : decode cX3_readColumn 158 = .ok (.aload_n 0, 1) := by decide +kernel
theorem dX3_readColumn_159 : decode cX3_readColumn 159 = .ok (.getfield 15, 3) := by decide +kernel
theorem dX3_readColumn_162 : decode cX3_readColumn 162 = .ok (.invokevirtual 109, 3) := by decide +kernel
theorem dX3_readColumn_165 : decode cX3_readColumn 165 = .ok (.iastore, 1) := by decide +kernel
theorem dX3_readColumn_166 : decode cX3_readColumn 166 = .ok (.return_, 1) := by decide +kernel
theorem dX3_readRow_0 : decode cX3_readRow 0 = .ok (.aload_n 0, 1) := by decide +kernel
theorem dX3_readRow_1 : decode cX3_readRow 1 = .ok (.getfield 9, 3) := by decide +kernel
theorem dX3_readRow_4 : decode cX3_readRow 4 = .ok (.invokevirtual 59, 3) := by decide +kernel
theorem dX3_readRow_7 : decode cX3_readRow 7 = .ok (.aload_n 0, 1) := by decide +kernel
theorem dX3_readRow_8 : decode cX3_readRow 8 = .ok (.getfield 9, 3) := by decide +kernel
theorem dX3_readRow_11 : decode cX3_readRow 11 = .ok (.aload_n 0, 1) := by decide +kernel
theorem dX3_readRow_12 : decode cX3_readRow 12 = .ok (.getfield 15, 3) := by decide +kernel
theorem dX3_readRow_15 : decode cX3_readRow 15 = .ok (.invokevirtual 109, 3) := by decide +kernel
theorem dX3_readRow_18 : decode cX3_readRow 18 = .ok (.istore_n 2, 1) := by decide +kernel
theorem dX3_readRow_19 : decode cX3_readRow 19 = .ok (.aload_n 0, 1) := by decide +kernel
theorem dX3_readRow_20 : decode cX3_readRow 20 = .ok (.getfield 9, 3) := by decide +kernel
theorem dX3_readRow_23 : decode cX3_readRow 23 = .ok (.bipush 58, 2) := by decide +kernel
theorem dX3_readRow_25 : decode cX3_readRow 25 = .ok (.invokevirtual 77, 3) := by decide +kernel
theorem dX3_readRow_28 : decode cX3_readRow 28 = .ok (.ifCond .eq 14, 3) := by decide +kernel
theorem dX3_readRow_31 : decode cX3_readRow 31 = .ok (.aload_n 0, 1) := by decide +kernel
theorem dX3_readRow_32 : decode cX3_readRow 32 = .ok (.getfield 15, 3) := by decide +kernel
theorem dX3_readRow_35 : decode cX3_readRow 35 = .ok (.iload_n 2, 1) := by decide +kernel
theorem dX3_readRow_36 : decode cX3_readRow 36 = .ok (.invokevirtual 113, 3) := by decide +kernel
theorem dX3_readRow_39 : decode cX3_readRow 39 = .ok (.ifCond .ne 4, 3) := by decide +kernel
theorem dX3_readRow_42 : decode cX3_readRow 42 = .ok (.return_, 1) := by decide +kernel
theorem dX3_readRow_43 : decode cX3_readRow 43 = .ok (.aload_n 0, 1) := by decide +kernel
theorem dX3_readRow_44 : decode cX3_readRow 44 = .ok (.getfield 15, 3) := by decide +kernel
theorem dX3_readRow_47 : decode cX3_readRow 47 = .ok (.getfield 116, 3) := by decide +kernel
theorem dX3_readRow_50 : decode cX3_readRow 50 = .ok (.iload_n 1, 1) := by decide +kernel
theorem dX3_readRow_51 : decode cX3_readRow 51 = .ok (.iload_n 2, 1) := by decide +kernel
theorem dX3_readRow_52 : decode cX3_readRow 52 = .ok (.iastore, 1) := by decide +kernel
theorem dX3_readRow_53 : decode cX3_readRow 53 = .ok (.aload_n 0, 1) := by decide +kernel
theorem dX3_readRow_54 : decode cX3_readRow 54 = .ok (.getfield 15, 3) := by decide +kernel
theorem dX3_readRow_57 : decode cX3_readRow 57 = .ok (.getfield 119, 3) := by decide +kernel
theorem dX3_readRow_60 : decode cX3_readRow 60 = .ok (.iload_n 1, 1) := by decide +kernel
theorem dX3_readRow_61 : decode cX3_readRow 61 = .ok (.aload_n 0, 1) := by decide +kernel
theorem dX3_readRow_62 : decode cX3_readRow 62 = .ok (.getfield 15, 3) := by decide +kernel
theorem dX3_readRow_65 : decode cX3_readRow 65 = .ok (.getfield 89, 3) := by decide +kernel
theorem dX3_readRow_68 : decode cX3_readRow 68 = .ok (.iload_n 2, 1) := by decide +kernel
theorem dX3_readRow_69 : decode cX3_readRow 69 = .ok (.iaload, 1) := by decide +kernel
theorem dX3_readRow_70 : decode cX3_readRow 70 = .ok (.iastore, 1) := by decide +kernel
theorem dX3_readRow_71 : decode cX3_readRow 71 = .ok (.iconst 1, 1) := by decide +kernel
theorem dX3_readRow_72 : decode cX3_readRow 72 = .ok (.istore_n 3, 1) := by decide +kernel
theorem dX3_readRow_73 : decode cX3_readRow 73 = .ok (.iconst 0, 1) := by decide +kernel
theorem dX3_readRow_74 : decode cX3_readRow 74 = .ok (.istore 4, 2) := by decide +kernel
theorem dX3_readRow_76 : decode cX3_readRow 76 = .ok (.iload_n 3, 1) := by decide +kernel
theorem dX3_readRow_77 : decode cX3_readRow 77 = .ok (.ifCond .eq 61, 3) := by decide +kernel
theorem dX3_readRow_80 : decode cX3_readRow 80 = .ok (.iload 4, 2) := by decide +kernel
theorem dX3_readRow_82 : decode cX3_readRow 82 = .ok (.iconst 5, 1) := by decide +kernel
theorem dX3_readRow_83 : decode cX3_readRow 83 = .ok (.if_icmp .gt 55, 3) := by decide +kernel
theorem dX3_readRow_86 : decode cX3_readRow 86 = .ok (.aload_n 0, 1) := by decide +kernel
theorem dX3_readRow_87 : decode cX3_readRow 87 = .ok (.iload_n 1, 1) := by decide +kernel
theorem dX3_readRow_88 : decode cX3_readRow 88 = .ok (.iload 4, 2) := by decide +kernel
theorem dX3_readRow_90 : decode cX3_readRow 90 = .ok (.invokevirtual 122, 3) := by decide +kernel
theorem dX3_readRow_93 : decode cX3_readRow 93 = .ok (.iinc 4 1, 3) := by decide +kernel
theorem dX3_readRow_96 : decode cX3_readRow 96 = .ok (.aload_n 0, 1) := by decide +kernel
theorem dX3_readRow_97 : decode cX3_readRow 97 = .ok (.getfield 9, 3) := by decide +kernel
theorem dX3_readRow_100 : decode cX3_readRow 100 = .ok (.getfield 30, 3) := by decide +kernel
theorem dX3_readRow_103 : decode cX3_readRow 103 = .ok (.ifCond .ne 19, 3) := by decide +kernel
theorem dX3_readRow_106 : decode cX3_readRow 106 = .ok (.aload_n 0, 1) := by decide +kernel
theorem dX3_readRow_107 : decode cX3_readRow 107 = .ok (.getfield 9, 3) := by decide +kernel
theorem dX3_readRow_110 : decode cX3_readRow 110 = .ok (.getfield 34, 3) := by decide +kernel
theorem dX3_readRow_113 : decode cX3_readRow 113 = .ok (.bipush 44, 2) := by decide +kernel
theorem dX3_readRow_115 : decode cX3_readRow 115 = .ok (.if_icmp .ne 7, 3) := by decide +kernel
theorem dX3_readRow_118 : decode cX3_readRow 118 = .ok (.iconst 1, 1) := by decide +kernel
theorem dX3_readRow_119 : decode cX3_readRow 119 = .ok (.goto 4, 3) := by decide +kernel
theorem dX3_readRow_122 : decode cX3_readRow 122 = .ok (.iconst 0, 1) := by decide +kernel
theorem dX3_readRow_123 : decode cX3_readRow 123 = .ok (.istore_n 3, 1) := by decide +kernel
theorem dX3_readRow_124 : decode cX3_readRow 124 = .ok (.iload_n 3, 1) := by decide +kernel
theorem dX3_readRow_125 : decode cX3_readRow 125 = .ok (.ifCond .eq (-49), 3) := by decide +kernel
theorem dX3_readRow_128 : decode cX3_readRow 128 = .ok (.aload_n 0, 1) := by decide +kernel
theorem dX3_readRow_129 : decode cX3_readRow 129 = .ok (.getfield 9, 3) := by decide +kernel
theorem dX3_readRow_132 : decode cX3_readRow 132 = .ok (.invokevirtual 59, 3) := by decide +kernel
theorem dX3_readRow_135 : decode cX3_readRow 135 = .ok (.goto (-59), 3) := by decide +kernel
theorem dX3_readRow_138 : decode cX3_readRow 138 = .ok (.aload_n 0, 1) := by decide +kernel
theorem dX3_readRow_139 : decode cX3_readRow 139 = .ok (.getfield 9, 3) := by decide +kernel
theorem dX3_readRow_142 : decode cX3_readRow 142 = .ok (.getfield 30, 3) := by decide +kernel
theorem dX3_readRow_145 : decode cX3_readRow 145 = .ok (.ifCond .ne 24, 3) := by decide +kernel
theorem dX3_readRow_148 : decode cX3_readRow 148 = .ok (.iload 4, 2) := by decide +kernel
theorem dX3_readRow_150 : decode cX3_readRow 150 = .ok (.aload_n 0, 1) := by decide +kernel
theorem dX3_readRow_151 : decode cX3_readRow 151 = .ok (.getfield 15, 3) := by decide +kernel
theorem dX3_readRow_154 : decode cX3_readRow 154 = .ok (.getfield 85, 3) := by decide +kernel
theorem dX3_readRow_157 : decode cX3_readRow 157 = .ok (.iload_n 2, 1) := by decide +kernel
theorem dX3_readRow_158 : decode cX3_readRow 158 = .ok (.iaload, 1) := by decide +kernel
theorem dX3_readRow_159 : decode cX3_readRow 159 = .ok (.if_icmp .ge 10, 3) := by decide +kernel
theorem dX3_readRow_162 : decode cX3_readRow 162 = .ok (.aload_n 0, 1) := by decide +kernel
theorem dX3_readRow_163 : decode cX3_readRow 163 = .ok (.getfield 9, 3) := by decide +kernel
theorem dX3_readRow_166 : decode cX3_readRow 166 = .ok (.invokevirtual 50, 3) := by decide +kernel
theorem dX3_readRow_169 : decode cX3_readRow 169 = .ok (.aload_n 0, 1) := by decide +kernel
theorem dX3_readRow_170 : decode cX3_readRow 170 = .ok (.getfield 9, 3) := by decide +kernel
theorem dX3_readRow_173 : decode cX3_readRow 173 = .ok (.bipush 59, 2) := by decide +kernel
theorem dX3_readRow_175 : decode cX3_readRow 175 = .ok (.invokevirtual 77, 3) := by decide +kernel
theorem dX3_readRow_178 : decode cX3_readRow 178 = .ok (.ifCond .eq 29, 3) := by decide +kernel
theorem dX3_readRow_181 : decode cX3_readRow 181 = .ok (.aload_n 0, 1) := by decide +kernel
theorem dX3_readRow_182 : decode cX3_readRow 182 = .ok (.getfield 15, 3) := by decide +kernel
theorem dX3_readRow_185 : decode cX3_readRow 185 = .ok (.getfield 89, 3) := by decide +kernel
theorem dX3_readRow_188 : decode cX3_readRow 188 = .ok (.iload_n 2, 1) := by decide +kernel
theorem dX3_readRow_189 : decode cX3_readRow 189 = .ok (.dup2, 1) := by decide +kernel
theorem dX3_readRow_190 : decode cX3_readRow 190 = .ok (.iaload, 1) := by decide +kernel
theorem dX3_readRow_191 : decode cX3_readRow 191 = .ok (.iconst 1, 1) := by decide +kernel
theorem dX3_readRow_192 : decode cX3_readRow 192 = .ok (.iadd, 1) := by decide +kernel
theorem dX3_readRow_193 : decode cX3_readRow 193 = .ok (.iastore, 1) := by decide +kernel
theorem dX3_readRow_194 : decode cX3_readRow 194 = .ok (.aload_n 0, 1) := by decide +kernel
theorem dX3_readRow_195 : decode cX3_readRow 195 = .ok (.getfield 15, 3) := by decide +kernel
theorem dX3_readRow_198 : decode cX3_readRow 198 = .ok (.dup, 1) := by decide +kernel
theorem dX3_readRow_199 : decode cX3_readRow 199 = .ok (.getfield 44, 3) := by decide +kernel
theorem dX3_readRow_202 : decode cX3_readRow 202 = .ok (.iconst 1, 1) := by decide +kernel
theorem dX3_readRow_203 : decode cX3_readRow 203 = .ok (.iadd, 1) := by decide +kernel
theorem dX3_readRow_204 : decode cX3_readRow 204 = .ok (.putfield 44, 3) := by decide +kernel
theorem dX3_readRow_207 : decode cX3_readRow 207 = .ok (.return_, 1) := by decide +kernel
theorem dX3_readValue_0 : decode cX3_readValue 0 = .ok (.aload_n 0, 1) := by decide +kernel
theorem dX3_readValue_1 : decode cX3_readValue 1 = .ok (.getfield 15, 3) := by decide +kernel
theorem dX3_readValue_4 : decode cX3_readValue 4 = .ok (.getfield 116, 3) := by decide +kernel
theorem dX3_readValue_7 : decode cX3_readValue 7 = .ok (.iload_n 1, 1) := by decide +kernel
theorem dX3_readValue_8 : decode cX3_readValue 8 = .ok (.iaload, 1) := by decide +kernel
theorem dX3_readValue_9 : decode cX3_readValue 9 = .ok (.istore_n 3, 1) := by decide +kernel
theorem dX3_readValue_10 : decode cX3_readValue 10 = .ok (.aload_n 0, 1) := by decide +kernel
theorem dX3_readValue_11 : decode cX3_readValue 11 = .ok (.getfield 15, 3) := by decide +kernel
theorem dX3_readValue_14 : decode cX3_readValue 14 = .ok (.iload_n 3, 1) := by decide +kernel
theorem dX3_readValue_15 : decode cX3_readValue 15 = .ok (.iload_n 2, 1) := by decide +kernel
theorem dX3_readValue_16 : decode cX3_readValue 16 = .ok (.invokevirtual 125, 3) := by decide +kernel
theorem dX3_readValue_19 : decode cX3_readValue 19 = .ok (.ifCond .ne 11, 3) := by decide +kernel
theorem dX3_readValue_22 : decode cX3_readValue 22 = .ok (.aload_n 0, 1) := by decide +kernel
theorem dX3_readValue_23 : decode cX3_readValue 23 = .ok (.getfield 9, 3) := by decide +kernel
theorem dX3_readValue_26 : decode cX3_readValue 26 = .ok (.invokevirtual 50, 3) := by decide +kernel
theorem dX3_readValue_29 : decode cX3_readValue 29 = .ok (.return_, 1) := by decide +kernel
theorem dX3_readValue_30 : decode cX3_readValue 30 = .ok (.aload_n 0, 1) := by decide +kernel
theorem dX3_readValue_31 : decode cX3_readValue 31 = .ok (.getfield 9, 3) := by decide +kernel
theorem dX3_readValue_34 : decode cX3_readValue 34 = .ok (.getfield 34, 3) := by decide +kernel
theorem dX3_readValue_37 : decode cX3_readValue 37 = .ok (.bipush 45, 2) := by decide +kernel
theorem dX3_readValue_39 : decode cX3_readValue 39 = .ok (.if_icmp .ne 11, 3) := by decide +kernel
theorem dX3_readValue_42 : decode cX3_readValue 42 = .ok (.aload_n 0, 1) := by decide +kernel
theorem dX3_readValue_43 : decode cX3_readValue 43 = .ok (.getfield 9, 3) := by decide +kernel
theorem dX3_readValue_46 : decode cX3_readValue 46 = .ok (.invokevirtual 59, 3) := by decide +kernel
theorem dX3_readValue_49 : decode cX3_readValue 49 = .ok (.return_, 1) := by decide +kernel
theorem dX3_readValue_50 : decode cX3_readValue 50 = .ok (.aload_n 0, 1) := by decide +kernel
theorem dX3_readValue_51 : decode cX3_readValue 51 = .ok (.getfield 15, 3) := by decide +kernel
theorem dX3_readValue_54 : decode cX3_readValue 54 = .ok (.iload_n 3, 1) := by decide +kernel
theorem dX3_readValue_55 : decode cX3_readValue 55 = .ok (.iload_n 2, 1) := by decide +kernel
theorem dX3_readValue_56 : decode cX3_readValue 56 = .ok (.invokevirtual 129, 3) := by decide +kernel
theorem dX3_readValue_59 : decode cX3_readValue 59 = .ok (.iconst (-1), 1) := by decide +kernel
theorem dX3_readValue_60 : decode cX3_readValue 60 = .ok (.if_icmp .eq 16, 3) := by decide +kernel
theorem dX3_readValue_63 : decode cX3_readValue 63 = .ok (.aload_n 0, 1) := by decide +kernel
theorem dX3_readValue_64 : decode cX3_readValue 64 = .ok (.getfield 9, 3) := by decide +kernel
theorem dX3_readValue_67 : decode cX3_readValue 67 = .ok (.bipush 35, 2) := by decide +kernel
theorem dX3_readValue_69 : decode cX3_readValue 69 = .ok (.invokevirtual 77, 3) := by decide +kernel
theorem dX3_readValue_72 : decode cX3_readValue 72 = .ok (.ifCond .ne 4, 3) := by decide +kernel
theorem dX3_readValue_75 : decode cX3_readValue 75 = .ok (.return_, 1) := by decide +kernel
theorem dX3_readValue_76 : decode cX3_readValue 76 = .ok (.aload_n 0, 1) := by decide +kernel
theorem dX3_readValue_77 : decode cX3_readValue 77 = .ok (.getfield 9, 3) := by decide +kernel
theorem dX3_readValue_80 : decode cX3_readValue 80 = .ok (.getfield 132, 3) := by decide +kernel
theorem dX3_readValue_83 : decode cX3_readValue 83 = .ok (.istore 4, 2) := by decide +kernel
theorem dX3_readValue_85 : decode cX3_readValue 85 = .ok (.aload_n 0, 1) := by decide +kernel
theorem dX3_readValue_86 : decode cX3_readValue 86 = .ok (.getfield 15, 3) := by decide +kernel
theorem dX3_readValue_89 : decode cX3_readValue 89 = .ok (.getfield 135, 3) := by decide +kernel
theorem dX3_readValue_92 : decode cX3_readValue 92 = .ok (.iload_n 1, 1) := by decide +kernel
theorem dX3_readValue_93 : decode cX3_readValue 93 = .ok (.iload_n 2, 1) := by decide +kernel
theorem dX3_readValue_94 : decode cX3_readValue 94 = .ok (.invokestatic 102, 3) := by decide +kernel
theorem dX3_readValue_97 : decode cX3_readValue 97 = .ok (.aload_n 0, 1) := by decide +kernel
theorem dX3_readValue_98 : decode cX3_readValue 98 = .ok (.getfield 9, 3) := by decide +kernel
theorem dX3_readValue_101 : decode cX3_readValue 101 = .ok (.getfield 70, 3) := by decide +kernel
theorem dX3_readValue_104 : decode cX3_readValue 104 = .ok (.iastore, 1) := by decide +kernel
theorem dX3_readValue_105 : decode cX3_readValue 105 = .ok (.aload_n 0, 1) := by decide +kernel
theorem dX3_readValue_106 : decode cX3_readValue 106 = .ok (.getfield 9, 3) := by decide +kernel
theorem dX3_readValue_109 : decode cX3_readValue 109 = .ok (.iconst 3, 1) := by decide +kernel
theorem dX3_readValue_110 : decode cX3_readValue 110 = .ok (.invokevirtual 77, 3) := by decide +kernel
theorem dX3_readValue_113 : decode cX3_readValue 113 = .ok (.ifCond .eq 18, 3) := by decide +kernel
theorem dX3_readValue_116 : decode cX3_readValue 116 = .ok (.aload_n 0, 1) := by decide +kernel
theorem dX3_readValue_117 : decode cX3_readValue 117 = .ok (.getfield 15, 3) := by decide +kernel
theorem dX3_readValue_120 : decode cX3_readValue 120 = .ok (.getfield 138, 3) := by decide +kernel
theorem dX3_readValue_123 : decode cX3_readValue 123 = .ok (.iload_n 1, 1) := by decide +kernel
theorem dX3_readValue_124 : decode cX3_readValue 124 = .ok (.iload_n 2, 1) := by decide +kernel
theorem dX3_readValue_125 : decode cX3_readValue 125 = .ok (.invokestatic 102, 3) := by decide +kernel
theorem dX3_readValue_128 : decode cX3_readValue 128 = .ok (.iload 4, 2) := by decide +kernel
theorem dX3_readValue_130 : decode cX3_readValue 130 = .ok (.iastore, 1) := by decide +kernel
theorem dX3_readValue_131 : decode cX3_readValue 131 = .ok (.return_, 1) := by decide +kernel
theorem dX3_joinLinks_0 : decode cX3_joinLinks 0 = .ok (.iconst 0, 1) := by decide +kernel
theorem dX3_joinLinks_1 : decode cX3_joinLinks 1 = .ok (.istore_n 1, 1) := by decide +kernel
theorem dX3_joinLinks_2 : decode cX3_joinLinks 2 = .ok (.iload_n 1, 1) := by decide +kernel
theorem dX3_joinLinks_3 : decode cX3_joinLinks 3 = .ok (.aload_n 0, 1) := by decide +kernel
theorem dX3_joinLinks_4 : decode cX3_joinLinks 4 = .ok (.getfield 15, 3) := by decide +kernel
theorem dX3_joinLinks_7 : decode cX3_joinLinks 7 = .ok (.getfield 44, 3) := by decide +kernel
theorem dX3_joinLinks_10 : decode cX3_joinLinks 10 = .ok (.if_icmp .ge 83, 3) := by decide +kernel
theorem dX3_joinLinks_13 : decode cX3_joinLinks 13 = .ok (.aload_n 0, 1) := by decide +kernel
theorem dX3_joinLinks_14 : decode cX3_joinLinks 14 = .ok (.getfield 15, 3) := by decide +kernel
theorem dX3_joinLinks_17 : decode cX3_joinLinks 17 = .ok (.getfield 116, 3) := by decide +kernel
theorem dX3_joinLinks_20 : decode cX3_joinLinks 20 = .ok (.iload_n 1, 1) := by decide +kernel
theorem dX3_joinLinks_21 : decode cX3_joinLinks 21 = .ok (.iaload, 1) := by decide +kernel
theorem dX3_joinLinks_22 : decode cX3_joinLinks 22 = .ok (.istore_n 2, 1) := by decide +kernel
theorem dX3_joinLinks_23 : decode cX3_joinLinks 23 = .ok (.iconst 0, 1) := by decide +kernel
theorem dX3_joinLinks_24 : decode cX3_joinLinks 24 = .ok (.istore_n 3, 1) := by decide +kernel
theorem dX3_joinLinks_25 : decode cX3_joinLinks 25 = .ok (.iload_n 3, 1) := by decide +kernel
theorem dX3_joinLinks_26 : decode cX3_joinLinks 26 = .ok (.iconst 5, 1) := by decide +kernel
theorem dX3_joinLinks_27 : decode cX3_joinLinks 27 = .ok (.if_icmp .ge 60, 3) := by decide +kernel
theorem dX3_joinLinks_30 : decode cX3_joinLinks 30 = .ok (.aload_n 0, 1) := by decide +kernel
theorem dX3_joinLinks_31 : decode cX3_joinLinks 31 = .ok (.getfield 15, 3) := by decide +kernel
theorem dX3_joinLinks_34 : decode cX3_joinLinks 34 = .ok (.iload_n 2, 1) := by decide +kernel
theorem dX3_joinLinks_35 : decode cX3_joinLinks 35 = .ok (.iload_n 3, 1) := by decide +kernel
theorem dX3_joinLinks_36 : decode cX3_joinLinks 36 = .ok (.invokevirtual 129, 3) := by decide +kernel
theorem dX3_joinLinks_39 : decode cX3_joinLinks 39 = .ok (.istore 4, 2) := by decide +kernel
theorem dX3_joinLinks_41 : decode cX3_joinLinks 41 = .ok (.aload_n 0, 1) := by decide +kernel
theorem dX3_joinLinks_42 : decode cX3_joinLinks 42 = .ok (.getfield 15, 3) := by decide +kernel
theorem dX3_joinLinks_45 : decode cX3_joinLinks 45 = .ok (.iload_n 1, 1) := by decide +kernel
theorem dX3_joinLinks_46 : decode cX3_joinLinks 46 = .ok (.iload_n 3, 1) := by decide +kernel
theorem dX3_joinLinks_47 : decode cX3_joinLinks 47 = .ok (.invokevirtual 141, 3) := by decide +kernel
theorem dX3_joinLinks_50 : decode cX3_joinLinks 50 = .ok (.istore 5, 2) := by decide +kernel
theorem dX3_joinLinks_52 : decode cX3_joinLinks 52 = .ok (.iload 4, 2) := by decide +kernel
theorem dX3_joinLinks_54 : decode cX3_joinLinks 54 = .ok (.iconst (-1), 1) := by decide +kernel
theorem dX3_joinLinks_55 : decode cX3_joinLinks 55 = .ok (.if_icmp .eq 26, 3) := by decide +kernel
theorem dX3_joinLinks_58 : decode cX3_joinLinks 58 = .ok (.iload 5, 2) := by decide +kernel
theorem dX3_joinLinks_60 : decode cX3_joinLinks 60 = .ok (.iconst (-1), 1) := by decide +kernel
theorem dX3_joinLinks_61 : decode cX3_joinLinks 61 = .ok (.if_icmp .eq 20, 3) := by decide +kernel
theorem dX3_joinLinks_64 : decode cX3_joinLinks 64 = .ok (.aload_n 0, 1) := by decide +kernel
theorem dX3_joinLinks_65 : decode cX3_joinLinks 65 = .ok (.iload_n 1, 1) := by decide +kernel
theorem dX3_joinLinks_66 : decode cX3_joinLinks 66 = .ok (.iload_n 3, 1) := by decide +kernel
theorem dX3_joinLinks_67 : decode cX3_joinLinks 67 = .ok (.aload_n 0, 1) := by decide +kernel
theorem dX3_joinLinks_68 : decode cX3_joinLinks 68 = .ok (.getfield 15, 3) := by decide +kernel
theorem dX3_joinLinks_71 : decode cX3_joinLinks 71 = .ok (.iload 4, 2) := by decide +kernel
theorem dX3_joinLinks_73 : decode cX3_joinLinks 73 = .ok (.iload 5, 2) := by decide +kernel
theorem dX3_joinLinks_75 : decode cX3_joinLinks 75 = .ok (.invokevirtual 144, 3) := by decide +kernel
theorem dX3_joinLinks_78 : decode cX3_joinLinks 78 = .ok (.invokevirtual 147, 3) := by decide +kernel
theorem dX3_joinLinks_81 : decode cX3_joinLinks 81 = .ok (.iinc 3 1, 3) := by decide +kernel
theorem dX3_joinLinks_84 : decode cX3_joinLinks 84 = .ok (.goto (-59), 3) := by decide +kernel
theorem dX3_joinLinks_87 : decode cX3_joinLinks 87 = .ok (.iinc 1 1, 3) := by decide +kernel
theorem dX3_joinLinks_90 : decode cX3_joinLinks 90 = .ok (.goto (-88), 3) := by decide +kernel
theorem dX3_joinLinks_93 : decode cX3_joinLinks 93 = .ok (.return_, 1) := by decide +kernel
theorem dX3_joinLink_0 : decode cX3_joinLink 0 = .ok (.iload_n 3, 1) := by decide +kernel
theorem dX3_joinLink_1 : decode cX3_joinLink 1 = .ok (.iconst (-1), 1) := by decide +kernel
theorem dX3_joinLink_2 : decode cX3_joinLink 2 = .ok (.if_icmp .ne 27, 3) := by decide +kernel
theorem dX3_joinLink_5 : decode cX3_joinLink 5 = .ok (.aload_n 0, 1) := by decide +kernel
theorem dX3_joinLink_6 : decode cX3_joinLink 6 = .ok (.getfield 9, 3) := by decide +kernel
theorem dX3_joinLink_9 : decode cX3_joinLink 9 = .ok (.iconst 5, 1) := by decide +kernel
theorem dX3_joinLink_10 : decode cX3_joinLink 10 = .ok (.aload_n 0, 1) := by decide +kernel
theorem dX3_joinLink_11 : decode cX3_joinLink 11 = .ok (.getfield 15, 3) := by decide +kernel
theorem dX3_joinLink_14 : decode cX3_joinLink 14 = .ok (.getfield 135, 3) := by decide +kernel
theorem dX3_joinLink_17 : decode cX3_joinLink 17 = .ok (.iload_n 1, 1) := by decide +kernel
theorem dX3_joinLink_18 : decode cX3_joinLink 18 = .ok (.iload_n 2, 1) := by decide +kernel
theorem dX3_joinLink_19 : decode cX3_joinLink 19 = .ok (.invokestatic 102, 3) := by decide +kernel
theorem dX3_joinLink_22 : decode cX3_joinLink 22 = .ok (.iaload, 1) := by decide +kernel
theorem dX3_joinLink_23 : decode cX3_joinLink 23 = .ok (.invokevirtual 73, 3) := by decide +kernel
theorem dX3_joinLink_26 : decode cX3_joinLink 26 = .ok (.goto 17, 3) := by decide +kernel
theorem dX3_joinLink_29 : decode cX3_joinLink 29 = .ok (.aload_n 0, 1) := by decide +kernel
theorem dX3_joinLink_30 : decode cX3_joinLink 30 = .ok (.getfield 15, 3) := by decide +kernel
theorem dX3_joinLink_33 : decode cX3_joinLink 33 = .ok (.getfield 138, 3) := by decide +kernel
theorem dX3_joinLink_36 : decode cX3_joinLink 36 = .ok (.iload_n 1, 1) := by decide +kernel
theorem dX3_joinLink_37 : decode cX3_joinLink 37 = .ok (.iload_n 2, 1) := by decide +kernel
theorem dX3_joinLink_38 : decode cX3_joinLink 38 = .ok (.invokestatic 102, 3) := by decide +kernel
theorem dX3_joinLink_41 : decode cX3_joinLink 41 = .ok (.iload_n 3, 1) := by decide +kernel
theorem dX3_joinLink_42 : decode cX3_joinLink 42 = .ok (.iastore, 1) := by decide +kernel
theorem dX3_joinLink_43 : decode cX3_joinLink 43 = .ok (.return_, 1) := by decide +kernel
theorem dX4_init_0 : decode cX4_init 0 = .ok (.aload_n 0, 1) := by decide +kernel
theorem dX4_init_1 : decode cX4_init 1 = .ok (.invokespecial 3, 3) := by decide +kernel
theorem dX4_init_4 : decode cX4_init 4 = .ok (.aload_n 0, 1) := by decide +kernel
theorem dX4_init_5 : decode cX4_init 5 = .ok (.sipush 1200, 3) := by decide +kernel
theorem dX4_init_8 : decode cX4_init 8 = .ok (.newarray .byte, 2) := by decide +kernel
theorem dX4_init_10 : decode cX4_init 10 = .ok (.putfield 9, 3) := by decide +kernel
theorem dX4_init_13 : decode cX4_init 13 = .ok (.aload_n 0, 1) := by decide +kernel
theorem dX4_init_14 : decode cX4_init 14 = .ok (.bipush 11, 2) := by decide +kernel
theorem dX4_init_16 : decode cX4_init 16 = .ok (.newarray .long, 2) := by decide +kernel
theorem dX4_init_18 : decode cX4_init 18 = .ok (.putfield 15, 3) := by decide +kernel
theorem dX4_init_21 : decode cX4_init 21 = .ok (.aload_n 0, 1) := by decide +kernel
theorem dX4_init_22 : decode cX4_init 22 = .ok (.ldc 19, 2) := by decide +kernel
theorem dX4_init_24 : decode cX4_init 24 = .ok (.putfield 21, 3) := by decide +kernel
theorem dX4_init_27 : decode cX4_init 27 = .ok (.aload_n 0, 1) := by decide +kernel
theorem dX4_init_28 : decode cX4_init 28 = .ok (.iconst (-1), 1) := by decide +kernel
theorem dX4_init_29 : decode cX4_init 29 = .ok (.putfield 25, 3) := by decide +kernel
theorem dX4_init_32 : decode cX4_init 32 = .ok (.iconst 0, 1) := by decide +kernel
theorem dX4_init_33 : decode cX4_init 33 = .ok (.istore_n 1, 1) := by decide +kernel
theorem dX4_init_34 : decode cX4_init 34 = .ok (.iconst 0, 1) := by decide +kernel
theorem dX4_init_35 : decode cX4_init 35 = .ok (.istore_n 2, 1) := by decide +kernel
theorem dX4_init_36 : decode cX4_init 36 = .ok (.iload_n 2, 1) := by decide +kernel
theorem dX4_init_37 : decode cX4_init 37 = .ok (.ldc 29, 2) := by decide +kernel
theorem dX4_init_39 : decode cX4_init 39 = .ok (.invokevirtual 31, 3) := by decide +kernel
theorem dX4_init_42 : decode cX4_init 42 = .ok (.if_icmp .ge 58, 3) := by decide +kernel
theorem dX4_init_45 : decode cX4_init 45 = .ok (.iload_n 1, 1) := by decide +kernel
theorem dX4_init_46 : decode cX4_init 46 = .ok (.bipush 11, 2) := by decide +kernel
theorem dX4_init_48 : decode cX4_init 48 = .ok (.if_icmp .ge 52, 3) := by decide +kernel
theorem dX4_init_51 : decode cX4_init 51 = .ok (.ldc 29, 2) := by decide +kernel
theorem dX4_init_53 : decode cX4_init 53 = .ok (.iload_n 2, 1) := by decide +kernel
theorem dX4_init_54 : decode cX4_init 54 = .ok (.invokevirtual 37, 3) := by decide +kernel
theorem dX4_init_57 : decode cX4_init 57 = .ok (.istore_n 3, 1) := by decide +kernel
theorem dX4_init_58 : decode cX4_init 58 = .ok (.iload_n 3, 1) := by decide +kernel
theorem dX4_init_59 : decode cX4_init 59 = .ok (.bipush 32, 2) := by decide +kernel
theorem dX4_init_61 : decode cX4_init 61 = .ok (.if_icmp .ne 9, 3) := by decide +kernel
theorem dX4_init_64 : decode cX4_init 64 = .ok (.iinc 1 1, 3) := by decide +kernel
theorem dX4_init_67 : decode cX4_init 67 = .ok (.goto 27, 3) := by decide +kernel
theorem dX4_init_70 : decode cX4_init 70 = .ok (.aload_n 0, 1) := by decide +kernel
theorem dX4_init_71 : decode cX4_init 71 = .ok (.getfield 15, 3) := by decide +kernel
theorem dX4_init_74 : decode cX4_init 74 = .ok (.iload_n 1, 1) := by decide +kernel
theorem dX4_init_75 : decode cX4_init 75 = .ok (.aload_n 0, 1) := by decide +kernel
theorem dX4_init_76 : decode cX4_init 76 = .ok (.getfield 15, 3) := by decide +kernel
theorem dX4_init_79 : decode cX4_init 79 = .ok (.iload_n 1, 1) := by decide +kernel
theorem dX4_init_80 : decode cX4_init 80 = .ok (.laload, 1) := by decide +kernel
theorem dX4_init_81 : decode cX4_init 81 = .ok (.ldc2_w 41, 3) := by decide +kernel
theorem dX4_init_84 : decode cX4_init 84 = .ok (.lmul, 1) := by decide +kernel
theorem dX4_init_85 : decode cX4_init 85 = .ok (.iload_n 3, 1) := by decide +kernel
theorem dX4_init_86 : decode cX4_init 86 = .ok (.bipush 97, 2) := by decide +kernel
theorem dX4_init_88 : decode cX4_init 88 = .ok (.isub, 1) := by decide +kernel
theorem dX4_init_89 : decode cX4_init 89 = .ok (.iconst 1, 1) := by decide +kernel
theorem dX4_init_90 : decode cX4_init 90 = .ok (.iadd, 1) := by decide +kernel
theorem dX4_init_91 : decode cX4_init 91 = .ok (.i2l, 1) := by decide +kernel
theorem dX4_init_92 : decode cX4_init 92 = .ok (.ladd, 1) := by decide +kernel
theorem dX4_init_93 : decode cX4_init 93 = .ok (.lastore, 1) := by decide +kernel
theorem dX4_init_94 : decode cX4_init 94 = .ok (.iinc 2 1, 3) := by decide +kernel
theorem dX4_init_97 : decode cX4_init 97 = .ok (.goto (-61), 3) := by decide +kernel
theorem dX4_init_100 : decode cX4_init 100 = .ok (.return_, 1) := by decide +kernel
theorem dX4_append_0 : decode cX4_append 0 = .ok (.bipush 24, 2) := by decide +kernel
theorem dX4_append_2 : decode cX4_append 2 = .ok (.istore_n 2, 1) := by decide +kernel
theorem dX4_append_3 : decode cX4_append 3 = .ok (.iload_n 2, 1) := by decide +kernel
theorem dX4_append_4 : decode cX4_append 4 = .ok (.ifCond .lt 44, 3) := by decide +kernel
theorem dX4_append_7 : decode cX4_append 7 = .ok (.aload_n 0, 1) := by decide +kernel
theorem dX4_append_8 : decode cX4_append 8 = .ok (.getfield 43, 3) := by decide +kernel
theorem dX4_append_11 : decode cX4_append 11 = .ok (.aload_n 0, 1) := by decide +kernel
theorem dX4_append_12 : decode cX4_append 12 = .ok (.getfield 9, 3) := by decide +kernel
theorem dX4_append_15 : decode cX4_append 15 = .ok (.arraylength, 1) := by decide +kernel
theorem dX4_append_16 : decode cX4_append 16 = .ok (.if_icmp .ge 32, 3) := by decide +kernel
theorem dX4_append_19 : decode cX4_append 19 = .ok (.aload_n 0, 1) := by decide +kernel
theorem dX4_append_20 : decode cX4_append 20 = .ok (.getfield 9, 3) := by decide +kernel
theorem dX4_append_23 : decode cX4_append 23 = .ok (.aload_n 0, 1) := by decide +kernel
theorem dX4_append_24 : decode cX4_append 24 = .ok (.getfield 43, 3) := by decide +kernel
theorem dX4_append_27 : decode cX4_append 27 = .ok (.iload_n 1, 1) := by decide +kernel
theorem dX4_append_28 : decode cX4_append 28 = .ok (.iload_n 2, 1) := by decide +kernel
theorem dX4_append_29 : decode cX4_append 29 = .ok (.ishr, 1) := by decide +kernel
theorem dX4_append_30 : decode cX4_append 30 = .ok (.i2b, 1) := by decide +kernel
theorem dX4_append_31 : decode cX4_append 31 = .ok (.bastore, 1) := by decide +kernel
theorem dX4_append_32 : decode cX4_append 32 = .ok (.aload_n 0, 1) := by decide +kernel
theorem dX4_append_33 : decode cX4_append 33 = .ok (.dup, 1) := by decide +kernel
theorem dX4_append_34 : decode cX4_append 34 = .ok (.getfield 43, 3) := by decide +kernel
theorem dX4_append_37 : decode cX4_append 37 = .ok (.iconst 1, 1) := by decide +kernel
theorem dX4_append_38 : decode cX4_append 38 = .ok (.iadd, 1) := by decide +kernel
theorem dX4_append_39 : decode cX4_append 39 = .ok (.putfield 43, 3) := by decide +kernel
theorem dX4_append_42 : decode cX4_append 42 = .ok (.iinc 2 (-8), 3) := by decide +kernel
theorem dX4_append_45 : decode cX4_append 45 = .ok (.goto (-42), 3) := by decide +kernel
theorem dX4_append_48 : decode cX4_append 48 = .ok (.return_, 1) := by decide +kernel
theorem dX4_open_0 : decode cX4_open 0 = .ok (.aload_n 0, 1) := by decide +kernel
theorem dX4_open_1 : decode cX4_open 1 = .ok (.iload_n 1, 1) := by decide +kernel
theorem dX4_open_2 : decode cX4_open 2 = .ok (.ifCond .eq 8, 3) := by decide +kernel
theorem dX4_open_5 : decode cX4_open 5 = .ok (.ldc 45, 2) := by decide +kernel
theorem dX4_open_7 : decode cX4_open 7 = .ok (.goto 5, 3) := by decide +kernel
theorem dX4_open_10 : decode cX4_open 10 = .ok (.ldc 19, 2) := by decide +kernel
theorem dX4_open_12 : decode cX4_open 12 = .ok (.putfield 21, 3) := by decide +kernel
theorem dX4_open_15 : decode cX4_open 15 = .ok (.aload_n 0, 1) := by decide +kernel
theorem dX4_open_16 : decode cX4_open 16 = .ok (.iconst 0, 1) := by decide +kernel
theorem dX4_open_17 : decode cX4_open 17 = .ok (.putfield 47, 3) := by decide +kernel
theorem dX4_open_20 : decode cX4_open 20 = .ok (.aload_n 0, 1) := by decide +kernel
theorem dX4_open_21 : decode cX4_open 21 = .ok (.iconst (-1), 1) := by decide +kernel
theorem dX4_open_22 : decode cX4_open 22 = .ok (.putfield 25, 3) := by decide +kernel
theorem dX4_open_25 : decode cX4_open 25 = .ok (.aload_n 0, 1) := by decide +kernel
theorem dX4_open_26 : decode cX4_open 26 = .ok (.iconst 0, 1) := by decide +kernel
theorem dX4_open_27 : decode cX4_open 27 = .ok (.putfield 50, 3) := by decide +kernel
theorem dX4_open_30 : decode cX4_open 30 = .ok (.aload_n 0, 1) := by decide +kernel
theorem dX4_open_31 : decode cX4_open 31 = .ok (.invokevirtual 53, 3) := by decide +kernel
theorem dX4_open_34 : decode cX4_open 34 = .ok (.return_, 1) := by decide +kernel
theorem dX4_advance_0 : decode cX4_advance 0 = .ok (.aload_n 0, 1) := by decide +kernel
theorem dX4_advance_1 : decode cX4_advance 1 = .ok (.getfield 50, 3) := by decide +kernel
theorem dX4_advance_4 : decode cX4_advance 4 = .ok (.aload_n 0, 1) := by decide +kernel
theorem dX4_advance_5 : decode cX4_advance 5 = .ok (.getfield 43, 3) := by decide +kernel
theorem dX4_advance_8 : decode cX4_advance 8 = .ok (.if_icmp .ge 44, 3) := by decide +kernel
theorem dX4_advance_11 : decode cX4_advance 11 = .ok (.aload_n 0, 1) := by decide +kernel
theorem dX4_advance_12 : decode cX4_advance 12 = .ok (.getfield 9, 3) := by decide +kernel
theorem dX4_advance_15 : decode cX4_advance 15 = .ok (.aload_n 0, 1) := by decide +kernel
theorem dX4_advance_16 : decode cX4_advance 16 = .ok (.getfield 50, 3) := by decide +kernel
theorem dX4_advance_19 : decode cX4_advance 19 = .ok (.baload, 1) := by decide +kernel
theorem dX4_advance_20 : decode cX4_advance 20 = .ok (.bipush 32, 2) := by decide +kernel
theorem dX4_advance_22 : decode cX4_advance 22 = .ok (.if_icmp .eq 17, 3) := by decide +kernel
theorem dX4_advance_25 : decode cX4_advance 25 = .ok (.aload_n 0, 1) := by decide +kernel
theorem dX4_advance_26 : decode cX4_advance 26 = .ok (.getfield 9, 3) := by decide +kernel
theorem dX4_advance_29 : decode cX4_advance 29 = .ok (.aload_n 0, 1) := by decide +kernel
theorem dX4_advance_30 : decode cX4_advance 30 = .ok (.getfield 50, 3) := by decide +kernel
theorem dX4_advance_33 : decode cX4_advance 33 = .ok (.baload, 1) := by decide +kernel
theorem dX4_advance_34 : decode cX4_advance 34 = .ok (.bipush 10, 2) := by decide +kernel
theorem dX4_advance_36 : decode cX4_advance 36 = .ok (.if_icmp .ne 16, 3) := by decide +kernel
theorem dX4_advance_39 : decode cX4_advance 39 = .ok (.aload_n 0, 1) := by decide +kernel
theorem dX4_advance_40 : decode cX4_advance 40 = .ok (.dup, 1) := by decide +kernel
theorem dX4_advance_41 : decode cX4_advance 41 = .ok (.getfield 50, 3) := by decide +kernel
theorem dX4_advance_44 : decode cX4_advance 44 = .ok (.iconst 1, 1) := by decide +kernel
theorem dX4_advance_45 : decode cX4_advance 45 = .ok (.iadd, 1) := by decide +kernel
theorem dX4_advance_46 : decode cX4_advance 46 = .ok (.putfield 50, 3) := by decide +kernel
theorem dX4_advance_49 : decode cX4_advance 49 = .ok (.goto (-49), 3) := by decide +kernel
theorem dX4_advance_52 : decode cX4_advance 52 = .ok (.aload_n 0, 1) := by decide +kernel
theorem dX4_advance_53 : decode cX4_advance 53 = .ok (.aload_n 0, 1) := by decide +kernel
theorem dX4_advance_54 : decode cX4_advance 54 = .ok (.getfield 50, 3) := by decide +kernel
theorem dX4_advance_57 : decode cX4_advance 57 = .ok (.putfield 56, 3) := by decide +kernel
theorem dX4_advance_60 : decode cX4_advance 60 = .ok (.aload_n 0, 1) := by decide +kernel
theorem dX4_advance_61 : decode cX4_advance 61 = .ok (.getfield 50, 3) := by decide +kernel
theorem dX4_advance_64 : decode cX4_advance 64 = .ok (.aload_n 0, 1) := by decide +kernel
theorem dX4_advance_65 : decode cX4_advance 65 = .ok (.getfield 43, 3) := by decide +kernel
theorem dX4_advance_68 : decode cX4_advance 68 = .ok (.if_icmp .ge 19, 3) := by decide +kernel
theorem dX4_advance_71 : decode cX4_advance 71 = .ok (.aload_n 0, 1) := by decide +kernel
theorem dX4_advance_72 : decode cX4_advance 72 = .ok (.getfield 9, 3) := by decide +kernel
theorem dX4_advance_75 : decode cX4_advance 75 = .ok (.aload_n 0, 1) := by decide +kernel
theorem dX4_advance_76 : decode cX4_advance 76 = .ok (.getfield 50, 3) := by decide +kernel
theorem dX4_advance_79 : decode cX4_advance 79 = .ok (.baload, 1) := by decide +kernel
theorem dX4_advance_80 : decode cX4_advance 80 = .ok (.sipush 255, 3) := by decide +kernel
theorem dX4_advance_83 : decode cX4_advance 83 = .ok (.iand, 1) := by decide +kernel
theorem dX4_advance_84 : decode cX4_advance 84 = .ok (.goto 4, 3) := by decide +kernel
theorem dX4_advance_87 : decode cX4_advance 87 = .ok (.iconst (-1), 1) := by decide +kernel
theorem dX4_advance_88 : decode cX4_advance 88 = .ok (.istore_n 1, 1) := by decide +kernel
theorem dX4_advance_89 : decode cX4_advance 89 = .ok (.iload_n 1, 1) := by decide +kernel
theorem dX4_advance_90 : decode cX4_advance 90 = .ok (.iconst (-1), 1) := by decide +kernel
theorem dX4_advance_91 : decode cX4_advance 91 = .ok (.if_icmp .ne 11, 3) := by decide +kernel
theorem dX4_advance_94 : decode cX4_advance 94 = .ok (.aload_n 0, 1) := by decide +kernel
theorem dX4_advance_95 : decode cX4_advance 95 = .ok (.iconst 0, 1) := by decide +kernel
theorem dX4_advance_96 : decode cX4_advance 96 = .ok (.putfield 59, 3) := by decide +kernel
theorem dX4_advance_99 : decode cX4_advance 99 = .ok (.goto 72, 3) := by decide +kernel
theorem dX4_advance_102 : decode cX4_advance 102 = .ok (.iload_n 1, 1) := by decide +kernel
theorem dX4_advance_103 : decode cX4_advance 103 = .ok (.bipush 97, 2) := by decide +kernel
theorem dX4_advance_105 : decode cX4_advance 105 = .ok (.if_icmp .lt 16, 3) := by decide +kernel
theorem dX4_advance_108 : decode cX4_advance 108 = .ok (.iload_n 1, 1) := by decide +kernel
theorem dX4_advance_109 : decode cX4_advance 109 = .ok (.bipush 122, 2) := by decide +kernel
theorem dX4_advance_111 : decode cX4_advance 111 = .ok (.if_icmp .gt 10, 3) := by decide +kernel
theorem dX4_advance_114 : decode cX4_advance 114 = .ok (.aload_n 0, 1) := by decide +kernel
theorem dX4_advance_115 : decode cX4_advance 115 = .ok (.invokevirtual 62, 3) := by decide +kernel
theorem dX4_advance_118 : decode cX4_advance 118 = .ok (.goto 53, 3) := by decide +kernel
theorem dX4_advance_121 : decode cX4_advance 121 = .ok (.iload_n 1, 1) := by decide +kernel
theorem dX4_advance_122 : decode cX4_advance 122 = .ok (.bipush 48, 2) := by decide +kernel
theorem dX4_advance_124 : decode cX4_advance 124 = .ok (.if_icmp .lt 16, 3) := by decide +kernel
theorem dX4_advance_127 : decode cX4_advance 127 = .ok (.iload_n 1, 1) := by decide +kernel
theorem dX4_advance_128 : decode cX4_advance 128 = .ok (.bipush 57, 2) := by decide +kernel
theorem dX4_advance_130 : decode cX4_advance 130 = .ok (.if_icmp .gt 10, 3) := by decide +kernel
theorem dX4_advance_133 : decode cX4_advance 133 = .ok (.aload_n 0, 1) := by decide +kernel
theorem dX4_advance_134 : decode cX4_advance 134 = .ok (.invokevirtual 65, 3) := by decide +kernel
theorem dX4_advance_137 : decode cX4_advance 137 = .ok (.goto 34, 3) := by decide +kernel
theorem dX4_advance_140 : decode cX4_advance 140 = .ok (.aload_n 0, 1) := by decide +kernel
theorem dX4_advance_141 : decode cX4_advance 141 = .ok (.aload_n 0, 1) := by decide +kernel
theorem dX4_advance_142 : decode cX4_advance 142 = .ok (.getfield 21, 3) := by decide +kernel
theorem dX4_advance_145 : decode cX4_advance 145 = .ok (.iload_n 1, 1) := by decide +kernel
theorem dX4_advance_146 : decode cX4_advance 146 = .ok (.i2c, 1) := by decide +kernel
theorem dX4_advance_147 : decode cX4_advance 147 = .ok (.invokevirtual 68, 3) := by decide +kernel
theorem dX4_advance_150 : decode cX4_advance 150 = .ok (.ifCond .lt 7, 3) := by decide +kernel
theorem dX4_advance_153 : decode cX4_advance 153 = .ok (.iload_n 1, 1) := by decide +kernel
theorem dX4_advance_154 : decode cX4_advance 154 = .ok (.goto 4, 3) := by decide +kernel
theorem dX4_advance_157 : decode cX4_advance 157 = .ok (.iconst 1, 1) := by decide +kernel
theorem dX4_advance_158 : decode cX4_advance 158 = .ok (.putfield 59, 3) := by decide +kernel
theorem dX4_advance_161 : decode cX4_advance 161 = .ok (.aload_n 0, 1) := by decide +kernel
theorem dX4_advance_162 : decode cX4_advance 162 = .ok (.dup, 1) := by decide +kernel
theorem dX4_advance_163 : decode cX4_advance 163 = .ok (.getfield 50, 3) := by decide +kernel
theorem dX4_advance_166 : decode cX4_advance 166 = .ok (.iconst 1, 1) := by decide +kernel
theorem dX4_advance_167 : decode cX4_advance 167 = .ok (.iadd, 1) := by decide +kernel
theorem dX4_advance_168 : decode cX4_advance 168 = .ok (.putfield 50, 3) := by decide +kernel
theorem dX4_advance_171 : decode cX4_advance 171 = .ok (.return_, 1) := by decide +kernel
theorem dX4_refuse_0 : decode cX4_refuse 0 = .ok (.aload_n 0, 1) := by decide +kernel
theorem dX4_refuse_1 : decode cX4_refuse 1 = .ok (.getfield 47, 3) := by decide +kernel
theorem dX4_refuse_4 : decode cX4_refuse 4 = .ok (.ifCond .ne 13, 3) := by decide +kernel
theorem dX4_refuse_7 : decode cX4_refuse 7 = .ok (.aload_n 0, 1) := by decide +kernel
theorem dX4_refuse_8 : decode cX4_refuse 8 = .ok (.iload_n 1, 1) := by decide +kernel
theorem dX4_refuse_9 : decode cX4_refuse 9 = .ok (.putfield 47, 3) := by decide +kernel
theorem dX4_refuse_12 : decode cX4_refuse 12 = .ok (.aload_n 0, 1) := by decide +kernel
theorem dX4_refuse_13 : decode cX4_refuse 13 = .ok (.iload_n 2, 1) := by decide +kernel
theorem dX4_refuse_14 : decode cX4_refuse 14 = .ok (.putfield 25, 3) := by decide +kernel
theorem dX4_refuse_17 : decode cX4_refuse 17 = .ok (.return_, 1) := by decide +kernel
theorem dX4_refuseToken_0 : decode cX4_refuseToken 0 = .ok (.aload_n 0, 1) := by decide +kernel
theorem dX4_refuseToken_1 : decode cX4_refuseToken 1 = .ok (.aload_n 0, 1) := by decide +kernel
theorem dX4_refuseToken_2 : decode cX4_refuseToken 2 = .ok (.getfield 59, 3) := by decide +kernel
theorem dX4_refuseToken_5 : decode cX4_refuseToken 5 = .ok (.iconst 1, 1) := by decide +kernel
theorem dX4_refuseToken_6 : decode cX4_refuseToken 6 = .ok (.if_icmp .ne 7, 3) := by decide +kernel
theorem dX4_refuseToken_9 : decode cX4_refuseToken 9 = .ok (.iconst 1, 1) := by decide +kernel
theorem dX4_refuseToken_10 : decode cX4_refuseToken 10 = .ok (.goto 4, 3) := by decide +kernel
theorem dX4_refuseToken_13 : decode cX4_refuseToken 13 = .ok (.iconst 2, 1) := by decide +kernel
theorem dX4_refuseToken_14 : decode cX4_refuseToken 14 = .ok (.aload_n 0, 1) := by decide +kernel
theorem dX4_refuseToken_15 : decode cX4_refuseToken 15 = .ok (.getfield 56, 3) := by decide +kernel
theorem dX4_refuseToken_18 : decode cX4_refuseToken 18 = .ok (.invokevirtual 72, 3) := by decide +kernel
theorem dX4_refuseToken_21 : decode cX4_refuseToken 21 = .ok (.return_, 1) := by decide +kernel
theorem dX4_take_0 : decode cX4_take 0 = .ok (.aload_n 0, 1) := by decide +kernel
theorem dX4_take_1 : decode cX4_take 1 = .ok (.getfield 47, 3) := by decide +kernel
theorem dX4_take_4 : decode cX4_take 4 = .ok (.ifCond .eq 5, 3) := by decide +kernel
theorem dX4_take_7 : decode cX4_take 7 = .ok (.iconst 0, 1) := by decide +kernel
theorem dX4_take_8 : decode cX4_take 8 = .ok (.ireturn, 1) := by decide +kernel
theorem dX4_take_9 : decode cX4_take 9 = .ok (.aload_n 0, 1) := by decide +kernel
theorem dX4_take_10 : decode cX4_take 10 = .ok (.getfield 59, 3) := by decide +kernel
theorem dX4_take_13 : decode cX4_take 13 = .ok (.iload_n 1, 1) := by decide +kernel
theorem dX4_take_14 : decode cX4_take 14 = .ok (.if_icmp .eq 9, 3) := by decide +kernel
theorem dX4_take_17 : decode cX4_take 17 = .ok (.aload_n 0, 1) := by decide +kernel
theorem dX4_take_18 : decode cX4_take 18 = .ok (.invokevirtual 76, 3) := by decide +kernel
theorem dX4_take_21 : decode cX4_take 21 = .ok (.iconst 0, 1) := by decide +kernel
theorem dX4_take_22 : decode cX4_take 22 = .ok (.ireturn, 1) := by decide +kernel
theorem dX4_take_23 : decode cX4_take 23 = .ok (.aload_n 0, 1) := by decide +kernel
theorem dX4_take_24 : decode cX4_take 24 = .ok (.invokevirtual 53, 3) := by decide +kernel
theorem dX4_take_27 : decode cX4_take 27 = .ok (.iconst 1, 1) := by decide +kernel
theorem dX4_take_28 : decode cX4_take 28 = .ok (.ireturn, 1) := by decide +kernel
theorem dX4_takeTable_0 : decode cX4_takeTable 0 = .ok (.aload_n 0, 1) := by decide +kernel
theorem dX4_takeTable_1 : decode cX4_takeTable 1 = .ok (.getfield 59, 3) := by decide +kernel
theorem dX4_takeTable_4 : decode cX4_takeTable 4 = .ok (.iconst 2, 1) := by decide +kernel
theorem dX4_takeTable_5 : decode cX4_takeTable 5 = .ok (.if_icmp .eq 7, 3) := by decide +kernel
theorem dX4_takeTable_8 : decode cX4_takeTable 8 = .ok (.aload_n 0, 1) := by decide +kernel
theorem dX4_takeTable_9 : decode cX4_takeTable 9 = .ok (.invokevirtual 76, 3) := by decide +kernel
theorem dX4_takeTable_12 : decode cX4_takeTable 12 = .ok (.aload_n 1, 1) := by decide +kernel
theorem dX4_takeTable_13 : decode cX4_takeTable 13 = .ok (.aload_n 0, 1) := by decide +kernel
theorem dX4_takeTable_14 : decode cX4_takeTable 14 = .ok (.getfield 79, 3) := by decide +kernel
theorem dX4_takeTable_17 : decode cX4_takeTable 17 = .ok (.invokevirtual 83, 3) := by decide +kernel
theorem dX4_takeTable_20 : decode cX4_takeTable 20 = .ok (.istore_n 2, 1) := by decide +kernel
theorem dX4_takeTable_21 : decode cX4_takeTable 21 = .ok (.iload_n 2, 1) := by decide +kernel
theorem dX4_takeTable_22 : decode cX4_takeTable 22 = .ok (.iconst (-1), 1) := by decide +kernel
theorem dX4_takeTable_23 : decode cX4_takeTable 23 = .ok (.if_icmp .ne 12, 3) := by decide +kernel
theorem dX4_takeTable_26 : decode cX4_takeTable 26 = .ok (.aload_n 0, 1) := by decide +kernel
theorem dX4_takeTable_27 : decode cX4_takeTable 27 = .ok (.iconst 4, 1) := by decide +kernel
theorem dX4_takeTable_28 : decode cX4_takeTable 28 = .ok (.aload_n 0, 1) := by decide +kernel
theorem dX4_takeTable_29 : decode cX4_takeTable 29 = .ok (.getfield 56, 3) := by decide +kernel
theorem dX4_takeTable_32 : decode cX4_takeTable 32 = .ok (.invokevirtual 72, 3) := by decide +kernel
theorem dX4_takeTable_35 : decode cX4_takeTable 35 = .ok (.aload_n 0, 1) := by decide +kernel
theorem dX4_takeTable_36 : decode cX4_takeTable 36 = .ok (.getfield 47, 3) := by decide +kernel
theorem dX4_takeTable_39 : decode cX4_takeTable 39 = .ok (.ifCond .eq 5, 3) := by decide +kernel
theorem dX4_takeTable_42 : decode cX4_takeTable 42 = .ok (.iconst (-1), 1) := by decide +kernel
theorem dX4_takeTable_43 : decode cX4_takeTable 43 = .ok (.ireturn, 1) := by decide +kernel
theorem dX4_takeTable_44 : decode cX4_takeTable 44 = .ok (.aload_n 0, 1) := by decide +kernel
theorem dX4_takeTable_45 : decode cX4_takeTable 45 = .ok (.invokevirtual 53, 3) := by decide +kernel
theorem dX4_takeTable_48 : decode cX4_takeTable 48 = .ok (.iload_n 2, 1) := by decide +kernel
theorem dX4_takeTable_49 : decode cX4_takeTable 49 = .ok (.ireturn, 1) := by decide +kernel
theorem dX4_readWord_0 : decode cX4_readWord 0 = .ok (.aload_n 0, 1) := by decide +kernel
theorem dX4_readWord_1 : decode cX4_readWord 1 = .ok (.lconst 0, 1) := by decide +kernel
theorem dX4_readWord_2 : decode cX4_readWord 2 = .ok (.putfield 79, 3) := by decide +kernel
theorem dX4_readWord_5 : decode cX4_readWord 5 = .ok (.aload_n 0, 1) := by decide +kernel
theorem dX4_readWord_6 : decode cX4_readWord 6 = .ok (.getfield 50, 3) := by decide +kernel
theorem dX4_readWord_9 : decode cX4_readWord 9 = .ok (.aload_n 0, 1) := by decide +kernel
theorem dX4_readWord_10 : decode cX4_readWord 10 = .ok (.getfield 43, 3) := by decide +kernel
theorem dX4_readWord_13 : decode cX4_readWord 13 = .ok (.if_icmp .ge 72, 3) := by decide +kernel
theorem dX4_readWord_16 : decode cX4_readWord 16 = .ok (.aload_n 0, 1) := by decide +kernel
theorem dX4_readWord_17 : decode cX4_readWord 17 = .ok (.getfield 9, 3) := by decide +kernel
theorem dX4_readWord_20 : decode cX4_readWord 20 = .ok (.aload_n 0, 1) := by decide +kernel
theorem dX4_readWord_21 : decode cX4_readWord 21 = .ok (.getfield 50, 3) := by decide +kernel
theorem dX4_readWord_24 : decode cX4_readWord 24 = .ok (.baload, 1) := by decide +kernel
theorem dX4_readWord_25 : decode cX4_readWord 25 = .ok (.bipush 97, 2) := by decide +kernel
theorem dX4_readWord_27 : decode cX4_readWord 27 = .ok (.if_icmp .lt 58, 3) := by decide +kernel
theorem dX4_readWord_30 : decode cX4_readWord 30 = .ok (.aload_n 0, 1) := by decide +kernel
theorem dX4_readWord_31 : decode cX4_readWord 31 = .ok (.getfield 9, 3) := by decide +kernel
theorem dX4_readWord_34 : decode cX4_readWord 34 = .ok (.aload_n 0, 1) := by decide +kernel
theorem dX4_readWord_35 : decode cX4_readWord 35 = .ok (.getfield 50, 3) := by decide +kernel
theorem dX4_readWord_38 : decode cX4_readWord 38 = .ok (.baload, 1) := by decide +kernel
theorem dX4_readWord_39 : decode cX4_readWord 39 = .ok (.bipush 122, 2) := by decide +kernel
theorem dX4_readWord_41 : decode cX4_readWord 41 = .ok (.if_icmp .gt 44, 3) := by decide +kernel
theorem dX4_readWord_44 : decode cX4_readWord 44 = .ok (.aload_n 0, 1) := by decide +kernel
theorem dX4_readWord_45 : decode cX4_readWord 45 = .ok (.aload_n 0, 1) := by decide +kernel
theorem dX4_readWord_46 : decode cX4_readWord 46 = .ok (.getfield 79, 3) := by decide +kernel
theorem dX4_readWord_49 : decode cX4_readWord 49 = .ok (.ldc2_w 41, 3) := by decide +kernel
theorem dX4_readWord_52 : decode cX4_readWord 52 = .ok (.lmul, 1) := by decide +kernel
theorem dX4_readWord_53 : decode cX4_readWord 53 = .ok (.aload_n 0, 1) := by decide +kernel
theorem dX4_readWord_54 : decode cX4_readWord 54 = .ok (.getfield 9, 3) := by decide +kernel
theorem dX4_readWord_57 : decode cX4_readWord 57 = .ok (.aload_n 0, 1) := by decide +kernel
theorem dX4_readWord_58 : decode cX4_readWord 58 = .ok (.getfield 50, 3) := by decide +kernel
theorem dX4_readWord_61 : decode cX4_readWord 61 = .ok (.baload, 1) := by decide +kernel
theorem dX4_readWord_62 : decode cX4_readWord 62 = .ok (.bipush 97, 2) := by decide +kernel
theorem dX4_readWord_64 : decode cX4_readWord 64 = .ok (.isub, 1) := by decide +kernel
theorem dX4_readWord_65 : decode cX4_readWord 65 = .ok (.iconst 1, 1) := by decide +kernel
theorem dX4_readWord_66 : decode cX4_readWord 66 = .ok (.iadd, 1) := by decide +kernel
theorem dX4_readWord_67 : decode cX4_readWord 67 = .ok (.i2l, 1) := by decide +kernel
theorem dX4_readWord_68 : decode cX4_readWord 68 = .ok (.ladd, 1) := by decide +kernel
theorem dX4_readWord_69 : decode cX4_readWord 69 = .ok (.putfield 79, 3) := by decide +kernel
theorem dX4_readWord_72 : decode cX4_readWord 72 = .ok (.aload_n 0, 1) := by decide +kernel
theorem dX4_readWord_73 : decode cX4_readWord 73 = .ok (.dup, 1) := by decide +kernel
theorem dX4_readWord_74 : decode cX4_readWord 74 = .ok (.getfield 50, 3) := by decide +kernel
theorem dX4_readWord_77 : decode cX4_readWord 77 = .ok (.iconst 1, 1) := by decide +kernel
theorem dX4_readWord_78 : decode cX4_readWord 78 = .ok (.iadd, 1) := by decide +kernel
theorem dX4_readWord_79 : decode cX4_readWord 79 = .ok (.putfield 50, 3) := by decide +kernel
theorem dX4_readWord_82 : decode cX4_readWord 82 = .ok (.goto (-77), 3) := by decide +kernel
theorem dX4_readWord_85 : decode cX4_readWord 85 = .ok (.aload_n 0, 1) := by decide +kernel
theorem dX4_readWord_86 : decode cX4_readWord 86 = .ok (.aload_n 0, 1) := by decide +kernel
theorem dX4_readWord_87 : decode cX4_readWord 87 = .ok (.getfield 50, 3) := by decide +kernel
theorem dX4_readWord_90 : decode cX4_readWord 90 = .ok (.aload_n 0, 1) := by decide +kernel
theorem dX4_readWord_91 : decode cX4_readWord 91 = .ok (.getfield 56, 3) := by decide +kernel
theorem dX4_readWord_94 : decode cX4_readWord 94 = .ok (.isub, 1) := by decide +kernel
theorem dX4_readWord_95 : decode cX4_readWord 95 = .ok (.bipush 8, 2) := by decide +kernel
theorem dX4_readWord_97 : decode cX4_readWord 97 = .ok (.if_icmp .le 7, 3) := by decide +kernel
theorem dX4_readWord_100 : decode cX4_readWord 100 = .ok (.iconst 1, 1) := by decide +kernel
theorem dX4_readWord_101 : decode cX4_readWord 101 = .ok (.goto 4, 3) := by decide +kernel
theorem dX4_readWord_104 : decode cX4_readWord 104 = .ok (.iconst 2, 1) := by decide +kernel
theorem dX4_readWord_105 : decode cX4_readWord 105 = .ok (.putfield 59, 3) := by decide +kernel
theorem dX4_readWord_108 : decode cX4_readWord 108 = .ok (.iconst 0, 1) := by decide +kernel
theorem dX4_readWord_109 : decode cX4_readWord 109 = .ok (.istore_n 1, 1) := by decide +kernel
theorem dX4_readWord_110 : decode cX4_readWord 110 = .ok (.iload_n 1, 1) := by decide +kernel
theorem dX4_readWord_111 : decode cX4_readWord 111 = .ok (.aload_n 0, 1) := by decide +kernel
theorem dX4_readWord_112 : decode cX4_readWord 112 = .ok (.getfield 15, 3) := by decide +kernel
theorem dX4_readWord_115 : decode cX4_readWord 115 = .ok (.arraylength, 1) := by decide +kernel
theorem dX4_readWord_116 : decode cX4_readWord 116 = .ok (.if_icmp .ge 38, 3) := by decide +kernel
theorem dX4_readWord_119 : decode cX4_readWord 119 = .ok (.aload_n 0, 1) := by decide +kernel
theorem dX4_readWord_120 : decode cX4_readWord 120 = .ok (.getfield 59, 3) := by decide +kernel
theorem dX4_readWord_123 : decode cX4_readWord 123 = .ok (.iconst 2, 1) := by decide +kernel
theorem dX4_readWord_124 : decode cX4_readWord 124 = .ok (.if_icmp .ne 24, 3) := by decide +kernel
theorem dX4_readWord_127 : decode cX4_readWord 127 = .ok (.aload_n 0, 1) := by decide +kernel
theorem dX4_readWord_128 : decode cX4_readWord 128 = .ok (.getfield 15, 3) := by decide +kernel
theorem dX4_readWord_131 : decode cX4_readWord 131 = .ok (.iload_n 1, 1) := by decide +kernel
theorem dX4_readWord_132 : decode cX4_readWord 132 = .ok (.laload, 1) := by decide +kernel
theorem dX4_readWord_133 : decode cX4_readWord 133 = .ok (.aload_n 0, 1) := by decide +kernel
theorem dX4_readWord_134 : decode cX4_readWord 134 = .ok (.getfield 79, 3) := by decide +kernel
theorem dX4_readWord_137 : decode cX4_readWord 137 = .ok (.lcmp, 1) := by decide +kernel
theorem dX4_readWord_138 : decode cX4_readWord 138 = .ok (.ifCond .ne 10, 3) := by decide +kernel
theorem dX4_readWord_141 : decode cX4_readWord 141 = .ok (.aload_n 0, 1) := by decide +kernel
theorem dX4_readWord_142 : decode cX4_readWord 142 = .ok (.iconst 4, 1) := by decide +kernel
theorem dX4_readWord_143 : decode cX4_readWord 143 = .ok (.iload_n 1, 1) := by decide +kernel
theorem dX4_readWord_144 : decode cX4_readWord 144 = .ok (.iadd, 1) := by decide +kernel
theorem dX4_readWord_145 : decode cX4_readWord 145 = .ok (.putfield 59, 3) := by decide +kernel
theorem dX4_readWord_148 : decode cX4_readWord 148 = .ok (.iinc 1 1, 3) := by decide +kernel
theorem dX4_readWord_151 : decode cX4_readWord 151 = .ok (.goto (-41), 3) := by decide +kernel
theorem dX4_readWord_154 : decode cX4_readWord 154 = .ok (.return_, 1) := by decide +kernel
theorem dX4_readNumber_0 : decode cX4_readNumber 0 = .ok (.aload_n 0, 1) := by decide +kernel
theorem dX4_readNumber_1 : decode cX4_readNumber 1 = .ok (.iconst 0, 1) := by decide +kernel
theorem dX4_readNumber_2 : decode cX4_readNumber 2 = .ok (.putfield 89, 3) := by decide +kernel
theorem dX4_readNumber_5 : decode cX4_readNumber 5 = .ok (.aload_n 0, 1) := by decide +kernel
theorem dX4_readNumber_6 : decode cX4_readNumber 6 = .ok (.getfield 50, 3) := by decide +kernel
theorem dX4_readNumber_9 : decode cX4_readNumber 9 = .ok (.aload_n 0, 1) := by decide +kernel
theorem dX4_readNumber_10 : decode cX4_readNumber 10 = .ok (.getfield 43, 3) := by decide +kernel
theorem dX4_readNumber_13 : decode cX4_readNumber 13 = .ok (.if_icmp .ge 68, 3) := by decide +kernel
theorem dX4_readNumber_16 : decode cX4_readNumber 16 = .ok (.aload_n 0, 1) := by decide +kernel
theorem dX4_readNumber_17 : decode cX4_readNumber 17 = .ok (.getfield 9, 3) := by decide +kernel
theorem dX4_readNumber_20 : decode cX4_readNumber 20 = .ok (.aload_n 0, 1) := by decide +kernel
theorem dX4_readNumber_21 : decode cX4_readNumber 21 = .ok (.getfield 50, 3) := by decide +kernel
theorem dX4_readNumber_24 : decode cX4_readNumber 24 = .ok (.baload, 1) := by decide +kernel
theorem dX4_readNumber_25 : decode cX4_readNumber 25 = .ok (.bipush 48, 2) := by decide +kernel
theorem dX4_readNumber_27 : decode cX4_readNumber 27 = .ok (.if_icmp .lt 54, 3) := by decide +kernel
theorem dX4_readNumber_30 : decode cX4_readNumber 30 = .ok (.aload_n 0, 1) := by decide +kernel
theorem dX4_readNumber_31 : decode cX4_readNumber 31 = .ok (.getfield 9, 3) := by decide +kernel
theorem dX4_readNumber_34 : decode cX4_readNumber 34 = .ok (.aload_n 0, 1) := by decide +kernel
theorem dX4_readNumber_35 : decode cX4_readNumber 35 = .ok (.getfield 50, 3) := by decide +kernel
theorem dX4_readNumber_38 : decode cX4_readNumber 38 = .ok (.baload, 1) := by decide +kernel
theorem dX4_readNumber_39 : decode cX4_readNumber 39 = .ok (.bipush 57, 2) := by decide +kernel
theorem dX4_readNumber_41 : decode cX4_readNumber 41 = .ok (.if_icmp .gt 40, 3) := by decide +kernel
theorem dX4_readNumber_44 : decode cX4_readNumber 44 = .ok (.aload_n 0, 1) := by decide +kernel
theorem dX4_readNumber_45 : decode cX4_readNumber 45 = .ok (.aload_n 0, 1) := by decide +kernel
theorem dX4_readNumber_46 : decode cX4_readNumber 46 = .ok (.getfield 89, 3) := by decide +kernel
theorem dX4_readNumber_49 : decode cX4_readNumber 49 = .ok (.bipush 10, 2) := by decide +kernel
theorem dX4_readNumber_51 : decode cX4_readNumber 51 = .ok (.imul, 1) := by decide +kernel
theorem dX4_readNumber_52 : decode cX4_readNumber 52 = .ok (.aload_n 0, 1) := by decide +kernel
theorem dX4_readNumber_53 : decode cX4_readNumber 53 = .ok (.getfield 9, 3) := by decide +kernel
theorem dX4_readNumber_56 : decode cX4_readNumber 56 = .ok (.aload_n 0, 1) := by decide +kernel
theorem dX4_readNumber_57 : decode cX4_readNumber 57 = .ok (.getfield 50, 3) := by decide +kernel
theorem dX4_readNumber_60 : decode cX4_readNumber 60 = .ok (.baload, 1) := by decide +kernel
theorem dX4_readNumber_61 : decode cX4_readNumber 61 = .ok (.bipush 48, 2) := by decide +kernel
theorem dX4_readNumber_63 : decode cX4_readNumber 63 = .ok (.isub, 1) := by decide +kernel
theorem dX4_readNumber_64 : decode cX4_readNumber 64 = .ok (.iadd, 1) := by decide +kernel
theorem dX4_readNumber_65 : decode cX4_readNumber 65 = .ok (.putfield 89, 3) := by decide +kernel
theorem dX4_readNumber_68 : decode cX4_readNumber 68 = .ok (.aload_n 0, 1) := by decide +kernel
theorem dX4_readNumber_69 : decode cX4_readNumber 69 = .ok (.dup, 1) := by decide +kernel
theorem dX4_readNumber_70 : decode cX4_readNumber 70 = .ok (.getfield 50, 3) := by decide +kernel
theorem dX4_readNumber_73 : decode cX4_readNumber 73 = .ok (.iconst 1, 1) := by decide +kernel
theorem dX4_readNumber_74 : decode cX4_readNumber 74 = .ok (.iadd, 1) := by decide +kernel
theorem dX4_readNumber_75 : decode cX4_readNumber 75 = .ok (.putfield 50, 3) := by decide +kernel
theorem dX4_readNumber_78 : decode cX4_readNumber 78 = .ok (.goto (-73), 3) := by decide +kernel
theorem dX4_readNumber_81 : decode cX4_readNumber 81 = .ok (.aload_n 0, 1) := by decide +kernel
theorem dX4_readNumber_82 : decode cX4_readNumber 82 = .ok (.getfield 50, 3) := by decide +kernel
theorem dX4_readNumber_85 : decode cX4_readNumber 85 = .ok (.aload_n 0, 1) := by decide +kernel
theorem dX4_readNumber_86 : decode cX4_readNumber 86 = .ok (.getfield 43, 3) := by decide +kernel
theorem dX4_readNumber_89 : decode cX4_readNumber 89 = .ok (.if_icmp .ge 35, 3) := by decide +kernel
theorem dX4_readNumber_92 : decode cX4_readNumber 92 = .ok (.aload_n 0, 1) := by decide +kernel
theorem dX4_readNumber_93 : decode cX4_readNumber 93 = .ok (.getfield 9, 3) := by decide +kernel
theorem dX4_readNumber_96 : decode cX4_readNumber 96 = .ok (.aload_n 0, 1) := by decide +kernel
theorem dX4_readNumber_97 : decode cX4_readNumber 97 = .ok (.getfield 50, 3) := by decide +kernel
theorem dX4_readNumber_100 : decode cX4_readNumber 100 = .ok (.baload, 1) := by decide +kernel
theorem dX4_readNumber_101 : decode cX4_readNumber 101 = .ok (.bipush 97, 2) := by decide +kernel
theorem dX4_readNumber_103 : decode cX4_readNumber 103 = .ok (.if_icmp .lt 21, 3) := by decide +kernel
theorem dX4_readNumber_106 : decode cX4_readNumber 106 = .ok (.aload_n 0, 1) := by decide +kernel
theorem dX4_readNumber_107 : decode cX4_readNumber 107 = .ok (.getfield 9, 3) := by decide +kernel
theorem dX4_readNumber_110 : decode cX4_readNumber 110 = .ok (.aload_n 0, 1) := by decide +kernel
theorem dX4_readNumber_111 : decode cX4_readNumber 111 = .ok (.getfield 50, 3) := by decide +kernel
theorem dX4_readNumber_114 : decode cX4_readNumber 114 = .ok (.baload, 1) := by decide +kernel
theorem dX4_readNumber_115 : decode cX4_readNumber 115 = .ok (.bipush 122, 2) := by decide +kernel
theorem dX4_readNumber_117 : decode cX4_readNumber 117 = .ok (.if_icmp .gt 7, 3) := by decide +kernel
theorem dX4_readNumber_120 : decode cX4_readNumber 120 = .ok (.iconst 1, 1) := by decide +kernel
theorem dX4_readNumber_121 : decode cX4_readNumber 121 = .ok (.goto 4, 3) := by decide +kernel
theorem dX4_readNumber_124 : decode cX4_readNumber 124 = .ok (.iconst 0, 1) := by decide +kernel
theorem dX4_readNumber_125 : decode cX4_readNumber 125 = .ok (.istore_n 1, 1) := by decide +kernel
theorem dX4_readNumber_126 : decode cX4_readNumber 126 = .ok (.aload_n 0, 1) := by decide +kernel
theorem dX4_readNumber_127 : decode cX4_readNumber 127 = .ok (.aload_n 0, 1) := by decide +kernel
theorem dX4_readNumber_128 : decode cX4_readNumber 128 = .ok (.getfield 50, 3) := by decide +kernel
theorem dX4_readNumber_131 : decode cX4_readNumber 131 = .ok (.aload_n 0, 1) := by decide +kernel
theorem dX4_readNumber_132 : decode cX4_readNumber 132 = .ok (.getfield 56, 3) := by decide +kernel
theorem dX4_readNumber_135 : decode cX4_readNumber 135 = .ok (.isub, 1) := by decide +kernel
theorem dX4_readNumber_136 : decode cX4_readNumber 136 = .ok (.bipush 6, 2) := by decide +kernel
theorem dX4_readNumber_138 : decode cX4_readNumber 138 = .ok (.if_icmp .gt 7, 3) := by decide +kernel
theorem dX4_readNumber_141 : decode cX4_readNumber 141 = .ok (.iload_n 1, 1) := by decide +kernel
theorem dX4_readNumber_142 : decode cX4_readNumber 142 = .ok (.ifCond .eq 7, 3) := by decide +kernel
theorem dX4_readNumber_145 : decode cX4_readNumber 145 = .ok (.iconst 1, 1) := by decide +kernel
theorem dX4_readNumber_146 : decode cX4_readNumber 146 = .ok (.goto 4, 3) := by decide +kernel
theorem dX4_readNumber_149 : decode cX4_readNumber 149 = .ok (.iconst 3, 1) := by decide +kernel
theorem dX4_readNumber_150 : decode cX4_readNumber 150 = .ok (.putfield 59, 3) := by decide +kernel
theorem dX4_readNumber_153 : decode cX4_readNumber 153 = .ok (.return_, 1) := by decide +kernel
theorem dX5_init_0 : decode cX5_init 0 = .ok (.aload_n 0, 1) := by decide +kernel
theorem dX5_init_1 : decode cX5_init 1 = .ok (.invokespecial 3, 3) := by decide +kernel
theorem dX5_init_4 : decode cX5_init 4 = .ok (.aload_n 0, 1) := by decide +kernel
theorem dX5_init_5 : decode cX5_init 5 = .ok (.aload_n 1, 1) := by decide +kernel
theorem dX5_init_6 : decode cX5_init 6 = .ok (.putfield 9, 3) := by decide +kernel
theorem dX5_init_9 : decode cX5_init 9 = .ok (.aload_n 0, 1) := by decide +kernel
theorem dX5_init_10 : decode cX5_init 10 = .ok (.aload_n 2, 1) := by decide +kernel
theorem dX5_init_11 : decode cX5_init 11 = .ok (.putfield 15, 3) := by decide +kernel
theorem dX5_init_14 : decode cX5_init 14 = .ok (.aload_n 0, 1) := by decide +kernel
theorem dX5_init_15 : decode cX5_init 15 = .ok (.aload_n 3, 1) := by decide +kernel
theorem dX5_init_16 : decode cX5_init 16 = .ok (.putfield 19, 3) := by decide +kernel
theorem dX5_init_19 : decode cX5_init 19 = .ok (.aload_n 0, 1) := by decide +kernel
theorem dX5_init_20 : decode cX5_init 20 = .ok (.iconst 4, 1) := by decide +kernel
theorem dX5_init_21 : decode cX5_init 21 = .ok (.newarray .int, 2) := by decide +kernel
theorem dX5_init_23 : decode cX5_init 23 = .ok (.putfield 23, 3) := by decide +kernel
theorem dX5_init_26 : decode cX5_init 26 = .ok (.return_, 1) := by decide +kernel
theorem dX5_readAll_0 : decode cX5_readAll 0 = .ok (.aload_n 0, 1) := by decide +kernel
theorem dX5_readAll_1 : decode cX5_readAll 1 = .ok (.getfield 19, 3) := by decide +kernel
theorem dX5_readAll_4 : decode cX5_readAll 4 = .ok (.invokevirtual 27, 3) := by decide +kernel
theorem dX5_readAll_7 : decode cX5_readAll 7 = .ok (.aload_n 0, 1) := by decide +kernel
theorem dX5_readAll_8 : decode cX5_readAll 8 = .ok (.getfield 9, 3) := by decide +kernel
theorem dX5_readAll_11 : decode cX5_readAll 11 = .ok (.iconst 1, 1) := by decide +kernel
theorem dX5_readAll_12 : decode cX5_readAll 12 = .ok (.invokevirtual 32, 3) := by decide +kernel
theorem dX5_readAll_15 : decode cX5_readAll 15 = .ok (.iconst 0, 1) := by decide +kernel
theorem dX5_readAll_16 : decode cX5_readAll 16 = .ok (.istore_n 1, 1) := by decide +kernel
theorem dX5_readAll_17 : decode cX5_readAll 17 = .ok (.iload_n 1, 1) := by decide +kernel
theorem dX5_readAll_18 : decode cX5_readAll 18 = .ok (.bipush 10, 2) := by decide +kernel
theorem dX5_readAll_20 : decode cX5_readAll 20 = .ok (.if_icmp .gt 86, 3) := by decide +kernel
theorem dX5_readAll_23 : decode cX5_readAll 23 = .ok (.aload_n 0, 1) := by decide +kernel
theorem dX5_readAll_24 : decode cX5_readAll 24 = .ok (.getfield 9, 3) := by decide +kernel
theorem dX5_readAll_27 : decode cX5_readAll 27 = .ok (.getfield 38, 3) := by decide +kernel
theorem dX5_readAll_30 : decode cX5_readAll 30 = .ok (.ifCond .ne 76, 3) := by decide +kernel
theorem dX5_readAll_33 : decode cX5_readAll 33 = .ok (.aload_n 0, 1) := by decide +kernel
theorem dX5_readAll_34 : decode cX5_readAll 34 = .ok (.getfield 9, 3) := by decide +kernel
theorem dX5_readAll_37 : decode cX5_readAll 37 = .ok (.getfield 42, 3) := by decide +kernel
theorem dX5_readAll_40 : decode cX5_readAll 40 = .ok (.ifCond .eq 66, 3) := by decide +kernel
theorem dX5_readAll_43 : decode cX5_readAll 43 = .ok (.aload_n 0, 1) := by decide +kernel
theorem dX5_readAll_44 : decode cX5_readAll 44 = .ok (.getfield 9, 3) := by decide +kernel
theorem dX5_readAll_47 : decode cX5_readAll 47 = .ok (.getfield 42, 3) := by decide +kernel
theorem dX5_readAll_50 : decode cX5_readAll 50 = .ok (.bipush 7, 2) := by decide +kernel
theorem dX5_readAll_52 : decode cX5_readAll 52 = .ok (.if_icmp .ne 16, 3) := by decide +kernel
theorem dX5_readAll_55 : decode cX5_readAll 55 = .ok (.iload_n 1, 1) := by decide +kernel
theorem dX5_readAll_56 : decode cX5_readAll 56 = .ok (.bipush 10, 2) := by decide +kernel
theorem dX5_readAll_58 : decode cX5_readAll 58 = .ok (.if_icmp .ge 10, 3) := by decide +kernel
theorem dX5_readAll_61 : decode cX5_readAll 61 = .ok (.aload_n 0, 1) := by decide +kernel
theorem dX5_readAll_62 : decode cX5_readAll 62 = .ok (.invokevirtual 45, 3) := by decide +kernel
theorem dX5_readAll_65 : decode cX5_readAll 65 = .ok (.goto 35, 3) := by decide +kernel
theorem dX5_readAll_68 : decode cX5_readAll 68 = .ok (.aload_n 0, 1) := by decide +kernel
theorem dX5_readAll_69 : decode cX5_readAll 69 = .ok (.getfield 9, 3) := by decide +kernel
theorem dX5_readAll_72 : decode cX5_readAll 72 = .ok (.getfield 42, 3) := by decide +kernel
theorem dX5_readAll_75 : decode cX5_readAll 75 = .ok (.bipush 8, 2) := by decide +kernel
theorem dX5_readAll_77 : decode cX5_readAll 77 = .ok (.if_icmp .ne 16, 3) := by decide +kernel
theorem dX5_readAll_80 : decode cX5_readAll 80 = .ok (.iload_n 1, 1) := by decide +kernel
theorem dX5_readAll_81 : decode cX5_readAll 81 = .ok (.bipush 10, 2) := by decide +kernel
theorem dX5_readAll_83 : decode cX5_readAll 83 = .ok (.if_icmp .ge 10, 3) := by decide +kernel
theorem dX5_readAll_86 : decode cX5_readAll 86 = .ok (.aload_n 0, 1) := by decide +kernel
theorem dX5_readAll_87 : decode cX5_readAll 87 = .ok (.invokevirtual 48, 3) := by decide +kernel
theorem dX5_readAll_90 : decode cX5_readAll 90 = .ok (.goto 10, 3) := by decide +kernel
theorem dX5_readAll_93 : decode cX5_readAll 93 = .ok (.aload_n 0, 1) := by decide +kernel
theorem dX5_readAll_94 : decode cX5_readAll 94 = .ok (.getfield 9, 3) := by decide +kernel
theorem dX5_readAll_97 : decode cX5_readAll 97 = .ok (.invokevirtual 51, 3) := by decide +kernel
theorem dX5_readAll_100 : decode cX5_readAll 100 = .ok (.iinc 1 1, 3) := by decide +kernel
theorem dX5_readAll_103 : decode cX5_readAll 103 = .ok (.goto (-86), 3) := by decide +kernel
theorem dX5_readAll_106 : decode cX5_readAll 106 = .ok (.aload_n 0, 1) := by decide +kernel
theorem dX5_readAll_107 : decode cX5_readAll 107 = .ok (.getfield 9, 3) := by decide +kernel
theorem dX5_readAll_110 : decode cX5_readAll 110 = .ok (.getfield 38, 3) := by decide +kernel
theorem dX5_readAll_113 : decode cX5_readAll 113 = .ok (.ifCond .ne 7, 3) := by decide +kernel
theorem dX5_readAll_116 : decode cX5_readAll 116 = .ok (.iconst 1, 1) := by decide +kernel
theorem dX5_readAll_117 : decode cX5_readAll 117 = .ok (.goto 4, 3) := by decide +kernel
theorem dX5_readAll_120 : decode cX5_readAll 120 = .ok (.iconst 0, 1) := by decide +kernel
theorem dX5_readAll_121 : decode cX5_readAll 121 = .ok (.ireturn, 1) := by decide +kernel
theorem dX5_readWish_0 : decode cX5_readWish 0 = .ok (.aload_n 0, 1) := by decide +kernel
theorem dX5_readWish_1 : decode cX5_readWish 1 = .ok (.getfield 9, 3) := by decide +kernel
theorem dX5_readWish_4 : decode cX5_readWish 4 = .ok (.invokevirtual 54, 3) := by decide +kernel
theorem dX5_readWish_7 : decode cX5_readWish 7 = .ok (.aload_n 0, 1) := by decide +kernel
theorem dX5_readWish_8 : decode cX5_readWish 8 = .ok (.invokevirtual 57, 3) := by decide +kernel
theorem dX5_readWish_11 : decode cX5_readWish 11 = .ok (.istore_n 1, 1) := by decide +kernel
theorem dX5_readWish_12 : decode cX5_readWish 12 = .ok (.aload_n 0, 1) := by decide +kernel
theorem dX5_readWish_13 : decode cX5_readWish 13 = .ok (.aload_n 0, 1) := by decide +kernel
theorem dX5_readWish_14 : decode cX5_readWish 14 = .ok (.getfield 9, 3) := by decide +kernel
theorem dX5_readWish_17 : decode cX5_readWish 17 = .ok (.aload_n 0, 1) := by decide +kernel
theorem dX5_readWish_18 : decode cX5_readWish 18 = .ok (.getfield 15, 3) := by decide +kernel
theorem dX5_readWish_21 : decode cX5_readWish 21 = .ok (.invokevirtual 61, 3) := by decide +kernel
theorem dX5_readWish_24 : decode cX5_readWish 24 = .ok (.putfield 65, 3) := by decide +kernel
theorem dX5_readWish_27 : decode cX5_readWish 27 = .ok (.aload_n 0, 1) := by decide +kernel
theorem dX5_readWish_28 : decode cX5_readWish 28 = .ok (.getfield 9, 3) := by decide +kernel
theorem dX5_readWish_31 : decode cX5_readWish 31 = .ok (.getfield 38, 3) := by decide +kernel
theorem dX5_readWish_34 : decode cX5_readWish 34 = .ok (.ifCond .eq 4, 3) := by decide +kernel
theorem dX5_readWish_37 : decode cX5_readWish 37 = .ok (.return_, 1) := by decide +kernel
theorem dX5_readWish_38 : decode cX5_readWish 38 = .ok (.aload_n 0, 1) := by decide +kernel
theorem dX5_readWish_39 : decode cX5_readWish 39 = .ok (.getfield 15, 3) := by decide +kernel
theorem dX5_readWish_42 : decode cX5_readWish 42 = .ok (.aload_n 0, 1) := by decide +kernel
theorem dX5_readWish_43 : decode cX5_readWish 43 = .ok (.getfield 65, 3) := by decide +kernel
theorem dX5_readWish_46 : decode cX5_readWish 46 = .ok (.invokevirtual 68, 3) := by decide +kernel
theorem dX5_readWish_49 : decode cX5_readWish 49 = .ok (.istore_n 2, 1) := by decide +kernel
theorem dX5_readWish_50 : decode cX5_readWish 50 = .ok (.aload_n 0, 1) := by decide +kernel
theorem dX5_readWish_51 : decode cX5_readWish 51 = .ok (.getfield 9, 3) := by decide +kernel
theorem dX5_readWish_54 : decode cX5_readWish 54 = .ok (.getfield 42, 3) := by decide +kernel
theorem dX5_readWish_57 : decode cX5_readWish 57 = .ok (.bipush 9, 2) := by decide +kernel
theorem dX5_readWish_59 : decode cX5_readWish 59 = .ok (.if_icmp .ne 18, 3) := by decide +kernel
theorem dX5_readWish_62 : decode cX5_readWish 62 = .ok (.aload_n 0, 1) := by decide +kernel
theorem dX5_readWish_63 : decode cX5_readWish 63 = .ok (.getfield 9, 3) := by decide +kernel
theorem dX5_readWish_66 : decode cX5_readWish 66 = .ok (.invokevirtual 54, 3) := by decide +kernel
theorem dX5_readWish_69 : decode cX5_readWish 69 = .ok (.iload_n 2, 1) := by decide +kernel
theorem dX5_readWish_70 : decode cX5_readWish 70 = .ok (.aload_n 0, 1) := by decide +kernel
theorem dX5_readWish_71 : decode cX5_readWish 71 = .ok (.iconst 0, 1) := by decide +kernel
theorem dX5_readWish_72 : decode cX5_readWish 72 = .ok (.invokevirtual 74, 3) := by decide +kernel
theorem dX5_readWish_75 : decode cX5_readWish 75 = .ok (.iand, 1) := by decide +kernel
theorem dX5_readWish_76 : decode cX5_readWish 76 = .ok (.istore_n 2, 1) := by decide +kernel
theorem dX5_readWish_77 : decode cX5_readWish 77 = .ok (.aload_n 0, 1) := by decide +kernel
theorem dX5_readWish_78 : decode cX5_readWish 78 = .ok (.getfield 9, 3) := by decide +kernel
theorem dX5_readWish_81 : decode cX5_readWish 81 = .ok (.bipush 59, 2) := by decide +kernel
theorem dX5_readWish_83 : decode cX5_readWish 83 = .ok (.invokevirtual 77, 3) := by decide +kernel
theorem dX5_readWish_86 : decode cX5_readWish 86 = .ok (.ifCond .eq 16, 3) := by decide +kernel
theorem dX5_readWish_89 : decode cX5_readWish 89 = .ok (.aload_n 0, 1) := by decide +kernel
theorem dX5_readWish_90 : decode cX5_readWish 90 = .ok (.getfield 19, 3) := by decide +kernel
theorem dX5_readWish_93 : decode cX5_readWish 93 = .ok (.aload_n 0, 1) := by decide +kernel
theorem dX5_readWish_94 : decode cX5_readWish 94 = .ok (.getfield 65, 3) := by decide +kernel
theorem dX5_readWish_97 : decode cX5_readWish 97 = .ok (.iload_n 1, 1) := by decide +kernel
theorem dX5_readWish_98 : decode cX5_readWish 98 = .ok (.iload_n 2, 1) := by decide +kernel
theorem dX5_readWish_99 : decode cX5_readWish 99 = .ok (.invokevirtual 81, 3) := by decide +kernel
theorem dX5_readWish_102 : decode cX5_readWish 102 = .ok (.return_, 1) := by decide +kernel
theorem dX5_readLaw_0 : decode cX5_readLaw 0 = .ok (.aload_n 0, 1) := by decide +kernel
theorem dX5_readLaw_1 : decode cX5_readLaw 1 = .ok (.getfield 9, 3) := by decide +kernel
theorem dX5_readLaw_4 : decode cX5_readLaw 4 = .ok (.invokevirtual 54, 3) := by decide +kernel
theorem dX5_readLaw_7 : decode cX5_readLaw 7 = .ok (.aload_n 0, 1) := by decide +kernel
theorem dX5_readLaw_8 : decode cX5_readLaw 8 = .ok (.getfield 9, 3) := by decide +kernel
theorem dX5_readLaw_11 : decode cX5_readLaw 11 = .ok (.aload_n 0, 1) := by decide +kernel
theorem dX5_readLaw_12 : decode cX5_readLaw 12 = .ok (.getfield 15, 3) := by decide +kernel
theorem dX5_readLaw_15 : decode cX5_readLaw 15 = .ok (.invokevirtual 61, 3) := by decide +kernel
theorem dX5_readLaw_18 : decode cX5_readLaw 18 = .ok (.istore_n 1, 1) := by decide +kernel
theorem dX5_readLaw_19 : decode cX5_readLaw 19 = .ok (.aload_n 0, 1) := by decide +kernel
theorem dX5_readLaw_20 : decode cX5_readLaw 20 = .ok (.getfield 9, 3) := by decide +kernel
theorem dX5_readLaw_23 : decode cX5_readLaw 23 = .ok (.bipush 10, 2) := by decide +kernel
theorem dX5_readLaw_25 : decode cX5_readLaw 25 = .ok (.invokevirtual 77, 3) := by decide +kernel
theorem dX5_readLaw_28 : decode cX5_readLaw 28 = .ok (.pop, 1) := by decide +kernel
theorem dX5_readLaw_29 : decode cX5_readLaw 29 = .ok (.aload_n 0, 1) := by decide +kernel
theorem dX5_readLaw_30 : decode cX5_readLaw 30 = .ok (.invokevirtual 57, 3) := by decide +kernel
theorem dX5_readLaw_33 : decode cX5_readLaw 33 = .ok (.istore_n 2, 1) := by decide +kernel
theorem dX5_readLaw_34 : decode cX5_readLaw 34 = .ok (.aload_n 0, 1) := by decide +kernel
theorem dX5_readLaw_35 : decode cX5_readLaw 35 = .ok (.getfield 9, 3) := by decide +kernel
theorem dX5_readLaw_38 : decode cX5_readLaw 38 = .ok (.aload_n 0, 1) := by decide +kernel
theorem dX5_readLaw_39 : decode cX5_readLaw 39 = .ok (.getfield 15, 3) := by decide +kernel
theorem dX5_readLaw_42 : decode cX5_readLaw 42 = .ok (.invokevirtual 61, 3) := by decide +kernel
theorem dX5_readLaw_45 : decode cX5_readLaw 45 = .ok (.istore_n 3, 1) := by decide +kernel
theorem dX5_readLaw_46 : decode cX5_readLaw 46 = .ok (.aload_n 0, 1) := by decide +kernel
theorem dX5_readLaw_47 : decode cX5_readLaw 47 = .ok (.getfield 9, 3) := by decide +kernel
theorem dX5_readLaw_50 : decode cX5_readLaw 50 = .ok (.bipush 11, 2) := by decide +kernel
theorem dX5_readLaw_52 : decode cX5_readLaw 52 = .ok (.invokevirtual 77, 3) := by decide +kernel
theorem dX5_readLaw_55 : decode cX5_readLaw 55 = .ok (.pop, 1) := by decide +kernel
theorem dX5_readLaw_56 : decode cX5_readLaw 56 = .ok (.aload_n 0, 1) := by decide +kernel
theorem dX5_readLaw_57 : decode cX5_readLaw 57 = .ok (.getfield 15, 3) := by decide +kernel
theorem dX5_readLaw_60 : decode cX5_readLaw 60 = .ok (.iload_n 3, 1) := by decide +kernel
theorem dX5_readLaw_61 : decode cX5_readLaw 61 = .ok (.aload_n 0, 1) := by decide +kernel
theorem dX5_readLaw_62 : decode cX5_readLaw 62 = .ok (.getfield 9, 3) := by decide +kernel
theorem dX5_readLaw_65 : decode cX5_readLaw 65 = .ok (.getfield 85, 3) := by decide +kernel
theorem dX5_readLaw_68 : decode cX5_readLaw 68 = .ok (.invokevirtual 89, 3) := by decide +kernel
theorem dX5_readLaw_71 : decode cX5_readLaw 71 = .ok (.istore 4, 2) := by decide +kernel
theorem dX5_readLaw_73 : decode cX5_readLaw 73 = .ok (.aload_n 0, 1) := by decide +kernel
theorem dX5_readLaw_74 : decode cX5_readLaw 74 = .ok (.getfield 9, 3) := by decide +kernel
theorem dX5_readLaw_77 : decode cX5_readLaw 77 = .ok (.getfield 42, 3) := by decide +kernel
theorem dX5_readLaw_80 : decode cX5_readLaw 80 = .ok (.iconst 2, 1) := by decide +kernel
theorem dX5_readLaw_81 : decode cX5_readLaw 81 = .ok (.if_icmp .ne 38, 3) := by decide +kernel
theorem dX5_readLaw_84 : decode cX5_readLaw 84 = .ok (.iload 4, 2) := by decide +kernel
theorem dX5_readLaw_86 : decode cX5_readLaw 86 = .ok (.iconst (-1), 1) := by decide +kernel
theorem dX5_readLaw_87 : decode cX5_readLaw 87 = .ok (.if_icmp .eq 17, 3) := by decide +kernel
theorem dX5_readLaw_90 : decode cX5_readLaw 90 = .ok (.aload_n 0, 1) := by decide +kernel
theorem dX5_readLaw_91 : decode cX5_readLaw 91 = .ok (.getfield 15, 3) := by decide +kernel
theorem dX5_readLaw_94 : decode cX5_readLaw 94 = .ok (.iload_n 3, 1) := by decide +kernel
theorem dX5_readLaw_95 : decode cX5_readLaw 95 = .ok (.iload 4, 2) := by decide +kernel
theorem dX5_readLaw_97 : decode cX5_readLaw 97 = .ok (.invokevirtual 93, 3) := by decide +kernel
theorem dX5_readLaw_100 : decode cX5_readLaw 100 = .ok (.iload_n 1, 1) := by decide +kernel
theorem dX5_readLaw_101 : decode cX5_readLaw 101 = .ok (.if_icmp .eq 18, 3) := by decide +kernel
theorem dX5_readLaw_104 : decode cX5_readLaw 104 = .ok (.aload_n 0, 1) := by decide +kernel
theorem dX5_readLaw_105 : decode cX5_readLaw 105 = .ok (.getfield 9, 3) := by decide +kernel
theorem dX5_readLaw_108 : decode cX5_readLaw 108 = .ok (.iconst 4, 1) := by decide +kernel
theorem dX5_readLaw_109 : decode cX5_readLaw 109 = .ok (.aload_n 0, 1) := by decide +kernel
theorem dX5_readLaw_110 : decode cX5_readLaw 110 = .ok (.getfield 9, 3) := by decide +kernel
theorem dX5_readLaw_113 : decode cX5_readLaw 113 = .ok (.getfield 97, 3) := by decide +kernel
theorem dX5_readLaw_116 : decode cX5_readLaw 116 = .ok (.invokevirtual 100, 3) := by decide +kernel
theorem dX5_readLaw_119 : decode cX5_readLaw 119 = .ok (.aload_n 0, 1) := by decide +kernel
theorem dX5_readLaw_120 : decode cX5_readLaw 120 = .ok (.getfield 9, 3) := by decide +kernel
theorem dX5_readLaw_123 : decode cX5_readLaw 123 = .ok (.iconst 2, 1) := by decide +kernel
theorem dX5_readLaw_124 : decode cX5_readLaw 124 = .ok (.invokevirtual 77, 3) := by decide +kernel
theorem dX5_readLaw_127 : decode cX5_readLaw 127 = .ok (.ifCond .eq 31, 3) := by decide +kernel
theorem dX5_readLaw_130 : decode cX5_readLaw 130 = .ok (.aload_n 0, 1) := by decide +kernel
theorem dX5_readLaw_131 : decode cX5_readLaw 131 = .ok (.getfield 9, 3) := by decide +kernel
theorem dX5_readLaw_134 : decode cX5_readLaw 134 = .ok (.bipush 59, 2) := by decide +kernel
theorem dX5_readLaw_136 : decode cX5_readLaw 136 = .ok (.invokevirtual 77, 3) := by decide +kernel
theorem dX5_readLaw_139 : decode cX5_readLaw 139 = .ok (.ifCond .eq 19, 3) := by decide +kernel
theorem dX5_readLaw_142 : decode cX5_readLaw 142 = .ok (.aload_n 0, 1) := by decide +kernel
theorem dX5_readLaw_143 : decode cX5_readLaw 143 = .ok (.getfield 19, 3) := by decide +kernel
theorem dX5_readLaw_146 : decode cX5_readLaw 146 = .ok (.aload_n 0, 1) := by decide +kernel
theorem dX5_readLaw_147 : decode cX5_readLaw 147 = .ok (.getfield 15, 3) := by decide +kernel
theorem dX5_readLaw_150 : decode cX5_readLaw 150 = .ok (.iload_n 1, 1) := by decide +kernel
theorem dX5_readLaw_151 : decode cX5_readLaw 151 = .ok (.iload_n 2, 1) := by decide +kernel
theorem dX5_readLaw_152 : decode cX5_readLaw 152 = .ok (.iload_n 3, 1) := by decide +kernel
theorem dX5_readLaw_153 : decode cX5_readLaw 153 = .ok (.iload 4, 2) := by decide +kernel
theorem dX5_readLaw_155 : decode cX5_readLaw 155 = .ok (.invokevirtual 104, 3) := by decide +kernel
theorem dX5_readLaw_158 : decode cX5_readLaw 158 = .ok (.return_, 1) := by decide +kernel
theorem dX5_readNeed_0 : decode cX5_readNeed 0 = .ok (.aload_n 0, 1) := by decide +kernel
theorem dX5_readNeed_1 : decode cX5_readNeed 1 = .ok (.getfield 9, 3) := by decide +kernel
theorem dX5_readNeed_4 : decode cX5_readNeed 4 = .ok (.getfield 108, 3) := by decide +kernel
theorem dX5_readNeed_7 : decode cX5_readNeed 7 = .ok (.istore_n 1, 1) := by decide +kernel
theorem dX5_readNeed_8 : decode cX5_readNeed 8 = .ok (.aload_n 0, 1) := by decide +kernel
theorem dX5_readNeed_9 : decode cX5_readNeed 9 = .ok (.getfield 9, 3) := by decide +kernel
theorem dX5_readNeed_12 : decode cX5_readNeed 12 = .ok (.getfield 42, 3) := by decide +kernel
theorem dX5_readNeed_15 : decode cX5_readNeed 15 = .ok (.iconst 3, 1) := by decide +kernel
theorem dX5_readNeed_16 : decode cX5_readNeed 16 = .ok (.if_icmp .ne 30, 3) := by decide +kernel
theorem dX5_readNeed_19 : decode cX5_readNeed 19 = .ok (.iload_n 1, 1) := by decide +kernel
theorem dX5_readNeed_20 : decode cX5_readNeed 20 = .ok (.iconst 1, 1) := by decide +kernel
theorem dX5_readNeed_21 : decode cX5_readNeed 21 = .ok (.if_icmp .lt 9, 3) := by decide +kernel
theorem dX5_readNeed_24 : decode cX5_readNeed 24 = .ok (.iload_n 1, 1) := by decide +kernel
theorem dX5_readNeed_25 : decode cX5_readNeed 25 = .ok (.bipush 16, 2) := by decide +kernel
theorem dX5_readNeed_27 : decode cX5_readNeed 27 = .ok (.if_icmp .le 19, 3) := by decide +kernel
theorem dX5_readNeed_30 : decode cX5_readNeed 30 = .ok (.aload_n 0, 1) := by decide +kernel
theorem dX5_readNeed_31 : decode cX5_readNeed 31 = .ok (.getfield 9, 3) := by decide +kernel
theorem dX5_readNeed_34 : decode cX5_readNeed 34 = .ok (.bipush 6, 2) := by decide +kernel
theorem dX5_readNeed_36 : decode cX5_readNeed 36 = .ok (.aload_n 0, 1) := by decide +kernel
theorem dX5_readNeed_37 : decode cX5_readNeed 37 = .ok (.getfield 9, 3) := by decide +kernel
theorem dX5_readNeed_40 : decode cX5_readNeed 40 = .ok (.getfield 97, 3) := by decide +kernel
theorem dX5_readNeed_43 : decode cX5_readNeed 43 = .ok (.invokevirtual 100, 3) := by decide +kernel
theorem dX5_readNeed_46 : decode cX5_readNeed 46 = .ok (.aload_n 0, 1) := by decide +kernel
theorem dX5_readNeed_47 : decode cX5_readNeed 47 = .ok (.getfield 9, 3) := by decide +kernel
theorem dX5_readNeed_50 : decode cX5_readNeed 50 = .ok (.iconst 3, 1) := by decide +kernel
theorem dX5_readNeed_51 : decode cX5_readNeed 51 = .ok (.invokevirtual 77, 3) := by decide +kernel
theorem dX5_readNeed_54 : decode cX5_readNeed 54 = .ok (.ifCond .eq 7, 3) := by decide +kernel
theorem dX5_readNeed_57 : decode cX5_readNeed 57 = .ok (.iload_n 1, 1) := by decide +kernel
theorem dX5_readNeed_58 : decode cX5_readNeed 58 = .ok (.goto 4, 3) := by decide +kernel
theorem dX5_readNeed_61 : decode cX5_readNeed 61 = .ok (.iconst 0, 1) := by decide +kernel
theorem dX5_readNeed_62 : decode cX5_readNeed 62 = .ok (.ireturn, 1) := by decide +kernel
theorem dX5_readEither_0 : decode cX5_readEither 0 = .ok (.iconst 0, 1) := by decide +kernel
theorem dX5_readEither_1 : decode cX5_readEither 1 = .ok (.istore_n 2, 1) := by decide +kernel
theorem dX5_readEither_2 : decode cX5_readEither 2 = .ok (.iconst (-1), 1) := by decide +kernel
theorem dX5_readEither_3 : decode cX5_readEither 3 = .ok (.istore_n 3, 1) := by decide +kernel
theorem dX5_readEither_4 : decode cX5_readEither 4 = .ok (.iconst 0, 1) := by decide +kernel
theorem dX5_readEither_5 : decode cX5_readEither 5 = .ok (.istore 4, 2) := by decide +kernel
theorem dX5_readEither_7 : decode cX5_readEither 7 = .ok (.iload 4, 2) := by decide +kernel
theorem dX5_readEither_9 : decode cX5_readEither 9 = .ok (.sipush 600, 3) := by decide +kernel
theorem dX5_readEither_12 : decode cX5_readEither 12 = .ok (.if_icmp .gt 83, 3) := by decide +kernel
theorem dX5_readEither_15 : decode cX5_readEither 15 = .ok (.aload_n 0, 1) := by decide +kernel
theorem dX5_readEither_16 : decode cX5_readEither 16 = .ok (.getfield 9, 3) := by decide +kernel
theorem dX5_readEither_19 : decode cX5_readEither 19 = .ok (.getfield 38, 3) := by decide +kernel
theorem dX5_readEither_22 : decode cX5_readEither 22 = .ok (.ifCond .ne 73, 3) := by decide +kernel
theorem dX5_readEither_25 : decode cX5_readEither 25 = .ok (.iload_n 3, 1) := by decide +kernel
theorem dX5_readEither_26 : decode cX5_readEither 26 = .ok (.aload_n 0, 1) := by decide +kernel
theorem dX5_readEither_27 : decode cX5_readEither 27 = .ok (.iload_n 1, 1) := by decide +kernel
theorem dX5_readEither_28 : decode cX5_readEither 28 = .ok (.invokevirtual 111, 3) := by decide +kernel
theorem dX5_readEither_31 : decode cX5_readEither 31 = .ok (.iand, 1) := by decide +kernel
theorem dX5_readEither_32 : decode cX5_readEither 32 = .ok (.istore_n 3, 1) := by decide +kernel
theorem dX5_readEither_33 : decode cX5_readEither 33 = .ok (.aload_n 0, 1) := by decide +kernel
theorem dX5_readEither_34 : decode cX5_readEither 34 = .ok (.getfield 9, 3) := by decide +kernel
theorem dX5_readEither_37 : decode cX5_readEither 37 = .ok (.getfield 42, 3) := by decide +kernel
theorem dX5_readEither_40 : decode cX5_readEither 40 = .ok (.bipush 13, 2) := by decide +kernel
theorem dX5_readEither_42 : decode cX5_readEither 42 = .ok (.if_icmp .ne 7, 3) := by decide +kernel
theorem dX5_readEither_45 : decode cX5_readEither 45 = .ok (.iconst 1, 1) := by decide +kernel
theorem dX5_readEither_46 : decode cX5_readEither 46 = .ok (.goto 4, 3) := by decide +kernel
theorem dX5_readEither_49 : decode cX5_readEither 49 = .ok (.iconst 0, 1) := by decide +kernel
theorem dX5_readEither_50 : decode cX5_readEither 50 = .ok (.istore 5, 2) := by decide +kernel
theorem dX5_readEither_52 : decode cX5_readEither 52 = .ok (.iload 5, 2) := by decide +kernel
theorem dX5_readEither_54 : decode cX5_readEither 54 = .ok (.ifCond .ne 9, 3) := by decide +kernel
theorem dX5_readEither_57 : decode cX5_readEither 57 = .ok (.iload_n 2, 1) := by decide +kernel
theorem dX5_readEither_58 : decode cX5_readEither 58 = .ok (.iload_n 3, 1) := by decide +kernel
theorem dX5_readEither_59 : decode cX5_readEither 59 = .ok (.ior, 1) := by decide +kernel
theorem dX5_readEither_60 : decode cX5_readEither 60 = .ok (.istore_n 2, 1) := by decide +kernel
theorem dX5_readEither_61 : decode cX5_readEither 61 = .ok (.iconst (-1), 1) := by decide +kernel
theorem dX5_readEither_62 : decode cX5_readEither 62 = .ok (.istore_n 3, 1) := by decide +kernel
theorem dX5_readEither_63 : decode cX5_readEither 63 = .ok (.iload 5, 2) := by decide +kernel
theorem dX5_readEither_65 : decode cX5_readEither 65 = .ok (.ifCond .ne 17, 3) := by decide +kernel
theorem dX5_readEither_68 : decode cX5_readEither 68 = .ok (.aload_n 0, 1) := by decide +kernel
theorem dX5_readEither_69 : decode cX5_readEither 69 = .ok (.getfield 9, 3) := by decide +kernel
theorem dX5_readEither_72 : decode cX5_readEither 72 = .ok (.getfield 42, 3) := by decide +kernel
theorem dX5_readEither_75 : decode cX5_readEither 75 = .ok (.bipush 14, 2) := by decide +kernel
theorem dX5_readEither_77 : decode cX5_readEither 77 = .ok (.if_icmp .eq 5, 3) := by decide +kernel
theorem dX5_readEither_80 : decode cX5_readEither 80 = .ok (.iload_n 2, 1) := by decide +kernel
theorem dX5_readEither_81 : decode cX5_readEither 81 = .ok (.ireturn, 1) := by decide +kernel
theorem dX5_readEither_82 : decode cX5_readEither 82 = .ok (.aload_n 0, 1) := by decide +kernel
theorem dX5_readEither_83 : decode cX5_readEither 83 = .ok (.getfield 9, 3) := by decide +kernel
theorem dX5_readEither_86 : decode cX5_readEither 86 = .ok (.invokevirtual 54, 3) := by decide +kernel
theorem dX5_readEither_89 : decode cX5_readEither 89 = .ok (.iinc 4 1, 3) := by decide +kernel
theorem dX5_readEither_92 : decode cX5_readEither 92 = .ok (.goto (-85), 3) := by decide +kernel
theorem dX5_readEither_95 : decode cX5_readEither 95 = .ok (.iload_n 2, 1) := by decide +kernel
theorem dX5_readEither_96 : decode cX5_readEither 96 = .ok (.ireturn, 1) := by decide +kernel
theorem dX5_readOne_0 : decode cX5_readOne 0 = .ok (.aload_n 0, 1) := by decide +kernel
theorem dX5_readOne_1 : decode cX5_readOne 1 = .ok (.getfield 9, 3) := by decide +kernel
theorem dX5_readOne_4 : decode cX5_readOne 4 = .ok (.getfield 38, 3) := by decide +kernel
theorem dX5_readOne_7 : decode cX5_readOne 7 = .ok (.ifCond .eq 5, 3) := by decide +kernel
theorem dX5_readOne_10 : decode cX5_readOne 10 = .ok (.iconst 0, 1) := by decide +kernel
theorem dX5_readOne_11 : decode cX5_readOne 11 = .ok (.ireturn, 1) := by decide +kernel
theorem dX5_readOne_12 : decode cX5_readOne 12 = .ok (.iload_n 1, 1) := by decide +kernel
theorem dX5_readOne_13 : decode cX5_readOne 13 = .ok (.bipush 6, 2) := by decide +kernel
theorem dX5_readOne_15 : decode cX5_readOne 15 = .ok (.if_icmp .lt 12, 3) := by decide +kernel
theorem dX5_readOne_18 : decode cX5_readOne 18 = .ok (.aload_n 0, 1) := by decide +kernel
theorem dX5_readOne_19 : decode cX5_readOne 19 = .ok (.getfield 9, 3) := by decide +kernel
theorem dX5_readOne_22 : decode cX5_readOne 22 = .ok (.invokevirtual 51, 3) := by decide +kernel
theorem dX5_readOne_25 : decode cX5_readOne 25 = .ok (.iconst 0, 1) := by decide +kernel
theorem dX5_readOne_26 : decode cX5_readOne 26 = .ok (.ireturn, 1) := by decide +kernel
theorem dX5_readOne_27 : decode cX5_readOne 27 = .ok (.aload_n 0, 1) := by decide +kernel
theorem dX5_readOne_28 : decode cX5_readOne 28 = .ok (.getfield 9, 3) := by decide +kernel
theorem dX5_readOne_31 : decode cX5_readOne 31 = .ok (.getfield 42, 3) := by decide +kernel
theorem dX5_readOne_34 : decode cX5_readOne 34 = .ok (.bipush 12, 2) := by decide +kernel
theorem dX5_readOne_36 : decode cX5_readOne 36 = .ok (.if_icmp .ne 20, 3) := by decide +kernel
theorem dX5_readOne_39 : decode cX5_readOne 39 = .ok (.aload_n 0, 1) := by decide +kernel
theorem dX5_readOne_40 : decode cX5_readOne 40 = .ok (.getfield 9, 3) := by decide +kernel
theorem dX5_readOne_43 : decode cX5_readOne 43 = .ok (.invokevirtual 54, 3) := by decide +kernel
theorem dX5_readOne_46 : decode cX5_readOne 46 = .ok (.aload_n 0, 1) := by decide +kernel
theorem dX5_readOne_47 : decode cX5_readOne 47 = .ok (.iload_n 1, 1) := by decide +kernel
theorem dX5_readOne_48 : decode cX5_readOne 48 = .ok (.iconst 1, 1) := by decide +kernel
theorem dX5_readOne_49 : decode cX5_readOne 49 = .ok (.iadd, 1) := by decide +kernel
theorem dX5_readOne_50 : decode cX5_readOne 50 = .ok (.invokevirtual 111, 3) := by decide +kernel
theorem dX5_readOne_53 : decode cX5_readOne 53 = .ok (.iconst (-1), 1) := by decide +kernel
theorem dX5_readOne_54 : decode cX5_readOne 54 = .ok (.ixor, 1) := by decide +kernel
theorem dX5_readOne_55 : decode cX5_readOne 55 = .ok (.ireturn, 1) := by decide +kernel
theorem dX5_readOne_56 : decode cX5_readOne 56 = .ok (.aload_n 0, 1) := by decide +kernel
theorem dX5_readOne_57 : decode cX5_readOne 57 = .ok (.getfield 9, 3) := by decide +kernel
theorem dX5_readOne_60 : decode cX5_readOne 60 = .ok (.getfield 42, 3) := by decide +kernel
theorem dX5_readOne_63 : decode cX5_readOne 63 = .ok (.bipush 40, 2) := by decide +kernel
theorem dX5_readOne_65 : decode cX5_readOne 65 = .ok (.if_icmp .ne 30, 3) := by decide +kernel
theorem dX5_readOne_68 : decode cX5_readOne 68 = .ok (.aload_n 0, 1) := by decide +kernel
theorem dX5_readOne_69 : decode cX5_readOne 69 = .ok (.getfield 9, 3) := by decide +kernel
theorem dX5_readOne_72 : decode cX5_readOne 72 = .ok (.invokevirtual 54, 3) := by decide +kernel
theorem dX5_readOne_75 : decode cX5_readOne 75 = .ok (.aload_n 0, 1) := by decide +kernel
theorem dX5_readOne_76 : decode cX5_readOne 76 = .ok (.iload_n 1, 1) := by decide +kernel
theorem dX5_readOne_77 : decode cX5_readOne 77 = .ok (.iconst 1, 1) := by decide +kernel
theorem dX5_readOne_78 : decode cX5_readOne 78 = .ok (.iadd, 1) := by decide +kernel
theorem dX5_readOne_79 : decode cX5_readOne 79 = .ok (.invokevirtual 74, 3) := by decide +kernel
theorem dX5_readOne_82 : decode cX5_readOne 82 = .ok (.istore_n 2, 1) := by decide +kernel
theorem dX5_readOne_83 : decode cX5_readOne 83 = .ok (.aload_n 0, 1) := by decide +kernel
theorem dX5_readOne_84 : decode cX5_readOne 84 = .ok (.getfield 9, 3) := by decide +kernel
theorem dX5_readOne_87 : decode cX5_readOne 87 = .ok (.bipush 41, 2) := by decide +kernel
theorem dX5_readOne_89 : decode cX5_readOne 89 = .ok (.invokevirtual 77, 3) := by decide +kernel
theorem dX5_readOne_92 : decode cX5_readOne 92 = .ok (.pop, 1) := by decide +kernel
theorem dX5_readOne_93 : decode cX5_readOne 93 = .ok (.iload_n 2, 1) := by decide +kernel
theorem dX5_readOne_94 : decode cX5_readOne 94 = .ok (.ireturn, 1) := by decide +kernel
theorem dX5_readOne_95 : decode cX5_readOne 95 = .ok (.aload_n 0, 1) := by decide +kernel
theorem dX5_readOne_96 : decode cX5_readOne 96 = .ok (.invokevirtual 114, 3) := by decide +kernel
theorem dX5_readOne_99 : decode cX5_readOne 99 = .ok (.aload_n 0, 1) := by decide +kernel
theorem dX5_readOne_100 : decode cX5_readOne 100 = .ok (.invokevirtual 117, 3) := by decide +kernel
theorem dX5_readOne_103 : decode cX5_readOne 103 = .ok (.ireturn, 1) := by decide +kernel
theorem dX5_readPath_0 : decode cX5_readPath 0 = .ok (.aload_n 0, 1) := by decide +kernel
theorem dX5_readPath_1 : decode cX5_readPath 1 = .ok (.getfield 120, 3) := by decide +kernel
theorem dX5_readPath_4 : decode cX5_readPath 4 = .ok (.bipush 40, 2) := by decide +kernel
theorem dX5_readPath_6 : decode cX5_readPath 6 = .ok (.if_icmp .lt 10, 3) := by decide +kernel
theorem dX5_readPath_9 : decode cX5_readPath 9 = .ok (.aload_n 0, 1) := by decide +kernel
theorem dX5_readPath_10 : decode cX5_readPath 10 = .ok (.getfield 9, 3) := by decide +kernel
theorem dX5_readPath_13 : decode cX5_readPath 13 = .ok (.invokevirtual 51, 3) := by decide +kernel
theorem dX5_readPath_16 : decode cX5_readPath 16 = .ok (.aload_n 0, 1) := by decide +kernel
theorem dX5_readPath_17 : decode cX5_readPath 17 = .ok (.dup, 1) := by decide +kernel
theorem dX5_readPath_18 : decode cX5_readPath 18 = .ok (.getfield 120, 3) := by decide +kernel
theorem dX5_readPath_21 : decode cX5_readPath 21 = .ok (.iconst 1, 1) := by decide +kernel
theorem dX5_readPath_22 : decode cX5_readPath 22 = .ok (.iadd, 1) := by decide +kernel
theorem dX5_readPath_23 : decode cX5_readPath 23 = .ok (.putfield 120, 3) := by decide +kernel
theorem dX5_readPath_26 : decode cX5_readPath 26 = .ok (.aload_n 0, 1) := by decide +kernel
theorem dX5_readPath_27 : decode cX5_readPath 27 = .ok (.iconst 0, 1) := by decide +kernel
theorem dX5_readPath_28 : decode cX5_readPath 28 = .ok (.putfield 123, 3) := by decide +kernel
theorem dX5_readPath_31 : decode cX5_readPath 31 = .ok (.aload_n 0, 1) := by decide +kernel
theorem dX5_readPath_32 : decode cX5_readPath 32 = .ok (.getfield 65, 3) := by decide +kernel
theorem dX5_readPath_35 : decode cX5_readPath 35 = .ok (.istore_n 1, 1) := by decide +kernel
theorem dX5_readPath_36 : decode cX5_readPath 36 = .ok (.aload_n 0, 1) := by decide +kernel
theorem dX5_readPath_37 : decode cX5_readPath 37 = .ok (.getfield 9, 3) := by decide +kernel
theorem dX5_readPath_40 : decode cX5_readPath 40 = .ok (.getfield 38, 3) := by decide +kernel
theorem dX5_readPath_43 : decode cX5_readPath 43 = .ok (.ifCond .ne 143, 3) := by decide +kernel
theorem dX5_readPath_46 : decode cX5_readPath 46 = .ok (.aload_n 0, 1) := by decide +kernel
theorem dX5_readPath_47 : decode cX5_readPath 47 = .ok (.getfield 123, 3) := by decide +kernel
theorem dX5_readPath_50 : decode cX5_readPath 50 = .ok (.iconst 4, 1) := by decide +kernel
theorem dX5_readPath_51 : decode cX5_readPath 51 = .ok (.if_icmp .ge 135, 3) := by decide +kernel
theorem dX5_readPath_54 : decode cX5_readPath 54 = .ok (.aload_n 0, 1) := by decide +kernel
theorem dX5_readPath_55 : decode cX5_readPath 55 = .ok (.getfield 9, 3) := by decide +kernel
theorem dX5_readPath_58 : decode cX5_readPath 58 = .ok (.getfield 42, 3) := by decide +kernel
theorem dX5_readPath_61 : decode cX5_readPath 61 = .ok (.iconst 2, 1) := by decide +kernel
theorem dX5_readPath_62 : decode cX5_readPath 62 = .ok (.if_icmp .ne 124, 3) := by decide +kernel
theorem dX5_readPath_65 : decode cX5_readPath 65 = .ok (.aload_n 0, 1) := by decide +kernel
theorem dX5_readPath_66 : decode cX5_readPath 66 = .ok (.getfield 9, 3) := by decide +kernel
theorem dX5_readPath_69 : decode cX5_readPath 69 = .ok (.getfield 97, 3) := by decide +kernel
theorem dX5_readPath_72 : decode cX5_readPath 72 = .ok (.istore_n 2, 1) := by decide +kernel
theorem dX5_readPath_73 : decode cX5_readPath 73 = .ok (.aload_n 0, 1) := by decide +kernel
theorem dX5_readPath_74 : decode cX5_readPath 74 = .ok (.getfield 15, 3) := by decide +kernel
theorem dX5_readPath_77 : decode cX5_readPath 77 = .ok (.iload_n 1, 1) := by decide +kernel
theorem dX5_readPath_78 : decode cX5_readPath 78 = .ok (.aload_n 0, 1) := by decide +kernel
theorem dX5_readPath_79 : decode cX5_readPath 79 = .ok (.getfield 9, 3) := by decide +kernel
theorem dX5_readPath_82 : decode cX5_readPath 82 = .ok (.getfield 85, 3) := by decide +kernel
theorem dX5_readPath_85 : decode cX5_readPath 85 = .ok (.invokevirtual 89, 3) := by decide +kernel
theorem dX5_readPath_88 : decode cX5_readPath 88 = .ok (.istore_n 3, 1) := by decide +kernel
theorem dX5_readPath_89 : decode cX5_readPath 89 = .ok (.aload_n 0, 1) := by decide +kernel
theorem dX5_readPath_90 : decode cX5_readPath 90 = .ok (.getfield 23, 3) := by decide +kernel
theorem dX5_readPath_93 : decode cX5_readPath 93 = .ok (.aload_n 0, 1) := by decide +kernel
theorem dX5_readPath_94 : decode cX5_readPath 94 = .ok (.getfield 123, 3) := by decide +kernel
theorem dX5_readPath_97 : decode cX5_readPath 97 = .ok (.iload_n 3, 1) := by decide +kernel
theorem dX5_readPath_98 : decode cX5_readPath 98 = .ok (.iastore, 1) := by decide +kernel
theorem dX5_readPath_99 : decode cX5_readPath 99 = .ok (.aload_n 0, 1) := by decide +kernel
theorem dX5_readPath_100 : decode cX5_readPath 100 = .ok (.dup, 1) := by decide +kernel
theorem dX5_readPath_101 : decode cX5_readPath 101 = .ok (.getfield 123, 3) := by decide +kernel
theorem dX5_readPath_104 : decode cX5_readPath 104 = .ok (.iconst 1, 1) := by decide +kernel
theorem dX5_readPath_105 : decode cX5_readPath 105 = .ok (.iadd, 1) := by decide +kernel
theorem dX5_readPath_106 : decode cX5_readPath 106 = .ok (.putfield 123, 3) := by decide +kernel
theorem dX5_readPath_109 : decode cX5_readPath 109 = .ok (.aload_n 0, 1) := by decide +kernel
theorem dX5_readPath_110 : decode cX5_readPath 110 = .ok (.getfield 15, 3) := by decide +kernel
theorem dX5_readPath_113 : decode cX5_readPath 113 = .ok (.iload_n 1, 1) := by decide +kernel
theorem dX5_readPath_114 : decode cX5_readPath 114 = .ok (.iload_n 3, 1) := by decide +kernel
theorem dX5_readPath_115 : decode cX5_readPath 115 = .ok (.invokevirtual 93, 3) := by decide +kernel
theorem dX5_readPath_118 : decode cX5_readPath 118 = .ok (.istore_n 1, 1) := by decide +kernel
theorem dX5_readPath_119 : decode cX5_readPath 119 = .ok (.aload_n 0, 1) := by decide +kernel
theorem dX5_readPath_120 : decode cX5_readPath 120 = .ok (.getfield 9, 3) := by decide +kernel
theorem dX5_readPath_123 : decode cX5_readPath 123 = .ok (.invokevirtual 54, 3) := by decide +kernel
theorem dX5_readPath_126 : decode cX5_readPath 126 = .ok (.iload_n 3, 1) := by decide +kernel
theorem dX5_readPath_127 : decode cX5_readPath 127 = .ok (.iconst (-1), 1) := by decide +kernel
theorem dX5_readPath_128 : decode cX5_readPath 128 = .ok (.if_icmp .eq 33, 3) := by decide +kernel
theorem dX5_readPath_131 : decode cX5_readPath 131 = .ok (.iload_n 1, 1) := by decide +kernel
theorem dX5_readPath_132 : decode cX5_readPath 132 = .ok (.iconst (-1), 1) := by decide +kernel
theorem dX5_readPath_133 : decode cX5_readPath 133 = .ok (.if_icmp .eq 7, 3) := by decide +kernel
theorem dX5_readPath_136 : decode cX5_readPath 136 = .ok (.iconst 1, 1) := by decide +kernel
theorem dX5_readPath_137 : decode cX5_readPath 137 = .ok (.goto 4, 3) := by decide +kernel
theorem dX5_readPath_140 : decode cX5_readPath 140 = .ok (.iconst 0, 1) := by decide +kernel
theorem dX5_readPath_141 : decode cX5_readPath 141 = .ok (.aload_n 0, 1) := by decide +kernel
theorem dX5_readPath_142 : decode cX5_readPath 142 = .ok (.getfield 9, 3) := by decide +kernel
theorem dX5_readPath_145 : decode cX5_readPath 145 = .ok (.getfield 42, 3) := by decide +kernel
theorem dX5_readPath_148 : decode cX5_readPath 148 = .ok (.bipush 46, 2) := by decide +kernel
theorem dX5_readPath_150 : decode cX5_readPath 150 = .ok (.if_icmp .ne 7, 3) := by decide +kernel
theorem dX5_readPath_153 : decode cX5_readPath 153 = .ok (.iconst 1, 1) := by decide +kernel
theorem dX5_readPath_154 : decode cX5_readPath 154 = .ok (.goto 4, 3) := by decide +kernel
theorem dX5_readPath_157 : decode cX5_readPath 157 = .ok (.iconst 0, 1) := by decide +kernel
theorem dX5_readPath_158 : decode cX5_readPath 158 = .ok (.if_icmp .eq 12, 3) := by decide +kernel
theorem dX5_readPath_161 : decode cX5_readPath 161 = .ok (.aload_n 0, 1) := by decide +kernel
theorem dX5_readPath_162 : decode cX5_readPath 162 = .ok (.getfield 9, 3) := by decide +kernel
theorem dX5_readPath_165 : decode cX5_readPath 165 = .ok (.iconst 4, 1) := by decide +kernel
theorem dX5_readPath_166 : decode cX5_readPath 166 = .ok (.iload_n 2, 1) := by decide +kernel
theorem dX5_readPath_167 : decode cX5_readPath 167 = .ok (.invokevirtual 100, 3) := by decide +kernel
theorem dX5_readPath_170 : decode cX5_readPath 170 = .ok (.iload_n 1, 1) := by decide +kernel
theorem dX5_readPath_171 : decode cX5_readPath 171 = .ok (.iconst (-1), 1) := by decide +kernel
theorem dX5_readPath_172 : decode cX5_readPath 172 = .ok (.if_icmp .ne 4, 3) := by decide +kernel
theorem dX5_readPath_175 : decode cX5_readPath 175 = .ok (.return_, 1) := by decide +kernel
theorem dX5_readPath_176 : decode cX5_readPath 176 = .ok (.aload_n 0, 1) := by decide +kernel
theorem dX5_readPath_177 : decode cX5_readPath 177 = .ok (.getfield 9, 3) := by decide +kernel
theorem dX5_readPath_180 : decode cX5_readPath 180 = .ok (.invokevirtual 54, 3) := by decide +kernel
theorem dX5_readPath_183 : decode cX5_readPath 183 = .ok (.goto (-147), 3) := by decide +kernel
theorem dX5_readPath_186 : decode cX5_readPath 186 = .ok (.aload_n 0, 1) := by decide +kernel
theorem dX5_readPath_187 : decode cX5_readPath 187 = .ok (.getfield 9, 3) := by decide +kernel
theorem dX5_readPath_190 : decode cX5_readPath 190 = .ok (.invokevirtual 51, 3) := by decide +kernel
theorem dX5_readPath_193 : decode cX5_readPath 193 = .ok (.return_, 1) := by decide +kernel
theorem dX5_readComparison_0 : decode cX5_readComparison 0 = .ok (.aload_n 0, 1) := by decide +kernel
theorem dX5_readComparison_1 : decode cX5_readComparison 1 = .ok (.getfield 9, 3) := by decide +kernel
theorem dX5_readComparison_4 : decode cX5_readComparison 4 = .ok (.getfield 42, 3) := by decide +kernel
theorem dX5_readComparison_7 : decode cX5_readComparison 7 = .ok (.istore_n 1, 1) := by decide +kernel
theorem dX5_readComparison_8 : decode cX5_readComparison 8 = .ok (.iload_n 1, 1) := by decide +kernel
theorem dX5_readComparison_9 : decode cX5_readComparison 9 = .ok (.bipush 60, 2) := by decide +kernel
theorem dX5_readComparison_11 : decode cX5_readComparison 11 = .ok (.if_icmp .eq 22, 3) := by decide +kernel
theorem dX5_readComparison_14 : decode cX5_readComparison 14 = .ok (.iload_n 1, 1) := by decide +kernel
theorem dX5_readComparison_15 : decode cX5_readComparison 15 = .ok (.bipush 62, 2) := by decide +kernel
theorem dX5_readComparison_17 : decode cX5_readComparison 17 = .ok (.if_icmp .eq 16, 3) := by decide +kernel
theorem dX5_readComparison_20 : decode cX5_readComparison 20 = .ok (.iload_n 1, 1) := by decide +kernel
theorem dX5_readComparison_21 : decode cX5_readComparison 21 = .ok (.bipush 61, 2) := by decide +kernel
theorem dX5_readComparison_23 : decode cX5_readComparison 23 = .ok (.if_icmp .eq 10, 3) := by decide +kernel
theorem dX5_readComparison_26 : decode cX5_readComparison 26 = .ok (.aload_n 0, 1) := by decide +kernel
theorem dX5_readComparison_27 : decode cX5_readComparison 27 = .ok (.getfield 9, 3) := by decide +kernel
theorem dX5_readComparison_30 : decode cX5_readComparison 30 = .ok (.invokevirtual 51, 3) := by decide +kernel
theorem dX5_readComparison_33 : decode cX5_readComparison 33 = .ok (.aload_n 0, 1) := by decide +kernel
theorem dX5_readComparison_34 : decode cX5_readComparison 34 = .ok (.getfield 9, 3) := by decide +kernel
theorem dX5_readComparison_37 : decode cX5_readComparison 37 = .ok (.getfield 38, 3) := by decide +kernel
theorem dX5_readComparison_40 : decode cX5_readComparison 40 = .ok (.ifCond .eq 5, 3) := by decide +kernel
theorem dX5_readComparison_43 : decode cX5_readComparison 43 = .ok (.iconst 0, 1) := by decide +kernel
theorem dX5_readComparison_44 : decode cX5_readComparison 44 = .ok (.ireturn, 1) := by decide +kernel
theorem dX5_readComparison_45 : decode cX5_readComparison 45 = .ok (.aload_n 0, 1) := by decide +kernel
theorem dX5_readComparison_46 : decode cX5_readComparison 46 = .ok (.getfield 9, 3) := by decide +kernel
theorem dX5_readComparison_49 : decode cX5_readComparison 49 = .ok (.invokevirtual 54, 3) := by decide +kernel
theorem dX5_readComparison_52 : decode cX5_readComparison 52 = .ok (.aload_n 0, 1) := by decide +kernel
theorem dX5_readComparison_53 : decode cX5_readComparison 53 = .ok (.getfield 9, 3) := by decide +kernel
theorem dX5_readComparison_56 : decode cX5_readComparison 56 = .ok (.getfield 42, 3) := by decide +kernel
theorem dX5_readComparison_59 : decode cX5_readComparison 59 = .ok (.iconst 3, 1) := by decide +kernel
theorem dX5_readComparison_60 : decode cX5_readComparison 60 = .ok (.if_icmp .ne 13, 3) := by decide +kernel
theorem dX5_readComparison_63 : decode cX5_readComparison 63 = .ok (.aload_n 0, 1) := by decide +kernel
theorem dX5_readComparison_64 : decode cX5_readComparison 64 = .ok (.getfield 9, 3) := by decide +kernel
theorem dX5_readComparison_67 : decode cX5_readComparison 67 = .ok (.getfield 108, 3) := by decide +kernel
theorem dX5_readComparison_70 : decode cX5_readComparison 70 = .ok (.goto 4, 3) := by decide +kernel
theorem dX5_readComparison_73 : decode cX5_readComparison 73 = .ok (.iconst (-1), 1) := by decide +kernel
theorem dX5_readComparison_74 : decode cX5_readComparison 74 = .ok (.istore_n 2, 1) := by decide +kernel
theorem dX5_readComparison_75 : decode cX5_readComparison 75 = .ok (.aload_n 0, 1) := by decide +kernel
theorem dX5_readComparison_76 : decode cX5_readComparison 76 = .ok (.getfield 9, 3) := by decide +kernel
theorem dX5_readComparison_79 : decode cX5_readComparison 79 = .ok (.getfield 42, 3) := by decide +kernel
theorem dX5_readComparison_82 : decode cX5_readComparison 82 = .ok (.iconst 3, 1) := by decide +kernel
theorem dX5_readComparison_83 : decode cX5_readComparison 83 = .ok (.if_icmp .eq 24, 3) := by decide +kernel
theorem dX5_readComparison_86 : decode cX5_readComparison 86 = .ok (.aload_n 0, 1) := by decide +kernel
theorem dX5_readComparison_87 : decode cX5_readComparison 87 = .ok (.getfield 9, 3) := by decide +kernel
theorem dX5_readComparison_90 : decode cX5_readComparison 90 = .ok (.getfield 42, 3) := by decide +kernel
theorem dX5_readComparison_93 : decode cX5_readComparison 93 = .ok (.bipush 45, 2) := by decide +kernel
theorem dX5_readComparison_95 : decode cX5_readComparison 95 = .ok (.if_icmp .eq 12, 3) := by decide +kernel
theorem dX5_readComparison_98 : decode cX5_readComparison 98 = .ok (.aload_n 0, 1) := by decide +kernel
theorem dX5_readComparison_99 : decode cX5_readComparison 99 = .ok (.getfield 9, 3) := by decide +kernel
theorem dX5_readComparison_102 : decode cX5_readComparison 102 = .ok (.invokevirtual 51, 3) := by decide +kernel
theorem dX5_readComparison_105 : decode cX5_readComparison 105 = .ok (.iconst 0, 1) := by decide +kernel
theorem dX5_readComparison_106 : decode cX5_readComparison 106 = .ok (.ireturn, 1) := by decide +kernel
theorem dX5_readComparison_107 : decode cX5_readComparison 107 = .ok (.aload_n 0, 1) := by decide +kernel
theorem dX5_readComparison_108 : decode cX5_readComparison 108 = .ok (.getfield 9, 3) := by decide +kernel
theorem dX5_readComparison_111 : decode cX5_readComparison 111 = .ok (.invokevirtual 54, 3) := by decide +kernel
theorem dX5_readComparison_114 : decode cX5_readComparison 114 = .ok (.iconst 0, 1) := by decide +kernel
theorem dX5_readComparison_115 : decode cX5_readComparison 115 = .ok (.istore_n 3, 1) := by decide +kernel
theorem dX5_readComparison_116 : decode cX5_readComparison 116 = .ok (.iconst 0, 1) := by decide +kernel
theorem dX5_readComparison_117 : decode cX5_readComparison 117 = .ok (.istore 4, 2) := by decide +kernel
theorem dX5_readComparison_119 : decode cX5_readComparison 119 = .ok (.iload 4, 2) := by decide +kernel
theorem dX5_readComparison_121 : decode cX5_readComparison 121 = .ok (.aload_n 0, 1) := by decide +kernel
theorem dX5_readComparison_122 : decode cX5_readComparison 122 = .ok (.getfield 15, 3) := by decide +kernel
theorem dX5_readComparison_125 : decode cX5_readComparison 125 = .ok (.getfield 126, 3) := by decide +kernel
theorem dX5_readComparison_128 : decode cX5_readComparison 128 = .ok (.if_icmp .ge 47, 3) := by decide +kernel
theorem dX5_readComparison_131 : decode cX5_readComparison 131 = .ok (.aload_n 0, 1) := by decide +kernel
theorem dX5_readComparison_132 : decode cX5_readComparison 132 = .ok (.getfield 15, 3) := by decide +kernel
theorem dX5_readComparison_135 : decode cX5_readComparison 135 = .ok (.getfield 129, 3) := by decide +kernel
theorem dX5_readComparison_138 : decode cX5_readComparison 138 = .ok (.iload 4, 2) := by decide +kernel
theorem dX5_readComparison_140 : decode cX5_readComparison 140 = .ok (.iaload, 1) := by decide +kernel
theorem dX5_readComparison_141 : decode cX5_readComparison 141 = .ok (.aload_n 0, 1) := by decide +kernel
theorem dX5_readComparison_142 : decode cX5_readComparison 142 = .ok (.getfield 65, 3) := by decide +kernel
theorem dX5_readComparison_145 : decode cX5_readComparison 145 = .ok (.if_icmp .ne 24, 3) := by decide +kernel
theorem dX5_readComparison_148 : decode cX5_readComparison 148 = .ok (.aload_n 0, 1) := by decide +kernel
theorem dX5_readComparison_149 : decode cX5_readComparison 149 = .ok (.iload 4, 2) := by decide +kernel
theorem dX5_readComparison_151 : decode cX5_readComparison 151 = .ok (.invokevirtual 132, 3) := by decide +kernel
theorem dX5_readComparison_154 : decode cX5_readComparison 154 = .ok (.iload_n 1, 1) := by decide +kernel
theorem dX5_readComparison_155 : decode cX5_readComparison 155 = .ok (.iload_n 2, 1) := by decide +kernel
theorem dX5_readComparison_156 : decode cX5_readComparison 156 = .ok (.invokestatic 135, 3) := by decide +kernel
theorem dX5_readComparison_159 : decode cX5_readComparison 159 = .ok (.ifCond .eq 10, 3) := by decide +kernel
theorem dX5_readComparison_162 : decode cX5_readComparison 162 = .ok (.iload_n 3, 1) := by decide +kernel
theorem dX5_readComparison_163 : decode cX5_readComparison 163 = .ok (.iconst 1, 1) := by decide +kernel
theorem dX5_readComparison_164 : decode cX5_readComparison 164 = .ok (.iload 4, 2) := by decide +kernel
theorem dX5_readComparison_166 : decode cX5_readComparison 166 = .ok (.ishl, 1) := by decide +kernel
theorem dX5_readComparison_167 : decode cX5_readComparison 167 = .ok (.ior, 1) := by decide +kernel
theorem dX5_readComparison_168 : decode cX5_readComparison 168 = .ok (.istore_n 3, 1) := by decide +kernel
theorem dX5_readComparison_169 : decode cX5_readComparison 169 = .ok (.iinc 4 1, 3) := by decide +kernel
theorem dX5_readComparison_172 : decode cX5_readComparison 172 = .ok (.goto (-53), 3) := by decide +kernel
theorem dX5_readComparison_175 : decode cX5_readComparison 175 = .ok (.iload_n 3, 1) := by decide +kernel
theorem dX5_readComparison_176 : decode cX5_readComparison 176 = .ok (.ireturn, 1) := by decide +kernel
theorem dX5_valueAlong_0 : decode cX5_valueAlong 0 = .ok (.iload_n 1, 1) := by decide +kernel
theorem dX5_valueAlong_1 : decode cX5_valueAlong 1 = .ok (.istore_n 2, 1) := by decide +kernel
theorem dX5_valueAlong_2 : decode cX5_valueAlong 2 = .ok (.iconst 0, 1) := by decide +kernel
theorem dX5_valueAlong_3 : decode cX5_valueAlong 3 = .ok (.istore_n 3, 1) := by decide +kernel
theorem dX5_valueAlong_4 : decode cX5_valueAlong 4 = .ok (.iload_n 3, 1) := by decide +kernel
theorem dX5_valueAlong_5 : decode cX5_valueAlong 5 = .ok (.aload_n 0, 1) := by decide +kernel
theorem dX5_valueAlong_6 : decode cX5_valueAlong 6 = .ok (.getfield 123, 3) := by decide +kernel
theorem dX5_valueAlong_9 : decode cX5_valueAlong 9 = .ok (.if_icmp .ge 33, 3) := by decide +kernel
theorem dX5_valueAlong_12 : decode cX5_valueAlong 12 = .ok (.iload_n 3, 1) := by decide +kernel
theorem dX5_valueAlong_13 : decode cX5_valueAlong 13 = .ok (.aload_n 0, 1) := by decide +kernel
theorem dX5_valueAlong_14 : decode cX5_valueAlong 14 = .ok (.getfield 23, 3) := by decide +kernel
theorem dX5_valueAlong_17 : decode cX5_valueAlong 17 = .ok (.arraylength, 1) := by decide +kernel
theorem dX5_valueAlong_18 : decode cX5_valueAlong 18 = .ok (.if_icmp .ge 24, 3) := by decide +kernel
theorem dX5_valueAlong_21 : decode cX5_valueAlong 21 = .ok (.aload_n 0, 1) := by decide +kernel
theorem dX5_valueAlong_22 : decode cX5_valueAlong 22 = .ok (.getfield 15, 3) := by decide +kernel
theorem dX5_valueAlong_25 : decode cX5_valueAlong 25 = .ok (.iload_n 2, 1) := by decide +kernel
theorem dX5_valueAlong_26 : decode cX5_valueAlong 26 = .ok (.aload_n 0, 1) := by decide +kernel
theorem dX5_valueAlong_27 : decode cX5_valueAlong 27 = .ok (.getfield 23, 3) := by decide +kernel
theorem dX5_valueAlong_30 : decode cX5_valueAlong 30 = .ok (.iload_n 3, 1) := by decide +kernel
theorem dX5_valueAlong_31 : decode cX5_valueAlong 31 = .ok (.iaload, 1) := by decide +kernel
theorem dX5_valueAlong_32 : decode cX5_valueAlong 32 = .ok (.invokevirtual 139, 3) := by decide +kernel
theorem dX5_valueAlong_35 : decode cX5_valueAlong 35 = .ok (.istore_n 2, 1) := by decide +kernel
theorem dX5_valueAlong_36 : decode cX5_valueAlong 36 = .ok (.iinc 3 1, 3) := by decide +kernel
theorem dX5_valueAlong_39 : decode cX5_valueAlong 39 = .ok (.goto (-35), 3) := by decide +kernel
theorem dX5_valueAlong_42 : decode cX5_valueAlong 42 = .ok (.iload_n 2, 1) := by decide +kernel
theorem dX5_valueAlong_43 : decode cX5_valueAlong 43 = .ok (.ireturn, 1) := by decide +kernel
theorem dX5_compares_0 : decode cX5_compares 0 = .ok (.iload_n 0, 1) := by decide +kernel
theorem dX5_compares_1 : decode cX5_compares 1 = .ok (.iconst (-1), 1) := by decide +kernel
theorem dX5_compares_2 : decode cX5_compares 2 = .ok (.if_icmp .eq 8, 3) := by decide +kernel
theorem dX5_compares_5 : decode cX5_compares 5 = .ok (.iload_n 2, 1) := by decide +kernel
theorem dX5_compares_6 : decode cX5_compares 6 = .ok (.iconst (-1), 1) := by decide +kernel
theorem dX5_compares_7 : decode cX5_compares 7 = .ok (.if_icmp .ne 20, 3) := by decide +kernel
theorem dX5_compares_10 : decode cX5_compares 10 = .ok (.iload_n 1, 1) := by decide +kernel
theorem dX5_compares_11 : decode cX5_compares 11 = .ok (.bipush 61, 2) := by decide +kernel
theorem dX5_compares_13 : decode cX5_compares 13 = .ok (.if_icmp .ne 12, 3) := by decide +kernel
theorem dX5_compares_16 : decode cX5_compares 16 = .ok (.iload_n 0, 1) := by decide +kernel
theorem dX5_compares_17 : decode cX5_compares 17 = .ok (.iload_n 2, 1) := by decide +kernel
theorem dX5_compares_18 : decode cX5_compares 18 = .ok (.if_icmp .ne 7, 3) := by decide +kernel
theorem dX5_compares_21 : decode cX5_compares 21 = .ok (.iconst 1, 1) := by decide +kernel
theorem dX5_compares_22 : decode cX5_compares 22 = .ok (.goto 4, 3) := by decide +kernel
theorem dX5_compares_25 : decode cX5_compares 25 = .ok (.iconst 0, 1) := by decide +kernel
theorem dX5_compares_26 : decode cX5_compares 26 = .ok (.ireturn, 1) := by decide +kernel
theorem dX5_compares_27 : decode cX5_compares 27 = .ok (.iload_n 1, 1) := by decide +kernel
theorem dX5_compares_28 : decode cX5_compares 28 = .ok (.bipush 61, 2) := by decide +kernel
theorem dX5_compares_30 : decode cX5_compares 30 = .ok (.if_icmp .ne 14, 3) := by decide +kernel
theorem dX5_compares_33 : decode cX5_compares 33 = .ok (.iload_n 0, 1) := by decide +kernel
theorem dX5_compares_34 : decode cX5_compares 34 = .ok (.iload_n 2, 1) := by decide +kernel
theorem dX5_compares_35 : decode cX5_compares 35 = .ok (.if_icmp .ne 7, 3) := by decide +kernel
theorem dX5_compares_38 : decode cX5_compares 38 = .ok (.iconst 1, 1) := by decide +kernel
theorem dX5_compares_39 : decode cX5_compares 39 = .ok (.goto 4, 3) := by decide +kernel
theorem dX5_compares_42 : decode cX5_compares 42 = .ok (.iconst 0, 1) := by decide +kernel
theorem dX5_compares_43 : decode cX5_compares 43 = .ok (.ireturn, 1) := by decide +kernel
theorem dX5_compares_44 : decode cX5_compares 44 = .ok (.iload_n 1, 1) := by decide +kernel
theorem dX5_compares_45 : decode cX5_compares 45 = .ok (.bipush 60, 2) := by decide +kernel
theorem dX5_compares_47 : decode cX5_compares 47 = .ok (.if_icmp .ne 16, 3) := by decide +kernel
theorem dX5_compares_50 : decode cX5_compares 50 = .ok (.iload_n 0, 1) := by decide +kernel
theorem dX5_compares_51 : decode cX5_compares 51 = .ok (.iload_n 2, 1) := by decide +kernel
theorem dX5_compares_52 : decode cX5_compares 52 = .ok (.if_icmp .ge 7, 3) := by decide +kernel
theorem dX5_compares_55 : decode cX5_compares 55 = .ok (.iconst 1, 1) := by decide +kernel
theorem dX5_compares_56 : decode cX5_compares 56 = .ok (.goto 17, 3) := by decide +kernel
theorem dX5_compares_59 : decode cX5_compares 59 = .ok (.iconst 0, 1) := by decide +kernel
theorem dX5_compares_60 : decode cX5_compares 60 = .ok (.goto 13, 3) := by decide +kernel
theorem dX5_compares_63 : decode cX5_compares 63 = .ok (.iload_n 0, 1) := by decide +kernel
theorem dX5_compares_64 : decode cX5_compares 64 = .ok (.iload_n 2, 1) := by decide +kernel
theorem dX5_compares_65 : decode cX5_compares 65 = .ok (.if_icmp .le 7, 3) := by decide +kernel
theorem dX5_compares_68 : decode cX5_compares 68 = .ok (.iconst 1, 1) := by decide +kernel
theorem dX5_compares_69 : decode cX5_compares 69 = .ok (.goto 4, 3) := by decide +kernel
theorem dX5_compares_72 : decode cX5_compares 72 = .ok (.iconst 0, 1) := by decide +kernel
theorem dX5_compares_73 : decode cX5_compares 73 = .ok (.ireturn, 1) := by decide +kernel
