theorem dX11_favour_60 : decode cX11_favour 60 = .ok (.pop, 1) := by decide +kernel
theorem dX11_favour_61 : decode cX11_favour 61 = .ok (.aload_n 0, 1) := by decide +kernel
theorem dX11_favour_62 : decode cX11_favour 62 = .ok (.iload_n 1, 1) := by decide +kernel
theorem dX11_favour_63 : decode cX11_favour 63 = .ok (.invokevirtual 265, 3) := by decide +kernel
theorem dX11_favour_66 : decode cX11_favour 66 = .ok (.ireturn, 1) := by decide +kernel
theorem dX11_isEntry_0 : decode cX11_isEntry 0 = .ok (.iload_n 1, 1) := by decide +kernel
theorem dX11_isEntry_1 : decode cX11_isEntry 1 = .ok (.iconst 0, 1) := by decide +kernel
theorem dX11_isEntry_2 : decode cX11_isEntry 2 = .ok (.aload_n 0, 1) := by decide +kernel
theorem dX11_isEntry_3 : decode cX11_isEntry 3 = .ok (.getfield 13, 3) := by decide +kernel
theorem dX11_isEntry_6 : decode cX11_isEntry 6 = .ok (.iconst 1, 1) := by decide +kernel
theorem dX11_isEntry_7 : decode cX11_isEntry 7 = .ok (.iaload, 1) := by decide +kernel
theorem dX11_isEntry_8 : decode cX11_isEntry 8 = .ok (.iconst 1, 1) := by decide +kernel
theorem dX11_isEntry_9 : decode cX11_isEntry 9 = .ok (.isub, 1) := by decide +kernel
theorem dX11_isEntry_10 : decode cX11_isEntry 10 = .ok (.invokestatic 56, 3) := by decide +kernel
theorem dX11_isEntry_13 : decode cX11_isEntry 13 = .ok (.ireturn, 1) := by decide +kernel
theorem dX11_turn_0 : decode cX11_turn 0 = .ok (.aload_n 0, 1) := by decide +kernel
theorem dX11_turn_1 : decode cX11_turn 1 = .ok (.iload_n 1, 1) := by decide +kernel
theorem dX11_turn_2 : decode cX11_turn 2 = .ok (.invokevirtual 268, 3) := by decide +kernel
theorem dX11_turn_5 : decode cX11_turn 5 = .ok (.ifCond .ne 5, 3) := by decide +kernel
theorem dX11_turn_8 : decode cX11_turn 8 = .ok (.iconst (-1), 1) := by decide +kernel
theorem dX11_turn_9 : decode cX11_turn 9 = .ok (.ireturn, 1) := by decide +kernel
theorem dX11_turn_10 : decode cX11_turn 10 = .ok (.aload_n 0, 1) := by decide +kernel
theorem dX11_turn_11 : decode cX11_turn 11 = .ok (.iload_n 1, 1) := by decide +kernel
theorem dX11_turn_12 : decode cX11_turn 12 = .ok (.iconst 0, 1) := by decide +kernel
theorem dX11_turn_13 : decode cX11_turn 13 = .ok (.invokevirtual 219, 3) := by decide +kernel
theorem dX11_turn_16 : decode cX11_turn 16 = .ok (.iconst 4, 1) := by decide +kernel
theorem dX11_turn_17 : decode cX11_turn 17 = .ok (.if_icmp .eq 13, 3) := by decide +kernel
theorem dX11_turn_20 : decode cX11_turn 20 = .ok (.aload_n 0, 1) := by decide +kernel
theorem dX11_turn_21 : decode cX11_turn 21 = .ok (.iload_n 1, 1) := by decide +kernel
theorem dX11_turn_22 : decode cX11_turn 22 = .ok (.bipush 9, 2) := by decide +kernel
theorem dX11_turn_24 : decode cX11_turn 24 = .ok (.invokevirtual 219, 3) := by decide +kernel
theorem dX11_turn_27 : decode cX11_turn 27 = .ok (.ifCond .lt 6, 3) := by decide +kernel
theorem dX11_turn_30 : decode cX11_turn 30 = .ok (.bipush (-2), 2) := by decide +kernel
theorem dX11_turn_32 : decode cX11_turn 32 = .ok (.ireturn, 1) := by decide +kernel
theorem dX11_turn_33 : decode cX11_turn 33 = .ok (.aload_n 0, 1) := by decide +kernel
theorem dX11_turn_34 : decode cX11_turn 34 = .ok (.getfield 13, 3) := by decide +kernel
theorem dX11_turn_37 : decode cX11_turn 37 = .ok (.iconst 1, 1) := by decide +kernel
theorem dX11_turn_38 : decode cX11_turn 38 = .ok (.iaload, 1) := by decide +kernel
theorem dX11_turn_39 : decode cX11_turn 39 = .ok (.sipush 400, 3) := by decide +kernel
theorem dX11_turn_42 : decode cX11_turn 42 = .ok (.if_icmp .ne 6, 3) := by decide +kernel
theorem dX11_turn_45 : decode cX11_turn 45 = .ok (.bipush (-3), 2) := by decide +kernel
theorem dX11_turn_47 : decode cX11_turn 47 = .ok (.ireturn, 1) := by decide +kernel
theorem dX11_turn_48 : decode cX11_turn 48 = .ok (.aload_n 0, 1) := by decide +kernel
theorem dX11_turn_49 : decode cX11_turn 49 = .ok (.aload_n 0, 1) := by decide +kernel
theorem dX11_turn_50 : decode cX11_turn 50 = .ok (.iload_n 1, 1) := by decide +kernel
theorem dX11_turn_51 : decode cX11_turn 51 = .ok (.iconst 1, 1) := by decide +kernel
theorem dX11_turn_52 : decode cX11_turn 52 = .ok (.invokevirtual 219, 3) := by decide +kernel
theorem dX11_turn_55 : decode cX11_turn 55 = .ok (.invokevirtual 265, 3) := by decide +kernel
theorem dX11_turn_58 : decode cX11_turn 58 = .ok (.aload_n 0, 1) := by decide +kernel
theorem dX11_turn_59 : decode cX11_turn 59 = .ok (.iload_n 1, 1) := by decide +kernel
theorem dX11_turn_60 : decode cX11_turn 60 = .ok (.bipush 7, 2) := by decide +kernel
theorem dX11_turn_62 : decode cX11_turn 62 = .ok (.invokevirtual 219, 3) := by decide +kernel
theorem dX11_turn_65 : decode cX11_turn 65 = .ok (.isub, 1) := by decide +kernel
theorem dX11_turn_66 : decode cX11_turn 66 = .ok (.ifCond .ge 6, 3) := by decide +kernel
theorem dX11_turn_69 : decode cX11_turn 69 = .ok (.bipush (-4), 2) := by decide +kernel
theorem dX11_turn_71 : decode cX11_turn 71 = .ok (.ireturn, 1) := by decide +kernel
theorem dX11_turn_72 : decode cX11_turn 72 = .ok (.aload_n 0, 1) := by decide +kernel
theorem dX11_turn_73 : decode cX11_turn 73 = .ok (.getfield 13, 3) := by decide +kernel
theorem dX11_turn_76 : decode cX11_turn 76 = .ok (.iconst 1, 1) := by decide +kernel
theorem dX11_turn_77 : decode cX11_turn 77 = .ok (.iaload, 1) := by decide +kernel
theorem dX11_turn_78 : decode cX11_turn 78 = .ok (.istore_n 2, 1) := by decide +kernel
theorem dX11_turn_79 : decode cX11_turn 79 = .ok (.iconst 0, 1) := by decide +kernel
theorem dX11_turn_80 : decode cX11_turn 80 = .ok (.istore_n 3, 1) := by decide +kernel
theorem dX11_turn_81 : decode cX11_turn 81 = .ok (.iload_n 3, 1) := by decide +kernel
theorem dX11_turn_82 : decode cX11_turn 82 = .ok (.bipush 10, 2) := by decide +kernel
theorem dX11_turn_84 : decode cX11_turn 84 = .ok (.if_icmp .ge 30, 3) := by decide +kernel
theorem dX11_turn_87 : decode cX11_turn 87 = .ok (.aload_n 0, 1) := by decide +kernel
theorem dX11_turn_88 : decode cX11_turn 88 = .ok (.getfield 13, 3) := by decide +kernel
theorem dX11_turn_91 : decode cX11_turn 91 = .ok (.sipush 250, 3) := by decide +kernel
theorem dX11_turn_94 : decode cX11_turn 94 = .ok (.bipush 10, 2) := by decide +kernel
theorem dX11_turn_96 : decode cX11_turn 96 = .ok (.iload_n 2, 1) := by decide +kernel
theorem dX11_turn_97 : decode cX11_turn 97 = .ok (.imul, 1) := by decide +kernel
theorem dX11_turn_98 : decode cX11_turn 98 = .ok (.iadd, 1) := by decide +kernel
theorem dX11_turn_99 : decode cX11_turn 99 = .ok (.iload_n 3, 1) := by decide +kernel
theorem dX11_turn_100 : decode cX11_turn 100 = .ok (.iadd, 1) := by decide +kernel
theorem dX11_turn_101 : decode cX11_turn 101 = .ok (.aload_n 0, 1) := by decide +kernel
theorem dX11_turn_102 : decode cX11_turn 102 = .ok (.iload_n 1, 1) := by decide +kernel
theorem dX11_turn_103 : decode cX11_turn 103 = .ok (.iload_n 3, 1) := by decide +kernel
theorem dX11_turn_104 : decode cX11_turn 104 = .ok (.invokevirtual 219, 3) := by decide +kernel
theorem dX11_turn_107 : decode cX11_turn 107 = .ok (.iastore, 1) := by decide +kernel
theorem dX11_turn_108 : decode cX11_turn 108 = .ok (.iinc 3 1, 3) := by decide +kernel
theorem dX11_turn_111 : decode cX11_turn 111 = .ok (.goto (-30), 3) := by decide +kernel
theorem dX11_turn_114 : decode cX11_turn 114 = .ok (.aload_n 0, 1) := by decide +kernel
theorem dX11_turn_115 : decode cX11_turn 115 = .ok (.getfield 13, 3) := by decide +kernel
theorem dX11_turn_118 : decode cX11_turn 118 = .ok (.sipush 250, 3) := by decide +kernel
theorem dX11_turn_121 : decode cX11_turn 121 = .ok (.bipush 10, 2) := by decide +kernel
theorem dX11_turn_123 : decode cX11_turn 123 = .ok (.iload_n 2, 1) := by decide +kernel
theorem dX11_turn_124 : decode cX11_turn 124 = .ok (.imul, 1) := by decide +kernel
theorem dX11_turn_125 : decode cX11_turn 125 = .ok (.iadd, 1) := by decide +kernel
theorem dX11_turn_126 : decode cX11_turn 126 = .ok (.iconst 4, 1) := by decide +kernel
theorem dX11_turn_127 : decode cX11_turn 127 = .ok (.iastore, 1) := by decide +kernel
theorem dX11_turn_128 : decode cX11_turn 128 = .ok (.aload_n 0, 1) := by decide +kernel
theorem dX11_turn_129 : decode cX11_turn 129 = .ok (.getfield 13, 3) := by decide +kernel
theorem dX11_turn_132 : decode cX11_turn 132 = .ok (.sipush 250, 3) := by decide +kernel
theorem dX11_turn_135 : decode cX11_turn 135 = .ok (.bipush 10, 2) := by decide +kernel
theorem dX11_turn_137 : decode cX11_turn 137 = .ok (.iload_n 2, 1) := by decide +kernel
theorem dX11_turn_138 : decode cX11_turn 138 = .ok (.imul, 1) := by decide +kernel
theorem dX11_turn_139 : decode cX11_turn 139 = .ok (.iadd, 1) := by decide +kernel
theorem dX11_turn_140 : decode cX11_turn 140 = .ok (.iconst 2, 1) := by decide +kernel
theorem dX11_turn_141 : decode cX11_turn 141 = .ok (.iadd, 1) := by decide +kernel
theorem dX11_turn_142 : decode cX11_turn 142 = .ok (.aload_n 0, 1) := by decide +kernel
theorem dX11_turn_143 : decode cX11_turn 143 = .ok (.getfield 13, 3) := by decide +kernel
theorem dX11_turn_146 : decode cX11_turn 146 = .ok (.iconst 0, 1) := by decide +kernel
theorem dX11_turn_147 : decode cX11_turn 147 = .ok (.iaload, 1) := by decide +kernel
theorem dX11_turn_148 : decode cX11_turn 148 = .ok (.iastore, 1) := by decide +kernel
theorem dX11_turn_149 : decode cX11_turn 149 = .ok (.aload_n 0, 1) := by decide +kernel
theorem dX11_turn_150 : decode cX11_turn 150 = .ok (.getfield 13, 3) := by decide +kernel
theorem dX11_turn_153 : decode cX11_turn 153 = .ok (.sipush 250, 3) := by decide +kernel
theorem dX11_turn_156 : decode cX11_turn 156 = .ok (.bipush 10, 2) := by decide +kernel
theorem dX11_turn_158 : decode cX11_turn 158 = .ok (.iload_n 2, 1) := by decide +kernel
theorem dX11_turn_159 : decode cX11_turn 159 = .ok (.imul, 1) := by decide +kernel
theorem dX11_turn_160 : decode cX11_turn 160 = .ok (.iadd, 1) := by decide +kernel
theorem dX11_turn_161 : decode cX11_turn 161 = .ok (.bipush 7, 2) := by decide +kernel
theorem dX11_turn_163 : decode cX11_turn 163 = .ok (.iadd, 1) := by decide +kernel
theorem dX11_turn_164 : decode cX11_turn 164 = .ok (.aload_n 0, 1) := by decide +kernel
theorem dX11_turn_165 : decode cX11_turn 165 = .ok (.iload_n 1, 1) := by decide +kernel
theorem dX11_turn_166 : decode cX11_turn 166 = .ok (.bipush 7, 2) := by decide +kernel
theorem dX11_turn_168 : decode cX11_turn 168 = .ok (.invokevirtual 219, 3) := by decide +kernel
theorem dX11_turn_171 : decode cX11_turn 171 = .ok (.ineg, 1) := by decide +kernel
theorem dX11_turn_172 : decode cX11_turn 172 = .ok (.iastore, 1) := by decide +kernel
theorem dX11_turn_173 : decode cX11_turn 173 = .ok (.aload_n 0, 1) := by decide +kernel
theorem dX11_turn_174 : decode cX11_turn 174 = .ok (.getfield 13, 3) := by decide +kernel
theorem dX11_turn_177 : decode cX11_turn 177 = .ok (.sipush 250, 3) := by decide +kernel
theorem dX11_turn_180 : decode cX11_turn 180 = .ok (.bipush 10, 2) := by decide +kernel
theorem dX11_turn_182 : decode cX11_turn 182 = .ok (.iload_n 2, 1) := by decide +kernel
theorem dX11_turn_183 : decode cX11_turn 183 = .ok (.imul, 1) := by decide +kernel
theorem dX11_turn_184 : decode cX11_turn 184 = .ok (.iadd, 1) := by decide +kernel
theorem dX11_turn_185 : decode cX11_turn 185 = .ok (.bipush 8, 2) := by decide +kernel
theorem dX11_turn_187 : decode cX11_turn 187 = .ok (.iadd, 1) := by decide +kernel
theorem dX11_turn_188 : decode cX11_turn 188 = .ok (.iload_n 1, 1) := by decide +kernel
theorem dX11_turn_189 : decode cX11_turn 189 = .ok (.iastore, 1) := by decide +kernel
theorem dX11_turn_190 : decode cX11_turn 190 = .ok (.aload_n 0, 1) := by decide +kernel
theorem dX11_turn_191 : decode cX11_turn 191 = .ok (.getfield 13, 3) := by decide +kernel
theorem dX11_turn_194 : decode cX11_turn 194 = .ok (.sipush 250, 3) := by decide +kernel
theorem dX11_turn_197 : decode cX11_turn 197 = .ok (.bipush 10, 2) := by decide +kernel
theorem dX11_turn_199 : decode cX11_turn 199 = .ok (.iload_n 1, 1) := by decide +kernel
theorem dX11_turn_200 : decode cX11_turn 200 = .ok (.imul, 1) := by decide +kernel
theorem dX11_turn_201 : decode cX11_turn 201 = .ok (.iadd, 1) := by decide +kernel
theorem dX11_turn_202 : decode cX11_turn 202 = .ok (.bipush 9, 2) := by decide +kernel
theorem dX11_turn_204 : decode cX11_turn 204 = .ok (.iadd, 1) := by decide +kernel
theorem dX11_turn_205 : decode cX11_turn 205 = .ok (.iload_n 2, 1) := by decide +kernel
theorem dX11_turn_206 : decode cX11_turn 206 = .ok (.iastore, 1) := by decide +kernel
theorem dX11_turn_207 : decode cX11_turn 207 = .ok (.aload_n 0, 1) := by decide +kernel
theorem dX11_turn_208 : decode cX11_turn 208 = .ok (.getfield 13, 3) := by decide +kernel
theorem dX11_turn_211 : decode cX11_turn 211 = .ok (.iconst 1, 1) := by decide +kernel
theorem dX11_turn_212 : decode cX11_turn 212 = .ok (.iload_n 2, 1) := by decide +kernel
theorem dX11_turn_213 : decode cX11_turn 213 = .ok (.iconst 1, 1) := by decide +kernel
theorem dX11_turn_214 : decode cX11_turn 214 = .ok (.iadd, 1) := by decide +kernel
theorem dX11_turn_215 : decode cX11_turn 215 = .ok (.iastore, 1) := by decide +kernel
theorem dX11_turn_216 : decode cX11_turn 216 = .ok (.iload_n 2, 1) := by decide +kernel
theorem dX11_turn_217 : decode cX11_turn 217 = .ok (.ireturn, 1) := by decide +kernel
theorem dX11_readsAccount_0 : decode cX11_readsAccount 0 = .ok (.aload_n 0, 1) := by decide +kernel
theorem dX11_readsAccount_1 : decode cX11_readsAccount 1 = .ok (.bipush 32, 2) := by decide +kernel
theorem dX11_readsAccount_3 : decode cX11_readsAccount 3 = .ok (.invokevirtual 122, 3) := by decide +kernel
theorem dX11_readsAccount_6 : decode cX11_readsAccount 6 = .ok (.ifCond .ne 5, 3) := by decide +kernel
theorem dX11_readsAccount_9 : decode cX11_readsAccount 9 = .ok (.iconst 0, 1) := by decide +kernel
theorem dX11_readsAccount_10 : decode cX11_readsAccount 10 = .ok (.ireturn, 1) := by decide +kernel
theorem dX11_readsAccount_11 : decode cX11_readsAccount 11 = .ok (.aload_n 0, 1) := by decide +kernel
theorem dX11_readsAccount_12 : decode cX11_readsAccount 12 = .ok (.invokevirtual 101, 3) := by decide +kernel
theorem dX11_readsAccount_15 : decode cX11_readsAccount 15 = .ok (.invokestatic 125, 3) := by decide +kernel
theorem dX11_readsAccount_18 : decode cX11_readsAccount 18 = .ok (.ifCond .ne 13, 3) := by decide +kernel
theorem dX11_readsAccount_21 : decode cX11_readsAccount 21 = .ok (.aload_n 0, 1) := by decide +kernel
theorem dX11_readsAccount_22 : decode cX11_readsAccount 22 = .ok (.iconst 1, 1) := by decide +kernel
theorem dX11_readsAccount_23 : decode cX11_readsAccount 23 = .ok (.aload_n 0, 1) := by decide +kernel
theorem dX11_readsAccount_24 : decode cX11_readsAccount 24 = .ok (.getfield 92, 3) := by decide +kernel
theorem dX11_readsAccount_27 : decode cX11_readsAccount 27 = .ok (.invokevirtual 105, 3) := by decide +kernel
theorem dX11_readsAccount_30 : decode cX11_readsAccount 30 = .ok (.ireturn, 1) := by decide +kernel
theorem dX11_readsAccount_31 : decode cX11_readsAccount 31 = .ok (.aload_n 0, 1) := by decide +kernel
theorem dX11_readsAccount_32 : decode cX11_readsAccount 32 = .ok (.invokevirtual 101, 3) := by decide +kernel
theorem dX11_readsAccount_35 : decode cX11_readsAccount 35 = .ok (.bipush 53, 2) := by decide +kernel
theorem dX11_readsAccount_37 : decode cX11_readsAccount 37 = .ok (.if_icmp .le 13, 3) := by decide +kernel
theorem dX11_readsAccount_40 : decode cX11_readsAccount 40 = .ok (.aload_n 0, 1) := by decide +kernel
theorem dX11_readsAccount_41 : decode cX11_readsAccount 41 = .ok (.iconst 3, 1) := by decide +kernel
theorem dX11_readsAccount_42 : decode cX11_readsAccount 42 = .ok (.aload_n 0, 1) := by decide +kernel
theorem dX11_readsAccount_43 : decode cX11_readsAccount 43 = .ok (.getfield 92, 3) := by decide +kernel
theorem dX11_readsAccount_46 : decode cX11_readsAccount 46 = .ok (.invokevirtual 105, 3) := by decide +kernel
theorem dX11_readsAccount_49 : decode cX11_readsAccount 49 = .ok (.ireturn, 1) := by decide +kernel
theorem dX11_readsAccount_50 : decode cX11_readsAccount 50 = .ok (.aload_n 0, 1) := by decide +kernel
theorem dX11_readsAccount_51 : decode cX11_readsAccount 51 = .ok (.aload_n 0, 1) := by decide +kernel
theorem dX11_readsAccount_52 : decode cX11_readsAccount 52 = .ok (.invokevirtual 101, 3) := by decide +kernel
theorem dX11_readsAccount_55 : decode cX11_readsAccount 55 = .ok (.bipush 48, 2) := by decide +kernel
theorem dX11_readsAccount_57 : decode cX11_readsAccount 57 = .ok (.isub, 1) := by decide +kernel
theorem dX11_readsAccount_58 : decode cX11_readsAccount 58 = .ok (.putfield 128, 3) := by decide +kernel
theorem dX11_readsAccount_61 : decode cX11_readsAccount 61 = .ok (.aload_n 0, 1) := by decide +kernel
theorem dX11_readsAccount_62 : decode cX11_readsAccount 62 = .ok (.aload_n 0, 1) := by decide +kernel
theorem dX11_readsAccount_63 : decode cX11_readsAccount 63 = .ok (.getfield 92, 3) := by decide +kernel
theorem dX11_readsAccount_66 : decode cX11_readsAccount 66 = .ok (.iconst 1, 1) := by decide +kernel
theorem dX11_readsAccount_67 : decode cX11_readsAccount 67 = .ok (.iadd, 1) := by decide +kernel
theorem dX11_readsAccount_68 : decode cX11_readsAccount 68 = .ok (.putfield 92, 3) := by decide +kernel
theorem dX11_readsAccount_71 : decode cX11_readsAccount 71 = .ok (.iconst 1, 1) := by decide +kernel
theorem dX11_readsAccount_72 : decode cX11_readsAccount 72 = .ok (.ireturn, 1) := by decide +kernel
theorem dX11_readsRest_0 : decode cX11_readsRest 0 = .ok (.lload_n 1, 1) := by decide +kernel
theorem dX11_readsRest_1 : decode cX11_readsRest 1 = .ok (.ldc2_w 271, 3) := by decide +kernel
theorem dX11_readsRest_4 : decode cX11_readsRest 4 = .ok (.lcmp, 1) := by decide +kernel
theorem dX11_readsRest_5 : decode cX11_readsRest 5 = .ok (.ifCond .eq 11, 3) := by decide +kernel
theorem dX11_readsRest_8 : decode cX11_readsRest 8 = .ok (.lload_n 1, 1) := by decide +kernel
theorem dX11_readsRest_9 : decode cX11_readsRest 9 = .ok (.ldc2_w 273, 3) := by decide +kernel
theorem dX11_readsRest_12 : decode cX11_readsRest 12 = .ok (.lcmp, 1) := by decide +kernel
theorem dX11_readsRest_13 : decode cX11_readsRest 13 = .ok (.ifCond .ne 30, 3) := by decide +kernel
theorem dX11_readsRest_16 : decode cX11_readsRest 16 = .ok (.aload_n 0, 1) := by decide +kernel
theorem dX11_readsRest_17 : decode cX11_readsRest 17 = .ok (.iconst 0, 1) := by decide +kernel
theorem dX11_readsRest_18 : decode cX11_readsRest 18 = .ok (.ldc 193, 2) := by decide +kernel
theorem dX11_readsRest_20 : decode cX11_readsRest 20 = .ok (.invokevirtual 131, 3) := by decide +kernel
theorem dX11_readsRest_23 : decode cX11_readsRest 23 = .ok (.ifCond .ne 5, 3) := by decide +kernel
theorem dX11_readsRest_26 : decode cX11_readsRest 26 = .ok (.iconst 0, 1) := by decide +kernel
theorem dX11_readsRest_27 : decode cX11_readsRest 27 = .ok (.ireturn, 1) := by decide +kernel
theorem dX11_readsRest_28 : decode cX11_readsRest 28 = .ok (.aload_n 0, 1) := by decide +kernel
theorem dX11_readsRest_29 : decode cX11_readsRest 29 = .ok (.getfield 27, 3) := by decide +kernel
theorem dX11_readsRest_32 : decode cX11_readsRest 32 = .ok (.aload_n 0, 1) := by decide +kernel
theorem dX11_readsRest_33 : decode cX11_readsRest 33 = .ok (.getfield 275, 3) := by decide +kernel
theorem dX11_readsRest_36 : decode cX11_readsRest 36 = .ok (.aload_n 0, 1) := by decide +kernel
theorem dX11_readsRest_37 : decode cX11_readsRest 37 = .ok (.getfield 128, 3) := by decide +kernel
theorem dX11_readsRest_40 : decode cX11_readsRest 40 = .ok (.iastore, 1) := by decide +kernel
theorem dX11_readsRest_41 : decode cX11_readsRest 41 = .ok (.iconst 1, 1) := by decide +kernel
theorem dX11_readsRest_42 : decode cX11_readsRest 42 = .ok (.ireturn, 1) := by decide +kernel
theorem dX11_readsRest_43 : decode cX11_readsRest 43 = .ok (.aload_n 0, 1) := by decide +kernel
theorem dX11_readsRest_44 : decode cX11_readsRest 44 = .ok (.invokevirtual 278, 3) := by decide +kernel
theorem dX11_readsRest_47 : decode cX11_readsRest 47 = .ok (.ifCond .ne 5, 3) := by decide +kernel
theorem dX11_readsRest_50 : decode cX11_readsRest 50 = .ok (.iconst 0, 1) := by decide +kernel
theorem dX11_readsRest_51 : decode cX11_readsRest 51 = .ok (.ireturn, 1) := by decide +kernel
theorem dX11_readsRest_52 : decode cX11_readsRest 52 = .ok (.aload_n 0, 1) := by decide +kernel
theorem dX11_readsRest_53 : decode cX11_readsRest 53 = .ok (.getfield 27, 3) := by decide +kernel
theorem dX11_readsRest_56 : decode cX11_readsRest 56 = .ok (.aload_n 0, 1) := by decide +kernel
theorem dX11_readsRest_57 : decode cX11_readsRest 57 = .ok (.getfield 275, 3) := by decide +kernel
theorem dX11_readsRest_60 : decode cX11_readsRest 60 = .ok (.aload_n 0, 1) := by decide +kernel
theorem dX11_readsRest_61 : decode cX11_readsRest 61 = .ok (.getfield 128, 3) := by decide +kernel
theorem dX11_readsRest_64 : decode cX11_readsRest 64 = .ok (.iastore, 1) := by decide +kernel
theorem dX11_readsRest_65 : decode cX11_readsRest 65 = .ok (.lload_n 1, 1) := by decide +kernel
theorem dX11_readsRest_66 : decode cX11_readsRest 66 = .ok (.ldc2_w 281, 3) := by decide +kernel
theorem dX11_readsRest_69 : decode cX11_readsRest 69 = .ok (.lcmp, 1) := by decide +kernel
theorem dX11_readsRest_70 : decode cX11_readsRest 70 = .ok (.ifCond .eq 11, 3) := by decide +kernel
theorem dX11_readsRest_73 : decode cX11_readsRest 73 = .ok (.lload_n 1, 1) := by decide +kernel
theorem dX11_readsRest_74 : decode cX11_readsRest 74 = .ok (.ldc2_w 283, 3) := by decide +kernel
theorem dX11_readsRest_77 : decode cX11_readsRest 77 = .ok (.lcmp, 1) := by decide +kernel
theorem dX11_readsRest_78 : decode cX11_readsRest 78 = .ok (.ifCond .ne 25, 3) := by decide +kernel
theorem dX11_readsRest_81 : decode cX11_readsRest 81 = .ok (.aload_n 0, 1) := by decide +kernel
theorem dX11_readsRest_82 : decode cX11_readsRest 82 = .ok (.invokevirtual 181, 3) := by decide +kernel
theorem dX11_readsRest_85 : decode cX11_readsRest 85 = .ok (.ifCond .ne 5, 3) := by decide +kernel
theorem dX11_readsRest_88 : decode cX11_readsRest 88 = .ok (.iconst 0, 1) := by decide +kernel
theorem dX11_readsRest_89 : decode cX11_readsRest 89 = .ok (.ireturn, 1) := by decide +kernel
theorem dX11_readsRest_90 : decode cX11_readsRest 90 = .ok (.aload_n 0, 1) := by decide +kernel
theorem dX11_readsRest_91 : decode cX11_readsRest 91 = .ok (.getfield 30, 3) := by decide +kernel
theorem dX11_readsRest_94 : decode cX11_readsRest 94 = .ok (.aload_n 0, 1) := by decide +kernel
theorem dX11_readsRest_95 : decode cX11_readsRest 95 = .ok (.getfield 275, 3) := by decide +kernel
theorem dX11_readsRest_98 : decode cX11_readsRest 98 = .ok (.aload_n 0, 1) := by decide +kernel
theorem dX11_readsRest_99 : decode cX11_readsRest 99 = .ok (.getfield 128, 3) := by decide +kernel
theorem dX11_readsRest_102 : decode cX11_readsRest 102 = .ok (.iastore, 1) := by decide +kernel
theorem dX11_readsRest_103 : decode cX11_readsRest 103 = .ok (.lload_n 1, 1) := by decide +kernel
theorem dX11_readsRest_104 : decode cX11_readsRest 104 = .ok (.ldc2_w 283, 3) := by decide +kernel
theorem dX11_readsRest_107 : decode cX11_readsRest 107 = .ok (.lcmp, 1) := by decide +kernel
theorem dX11_readsRest_108 : decode cX11_readsRest 108 = .ok (.ifCond .eq 35, 3) := by decide +kernel
theorem dX11_readsRest_111 : decode cX11_readsRest 111 = .ok (.lload_n 1, 1) := by decide +kernel
theorem dX11_readsRest_112 : decode cX11_readsRest 112 = .ok (.ldc2_w 285, 3) := by decide +kernel
theorem dX11_readsRest_115 : decode cX11_readsRest 115 = .ok (.lcmp, 1) := by decide +kernel
theorem dX11_readsRest_116 : decode cX11_readsRest 116 = .ok (.ifCond .eq 27, 3) := by decide +kernel
theorem dX11_readsRest_119 : decode cX11_readsRest 119 = .ok (.lload_n 1, 1) := by decide +kernel
theorem dX11_readsRest_120 : decode cX11_readsRest 120 = .ok (.ldc2_w 287, 3) := by decide +kernel
theorem dX11_readsRest_123 : decode cX11_readsRest 123 = .ok (.lcmp, 1) := by decide +kernel
theorem dX11_readsRest_124 : decode cX11_readsRest 124 = .ok (.ifCond .eq 19, 3) := by decide +kernel
theorem dX11_readsRest_127 : decode cX11_readsRest 127 = .ok (.lload_n 1, 1) := by decide +kernel
theorem dX11_readsRest_128 : decode cX11_readsRest 128 = .ok (.ldc2_w 289, 3) := by decide +kernel
theorem dX11_readsRest_131 : decode cX11_readsRest 131 = .ok (.lcmp, 1) := by decide +kernel
theorem dX11_readsRest_132 : decode cX11_readsRest 132 = .ok (.ifCond .eq 11, 3) := by decide +kernel
theorem dX11_readsRest_135 : decode cX11_readsRest 135 = .ok (.lload_n 1, 1) := by decide +kernel
theorem dX11_readsRest_136 : decode cX11_readsRest 136 = .ok (.ldc2_w 291, 3) := by decide +kernel
theorem dX11_readsRest_139 : decode cX11_readsRest 139 = .ok (.lcmp, 1) := by decide +kernel
theorem dX11_readsRest_140 : decode cX11_readsRest 140 = .ok (.ifCond .ne 5, 3) := by decide +kernel
theorem dX11_readsRest_143 : decode cX11_readsRest 143 = .ok (.iconst 1, 1) := by decide +kernel
theorem dX11_readsRest_144 : decode cX11_readsRest 144 = .ok (.ireturn, 1) := by decide +kernel
theorem dX11_readsRest_145 : decode cX11_readsRest 145 = .ok (.aload_n 0, 1) := by decide +kernel
theorem dX11_readsRest_146 : decode cX11_readsRest 146 = .ok (.iconst 0, 1) := by decide +kernel
theorem dX11_readsRest_147 : decode cX11_readsRest 147 = .ok (.ldc 193, 2) := by decide +kernel
theorem dX11_readsRest_149 : decode cX11_readsRest 149 = .ok (.invokevirtual 131, 3) := by decide +kernel
theorem dX11_readsRest_152 : decode cX11_readsRest 152 = .ok (.ifCond .ne 5, 3) := by decide +kernel
theorem dX11_readsRest_155 : decode cX11_readsRest 155 = .ok (.iconst 0, 1) := by decide +kernel
theorem dX11_readsRest_156 : decode cX11_readsRest 156 = .ok (.ireturn, 1) := by decide +kernel
theorem dX11_readsRest_157 : decode cX11_readsRest 157 = .ok (.aload_n 0, 1) := by decide +kernel
theorem dX11_readsRest_158 : decode cX11_readsRest 158 = .ok (.getfield 33, 3) := by decide +kernel
theorem dX11_readsRest_161 : decode cX11_readsRest 161 = .ok (.aload_n 0, 1) := by decide +kernel
theorem dX11_readsRest_162 : decode cX11_readsRest 162 = .ok (.getfield 275, 3) := by decide +kernel
theorem dX11_readsRest_165 : decode cX11_readsRest 165 = .ok (.aload_n 0, 1) := by decide +kernel
theorem dX11_readsRest_166 : decode cX11_readsRest 166 = .ok (.getfield 128, 3) := by decide +kernel
theorem dX11_readsRest_169 : decode cX11_readsRest 169 = .ok (.iastore, 1) := by decide +kernel
theorem dX11_readsRest_170 : decode cX11_readsRest 170 = .ok (.iconst 1, 1) := by decide +kernel
theorem dX11_readsRest_171 : decode cX11_readsRest 171 = .ok (.ireturn, 1) := by decide +kernel
theorem dX11_isDeed_0 : decode cX11_isDeed 0 = .ok (.lload_n 0, 1) := by decide +kernel
theorem dX11_isDeed_1 : decode cX11_isDeed 1 = .ok (.ldc2_w 281, 3) := by decide +kernel
theorem dX11_isDeed_4 : decode cX11_isDeed 4 = .ok (.lcmp, 1) := by decide +kernel
theorem dX11_isDeed_5 : decode cX11_isDeed 5 = .ok (.ifCond .eq 99, 3) := by decide +kernel
theorem dX11_isDeed_8 : decode cX11_isDeed 8 = .ok (.lload_n 0, 1) := by decide +kernel
theorem dX11_isDeed_9 : decode cX11_isDeed 9 = .ok (.ldc2_w 283, 3) := by decide +kernel
theorem dX11_isDeed_12 : decode cX11_isDeed 12 = .ok (.lcmp, 1) := by decide +kernel
theorem dX11_isDeed_13 : decode cX11_isDeed 13 = .ok (.ifCond .eq 91, 3) := by decide +kernel
theorem dX11_isDeed_16 : decode cX11_isDeed 16 = .ok (.lload_n 0, 1) := by decide +kernel
theorem dX11_isDeed_17 : decode cX11_isDeed 17 = .ok (.ldc2_w 285, 3) := by decide +kernel
theorem dX11_isDeed_20 : decode cX11_isDeed 20 = .ok (.lcmp, 1) := by decide +kernel
theorem dX11_isDeed_21 : decode cX11_isDeed 21 = .ok (.ifCond .eq 83, 3) := by decide +kernel
theorem dX11_isDeed_24 : decode cX11_isDeed 24 = .ok (.lload_n 0, 1) := by decide +kernel
theorem dX11_isDeed_25 : decode cX11_isDeed 25 = .ok (.ldc2_w 287, 3) := by decide +kernel
theorem dX11_isDeed_28 : decode cX11_isDeed 28 = .ok (.lcmp, 1) := by decide +kernel
theorem dX11_isDeed_29 : decode cX11_isDeed 29 = .ok (.ifCond .eq 75, 3) := by decide +kernel
theorem dX11_isDeed_32 : decode cX11_isDeed 32 = .ok (.lload_n 0, 1) := by decide +kernel
theorem dX11_isDeed_33 : decode cX11_isDeed 33 = .ok (.ldc2_w 289, 3) := by decide +kernel
theorem dX11_isDeed_36 : decode cX11_isDeed 36 = .ok (.lcmp, 1) := by decide +kernel
theorem dX11_isDeed_37 : decode cX11_isDeed 37 = .ok (.ifCond .eq 67, 3) := by decide +kernel
theorem dX11_isDeed_40 : decode cX11_isDeed 40 = .ok (.lload_n 0, 1) := by decide +kernel
theorem dX11_isDeed_41 : decode cX11_isDeed 41 = .ok (.ldc2_w 293, 3) := by decide +kernel
theorem dX11_isDeed_44 : decode cX11_isDeed 44 = .ok (.lcmp, 1) := by decide +kernel
theorem dX11_isDeed_45 : decode cX11_isDeed 45 = .ok (.ifCond .eq 59, 3) := by decide +kernel
theorem dX11_isDeed_48 : decode cX11_isDeed 48 = .ok (.lload_n 0, 1) := by decide +kernel
theorem dX11_isDeed_49 : decode cX11_isDeed 49 = .ok (.ldc2_w 271, 3) := by decide +kernel
theorem dX11_isDeed_52 : decode cX11_isDeed 52 = .ok (.lcmp, 1) := by decide +kernel
theorem dX11_isDeed_53 : decode cX11_isDeed 53 = .ok (.ifCond .eq 51, 3) := by decide +kernel
theorem dX11_isDeed_56 : decode cX11_isDeed 56 = .ok (.lload_n 0, 1) := by decide +kernel
theorem dX11_isDeed_57 : decode cX11_isDeed 57 = .ok (.ldc2_w 295, 3) := by decide +kernel
theorem dX11_isDeed_60 : decode cX11_isDeed 60 = .ok (.lcmp, 1) := by decide +kernel
theorem dX11_isDeed_61 : decode cX11_isDeed 61 = .ok (.ifCond .eq 43, 3) := by decide +kernel
theorem dX11_isDeed_64 : decode cX11_isDeed 64 = .ok (.lload_n 0, 1) := by decide +kernel
theorem dX11_isDeed_65 : decode cX11_isDeed 65 = .ok (.ldc2_w 297, 3) := by decide +kernel
theorem dX11_isDeed_68 : decode cX11_isDeed 68 = .ok (.lcmp, 1) := by decide +kernel
theorem dX11_isDeed_69 : decode cX11_isDeed 69 = .ok (.ifCond .eq 35, 3) := by decide +kernel
theorem dX11_isDeed_72 : decode cX11_isDeed 72 = .ok (.lload_n 0, 1) := by decide +kernel
theorem dX11_isDeed_73 : decode cX11_isDeed 73 = .ok (.ldc2_w 273, 3) := by decide +kernel
theorem dX11_isDeed_76 : decode cX11_isDeed 76 = .ok (.lcmp, 1) := by decide +kernel
theorem dX11_isDeed_77 : decode cX11_isDeed 77 = .ok (.ifCond .eq 27, 3) := by decide +kernel
theorem dX11_isDeed_80 : decode cX11_isDeed 80 = .ok (.lload_n 0, 1) := by decide +kernel
theorem dX11_isDeed_81 : decode cX11_isDeed 81 = .ok (.ldc2_w 299, 3) := by decide +kernel
theorem dX11_isDeed_84 : decode cX11_isDeed 84 = .ok (.lcmp, 1) := by decide +kernel
theorem dX11_isDeed_85 : decode cX11_isDeed 85 = .ok (.ifCond .eq 19, 3) := by decide +kernel
theorem dX11_isDeed_88 : decode cX11_isDeed 88 = .ok (.lload_n 0, 1) := by decide +kernel
theorem dX11_isDeed_89 : decode cX11_isDeed 89 = .ok (.ldc2_w 301, 3) := by decide +kernel
theorem dX11_isDeed_92 : decode cX11_isDeed 92 = .ok (.lcmp, 1) := by decide +kernel
theorem dX11_isDeed_93 : decode cX11_isDeed 93 = .ok (.ifCond .eq 11, 3) := by decide +kernel
theorem dX11_isDeed_96 : decode cX11_isDeed 96 = .ok (.lload_n 0, 1) := by decide +kernel
theorem dX11_isDeed_97 : decode cX11_isDeed 97 = .ok (.ldc2_w 291, 3) := by decide +kernel
theorem dX11_isDeed_100 : decode cX11_isDeed 100 = .ok (.lcmp, 1) := by decide +kernel
theorem dX11_isDeed_101 : decode cX11_isDeed 101 = .ok (.ifCond .ne 7, 3) := by decide +kernel
theorem dX11_isDeed_104 : decode cX11_isDeed 104 = .ok (.iconst 1, 1) := by decide +kernel
theorem dX11_isDeed_105 : decode cX11_isDeed 105 = .ok (.goto 4, 3) := by decide +kernel
theorem dX11_isDeed_108 : decode cX11_isDeed 108 = .ok (.iconst 0, 1) := by decide +kernel
theorem dX11_isDeed_109 : decode cX11_isDeed 109 = .ok (.ireturn, 1) := by decide +kernel
theorem dX11_readsStep_0 : decode cX11_readsStep 0 = .ok (.aload_n 0, 1) := by decide +kernel
theorem dX11_readsStep_1 : decode cX11_readsStep 1 = .ok (.getfield 275, 3) := by decide +kernel
theorem dX11_readsStep_4 : decode cX11_readsStep 4 = .ok (.bipush 24, 2) := by decide +kernel
theorem dX11_readsStep_6 : decode cX11_readsStep 6 = .ok (.if_icmp .ne 13, 3) := by decide +kernel
theorem dX11_readsStep_9 : decode cX11_readsStep 9 = .ok (.aload_n 0, 1) := by decide +kernel
theorem dX11_readsStep_10 : decode cX11_readsStep 10 = .ok (.iconst 4, 1) := by decide +kernel
theorem dX11_readsStep_11 : decode cX11_readsStep 11 = .ok (.aload_n 0, 1) := by decide +kernel
theorem dX11_readsStep_12 : decode cX11_readsStep 12 = .ok (.getfield 92, 3) := by decide +kernel
theorem dX11_readsStep_15 : decode cX11_readsStep 15 = .ok (.invokevirtual 105, 3) := by decide +kernel
theorem dX11_readsStep_18 : decode cX11_readsStep 18 = .ok (.ireturn, 1) := by decide +kernel
theorem dX11_readsStep_19 : decode cX11_readsStep 19 = .ok (.aload_n 0, 1) := by decide +kernel
theorem dX11_readsStep_20 : decode cX11_readsStep 20 = .ok (.invokevirtual 134, 3) := by decide +kernel
theorem dX11_readsStep_23 : decode cX11_readsStep 23 = .ok (.aload_n 0, 1) := by decide +kernel
theorem dX11_readsStep_24 : decode cX11_readsStep 24 = .ok (.getfield 112, 3) := by decide +kernel
theorem dX11_readsStep_27 : decode cX11_readsStep 27 = .ok (.invokestatic 303, 3) := by decide +kernel
theorem dX11_readsStep_30 : decode cX11_readsStep 30 = .ok (.ifCond .ne 13, 3) := by decide +kernel
theorem dX11_readsStep_33 : decode cX11_readsStep 33 = .ok (.aload_n 0, 1) := by decide +kernel
theorem dX11_readsStep_34 : decode cX11_readsStep 34 = .ok (.iconst 1, 1) := by decide +kernel
theorem dX11_readsStep_35 : decode cX11_readsStep 35 = .ok (.aload_n 0, 1) := by decide +kernel
theorem dX11_readsStep_36 : decode cX11_readsStep 36 = .ok (.getfield 109, 3) := by decide +kernel
theorem dX11_readsStep_39 : decode cX11_readsStep 39 = .ok (.invokevirtual 105, 3) := by decide +kernel
theorem dX11_readsStep_42 : decode cX11_readsStep 42 = .ok (.ireturn, 1) := by decide +kernel
theorem dX11_readsStep_43 : decode cX11_readsStep 43 = .ok (.aload_n 0, 1) := by decide +kernel
theorem dX11_readsStep_44 : decode cX11_readsStep 44 = .ok (.getfield 23, 3) := by decide +kernel
theorem dX11_readsStep_47 : decode cX11_readsStep 47 = .ok (.aload_n 0, 1) := by decide +kernel
theorem dX11_readsStep_48 : decode cX11_readsStep 48 = .ok (.getfield 275, 3) := by decide +kernel
theorem dX11_readsStep_51 : decode cX11_readsStep 51 = .ok (.aload_n 0, 1) := by decide +kernel
theorem dX11_readsStep_52 : decode cX11_readsStep 52 = .ok (.getfield 112, 3) := by decide +kernel
theorem dX11_readsStep_55 : decode cX11_readsStep 55 = .ok (.lastore, 1) := by decide +kernel
theorem dX11_readsStep_56 : decode cX11_readsStep 56 = .ok (.aload_n 0, 1) := by decide +kernel
theorem dX11_readsStep_57 : decode cX11_readsStep 57 = .ok (.aload_n 0, 1) := by decide +kernel
theorem dX11_readsStep_58 : decode cX11_readsStep 58 = .ok (.getfield 112, 3) := by decide +kernel
theorem dX11_readsStep_61 : decode cX11_readsStep 61 = .ok (.invokevirtual 306, 3) := by decide +kernel
theorem dX11_readsStep_64 : decode cX11_readsStep 64 = .ok (.ifCond .ne 5, 3) := by decide +kernel
theorem dX11_readsStep_67 : decode cX11_readsStep 67 = .ok (.iconst 0, 1) := by decide +kernel
theorem dX11_readsStep_68 : decode cX11_readsStep 68 = .ok (.ireturn, 1) := by decide +kernel
theorem dX11_readsStep_69 : decode cX11_readsStep 69 = .ok (.aload_n 0, 1) := by decide +kernel
theorem dX11_readsStep_70 : decode cX11_readsStep 70 = .ok (.aload_n 0, 1) := by decide +kernel
theorem dX11_readsStep_71 : decode cX11_readsStep 71 = .ok (.getfield 275, 3) := by decide +kernel
theorem dX11_readsStep_74 : decode cX11_readsStep 74 = .ok (.iconst 1, 1) := by decide +kernel
theorem dX11_readsStep_75 : decode cX11_readsStep 75 = .ok (.iadd, 1) := by decide +kernel
theorem dX11_readsStep_76 : decode cX11_readsStep 76 = .ok (.putfield 275, 3) := by decide +kernel
theorem dX11_readsStep_79 : decode cX11_readsStep 79 = .ok (.iconst 1, 1) := by decide +kernel
theorem dX11_readsStep_80 : decode cX11_readsStep 80 = .ok (.ireturn, 1) := by decide +kernel
theorem dX11_readsDeeds_0 : decode cX11_readsDeeds 0 = .ok (.aload_n 0, 1) := by decide +kernel
theorem dX11_readsDeeds_1 : decode cX11_readsDeeds 1 = .ok (.iconst 0, 1) := by decide +kernel
theorem dX11_readsDeeds_2 : decode cX11_readsDeeds 2 = .ok (.putfield 92, 3) := by decide +kernel
theorem dX11_readsDeeds_5 : decode cX11_readsDeeds 5 = .ok (.aload_n 0, 1) := by decide +kernel
theorem dX11_readsDeeds_6 : decode cX11_readsDeeds 6 = .ok (.iload_n 1, 1) := by decide +kernel
theorem dX11_readsDeeds_7 : decode cX11_readsDeeds 7 = .ok (.putfield 95, 3) := by decide +kernel
theorem dX11_readsDeeds_10 : decode cX11_readsDeeds 10 = .ok (.aload_n 0, 1) := by decide +kernel
theorem dX11_readsDeeds_11 : decode cX11_readsDeeds 11 = .ok (.iconst 0, 1) := by decide +kernel
theorem dX11_readsDeeds_12 : decode cX11_readsDeeds 12 = .ok (.putfield 84, 3) := by decide +kernel
theorem dX11_readsDeeds_15 : decode cX11_readsDeeds 15 = .ok (.aload_n 0, 1) := by decide +kernel
theorem dX11_readsDeeds_16 : decode cX11_readsDeeds 16 = .ok (.iconst 0, 1) := by decide +kernel
theorem dX11_readsDeeds_17 : decode cX11_readsDeeds 17 = .ok (.putfield 275, 3) := by decide +kernel
theorem dX11_readsDeeds_20 : decode cX11_readsDeeds 20 = .ok (.aload_n 0, 1) := by decide +kernel
theorem dX11_readsDeeds_21 : decode cX11_readsDeeds 21 = .ok (.invokevirtual 309, 3) := by decide +kernel
theorem dX11_readsDeeds_24 : decode cX11_readsDeeds 24 = .ok (.istore_n 2, 1) := by decide +kernel
theorem dX11_readsDeeds_25 : decode cX11_readsDeeds 25 = .ok (.iload_n 2, 1) := by decide +kernel
theorem dX11_readsDeeds_26 : decode cX11_readsDeeds 26 = .ok (.ifCond .eq 39, 3) := by decide +kernel
theorem dX11_readsDeeds_29 : decode cX11_readsDeeds 29 = .ok (.aload_n 0, 1) := by decide +kernel
theorem dX11_readsDeeds_30 : decode cX11_readsDeeds 30 = .ok (.getfield 92, 3) := by decide +kernel
theorem dX11_readsDeeds_33 : decode cX11_readsDeeds 33 = .ok (.aload_n 0, 1) := by decide +kernel
theorem dX11_readsDeeds_34 : decode cX11_readsDeeds 34 = .ok (.getfield 95, 3) := by decide +kernel
theorem dX11_readsDeeds_37 : decode cX11_readsDeeds 37 = .ok (.if_icmp .ge 28, 3) := by decide +kernel
theorem dX11_readsDeeds_40 : decode cX11_readsDeeds 40 = .ok (.aload_n 0, 1) := by decide +kernel
theorem dX11_readsDeeds_41 : decode cX11_readsDeeds 41 = .ok (.bipush 59, 2) := by decide +kernel
theorem dX11_readsDeeds_43 : decode cX11_readsDeeds 43 = .ok (.invokevirtual 122, 3) := by decide +kernel
theorem dX11_readsDeeds_46 : decode cX11_readsDeeds 46 = .ok (.ifCond .eq 14, 3) := by decide +kernel
theorem dX11_readsDeeds_49 : decode cX11_readsDeeds 49 = .ok (.aload_n 0, 1) := by decide +kernel
theorem dX11_readsDeeds_50 : decode cX11_readsDeeds 50 = .ok (.invokevirtual 309, 3) := by decide +kernel
theorem dX11_readsDeeds_53 : decode cX11_readsDeeds 53 = .ok (.ifCond .eq 7, 3) := by decide +kernel
theorem dX11_readsDeeds_56 : decode cX11_readsDeeds 56 = .ok (.iconst 1, 1) := by decide +kernel
theorem dX11_readsDeeds_57 : decode cX11_readsDeeds 57 = .ok (.goto 4, 3) := by decide +kernel
theorem dX11_readsDeeds_60 : decode cX11_readsDeeds 60 = .ok (.iconst 0, 1) := by decide +kernel
theorem dX11_readsDeeds_61 : decode cX11_readsDeeds 61 = .ok (.istore_n 2, 1) := by decide +kernel
theorem dX11_readsDeeds_62 : decode cX11_readsDeeds 62 = .ok (.goto (-37), 3) := by decide +kernel
theorem dX11_readsDeeds_65 : decode cX11_readsDeeds 65 = .ok (.iload_n 2, 1) := by decide +kernel
theorem dX11_readsDeeds_66 : decode cX11_readsDeeds 66 = .ok (.ireturn, 1) := by decide +kernel
theorem dX11_does_0 : decode cX11_does 0 = .ok (.aload_n 0, 1) := by decide +kernel
theorem dX11_does_1 : decode cX11_does 1 = .ok (.getfield 23, 3) := by decide +kernel
theorem dX11_does_4 : decode cX11_does 4 = .ok (.iload_n 1, 1) := by decide +kernel
theorem dX11_does_5 : decode cX11_does 5 = .ok (.laload, 1) := by decide +kernel
theorem dX11_does_6 : decode cX11_does 6 = .ok (.lstore_n 2, 1) := by decide +kernel
theorem dX11_does_7 : decode cX11_does 7 = .ok (.aload_n 0, 1) := by decide +kernel
theorem dX11_does_8 : decode cX11_does 8 = .ok (.getfield 27, 3) := by decide +kernel
theorem dX11_does_11 : decode cX11_does 11 = .ok (.iload_n 1, 1) := by decide +kernel
theorem dX11_does_12 : decode cX11_does 12 = .ok (.iaload, 1) := by decide +kernel
theorem dX11_does_13 : decode cX11_does 13 = .ok (.istore 4, 2) := by decide +kernel
theorem dX11_does_15 : decode cX11_does 15 = .ok (.lload_n 2, 1) := by decide +kernel
theorem dX11_does_16 : decode cX11_does 16 = .ok (.ldc2_w 281, 3) := by decide +kernel
theorem dX11_does_19 : decode cX11_does 19 = .ok (.lcmp, 1) := by decide +kernel
theorem dX11_does_20 : decode cX11_does 20 = .ok (.ifCond .ne 30, 3) := by decide +kernel
theorem dX11_does_23 : decode cX11_does 23 = .ok (.aload_n 0, 1) := by decide +kernel
theorem dX11_does_24 : decode cX11_does 24 = .ok (.iload 4, 2) := by decide +kernel
theorem dX11_does_26 : decode cX11_does 26 = .ok (.aload_n 0, 1) := by decide +kernel
theorem dX11_does_27 : decode cX11_does 27 = .ok (.getfield 30, 3) := by decide +kernel
theorem dX11_does_30 : decode cX11_does 30 = .ok (.iload_n 1, 1) := by decide +kernel
theorem dX11_does_31 : decode cX11_does 31 = .ok (.iaload, 1) := by decide +kernel
theorem dX11_does_32 : decode cX11_does 32 = .ok (.aload_n 0, 1) := by decide +kernel
theorem dX11_does_33 : decode cX11_does 33 = .ok (.getfield 33, 3) := by decide +kernel
theorem dX11_does_36 : decode cX11_does 36 = .ok (.iload_n 1, 1) := by decide +kernel
theorem dX11_does_37 : decode cX11_does 37 = .ok (.iaload, 1) := by decide +kernel
theorem dX11_does_38 : decode cX11_does 38 = .ok (.invokevirtual 312, 3) := by decide +kernel
theorem dX11_does_41 : decode cX11_does 41 = .ok (.ifCond .lt 7, 3) := by decide +kernel
theorem dX11_does_44 : decode cX11_does 44 = .ok (.iconst 1, 1) := by decide +kernel
theorem dX11_does_45 : decode cX11_does 45 = .ok (.goto 4, 3) := by decide +kernel
theorem dX11_does_48 : decode cX11_does 48 = .ok (.iconst 0, 1) := by decide +kernel
theorem dX11_does_49 : decode cX11_does 49 = .ok (.ireturn, 1) := by decide +kernel
theorem dX11_does_50 : decode cX11_does 50 = .ok (.lload_n 2, 1) := by decide +kernel
theorem dX11_does_51 : decode cX11_does 51 = .ok (.ldc2_w 283, 3) := by decide +kernel
theorem dX11_does_54 : decode cX11_does 54 = .ok (.lcmp, 1) := by decide +kernel
theorem dX11_does_55 : decode cX11_does 55 = .ok (.ifCond .ne 26, 3) := by decide +kernel
theorem dX11_does_58 : decode cX11_does 58 = .ok (.aload_n 0, 1) := by decide +kernel
theorem dX11_does_59 : decode cX11_does 59 = .ok (.iload 4, 2) := by decide +kernel
theorem dX11_does_61 : decode cX11_does 61 = .ok (.aload_n 0, 1) := by decide +kernel
theorem dX11_does_62 : decode cX11_does 62 = .ok (.getfield 30, 3) := by decide +kernel
theorem dX11_does_65 : decode cX11_does 65 = .ok (.iload_n 1, 1) := by decide +kernel
theorem dX11_does_66 : decode cX11_does 66 = .ok (.iaload, 1) := by decide +kernel
theorem dX11_does_67 : decode cX11_does 67 = .ok (.invokevirtual 315, 3) := by decide +kernel
theorem dX11_does_70 : decode cX11_does 70 = .ok (.ldc 247, 2) := by decide +kernel
theorem dX11_does_72 : decode cX11_does 72 = .ok (.if_icmp .le 7, 3) := by decide +kernel
theorem dX11_does_75 : decode cX11_does 75 = .ok (.iconst 1, 1) := by decide +kernel
theorem dX11_does_76 : decode cX11_does 76 = .ok (.goto 4, 3) := by decide +kernel
theorem dX11_does_79 : decode cX11_does 79 = .ok (.iconst 0, 1) := by decide +kernel
theorem dX11_does_80 : decode cX11_does 80 = .ok (.ireturn, 1) := by decide +kernel
theorem dX11_does_81 : decode cX11_does 81 = .ok (.lload_n 2, 1) := by decide +kernel
theorem dX11_does_82 : decode cX11_does 82 = .ok (.ldc2_w 299, 3) := by decide +kernel
theorem dX11_does_85 : decode cX11_does 85 = .ok (.lcmp, 1) := by decide +kernel
theorem dX11_does_86 : decode cX11_does 86 = .ok (.ifCond .ne 26, 3) := by decide +kernel
theorem dX11_does_89 : decode cX11_does 89 = .ok (.aload_n 0, 1) := by decide +kernel
theorem dX11_does_90 : decode cX11_does 90 = .ok (.iload 4, 2) := by decide +kernel
theorem dX11_does_92 : decode cX11_does 92 = .ok (.aload_n 0, 1) := by decide +kernel
theorem dX11_does_93 : decode cX11_does 93 = .ok (.getfield 33, 3) := by decide +kernel
theorem dX11_does_96 : decode cX11_does 96 = .ok (.iload_n 1, 1) := by decide +kernel
theorem dX11_does_97 : decode cX11_does 97 = .ok (.iaload, 1) := by decide +kernel
theorem dX11_does_98 : decode cX11_does 98 = .ok (.invokevirtual 318, 3) := by decide +kernel
theorem dX11_does_101 : decode cX11_does 101 = .ok (.ldc 247, 2) := by decide +kernel
theorem dX11_does_103 : decode cX11_does 103 = .ok (.if_icmp .le 7, 3) := by decide +kernel
theorem dX11_does_106 : decode cX11_does 106 = .ok (.iconst 1, 1) := by decide +kernel
theorem dX11_does_107 : decode cX11_does 107 = .ok (.goto 4, 3) := by decide +kernel
theorem dX11_does_110 : decode cX11_does 110 = .ok (.iconst 0, 1) := by decide +kernel
theorem dX11_does_111 : decode cX11_does 111 = .ok (.ireturn, 1) := by decide +kernel
theorem dX11_does_112 : decode cX11_does 112 = .ok (.lload_n 2, 1) := by decide +kernel
theorem dX11_does_113 : decode cX11_does 113 = .ok (.ldc2_w 301, 3) := by decide +kernel
theorem dX11_does_116 : decode cX11_does 116 = .ok (.lcmp, 1) := by decide +kernel
theorem dX11_does_117 : decode cX11_does 117 = .ok (.ifCond .ne 24, 3) := by decide +kernel
theorem dX11_does_120 : decode cX11_does 120 = .ok (.aload_n 0, 1) := by decide +kernel
theorem dX11_does_121 : decode cX11_does 121 = .ok (.iload 4, 2) := by decide +kernel
theorem dX11_does_123 : decode cX11_does 123 = .ok (.aload_n 0, 1) := by decide +kernel
theorem dX11_does_124 : decode cX11_does 124 = .ok (.getfield 33, 3) := by decide +kernel
theorem dX11_does_127 : decode cX11_does 127 = .ok (.iload_n 1, 1) := by decide +kernel
theorem dX11_does_128 : decode cX11_does 128 = .ok (.iaload, 1) := by decide +kernel
theorem dX11_does_129 : decode cX11_does 129 = .ok (.invokevirtual 321, 3) := by decide +kernel
theorem dX11_does_132 : decode cX11_does 132 = .ok (.ifCond .lt 7, 3) := by decide +kernel
theorem dX11_does_135 : decode cX11_does 135 = .ok (.iconst 1, 1) := by decide +kernel
theorem dX11_does_136 : decode cX11_does 136 = .ok (.goto 4, 3) := by decide +kernel
theorem dX11_does_139 : decode cX11_does 139 = .ok (.iconst 0, 1) := by decide +kernel
theorem dX11_does_140 : decode cX11_does 140 = .ok (.ireturn, 1) := by decide +kernel
theorem dX11_does_141 : decode cX11_does 141 = .ok (.lload_n 2, 1) := by decide +kernel
theorem dX11_does_142 : decode cX11_does 142 = .ok (.ldc2_w 291, 3) := by decide +kernel
theorem dX11_does_145 : decode cX11_does 145 = .ok (.lcmp, 1) := by decide +kernel
theorem dX11_does_146 : decode cX11_does 146 = .ok (.ifCond .ne 18, 3) := by decide +kernel
theorem dX11_does_149 : decode cX11_does 149 = .ok (.aload_n 0, 1) := by decide +kernel
theorem dX11_does_150 : decode cX11_does 150 = .ok (.iload 4, 2) := by decide +kernel
theorem dX11_does_152 : decode cX11_does 152 = .ok (.invokevirtual 324, 3) := by decide +kernel
theorem dX11_does_155 : decode cX11_does 155 = .ok (.ifCond .lt 7, 3) := by decide +kernel
theorem dX11_does_158 : decode cX11_does 158 = .ok (.iconst 1, 1) := by decide +kernel
theorem dX11_does_159 : decode cX11_does 159 = .ok (.goto 4, 3) := by decide +kernel
theorem dX11_does_162 : decode cX11_does 162 = .ok (.iconst 0, 1) := by decide +kernel
theorem dX11_does_163 : decode cX11_does 163 = .ok (.ireturn, 1) := by decide +kernel
theorem dX11_does_164 : decode cX11_does 164 = .ok (.lload_n 2, 1) := by decide +kernel
theorem dX11_does_165 : decode cX11_does 165 = .ok (.ldc2_w 285, 3) := by decide +kernel
theorem dX11_does_168 : decode cX11_does 168 = .ok (.lcmp, 1) := by decide +kernel
theorem dX11_does_169 : decode cX11_does 169 = .ok (.ifCond .eq 11, 3) := by decide +kernel
theorem dX11_does_172 : decode cX11_does 172 = .ok (.lload_n 2, 1) := by decide +kernel
theorem dX11_does_173 : decode cX11_does 173 = .ok (.ldc2_w 287, 3) := by decide +kernel
theorem dX11_does_176 : decode cX11_does 176 = .ok (.lcmp, 1) := by decide +kernel
theorem dX11_does_177 : decode cX11_does 177 = .ok (.ifCond .ne 33, 3) := by decide +kernel
theorem dX11_does_180 : decode cX11_does 180 = .ok (.aload_n 0, 1) := by decide +kernel
theorem dX11_does_181 : decode cX11_does 181 = .ok (.iload 4, 2) := by decide +kernel
theorem dX11_does_183 : decode cX11_does 183 = .ok (.lload_n 2, 1) := by decide +kernel
theorem dX11_does_184 : decode cX11_does 184 = .ok (.ldc2_w 285, 3) := by decide +kernel
theorem dX11_does_187 : decode cX11_does 187 = .ok (.lcmp, 1) := by decide +kernel
theorem dX11_does_188 : decode cX11_does 188 = .ok (.ifCond .ne 7, 3) := by decide +kernel
theorem dX11_does_191 : decode cX11_does 191 = .ok (.iconst 1, 1) := by decide +kernel
theorem dX11_does_192 : decode cX11_does 192 = .ok (.goto 4, 3) := by decide +kernel
theorem dX11_does_195 : decode cX11_does 195 = .ok (.iconst 0, 1) := by decide +kernel
theorem dX11_does_196 : decode cX11_does 196 = .ok (.invokevirtual 327, 3) := by decide +kernel
theorem dX11_does_199 : decode cX11_does 199 = .ok (.ldc 247, 2) := by decide +kernel
theorem dX11_does_201 : decode cX11_does 201 = .ok (.if_icmp .le 7, 3) := by decide +kernel
theorem dX11_does_204 : decode cX11_does 204 = .ok (.iconst 1, 1) := by decide +kernel
theorem dX11_does_205 : decode cX11_does 205 = .ok (.goto 4, 3) := by decide +kernel
theorem dX11_does_208 : decode cX11_does 208 = .ok (.iconst 0, 1) := by decide +kernel
theorem dX11_does_209 : decode cX11_does 209 = .ok (.ireturn, 1) := by decide +kernel
theorem dX11_does_210 : decode cX11_does 210 = .ok (.lload_n 2, 1) := by decide +kernel
theorem dX11_does_211 : decode cX11_does 211 = .ok (.ldc2_w 289, 3) := by decide +kernel
theorem dX11_does_214 : decode cX11_does 214 = .ok (.lcmp, 1) := by decide +kernel
theorem dX11_does_215 : decode cX11_does 215 = .ok (.ifCond .ne 20, 3) := by decide +kernel
theorem dX11_does_218 : decode cX11_does 218 = .ok (.aload_n 0, 1) := by decide +kernel
theorem dX11_does_219 : decode cX11_does 219 = .ok (.iload 4, 2) := by decide +kernel
theorem dX11_does_221 : decode cX11_does 221 = .ok (.invokevirtual 331, 3) := by decide +kernel
theorem dX11_does_224 : decode cX11_does 224 = .ok (.ldc 247, 2) := by decide +kernel
theorem dX11_does_226 : decode cX11_does 226 = .ok (.if_icmp .le 7, 3) := by decide +kernel
theorem dX11_does_229 : decode cX11_does 229 = .ok (.iconst 1, 1) := by decide +kernel
theorem dX11_does_230 : decode cX11_does 230 = .ok (.goto 4, 3) := by decide +kernel
theorem dX11_does_233 : decode cX11_does 233 = .ok (.iconst 0, 1) := by decide +kernel
theorem dX11_does_234 : decode cX11_does 234 = .ok (.ireturn, 1) := by decide +kernel
theorem dX11_does_235 : decode cX11_does 235 = .ok (.lload_n 2, 1) := by decide +kernel
theorem dX11_does_236 : decode cX11_does 236 = .ok (.ldc2_w 293, 3) := by decide +kernel
theorem dX11_does_239 : decode cX11_does 239 = .ok (.lcmp, 1) := by decide +kernel
theorem dX11_does_240 : decode cX11_does 240 = .ok (.ifCond .ne 24, 3) := by decide +kernel
theorem dX11_does_243 : decode cX11_does 243 = .ok (.aload_n 0, 1) := by decide +kernel
theorem dX11_does_244 : decode cX11_does 244 = .ok (.iload 4, 2) := by decide +kernel
theorem dX11_does_246 : decode cX11_does 246 = .ok (.aload_n 0, 1) := by decide +kernel
theorem dX11_does_247 : decode cX11_does 247 = .ok (.getfield 33, 3) := by decide +kernel
theorem dX11_does_250 : decode cX11_does 250 = .ok (.iload_n 1, 1) := by decide +kernel
theorem dX11_does_251 : decode cX11_does 251 = .ok (.iaload, 1) := by decide +kernel
theorem dX11_does_252 : decode cX11_does 252 = .ok (.invokevirtual 334, 3) := by decide +kernel
theorem dX11_does_255 : decode cX11_does 255 = .ok (.ifCond .lt 7, 3) := by decide +kernel
theorem dX11_does_258 : decode cX11_does 258 = .ok (.iconst 1, 1) := by decide +kernel
theorem dX11_does_259 : decode cX11_does 259 = .ok (.goto 4, 3) := by decide +kernel
theorem dX11_does_262 : decode cX11_does 262 = .ok (.iconst 0, 1) := by decide +kernel
theorem dX11_does_263 : decode cX11_does 263 = .ok (.ireturn, 1) := by decide +kernel
theorem dX11_does_264 : decode cX11_does 264 = .ok (.lload_n 2, 1) := by decide +kernel
theorem dX11_does_265 : decode cX11_does 265 = .ok (.ldc2_w 271, 3) := by decide +kernel
theorem dX11_does_268 : decode cX11_does 268 = .ok (.lcmp, 1) := by decide +kernel
theorem dX11_does_269 : decode cX11_does 269 = .ok (.ifCond .ne 18, 3) := by decide +kernel
theorem dX11_does_272 : decode cX11_does 272 = .ok (.aload_n 0, 1) := by decide +kernel
theorem dX11_does_273 : decode cX11_does 273 = .ok (.iload 4, 2) := by decide +kernel
theorem dX11_does_275 : decode cX11_does 275 = .ok (.invokevirtual 337, 3) := by decide +kernel
theorem dX11_does_278 : decode cX11_does 278 = .ok (.ifCond .lt 7, 3) := by decide +kernel
theorem dX11_does_281 : decode cX11_does 281 = .ok (.iconst 1, 1) := by decide +kernel
theorem dX11_does_282 : decode cX11_does 282 = .ok (.goto 4, 3) := by decide +kernel
theorem dX11_does_285 : decode cX11_does 285 = .ok (.iconst 0, 1) := by decide +kernel
theorem dX11_does_286 : decode cX11_does 286 = .ok (.ireturn, 1) := by decide +kernel
theorem dX11_does_287 : decode cX11_does 287 = .ok (.lload_n 2, 1) := by decide +kernel
theorem dX11_does_288 : decode cX11_does 288 = .ok (.ldc2_w 295, 3) := by decide +kernel
theorem dX11_does_291 : decode cX11_does 291 = .ok (.lcmp, 1) := by decide +kernel
theorem dX11_does_292 : decode cX11_does 292 = .ok (.ifCond .ne 26, 3) := by decide +kernel
theorem dX11_does_295 : decode cX11_does 295 = .ok (.aload_n 0, 1) := by decide +kernel
theorem dX11_does_296 : decode cX11_does 296 = .ok (.iload 4, 2) := by decide +kernel
theorem dX11_does_298 : decode cX11_does 298 = .ok (.aload_n 0, 1) := by decide +kernel
theorem dX11_does_299 : decode cX11_does 299 = .ok (.getfield 33, 3) := by decide +kernel
theorem dX11_does_302 : decode cX11_does 302 = .ok (.iload_n 1, 1) := by decide +kernel
theorem dX11_does_303 : decode cX11_does 303 = .ok (.iaload, 1) := by decide +kernel
theorem dX11_does_304 : decode cX11_does 304 = .ok (.invokevirtual 340, 3) := by decide +kernel
theorem dX11_does_307 : decode cX11_does 307 = .ok (.ldc 247, 2) := by decide +kernel
theorem dX11_does_309 : decode cX11_does 309 = .ok (.if_icmp .le 7, 3) := by decide +kernel
theorem dX11_does_312 : decode cX11_does 312 = .ok (.iconst 1, 1) := by decide +kernel
theorem dX11_does_313 : decode cX11_does 313 = .ok (.goto 4, 3) := by decide +kernel
theorem dX11_does_316 : decode cX11_does 316 = .ok (.iconst 0, 1) := by decide +kernel
theorem dX11_does_317 : decode cX11_does 317 = .ok (.ireturn, 1) := by decide +kernel
theorem dX11_does_318 : decode cX11_does 318 = .ok (.lload_n 2, 1) := by decide +kernel
theorem dX11_does_319 : decode cX11_does 319 = .ok (.ldc2_w 297, 3) := by decide +kernel
theorem dX11_does_322 : decode cX11_does 322 = .ok (.lcmp, 1) := by decide +kernel
theorem dX11_does_323 : decode cX11_does 323 = .ok (.ifCond .ne 28, 3) := by decide +kernel
theorem dX11_does_326 : decode cX11_does 326 = .ok (.aload_n 0, 1) := by decide +kernel
theorem dX11_does_327 : decode cX11_does 327 = .ok (.iload 4, 2) := by decide +kernel
theorem dX11_does_329 : decode cX11_does 329 = .ok (.aload_n 0, 1) := by decide +kernel
theorem dX11_does_330 : decode cX11_does 330 = .ok (.getfield 33, 3) := by decide +kernel
theorem dX11_does_333 : decode cX11_does 333 = .ok (.iload_n 1, 1) := by decide +kernel
theorem dX11_does_334 : decode cX11_does 334 = .ok (.iaload, 1) := by decide +kernel
theorem dX11_does_335 : decode cX11_does 335 = .ok (.invokevirtual 343, 3) := by decide +kernel
theorem dX11_does_338 : decode cX11_does 338 = .ok (.ldc 247, 2) := by decide +kernel
theorem dX11_does_340 : decode cX11_does 340 = .ok (.if_icmp .le 7, 3) := by decide +kernel
theorem dX11_does_343 : decode cX11_does 343 = .ok (.iconst 1, 1) := by decide +kernel
theorem dX11_does_344 : decode cX11_does 344 = .ok (.goto 21, 3) := by decide +kernel
theorem dX11_does_347 : decode cX11_does 347 = .ok (.iconst 0, 1) := by decide +kernel
theorem dX11_does_348 : decode cX11_does 348 = .ok (.goto 17, 3) := by decide +kernel
theorem dX11_does_351 : decode cX11_does 351 = .ok (.aload_n 0, 1) := by decide +kernel
theorem dX11_does_352 : decode cX11_does 352 = .ok (.iload 4, 2) := by decide +kernel
theorem dX11_does_354 : decode cX11_does 354 = .ok (.invokevirtual 346, 3) := by decide +kernel
theorem dX11_does_357 : decode cX11_does 357 = .ok (.ifCond .lt 7, 3) := by decide +kernel
theorem dX11_does_360 : decode cX11_does 360 = .ok (.iconst 1, 1) := by decide +kernel
theorem dX11_does_361 : decode cX11_does 361 = .ok (.goto 4, 3) := by decide +kernel
theorem dX11_does_364 : decode cX11_does 364 = .ok (.iconst 0, 1) := by decide +kernel
theorem dX11_does_365 : decode cX11_does 365 = .ok (.ireturn, 1) := by decide +kernel
theorem dX11_doesAll_0 : decode cX11_doesAll 0 = .ok (.iconst 0, 1) := by decide +kernel
theorem dX11_doesAll_1 : decode cX11_doesAll 1 = .ok (.istore_n 1, 1) := by decide +kernel
theorem dX11_doesAll_2 : decode cX11_doesAll 2 = .ok (.iload_n 1, 1) := by decide +kernel
theorem dX11_doesAll_3 : decode cX11_doesAll 3 = .ok (.aload_n 0, 1) := by decide +kernel
theorem dX11_doesAll_4 : decode cX11_doesAll 4 = .ok (.getfield 275, 3) := by decide +kernel
theorem dX11_doesAll_7 : decode cX11_doesAll 7 = .ok (.if_icmp .ge 18, 3) := by decide +kernel
theorem dX11_doesAll_10 : decode cX11_doesAll 10 = .ok (.aload_n 0, 1) := by decide +kernel
theorem dX11_doesAll_11 : decode cX11_doesAll 11 = .ok (.iload_n 1, 1) := by decide +kernel
theorem dX11_doesAll_12 : decode cX11_doesAll 12 = .ok (.invokevirtual 349, 3) := by decide +kernel
theorem dX11_doesAll_15 : decode cX11_doesAll 15 = .ok (.ifCond .eq 10, 3) := by decide +kernel
theorem dX11_doesAll_18 : decode cX11_doesAll 18 = .ok (.iload_n 1, 1) := by decide +kernel
theorem dX11_doesAll_19 : decode cX11_doesAll 19 = .ok (.iconst 1, 1) := by decide +kernel
theorem dX11_doesAll_20 : decode cX11_doesAll 20 = .ok (.iadd, 1) := by decide +kernel
theorem dX11_doesAll_21 : decode cX11_doesAll 21 = .ok (.istore_n 1, 1) := by decide +kernel
theorem dX11_doesAll_22 : decode cX11_doesAll 22 = .ok (.goto (-20), 3) := by decide +kernel
theorem dX11_doesAll_25 : decode cX11_doesAll 25 = .ok (.iload_n 1, 1) := by decide +kernel
theorem dX11_doesAll_26 : decode cX11_doesAll 26 = .ok (.ireturn, 1) := by decide +kernel
theorem dX11_isLong_0 : decode cX11_isLong 0 = .ok (.iload_n 1, 1) := by decide +kernel
theorem dX11_isLong_1 : decode cX11_isLong 1 = .ok (.iconst 1, 1) := by decide +kernel
theorem dX11_isLong_2 : decode cX11_isLong 2 = .ok (.sipush 200, 3) := by decide +kernel
theorem dX11_isLong_5 : decode cX11_isLong 5 = .ok (.invokestatic 56, 3) := by decide +kernel
theorem dX11_isLong_8 : decode cX11_isLong 8 = .ok (.ifCond .eq 15, 3) := by decide +kernel
theorem dX11_isLong_11 : decode cX11_isLong 11 = .ok (.iload_n 1, 1) := by decide +kernel
theorem dX11_isLong_12 : decode cX11_isLong 12 = .ok (.aload_n 0, 1) := by decide +kernel
theorem dX11_isLong_13 : decode cX11_isLong 13 = .ok (.getfield 84, 3) := by decide +kernel
theorem dX11_isLong_16 : decode cX11_isLong 16 = .ok (.if_icmp .gt 7, 3) := by decide +kernel
theorem dX11_isLong_19 : decode cX11_isLong 19 = .ok (.iconst 1, 1) := by decide +kernel
theorem dX11_isLong_20 : decode cX11_isLong 20 = .ok (.goto 4, 3) := by decide +kernel
theorem dX11_isLong_23 : decode cX11_isLong 23 = .ok (.iconst 0, 1) := by decide +kernel
theorem dX11_isLong_24 : decode cX11_isLong 24 = .ok (.ireturn, 1) := by decide +kernel
theorem dX11_deeds_0 : decode cX11_deeds 0 = .ok (.aload_n 0, 1) := by decide +kernel
theorem dX11_deeds_1 : decode cX11_deeds 1 = .ok (.iload_n 1, 1) := by decide +kernel
theorem dX11_deeds_2 : decode cX11_deeds 2 = .ok (.invokevirtual 352, 3) := by decide +kernel
theorem dX11_deeds_5 : decode cX11_deeds 5 = .ok (.ifCond .ne 5, 3) := by decide +kernel
theorem dX11_deeds_8 : decode cX11_deeds 8 = .ok (.iconst (-1), 1) := by decide +kernel
theorem dX11_deeds_9 : decode cX11_deeds 9 = .ok (.ireturn, 1) := by decide +kernel
theorem dX11_deeds_10 : decode cX11_deeds 10 = .ok (.aload_n 0, 1) := by decide +kernel
theorem dX11_deeds_11 : decode cX11_deeds 11 = .ok (.iload_n 1, 1) := by decide +kernel
theorem dX11_deeds_12 : decode cX11_deeds 12 = .ok (.invokevirtual 355, 3) := by decide +kernel
theorem dX11_deeds_15 : decode cX11_deeds 15 = .ok (.ifCond .eq 10, 3) := by decide +kernel
theorem dX11_deeds_18 : decode cX11_deeds 18 = .ok (.aload_n 0, 1) := by decide +kernel
theorem dX11_deeds_19 : decode cX11_deeds 19 = .ok (.invokevirtual 358, 3) := by decide +kernel
theorem dX11_deeds_22 : decode cX11_deeds 22 = .ok (.goto 7, 3) := by decide +kernel
theorem dX11_deeds_25 : decode cX11_deeds 25 = .ok (.aload_n 0, 1) := by decide +kernel
theorem dX11_deeds_26 : decode cX11_deeds 26 = .ok (.getfield 98, 3) := by decide +kernel
theorem dX11_deeds_29 : decode cX11_deeds 29 = .ok (.ireturn, 1) := by decide +kernel
theorem dX11_tried_0 : decode cX11_tried 0 = .ok (.aload_n 0, 1) := by decide +kernel
theorem dX11_tried_1 : decode cX11_tried 1 = .ok (.iload_n 1, 1) := by decide +kernel
theorem dX11_tried_2 : decode cX11_tried 2 = .ok (.invokevirtual 352, 3) := by decide +kernel
theorem dX11_tried_5 : decode cX11_tried 5 = .ok (.ifCond .eq 10, 3) := by decide +kernel
theorem dX11_tried_8 : decode cX11_tried 8 = .ok (.iload_n 2, 1) := by decide +kernel
theorem dX11_tried_9 : decode cX11_tried 9 = .ok (.invokestatic 210, 3) := by decide +kernel
theorem dX11_tried_12 : decode cX11_tried 12 = .ok (.ifCond .ne 5, 3) := by decide +kernel
theorem dX11_tried_15 : decode cX11_tried 15 = .ok (.iconst (-1), 1) := by decide +kernel
theorem dX11_tried_16 : decode cX11_tried 16 = .ok (.ireturn, 1) := by decide +kernel
theorem dX11_tried_17 : decode cX11_tried 17 = .ok (.aload_n 0, 1) := by decide +kernel
theorem dX11_tried_18 : decode cX11_tried 18 = .ok (.iload_n 1, 1) := by decide +kernel
theorem dX11_tried_19 : decode cX11_tried 19 = .ok (.invokevirtual 355, 3) := by decide +kernel
theorem dX11_tried_22 : decode cX11_tried 22 = .ok (.ifCond .ne 8, 3) := by decide +kernel
theorem dX11_tried_25 : decode cX11_tried 25 = .ok (.aload_n 0, 1) := by decide +kernel
theorem dX11_tried_26 : decode cX11_tried 26 = .ok (.getfield 98, 3) := by decide +kernel
theorem dX11_tried_29 : decode cX11_tried 29 = .ok (.ireturn, 1) := by decide +kernel
theorem dX11_tried_30 : decode cX11_tried 30 = .ok (.aload_n 0, 1) := by decide +kernel
theorem dX11_tried_31 : decode cX11_tried 31 = .ok (.iconst 0, 1) := by decide +kernel
theorem dX11_tried_32 : decode cX11_tried 32 = .ok (.iconst 2, 1) := by decide +kernel
theorem dX11_tried_33 : decode cX11_tried 33 = .ok (.invokevirtual 361, 3) := by decide +kernel
theorem dX11_tried_36 : decode cX11_tried 36 = .ok (.aload_n 0, 1) := by decide +kernel
theorem dX11_tried_37 : decode cX11_tried 37 = .ok (.invokevirtual 358, 3) := by decide +kernel
theorem dX11_tried_40 : decode cX11_tried 40 = .ok (.pop, 1) := by decide +kernel
theorem dX11_tried_41 : decode cX11_tried 41 = .ok (.aload_n 0, 1) := by decide +kernel
theorem dX11_tried_42 : decode cX11_tried 42 = .ok (.iload_n 2, 1) := by decide +kernel
theorem dX11_tried_43 : decode cX11_tried 43 = .ok (.invokevirtual 216, 3) := by decide +kernel
theorem dX11_tried_46 : decode cX11_tried 46 = .ok (.ifCond .eq 11, 3) := by decide +kernel
theorem dX11_tried_49 : decode cX11_tried 49 = .ok (.aload_n 0, 1) := by decide +kernel
theorem dX11_tried_50 : decode cX11_tried 50 = .ok (.iload_n 2, 1) := by decide +kernel
theorem dX11_tried_51 : decode cX11_tried 51 = .ok (.invokevirtual 265, 3) := by decide +kernel
theorem dX11_tried_54 : decode cX11_tried 54 = .ok (.goto 5, 3) := by decide +kernel
theorem dX11_tried_57 : decode cX11_tried 57 = .ok (.ldc 247, 2) := by decide +kernel
theorem dX11_tried_59 : decode cX11_tried 59 = .ok (.istore_n 3, 1) := by decide +kernel
theorem dX11_tried_60 : decode cX11_tried 60 = .ok (.aload_n 0, 1) := by decide +kernel
theorem dX11_tried_61 : decode cX11_tried 61 = .ok (.iconst 2, 1) := by decide +kernel
theorem dX11_tried_62 : decode cX11_tried 62 = .ok (.iconst 0, 1) := by decide +kernel
theorem dX11_tried_63 : decode cX11_tried 63 = .ok (.invokevirtual 361, 3) := by decide +kernel
theorem dX11_tried_66 : decode cX11_tried 66 = .ok (.iload_n 3, 1) := by decide +kernel
theorem dX11_tried_67 : decode cX11_tried 67 = .ok (.ireturn, 1) := by decide +kernel
theorem dX11_bitsOf_0 : decode cX11_bitsOf 0 = .ok (.iconst 0, 1) := by decide +kernel
theorem dX11_bitsOf_1 : decode cX11_bitsOf 1 = .ok (.istore_n 2, 1) := by decide +kernel
theorem dX11_bitsOf_2 : decode cX11_bitsOf 2 = .ok (.iconst 0, 1) := by decide +kernel
theorem dX11_bitsOf_3 : decode cX11_bitsOf 3 = .ok (.istore_n 3, 1) := by decide +kernel
theorem dX11_bitsOf_4 : decode cX11_bitsOf 4 = .ok (.iload_n 3, 1) := by decide +kernel
theorem dX11_bitsOf_5 : decode cX11_bitsOf 5 = .ok (.bipush 6, 2) := by decide +kernel
theorem dX11_bitsOf_7 : decode cX11_bitsOf 7 = .ok (.if_icmp .ge 35, 3) := by decide +kernel
theorem dX11_bitsOf_10 : decode cX11_bitsOf 10 = .ok (.aload_n 0, 1) := by decide +kernel
theorem dX11_bitsOf_11 : decode cX11_bitsOf 11 = .ok (.iload_n 3, 1) := by decide +kernel
theorem dX11_bitsOf_12 : decode cX11_bitsOf 12 = .ok (.iconst 0, 1) := by decide +kernel
theorem dX11_bitsOf_13 : decode cX11_bitsOf 13 = .ok (.invokevirtual 213, 3) := by decide +kernel
theorem dX11_bitsOf_16 : decode cX11_bitsOf 16 = .ok (.iconst 1, 1) := by decide +kernel
theorem dX11_bitsOf_17 : decode cX11_bitsOf 17 = .ok (.if_icmp .ne 19, 3) := by decide +kernel
theorem dX11_bitsOf_20 : decode cX11_bitsOf 20 = .ok (.aload_n 0, 1) := by decide +kernel
theorem dX11_bitsOf_21 : decode cX11_bitsOf 21 = .ok (.iload_n 3, 1) := by decide +kernel
theorem dX11_bitsOf_22 : decode cX11_bitsOf 22 = .ok (.iload_n 1, 1) := by decide +kernel
theorem dX11_bitsOf_23 : decode cX11_bitsOf 23 = .ok (.invokevirtual 213, 3) := by decide +kernel
theorem dX11_bitsOf_26 : decode cX11_bitsOf 26 = .ok (.iconst 1, 1) := by decide +kernel
theorem dX11_bitsOf_27 : decode cX11_bitsOf 27 = .ok (.if_icmp .ne 9, 3) := by decide +kernel
theorem dX11_bitsOf_30 : decode cX11_bitsOf 30 = .ok (.iload_n 2, 1) := by decide +kernel
theorem dX11_bitsOf_31 : decode cX11_bitsOf 31 = .ok (.iconst 1, 1) := by decide +kernel
theorem dX11_bitsOf_32 : decode cX11_bitsOf 32 = .ok (.iload_n 3, 1) := by decide +kernel
theorem dX11_bitsOf_33 : decode cX11_bitsOf 33 = .ok (.ishl, 1) := by decide +kernel
theorem dX11_bitsOf_34 : decode cX11_bitsOf 34 = .ok (.ior, 1) := by decide +kernel
theorem dX11_bitsOf_35 : decode cX11_bitsOf 35 = .ok (.istore_n 2, 1) := by decide +kernel
theorem dX11_bitsOf_36 : decode cX11_bitsOf 36 = .ok (.iinc 3 1, 3) := by decide +kernel
theorem dX11_bitsOf_39 : decode cX11_bitsOf 39 = .ok (.goto (-35), 3) := by decide +kernel
theorem dX11_bitsOf_42 : decode cX11_bitsOf 42 = .ok (.iload_n 2, 1) := by decide +kernel
theorem dX11_bitsOf_43 : decode cX11_bitsOf 43 = .ok (.ireturn, 1) := by decide +kernel
theorem dX11_billIs_0 : decode cX11_billIs 0 = .ok (.iload_n 1, 1) := by decide +kernel
theorem dX11_billIs_1 : decode cX11_billIs 1 = .ok (.bipush 10, 2) := by decide +kernel
theorem dX11_billIs_3 : decode cX11_billIs 3 = .ok (.bipush 13, 2) := by decide +kernel
theorem dX11_billIs_5 : decode cX11_billIs 5 = .ok (.invokestatic 56, 3) := by decide +kernel
theorem dX11_billIs_8 : decode cX11_billIs 8 = .ok (.ifCond .ne 14, 3) := by decide +kernel
theorem dX11_billIs_11 : decode cX11_billIs 11 = .ok (.iload_n 1, 1) := by decide +kernel
theorem dX11_billIs_12 : decode cX11_billIs 12 = .ok (.bipush 20, 2) := by decide +kernel
theorem dX11_billIs_14 : decode cX11_billIs 14 = .ok (.bipush 23, 2) := by decide +kernel
theorem dX11_billIs_16 : decode cX11_billIs 16 = .ok (.invokestatic 56, 3) := by decide +kernel
theorem dX11_billIs_19 : decode cX11_billIs 19 = .ok (.ifCond .eq 46, 3) := by decide +kernel
theorem dX11_billIs_22 : decode cX11_billIs 22 = .ok (.iload_n 1, 1) := by decide +kernel
theorem dX11_billIs_23 : decode cX11_billIs 23 = .ok (.bipush 10, 2) := by decide +kernel
theorem dX11_billIs_25 : decode cX11_billIs 25 = .ok (.irem, 1) := by decide +kernel
theorem dX11_billIs_26 : decode cX11_billIs 26 = .ok (.aload_n 0, 1) := by decide +kernel
theorem dX11_billIs_27 : decode cX11_billIs 27 = .ok (.getfield 13, 3) := by decide +kernel
theorem dX11_billIs_30 : decode cX11_billIs 30 = .ok (.bipush 6, 2) := by decide +kernel
theorem dX11_billIs_32 : decode cX11_billIs 32 = .ok (.iaload, 1) := by decide +kernel
theorem dX11_billIs_33 : decode cX11_billIs 33 = .ok (.if_icmp .lt 8, 3) := by decide +kernel
theorem dX11_billIs_36 : decode cX11_billIs 36 = .ok (.bipush (-2), 2) := by decide +kernel
theorem dX11_billIs_38 : decode cX11_billIs 38 = .ok (.goto 26, 3) := by decide +kernel
theorem dX11_billIs_41 : decode cX11_billIs 41 = .ok (.aload_n 0, 1) := by decide +kernel
theorem dX11_billIs_42 : decode cX11_billIs 42 = .ok (.getfield 13, 3) := by decide +kernel
theorem dX11_billIs_45 : decode cX11_billIs 45 = .ok (.iload_n 1, 1) := by decide +kernel
theorem dX11_billIs_46 : decode cX11_billIs 46 = .ok (.bipush 20, 2) := by decide +kernel
theorem dX11_billIs_48 : decode cX11_billIs 48 = .ok (.if_icmp .ge 8, 3) := by decide +kernel
theorem dX11_billIs_51 : decode cX11_billIs 51 = .ok (.bipush 7, 2) := by decide +kernel
theorem dX11_billIs_53 : decode cX11_billIs 53 = .ok (.goto 5, 3) := by decide +kernel
theorem dX11_billIs_56 : decode cX11_billIs 56 = .ok (.bipush 11, 2) := by decide +kernel
theorem dX11_billIs_58 : decode cX11_billIs 58 = .ok (.iload_n 1, 1) := by decide +kernel
theorem dX11_billIs_59 : decode cX11_billIs 59 = .ok (.bipush 10, 2) := by decide +kernel
theorem dX11_billIs_61 : decode cX11_billIs 61 = .ok (.irem, 1) := by decide +kernel
theorem dX11_billIs_62 : decode cX11_billIs 62 = .ok (.iadd, 1) := by decide +kernel
theorem dX11_billIs_63 : decode cX11_billIs 63 = .ok (.iaload, 1) := by decide +kernel
theorem dX11_billIs_64 : decode cX11_billIs 64 = .ok (.ireturn, 1) := by decide +kernel
theorem dX11_billIs_65 : decode cX11_billIs 65 = .ok (.iload_n 1, 1) := by decide +kernel
theorem dX11_billIs_66 : decode cX11_billIs 66 = .ok (.tableswitch 101 0 7 #[46, 53, 60, 67, 74, 80, 87, 94], 46) := by decide +kernel
theorem dX11_billIs_112 : decode cX11_billIs 112 = .ok (.aload_n 0, 1) := by decide +kernel
theorem dX11_billIs_113 : decode cX11_billIs 113 = .ok (.getfield 13, 3) := by decide +kernel
theorem dX11_billIs_116 : decode cX11_billIs 116 = .ok (.iconst 2, 1) := by decide +kernel
theorem dX11_billIs_117 : decode cX11_billIs 117 = .ok (.iaload, 1) := by decide +kernel
theorem dX11_billIs_118 : decode cX11_billIs 118 = .ok (.ireturn, 1) := by decide +kernel
theorem dX11_billIs_119 : decode cX11_billIs 119 = .ok (.aload_n 0, 1) := by decide +kernel
theorem dX11_billIs_120 : decode cX11_billIs 120 = .ok (.getfield 13, 3) := by decide +kernel
theorem dX11_billIs_123 : decode cX11_billIs 123 = .ok (.iconst 3, 1) := by decide +kernel
theorem dX11_billIs_124 : decode cX11_billIs 124 = .ok (.iaload, 1) := by decide +kernel
theorem dX11_billIs_125 : decode cX11_billIs 125 = .ok (.ireturn, 1) := by decide +kernel
theorem dX11_billIs_126 : decode cX11_billIs 126 = .ok (.aload_n 0, 1) := by decide +kernel
theorem dX11_billIs_127 : decode cX11_billIs 127 = .ok (.getfield 13, 3) := by decide +kernel
theorem dX11_billIs_130 : decode cX11_billIs 130 = .ok (.iconst 0, 1) := by decide +kernel
theorem dX11_billIs_131 : decode cX11_billIs 131 = .ok (.iaload, 1) := by decide +kernel
theorem dX11_billIs_132 : decode cX11_billIs 132 = .ok (.ireturn, 1) := by decide +kernel
theorem dX11_billIs_133 : decode cX11_billIs 133 = .ok (.aload_n 0, 1) := by decide +kernel
theorem dX11_billIs_134 : decode cX11_billIs 134 = .ok (.getfield 13, 3) := by decide +kernel
theorem dX11_billIs_137 : decode cX11_billIs 137 = .ok (.iconst 1, 1) := by decide +kernel
theorem dX11_billIs_138 : decode cX11_billIs 138 = .ok (.iaload, 1) := by decide +kernel
theorem dX11_billIs_139 : decode cX11_billIs 139 = .ok (.ireturn, 1) := by decide +kernel
theorem dX11_billIs_140 : decode cX11_billIs 140 = .ok (.aload_n 0, 1) := by decide +kernel
theorem dX11_billIs_141 : decode cX11_billIs 141 = .ok (.iconst 0, 1) := by decide +kernel
theorem dX11_billIs_142 : decode cX11_billIs 142 = .ok (.invokevirtual 364, 3) := by decide +kernel
theorem dX11_billIs_145 : decode cX11_billIs 145 = .ok (.ireturn, 1) := by decide +kernel
theorem dX11_billIs_146 : decode cX11_billIs 146 = .ok (.aload_n 0, 1) := by decide +kernel
theorem dX11_billIs_147 : decode cX11_billIs 147 = .ok (.bipush 8, 2) := by decide +kernel
theorem dX11_billIs_149 : decode cX11_billIs 149 = .ok (.invokevirtual 364, 3) := by decide +kernel
theorem dX11_billIs_152 : decode cX11_billIs 152 = .ok (.ireturn, 1) := by decide +kernel
theorem dX11_billIs_153 : decode cX11_billIs 153 = .ok (.aload_n 0, 1) := by decide +kernel
theorem dX11_billIs_154 : decode cX11_billIs 154 = .ok (.bipush 7, 2) := by decide +kernel
theorem dX11_billIs_156 : decode cX11_billIs 156 = .ok (.invokevirtual 364, 3) := by decide +kernel
theorem dX11_billIs_159 : decode cX11_billIs 159 = .ok (.ireturn, 1) := by decide +kernel
theorem dX11_billIs_160 : decode cX11_billIs 160 = .ok (.aload_n 0, 1) := by decide +kernel
theorem dX11_billIs_161 : decode cX11_billIs 161 = .ok (.getfield 13, 3) := by decide +kernel
theorem dX11_billIs_164 : decode cX11_billIs 164 = .ok (.iconst 5, 1) := by decide +kernel
theorem dX11_billIs_165 : decode cX11_billIs 165 = .ok (.iaload, 1) := by decide +kernel
theorem dX11_billIs_166 : decode cX11_billIs 166 = .ok (.ireturn, 1) := by decide +kernel
theorem dX11_billIs_167 : decode cX11_billIs 167 = .ok (.iconst (-1), 1) := by decide +kernel
theorem dX11_billIs_168 : decode cX11_billIs 168 = .ok (.ireturn, 1) := by decide +kernel
theorem dX11_sumOf_0 : decode cX11_sumOf 0 = .ok (.iconst 0, 1) := by decide +kernel
theorem dX11_sumOf_1 : decode cX11_sumOf 1 = .ok (.istore_n 3, 1) := by decide +kernel
theorem dX11_sumOf_2 : decode cX11_sumOf 2 = .ok (.iconst 0, 1) := by decide +kernel
theorem dX11_sumOf_3 : decode cX11_sumOf 3 = .ok (.istore 4, 2) := by decide +kernel
theorem dX11_sumOf_5 : decode cX11_sumOf 5 = .ok (.iload 4, 2) := by decide +kernel
theorem dX11_sumOf_7 : decode cX11_sumOf 7 = .ok (.aload_n 0, 1) := by decide +kernel
theorem dX11_sumOf_8 : decode cX11_sumOf 8 = .ok (.getfield 13, 3) := by decide +kernel
theorem dX11_sumOf_11 : decode cX11_sumOf 11 = .ok (.iconst 1, 1) := by decide +kernel
theorem dX11_sumOf_12 : decode cX11_sumOf 12 = .ok (.iaload, 1) := by decide +kernel
theorem dX11_sumOf_13 : decode cX11_sumOf 13 = .ok (.if_icmp .ge 56, 3) := by decide +kernel
theorem dX11_sumOf_16 : decode cX11_sumOf 16 = .ok (.aload_n 0, 1) := by decide +kernel
theorem dX11_sumOf_17 : decode cX11_sumOf 17 = .ok (.iload 4, 2) := by decide +kernel
theorem dX11_sumOf_19 : decode cX11_sumOf 19 = .ok (.iconst 1, 1) := by decide +kernel
theorem dX11_sumOf_20 : decode cX11_sumOf 20 = .ok (.invokevirtual 219, 3) := by decide +kernel
theorem dX11_sumOf_23 : decode cX11_sumOf 23 = .ok (.iload_n 1, 1) := by decide +kernel
theorem dX11_sumOf_24 : decode cX11_sumOf 24 = .ok (.if_icmp .ne 39, 3) := by decide +kernel
theorem dX11_sumOf_27 : decode cX11_sumOf 27 = .ok (.iload_n 2, 1) := by decide +kernel
theorem dX11_sumOf_28 : decode cX11_sumOf 28 = .ok (.iconst (-1), 1) := by decide +kernel
theorem dX11_sumOf_29 : decode cX11_sumOf 29 = .ok (.if_icmp .eq 14, 3) := by decide +kernel
theorem dX11_sumOf_32 : decode cX11_sumOf 32 = .ok (.aload_n 0, 1) := by decide +kernel
theorem dX11_sumOf_33 : decode cX11_sumOf 33 = .ok (.iload 4, 2) := by decide +kernel
theorem dX11_sumOf_35 : decode cX11_sumOf 35 = .ok (.iconst 0, 1) := by decide +kernel
theorem dX11_sumOf_36 : decode cX11_sumOf 36 = .ok (.invokevirtual 219, 3) := by decide +kernel
theorem dX11_sumOf_39 : decode cX11_sumOf 39 = .ok (.iload_n 2, 1) := by decide +kernel
theorem dX11_sumOf_40 : decode cX11_sumOf 40 = .ok (.if_icmp .ne 23, 3) := by decide +kernel
theorem dX11_sumOf_43 : decode cX11_sumOf 43 = .ok (.iload_n 3, 1) := by decide +kernel
theorem dX11_sumOf_44 : decode cX11_sumOf 44 = .ok (.iload_n 2, 1) := by decide +kernel
theorem dX11_sumOf_45 : decode cX11_sumOf 45 = .ok (.iconst (-1), 1) := by decide +kernel
theorem dX11_sumOf_46 : decode cX11_sumOf 46 = .ok (.if_icmp .ne 7, 3) := by decide +kernel
theorem dX11_sumOf_49 : decode cX11_sumOf 49 = .ok (.iconst 1, 1) := by decide +kernel
theorem dX11_sumOf_50 : decode cX11_sumOf 50 = .ok (.goto 11, 3) := by decide +kernel
theorem dX11_sumOf_53 : decode cX11_sumOf 53 = .ok (.aload_n 0, 1) := by decide +kernel
theorem dX11_sumOf_54 : decode cX11_sumOf 54 = .ok (.iload 4, 2) := by decide +kernel
theorem dX11_sumOf_56 : decode cX11_sumOf 56 = .ok (.bipush 7, 2) := by decide +kernel
theorem dX11_sumOf_58 : decode cX11_sumOf 58 = .ok (.invokevirtual 219, 3) := by decide +kernel
theorem dX11_sumOf_61 : decode cX11_sumOf 61 = .ok (.iadd, 1) := by decide +kernel
theorem dX11_sumOf_62 : decode cX11_sumOf 62 = .ok (.istore_n 3, 1) := by decide +kernel
theorem dX11_sumOf_63 : decode cX11_sumOf 63 = .ok (.iinc 4 1, 3) := by decide +kernel
theorem dX11_sumOf_66 : decode cX11_sumOf 66 = .ok (.goto (-61), 3) := by decide +kernel
theorem dX11_sumOf_69 : decode cX11_sumOf 69 = .ok (.iload_n 3, 1) := by decide +kernel
theorem dX11_sumOf_70 : decode cX11_sumOf 70 = .ok (.ireturn, 1) := by decide +kernel
theorem dX11_accountIs_0 : decode cX11_accountIs 0 = .ok (.aload_n 0, 1) := by decide +kernel
theorem dX11_accountIs_1 : decode cX11_accountIs 1 = .ok (.iload_n 1, 1) := by decide +kernel
theorem dX11_accountIs_2 : decode cX11_accountIs 2 = .ok (.invokevirtual 216, 3) := by decide +kernel
theorem dX11_accountIs_5 : decode cX11_accountIs 5 = .ok (.ifCond .eq 13, 3) := by decide +kernel
theorem dX11_accountIs_8 : decode cX11_accountIs 8 = .ok (.iload_n 2, 1) := by decide +kernel
theorem dX11_accountIs_9 : decode cX11_accountIs 9 = .ok (.iconst 0, 1) := by decide +kernel
theorem dX11_accountIs_10 : decode cX11_accountIs 10 = .ok (.bipush 19, 2) := by decide +kernel
theorem dX11_accountIs_12 : decode cX11_accountIs 12 = .ok (.invokestatic 56, 3) := by decide +kernel
theorem dX11_accountIs_15 : decode cX11_accountIs 15 = .ok (.ifCond .ne 6, 3) := by decide +kernel
theorem dX11_accountIs_18 : decode cX11_accountIs 18 = .ok (.ldc 247, 2) := by decide +kernel
theorem dX11_accountIs_20 : decode cX11_accountIs 20 = .ok (.ireturn, 1) := by decide +kernel
theorem dX11_accountIs_21 : decode cX11_accountIs 21 = .ok (.iload_n 2, 1) := by decide +kernel
theorem dX11_accountIs_22 : decode cX11_accountIs 22 = .ok (.bipush 18, 2) := by decide +kernel
theorem dX11_accountIs_24 : decode cX11_accountIs 24 = .ok (.if_icmp .lt 22, 3) := by decide +kernel
theorem dX11_accountIs_27 : decode cX11_accountIs 27 = .ok (.aload_n 0, 1) := by decide +kernel
theorem dX11_accountIs_28 : decode cX11_accountIs 28 = .ok (.iload_n 1, 1) := by decide +kernel
theorem dX11_accountIs_29 : decode cX11_accountIs 29 = .ok (.iload_n 2, 1) := by decide +kernel
theorem dX11_accountIs_30 : decode cX11_accountIs 30 = .ok (.bipush 18, 2) := by decide +kernel
theorem dX11_accountIs_32 : decode cX11_accountIs 32 = .ok (.if_icmp .ne 8, 3) := by decide +kernel
theorem dX11_accountIs_35 : decode cX11_accountIs 35 = .ok (.bipush 9, 2) := by decide +kernel
theorem dX11_accountIs_37 : decode cX11_accountIs 37 = .ok (.goto 5, 3) := by decide +kernel
theorem dX11_accountIs_40 : decode cX11_accountIs 40 = .ok (.bipush 10, 2) := by decide +kernel
theorem dX11_accountIs_42 : decode cX11_accountIs 42 = .ok (.invokevirtual 213, 3) := by decide +kernel
theorem dX11_accountIs_45 : decode cX11_accountIs 45 = .ok (.ireturn, 1) := by decide +kernel
theorem dX11_accountIs_46 : decode cX11_accountIs 46 = .ok (.iload_n 2, 1) := by decide +kernel
theorem dX11_accountIs_47 : decode cX11_accountIs 47 = .ok (.bipush 11, 2) := by decide +kernel
theorem dX11_accountIs_49 : decode cX11_accountIs 49 = .ok (.if_icmp .lt 13, 3) := by decide +kernel
theorem dX11_accountIs_52 : decode cX11_accountIs 52 = .ok (.aload_n 0, 1) := by decide +kernel
theorem dX11_accountIs_53 : decode cX11_accountIs 53 = .ok (.iload_n 1, 1) := by decide +kernel
theorem dX11_accountIs_54 : decode cX11_accountIs 54 = .ok (.iload_n 2, 1) := by decide +kernel
theorem dX11_accountIs_55 : decode cX11_accountIs 55 = .ok (.bipush 12, 2) := by decide +kernel
theorem dX11_accountIs_57 : decode cX11_accountIs 57 = .ok (.isub, 1) := by decide +kernel
theorem dX11_accountIs_58 : decode cX11_accountIs 58 = .ok (.invokevirtual 367, 3) := by decide +kernel
theorem dX11_accountIs_61 : decode cX11_accountIs 61 = .ok (.ireturn, 1) := by decide +kernel
theorem dX11_accountIs_62 : decode cX11_accountIs 62 = .ok (.iload_n 2, 1) := by decide +kernel
theorem dX11_accountIs_63 : decode cX11_accountIs 63 = .ok (.tableswitch 140 0 9 #[53, 60, 67, 74, 81, 88, 112, 118, 126, 132], 53) := by decide +kernel
theorem dX11_accountIs_116 : decode cX11_accountIs 116 = .ok (.aload_n 0, 1) := by decide +kernel
theorem dX11_accountIs_117 : decode cX11_accountIs 117 = .ok (.iload_n 1, 1) := by decide +kernel
theorem dX11_accountIs_118 : decode cX11_accountIs 118 = .ok (.iconst 1, 1) := by decide +kernel
theorem dX11_accountIs_119 : decode cX11_accountIs 119 = .ok (.invokevirtual 213, 3) := by decide +kernel
theorem dX11_accountIs_122 : decode cX11_accountIs 122 = .ok (.ireturn, 1) := by decide +kernel
theorem dX11_accountIs_123 : decode cX11_accountIs 123 = .ok (.aload_n 0, 1) := by decide +kernel
theorem dX11_accountIs_124 : decode cX11_accountIs 124 = .ok (.iload_n 1, 1) := by decide +kernel
theorem dX11_accountIs_125 : decode cX11_accountIs 125 = .ok (.iconst 2, 1) := by decide +kernel
theorem dX11_accountIs_126 : decode cX11_accountIs 126 = .ok (.invokevirtual 213, 3) := by decide +kernel
theorem dX11_accountIs_129 : decode cX11_accountIs 129 = .ok (.ireturn, 1) := by decide +kernel
theorem dX11_accountIs_130 : decode cX11_accountIs 130 = .ok (.aload_n 0, 1) := by decide +kernel
theorem dX11_accountIs_131 : decode cX11_accountIs 131 = .ok (.iload_n 1, 1) := by decide +kernel
theorem dX11_accountIs_132 : decode cX11_accountIs 132 = .ok (.iconst 3, 1) := by decide +kernel
theorem dX11_accountIs_133 : decode cX11_accountIs 133 = .ok (.invokevirtual 213, 3) := by decide +kernel
theorem dX11_accountIs_136 : decode cX11_accountIs 136 = .ok (.ireturn, 1) := by decide +kernel
theorem dX11_accountIs_137 : decode cX11_accountIs 137 = .ok (.aload_n 0, 1) := by decide +kernel
theorem dX11_accountIs_138 : decode cX11_accountIs 138 = .ok (.iload_n 1, 1) := by decide +kernel
theorem dX11_accountIs_139 : decode cX11_accountIs 139 = .ok (.iconst 4, 1) := by decide +kernel
theorem dX11_accountIs_140 : decode cX11_accountIs 140 = .ok (.invokevirtual 213, 3) := by decide +kernel
theorem dX11_accountIs_143 : decode cX11_accountIs 143 = .ok (.ireturn, 1) := by decide +kernel
theorem dX11_accountIs_144 : decode cX11_accountIs 144 = .ok (.aload_n 0, 1) := by decide +kernel
theorem dX11_accountIs_145 : decode cX11_accountIs 145 = .ok (.iload_n 1, 1) := by decide +kernel
theorem dX11_accountIs_146 : decode cX11_accountIs 146 = .ok (.iconst 5, 1) := by decide +kernel
theorem dX11_accountIs_147 : decode cX11_accountIs 147 = .ok (.invokevirtual 213, 3) := by decide +kernel
theorem dX11_accountIs_150 : decode cX11_accountIs 150 = .ok (.ireturn, 1) := by decide +kernel
theorem dX11_accountIs_151 : decode cX11_accountIs 151 = .ok (.aload_n 0, 1) := by decide +kernel
theorem dX11_accountIs_152 : decode cX11_accountIs 152 = .ok (.iload_n 1, 1) := by decide +kernel
theorem dX11_accountIs_153 : decode cX11_accountIs 153 = .ok (.iconst 5, 1) := by decide +kernel
theorem dX11_accountIs_154 : decode cX11_accountIs 154 = .ok (.invokevirtual 213, 3) := by decide +kernel
theorem dX11_accountIs_157 : decode cX11_accountIs 157 = .ok (.aload_n 0, 1) := by decide +kernel
theorem dX11_accountIs_158 : decode cX11_accountIs 158 = .ok (.aload_n 0, 1) := by decide +kernel
theorem dX11_accountIs_159 : decode cX11_accountIs 159 = .ok (.iload_n 1, 1) := by decide +kernel
theorem dX11_accountIs_160 : decode cX11_accountIs 160 = .ok (.iconst 2, 1) := by decide +kernel
theorem dX11_accountIs_161 : decode cX11_accountIs 161 = .ok (.invokevirtual 213, 3) := by decide +kernel
theorem dX11_accountIs_164 : decode cX11_accountIs 164 = .ok (.aload_n 0, 1) := by decide +kernel
theorem dX11_accountIs_165 : decode cX11_accountIs 165 = .ok (.iload_n 1, 1) := by decide +kernel
theorem dX11_accountIs_166 : decode cX11_accountIs 166 = .ok (.iconst 4, 1) := by decide +kernel
theorem dX11_accountIs_167 : decode cX11_accountIs 167 = .ok (.invokevirtual 213, 3) := by decide +kernel
theorem dX11_accountIs_170 : decode cX11_accountIs 170 = .ok (.invokevirtual 67, 3) := by decide +kernel
theorem dX11_accountIs_173 : decode cX11_accountIs 173 = .ok (.isub, 1) := by decide +kernel
theorem dX11_accountIs_174 : decode cX11_accountIs 174 = .ok (.ireturn, 1) := by decide +kernel
theorem dX11_accountIs_175 : decode cX11_accountIs 175 = .ok (.aload_n 0, 1) := by decide +kernel
theorem dX11_accountIs_176 : decode cX11_accountIs 176 = .ok (.iload_n 1, 1) := by decide +kernel
theorem dX11_accountIs_177 : decode cX11_accountIs 177 = .ok (.invokevirtual 370, 3) := by decide +kernel
theorem dX11_accountIs_180 : decode cX11_accountIs 180 = .ok (.ireturn, 1) := by decide +kernel
theorem dX11_accountIs_181 : decode cX11_accountIs 181 = .ok (.aload_n 0, 1) := by decide +kernel
theorem dX11_accountIs_182 : decode cX11_accountIs 182 = .ok (.iload_n 1, 1) := by decide +kernel
theorem dX11_accountIs_183 : decode cX11_accountIs 183 = .ok (.bipush 6, 2) := by decide +kernel
theorem dX11_accountIs_185 : decode cX11_accountIs 185 = .ok (.invokevirtual 213, 3) := by decide +kernel
theorem dX11_accountIs_188 : decode cX11_accountIs 188 = .ok (.ireturn, 1) := by decide +kernel
theorem dX11_accountIs_189 : decode cX11_accountIs 189 = .ok (.aload_n 0, 1) := by decide +kernel
theorem dX11_accountIs_190 : decode cX11_accountIs 190 = .ok (.iload_n 1, 1) := by decide +kernel
theorem dX11_accountIs_191 : decode cX11_accountIs 191 = .ok (.invokevirtual 265, 3) := by decide +kernel
theorem dX11_accountIs_194 : decode cX11_accountIs 194 = .ok (.ireturn, 1) := by decide +kernel
theorem dX11_accountIs_195 : decode cX11_accountIs 195 = .ok (.aload_n 0, 1) := by decide +kernel
theorem dX11_accountIs_196 : decode cX11_accountIs 196 = .ok (.iload_n 1, 1) := by decide +kernel
theorem dX11_accountIs_197 : decode cX11_accountIs 197 = .ok (.bipush 7, 2) := by decide +kernel
theorem dX11_accountIs_199 : decode cX11_accountIs 199 = .ok (.invokevirtual 213, 3) := by decide +kernel
theorem dX11_accountIs_202 : decode cX11_accountIs 202 = .ok (.ireturn, 1) := by decide +kernel
theorem dX11_accountIs_203 : decode cX11_accountIs 203 = .ok (.aload_n 0, 1) := by decide +kernel
theorem dX11_accountIs_204 : decode cX11_accountIs 204 = .ok (.iload_n 1, 1) := by decide +kernel
theorem dX11_accountIs_205 : decode cX11_accountIs 205 = .ok (.bipush 8, 2) := by decide +kernel
theorem dX11_accountIs_207 : decode cX11_accountIs 207 = .ok (.invokevirtual 213, 3) := by decide +kernel
theorem dX11_accountIs_210 : decode cX11_accountIs 210 = .ok (.ireturn, 1) := by decide +kernel
theorem dX11_entry_0 : decode cX11_entry 0 = .ok (.aload_n 0, 1) := by decide +kernel
theorem dX11_entry_1 : decode cX11_entry 1 = .ok (.iload_n 1, 1) := by decide +kernel
theorem dX11_entry_2 : decode cX11_entry 2 = .ok (.invokevirtual 268, 3) := by decide +kernel
theorem dX11_entry_5 : decode cX11_entry 5 = .ok (.ifCond .eq 22, 3) := by decide +kernel
theorem dX11_entry_8 : decode cX11_entry 8 = .ok (.iload_n 2, 1) := by decide +kernel
theorem dX11_entry_9 : decode cX11_entry 9 = .ok (.iconst 0, 1) := by decide +kernel
theorem dX11_entry_10 : decode cX11_entry 10 = .ok (.bipush 9, 2) := by decide +kernel
theorem dX11_entry_12 : decode cX11_entry 12 = .ok (.invokestatic 56, 3) := by decide +kernel
theorem dX11_entry_15 : decode cX11_entry 15 = .ok (.ifCond .eq 12, 3) := by decide +kernel
theorem dX11_entry_18 : decode cX11_entry 18 = .ok (.aload_n 0, 1) := by decide +kernel
theorem dX11_entry_19 : decode cX11_entry 19 = .ok (.iload_n 1, 1) := by decide +kernel
theorem dX11_entry_20 : decode cX11_entry 20 = .ok (.iload_n 2, 1) := by decide +kernel
theorem dX11_entry_21 : decode cX11_entry 21 = .ok (.invokevirtual 219, 3) := by decide +kernel
theorem dX11_entry_24 : decode cX11_entry 24 = .ok (.goto 5, 3) := by decide +kernel
theorem dX11_entry_27 : decode cX11_entry 27 = .ok (.ldc 247, 2) := by decide +kernel
theorem dX11_entry_29 : decode cX11_entry 29 = .ok (.ireturn, 1) := by decide +kernel
theorem dX11_period_0 : decode cX11_period 0 = .ok (.aload_n 0, 1) := by decide +kernel
theorem dX11_period_1 : decode cX11_period 1 = .ok (.iload_n 1, 1) := by decide +kernel
theorem dX11_period_2 : decode cX11_period 2 = .ok (.invokevirtual 216, 3) := by decide +kernel
theorem dX11_period_5 : decode cX11_period 5 = .ok (.ifCond .eq 14, 3) := by decide +kernel
theorem dX11_period_8 : decode cX11_period 8 = .ok (.iload_n 2, 1) := by decide +kernel
theorem dX11_period_9 : decode cX11_period 9 = .ok (.iconst 0, 1) := by decide +kernel
theorem dX11_period_10 : decode cX11_period 10 = .ok (.sipush 199, 3) := by decide +kernel
theorem dX11_period_13 : decode cX11_period 13 = .ok (.invokestatic 56, 3) := by decide +kernel
theorem dX11_period_16 : decode cX11_period 16 = .ok (.ifCond .ne 6, 3) := by decide +kernel
theorem dX11_period_19 : decode cX11_period 19 = .ok (.ldc 247, 2) := by decide +kernel
theorem dX11_period_21 : decode cX11_period 21 = .ok (.ireturn, 1) := by decide +kernel
theorem dX11_period_22 : decode cX11_period 22 = .ok (.iconst 0, 1) := by decide +kernel
theorem dX11_period_23 : decode cX11_period 23 = .ok (.istore_n 3, 1) := by decide +kernel
theorem dX11_period_24 : decode cX11_period 24 = .ok (.iconst 0, 1) := by decide +kernel
theorem dX11_period_25 : decode cX11_period 25 = .ok (.istore 4, 2) := by decide +kernel
theorem dX11_period_27 : decode cX11_period 27 = .ok (.iload 4, 2) := by decide +kernel
theorem dX11_period_29 : decode cX11_period 29 = .ok (.aload_n 0, 1) := by decide +kernel
theorem dX11_period_30 : decode cX11_period 30 = .ok (.getfield 13, 3) := by decide +kernel
theorem dX11_period_33 : decode cX11_period 33 = .ok (.iconst 1, 1) := by decide +kernel
theorem dX11_period_34 : decode cX11_period 34 = .ok (.iaload, 1) := by decide +kernel
theorem dX11_period_35 : decode cX11_period 35 = .ok (.if_icmp .ge 42, 3) := by decide +kernel
theorem dX11_period_38 : decode cX11_period 38 = .ok (.aload_n 0, 1) := by decide +kernel
theorem dX11_period_39 : decode cX11_period 39 = .ok (.iload 4, 2) := by decide +kernel
theorem dX11_period_41 : decode cX11_period 41 = .ok (.iconst 1, 1) := by decide +kernel
theorem dX11_period_42 : decode cX11_period 42 = .ok (.invokevirtual 219, 3) := by decide +kernel
theorem dX11_period_45 : decode cX11_period 45 = .ok (.iload_n 1, 1) := by decide +kernel
theorem dX11_period_46 : decode cX11_period 46 = .ok (.if_icmp .ne 25, 3) := by decide +kernel
theorem dX11_period_49 : decode cX11_period 49 = .ok (.aload_n 0, 1) := by decide +kernel
theorem dX11_period_50 : decode cX11_period 50 = .ok (.iload 4, 2) := by decide +kernel
theorem dX11_period_52 : decode cX11_period 52 = .ok (.iconst 3, 1) := by decide +kernel
theorem dX11_period_53 : decode cX11_period 53 = .ok (.invokevirtual 219, 3) := by decide +kernel
theorem dX11_period_56 : decode cX11_period 56 = .ok (.iload_n 2, 1) := by decide +kernel
theorem dX11_period_57 : decode cX11_period 57 = .ok (.if_icmp .ne 14, 3) := by decide +kernel
theorem dX11_period_60 : decode cX11_period 60 = .ok (.iload_n 3, 1) := by decide +kernel
theorem dX11_period_61 : decode cX11_period 61 = .ok (.aload_n 0, 1) := by decide +kernel
theorem dX11_period_62 : decode cX11_period 62 = .ok (.iload 4, 2) := by decide +kernel
theorem dX11_period_64 : decode cX11_period 64 = .ok (.bipush 7, 2) := by decide +kernel
theorem dX11_period_66 : decode cX11_period 66 = .ok (.invokevirtual 219, 3) := by decide +kernel
theorem dX11_period_69 : decode cX11_period 69 = .ok (.iadd, 1) := by decide +kernel
theorem dX11_period_70 : decode cX11_period 70 = .ok (.istore_n 3, 1) := by decide +kernel
theorem dX11_period_71 : decode cX11_period 71 = .ok (.iinc 4 1, 3) := by decide +kernel
theorem dX11_period_74 : decode cX11_period 74 = .ok (.goto (-47), 3) := by decide +kernel
theorem dX11_period_77 : decode cX11_period 77 = .ok (.iload_n 3, 1) := by decide +kernel
theorem dX11_period_78 : decode cX11_period 78 = .ok (.ireturn, 1) := by decide +kernel
theorem dX11_says_0 : decode cX11_says 0 = .ok (.aload_n 0, 1) := by decide +kernel
theorem dX11_says_1 : decode cX11_says 1 = .ok (.getfield 36, 3) := by decide +kernel
theorem dX11_says_4 : decode cX11_says 4 = .ok (.aload_n 0, 1) := by decide +kernel
theorem dX11_says_5 : decode cX11_says 5 = .ok (.getfield 373, 3) := by decide +kernel
theorem dX11_says_8 : decode cX11_says 8 = .ok (.iload_n 1, 1) := by decide +kernel
theorem dX11_says_9 : decode cX11_says 9 = .ok (.i2b, 1) := by decide +kernel
theorem dX11_says_10 : decode cX11_says 10 = .ok (.bastore, 1) := by decide +kernel
theorem dX11_says_11 : decode cX11_says 11 = .ok (.aload_n 0, 1) := by decide +kernel
theorem dX11_says_12 : decode cX11_says 12 = .ok (.aload_n 0, 1) := by decide +kernel
theorem dX11_says_13 : decode cX11_says 13 = .ok (.getfield 373, 3) := by decide +kernel
theorem dX11_says_16 : decode cX11_says 16 = .ok (.iconst 1, 1) := by decide +kernel
theorem dX11_says_17 : decode cX11_says 17 = .ok (.iadd, 1) := by decide +kernel
theorem dX11_says_18 : decode cX11_says 18 = .ok (.putfield 373, 3) := by decide +kernel
theorem dX11_says_21 : decode cX11_says 21 = .ok (.return_, 1) := by decide +kernel
theorem dX11_saysNumber_0 : decode cX11_saysNumber 0 = .ok (.iload_n 2, 1) := by decide +kernel
theorem dX11_saysNumber_1 : decode cX11_saysNumber 1 = .ok (.istore_n 3, 1) := by decide +kernel
theorem dX11_saysNumber_2 : decode cX11_saysNumber 2 = .ok (.iconst 1, 1) := by decide +kernel
theorem dX11_saysNumber_3 : decode cX11_saysNumber 3 = .ok (.istore 4, 2) := by decide +kernel
theorem dX11_saysNumber_5 : decode cX11_saysNumber 5 = .ok (.iconst 1, 1) := by decide +kernel
theorem dX11_saysNumber_6 : decode cX11_saysNumber 6 = .ok (.istore 5, 2) := by decide +kernel
theorem dX11_saysNumber_8 : decode cX11_saysNumber 8 = .ok (.iload 5, 2) := by decide +kernel
theorem dX11_saysNumber_10 : decode cX11_saysNumber 10 = .ok (.iload_n 2, 1) := by decide +kernel
theorem dX11_saysNumber_11 : decode cX11_saysNumber 11 = .ok (.if_icmp .ge 16, 3) := by decide +kernel
theorem dX11_saysNumber_14 : decode cX11_saysNumber 14 = .ok (.iload 4, 2) := by decide +kernel
theorem dX11_saysNumber_16 : decode cX11_saysNumber 16 = .ok (.bipush 10, 2) := by decide +kernel
theorem dX11_saysNumber_18 : decode cX11_saysNumber 18 = .ok (.imul, 1) := by decide +kernel
theorem dX11_saysNumber_19 : decode cX11_saysNumber 19 = .ok (.istore 4, 2) := by decide +kernel
theorem dX11_saysNumber_21 : decode cX11_saysNumber 21 = .ok (.iinc 5 1, 3) := by decide +kernel
theorem dX11_saysNumber_24 : decode cX11_saysNumber 24 = .ok (.goto (-16), 3) := by decide +kernel
theorem dX11_saysNumber_27 : decode cX11_saysNumber 27 = .ok (.iload_n 1, 1) := by decide +kernel
theorem dX11_saysNumber_28 : decode cX11_saysNumber 28 = .ok (.iload 4, 2) := by decide +kernel
theorem dX11_saysNumber_30 : decode cX11_saysNumber 30 = .ok (.idiv, 1) := by decide +kernel
theorem dX11_saysNumber_31 : decode cX11_saysNumber 31 = .ok (.bipush 9, 2) := by decide +kernel
theorem dX11_saysNumber_33 : decode cX11_saysNumber 33 = .ok (.if_icmp .le 17, 3) := by decide +kernel
theorem dX11_saysNumber_36 : decode cX11_saysNumber 36 = .ok (.iload 4, 2) := by decide +kernel
theorem dX11_saysNumber_38 : decode cX11_saysNumber 38 = .ok (.bipush 10, 2) := by decide +kernel
theorem dX11_saysNumber_40 : decode cX11_saysNumber 40 = .ok (.imul, 1) := by decide +kernel
theorem dX11_saysNumber_41 : decode cX11_saysNumber 41 = .ok (.istore 4, 2) := by decide +kernel
theorem dX11_saysNumber_43 : decode cX11_saysNumber 43 = .ok (.iload_n 3, 1) := by decide +kernel
theorem dX11_saysNumber_44 : decode cX11_saysNumber 44 = .ok (.iconst 1, 1) := by decide +kernel
theorem dX11_saysNumber_45 : decode cX11_saysNumber 45 = .ok (.iadd, 1) := by decide +kernel
theorem dX11_saysNumber_46 : decode cX11_saysNumber 46 = .ok (.istore_n 3, 1) := by decide +kernel
theorem dX11_saysNumber_47 : decode cX11_saysNumber 47 = .ok (.goto (-20), 3) := by decide +kernel
theorem dX11_saysNumber_50 : decode cX11_saysNumber 50 = .ok (.iconst 0, 1) := by decide +kernel
theorem dX11_saysNumber_51 : decode cX11_saysNumber 51 = .ok (.istore 5, 2) := by decide +kernel
theorem dX11_saysNumber_53 : decode cX11_saysNumber 53 = .ok (.iload 5, 2) := by decide +kernel
theorem dX11_saysNumber_55 : decode cX11_saysNumber 55 = .ok (.iload_n 3, 1) := by decide +kernel
theorem dX11_saysNumber_56 : decode cX11_saysNumber 56 = .ok (.if_icmp .ge 30, 3) := by decide +kernel
theorem dX11_saysNumber_59 : decode cX11_saysNumber 59 = .ok (.aload_n 0, 1) := by decide +kernel
theorem dX11_saysNumber_60 : decode cX11_saysNumber 60 = .ok (.bipush 48, 2) := by decide +kernel
theorem dX11_saysNumber_62 : decode cX11_saysNumber 62 = .ok (.iload_n 1, 1) := by decide +kernel
theorem dX11_saysNumber_63 : decode cX11_saysNumber 63 = .ok (.iload 4, 2) := by decide +kernel
theorem dX11_saysNumber_65 : decode cX11_saysNumber 65 = .ok (.idiv, 1) := by decide +kernel
theorem dX11_saysNumber_66 : decode cX11_saysNumber 66 = .ok (.bipush 10, 2) := by decide +kernel
theorem dX11_saysNumber_68 : decode cX11_saysNumber 68 = .ok (.irem, 1) := by decide +kernel
theorem dX11_saysNumber_69 : decode cX11_saysNumber 69 = .ok (.iadd, 1) := by decide +kernel
theorem dX11_saysNumber_70 : decode cX11_saysNumber 70 = .ok (.invokevirtual 376, 3) := by decide +kernel
theorem dX11_saysNumber_73 : decode cX11_saysNumber 73 = .ok (.iload 4, 2) := by decide +kernel
theorem dX11_saysNumber_75 : decode cX11_saysNumber 75 = .ok (.bipush 10, 2) := by decide +kernel
theorem dX11_saysNumber_77 : decode cX11_saysNumber 77 = .ok (.idiv, 1) := by decide +kernel
theorem dX11_saysNumber_78 : decode cX11_saysNumber 78 = .ok (.istore 4, 2) := by decide +kernel
theorem dX11_saysNumber_80 : decode cX11_saysNumber 80 = .ok (.iinc 5 1, 3) := by decide +kernel
theorem dX11_saysNumber_83 : decode cX11_saysNumber 83 = .ok (.goto (-30), 3) := by decide +kernel
theorem dX11_saysNumber_86 : decode cX11_saysNumber 86 = .ok (.return_, 1) := by decide +kernel
theorem dX11_saysWord_0 : decode cX11_saysWord 0 = .ok (.bipush 7, 2) := by decide +kernel
theorem dX11_saysWord_2 : decode cX11_saysWord 2 = .ok (.istore_n 3, 1) := by decide +kernel
theorem dX11_saysWord_3 : decode cX11_saysWord 3 = .ok (.iload_n 3, 1) := by decide +kernel
theorem dX11_saysWord_4 : decode cX11_saysWord 4 = .ok (.ifCond .lt 36, 3) := by decide +kernel
theorem dX11_saysWord_7 : decode cX11_saysWord 7 = .ok (.lload_n 1, 1) := by decide +kernel
theorem dX11_saysWord_8 : decode cX11_saysWord 8 = .ok (.iconst 5, 1) := by decide +kernel
theorem dX11_saysWord_9 : decode cX11_saysWord 9 = .ok (.iload_n 3, 1) := by decide +kernel
theorem dX11_saysWord_10 : decode cX11_saysWord 10 = .ok (.imul, 1) := by decide +kernel
theorem dX11_saysWord_11 : decode cX11_saysWord 11 = .ok (.lshr, 1) := by decide +kernel
theorem dX11_saysWord_12 : decode cX11_saysWord 12 = .ok (.lconst 0, 1) := by decide +kernel
theorem dX11_saysWord_13 : decode cX11_saysWord 13 = .ok (.lcmp, 1) := by decide +kernel
theorem dX11_saysWord_14 : decode cX11_saysWord 14 = .ok (.ifCond .le 20, 3) := by decide +kernel
theorem dX11_saysWord_17 : decode cX11_saysWord 17 = .ok (.aload_n 0, 1) := by decide +kernel
theorem dX11_saysWord_18 : decode cX11_saysWord 18 = .ok (.bipush 96, 2) := by decide +kernel
theorem dX11_saysWord_20 : decode cX11_saysWord 20 = .ok (.lload_n 1, 1) := by decide +kernel
theorem dX11_saysWord_21 : decode cX11_saysWord 21 = .ok (.iconst 5, 1) := by decide +kernel
theorem dX11_saysWord_22 : decode cX11_saysWord 22 = .ok (.iload_n 3, 1) := by decide +kernel
theorem dX11_saysWord_23 : decode cX11_saysWord 23 = .ok (.imul, 1) := by decide +kernel
theorem dX11_saysWord_24 : decode cX11_saysWord 24 = .ok (.lshr, 1) := by decide +kernel
theorem dX11_saysWord_25 : decode cX11_saysWord 25 = .ok (.ldc2_w 379, 3) := by decide +kernel
theorem dX11_saysWord_28 : decode cX11_saysWord 28 = .ok (.land, 1) := by decide +kernel
theorem dX11_saysWord_29 : decode cX11_saysWord 29 = .ok (.l2i, 1) := by decide +kernel
theorem dX11_saysWord_30 : decode cX11_saysWord 30 = .ok (.iadd, 1) := by decide +kernel
theorem dX11_saysWord_31 : decode cX11_saysWord 31 = .ok (.invokevirtual 376, 3) := by decide +kernel
theorem dX11_saysWord_34 : decode cX11_saysWord 34 = .ok (.iinc 3 (-1), 3) := by decide +kernel
theorem dX11_saysWord_37 : decode cX11_saysWord 37 = .ok (.goto (-34), 3) := by decide +kernel
theorem dX11_saysWord_40 : decode cX11_saysWord 40 = .ok (.return_, 1) := by decide +kernel
theorem dX11_saysDate_0 : decode cX11_saysDate 0 = .ok (.aload_n 0, 1) := by decide +kernel
theorem dX11_saysDate_1 : decode cX11_saysDate 1 = .ok (.aload_n 0, 1) := by decide +kernel
theorem dX11_saysDate_2 : decode cX11_saysDate 2 = .ok (.iload_n 1, 1) := by decide +kernel
theorem dX11_saysDate_3 : decode cX11_saysDate 3 = .ok (.iconst 0, 1) := by decide +kernel
theorem dX11_saysDate_4 : decode cX11_saysDate 4 = .ok (.invokevirtual 76, 3) := by decide +kernel
theorem dX11_saysDate_7 : decode cX11_saysDate 7 = .ok (.iconst 4, 1) := by decide +kernel
theorem dX11_saysDate_8 : decode cX11_saysDate 8 = .ok (.invokevirtual 381, 3) := by decide +kernel
theorem dX11_saysDate_11 : decode cX11_saysDate 11 = .ok (.aload_n 0, 1) := by decide +kernel
theorem dX11_saysDate_12 : decode cX11_saysDate 12 = .ok (.bipush 45, 2) := by decide +kernel
theorem dX11_saysDate_14 : decode cX11_saysDate 14 = .ok (.invokevirtual 376, 3) := by decide +kernel
theorem dX11_saysDate_17 : decode cX11_saysDate 17 = .ok (.aload_n 0, 1) := by decide +kernel
theorem dX11_saysDate_18 : decode cX11_saysDate 18 = .ok (.aload_n 0, 1) := by decide +kernel
theorem dX11_saysDate_19 : decode cX11_saysDate 19 = .ok (.iload_n 1, 1) := by decide +kernel
theorem dX11_saysDate_20 : decode cX11_saysDate 20 = .ok (.iconst 1, 1) := by decide +kernel
theorem dX11_saysDate_21 : decode cX11_saysDate 21 = .ok (.invokevirtual 76, 3) := by decide +kernel
theorem dX11_saysDate_24 : decode cX11_saysDate 24 = .ok (.iconst 2, 1) := by decide +kernel
theorem dX11_saysDate_25 : decode cX11_saysDate 25 = .ok (.invokevirtual 381, 3) := by decide +kernel
theorem dX11_saysDate_28 : decode cX11_saysDate 28 = .ok (.aload_n 0, 1) := by decide +kernel
theorem dX11_saysDate_29 : decode cX11_saysDate 29 = .ok (.bipush 45, 2) := by decide +kernel
theorem dX11_saysDate_31 : decode cX11_saysDate 31 = .ok (.invokevirtual 376, 3) := by decide +kernel
theorem dX11_saysDate_34 : decode cX11_saysDate 34 = .ok (.aload_n 0, 1) := by decide +kernel
theorem dX11_saysDate_35 : decode cX11_saysDate 35 = .ok (.aload_n 0, 1) := by decide +kernel
theorem dX11_saysDate_36 : decode cX11_saysDate 36 = .ok (.iload_n 1, 1) := by decide +kernel
theorem dX11_saysDate_37 : decode cX11_saysDate 37 = .ok (.iconst 2, 1) := by decide +kernel
theorem dX11_saysDate_38 : decode cX11_saysDate 38 = .ok (.invokevirtual 76, 3) := by decide +kernel
theorem dX11_saysDate_41 : decode cX11_saysDate 41 = .ok (.iconst 2, 1) := by decide +kernel
theorem dX11_saysDate_42 : decode cX11_saysDate 42 = .ok (.invokevirtual 381, 3) := by decide +kernel
theorem dX11_saysDate_45 : decode cX11_saysDate 45 = .ok (.return_, 1) := by decide +kernel
theorem dX11_kindWord_0 : decode cX11_kindWord 0 = .ok (.iload_n 0, 1) := by decide +kernel
theorem dX11_kindWord_1 : decode cX11_kindWord 1 = .ok (.ifCond .ne 9, 3) := by decide +kernel
theorem dX11_kindWord_4 : decode cX11_kindWord 4 = .ok (.ldc2_w 384, 3) := by decide +kernel
theorem dX11_kindWord_7 : decode cX11_kindWord 7 = .ok (.goto 50, 3) := by decide +kernel
theorem dX11_kindWord_10 : decode cX11_kindWord 10 = .ok (.iload_n 0, 1) := by decide +kernel
theorem dX11_kindWord_11 : decode cX11_kindWord 11 = .ok (.iconst 1, 1) := by decide +kernel
theorem dX11_kindWord_12 : decode cX11_kindWord 12 = .ok (.if_icmp .ne 9, 3) := by decide +kernel
theorem dX11_kindWord_15 : decode cX11_kindWord 15 = .ok (.ldc2_w 386, 3) := by decide +kernel
theorem dX11_kindWord_18 : decode cX11_kindWord 18 = .ok (.goto 39, 3) := by decide +kernel
theorem dX11_kindWord_21 : decode cX11_kindWord 21 = .ok (.iload_n 0, 1) := by decide +kernel
theorem dX11_kindWord_22 : decode cX11_kindWord 22 = .ok (.iconst 2, 1) := by decide +kernel
theorem dX11_kindWord_23 : decode cX11_kindWord 23 = .ok (.if_icmp .ne 9, 3) := by decide +kernel
theorem dX11_kindWord_26 : decode cX11_kindWord 26 = .ok (.ldc2_w 388, 3) := by decide +kernel
theorem dX11_kindWord_29 : decode cX11_kindWord 29 = .ok (.goto 28, 3) := by decide +kernel
theorem dX11_kindWord_32 : decode cX11_kindWord 32 = .ok (.iload_n 0, 1) := by decide +kernel
theorem dX11_kindWord_33 : decode cX11_kindWord 33 = .ok (.iconst 3, 1) := by decide +kernel
theorem dX11_kindWord_34 : decode cX11_kindWord 34 = .ok (.if_icmp .ne 9, 3) := by decide +kernel
theorem dX11_kindWord_37 : decode cX11_kindWord 37 = .ok (.ldc2_w 295, 3) := by decide +kernel
theorem dX11_kindWord_40 : decode cX11_kindWord 40 = .ok (.goto 17, 3) := by decide +kernel
theorem dX11_kindWord_43 : decode cX11_kindWord 43 = .ok (.iload_n 0, 1) := by decide +kernel
theorem dX11_kindWord_44 : decode cX11_kindWord 44 = .ok (.iconst 4, 1) := by decide +kernel
theorem dX11_kindWord_45 : decode cX11_kindWord 45 = .ok (.if_icmp .ne 9, 3) := by decide +kernel
theorem dX11_kindWord_48 : decode cX11_kindWord 48 = .ok (.ldc2_w 390, 3) := by decide +kernel
theorem dX11_kindWord_51 : decode cX11_kindWord 51 = .ok (.goto 6, 3) := by decide +kernel
theorem dX11_kindWord_54 : decode cX11_kindWord 54 = .ok (.ldc2_w 167, 3) := by decide +kernel
theorem dX11_kindWord_57 : decode cX11_kindWord 57 = .ok (.lreturn, 1) := by decide +kernel
theorem dX11_laysLine_0 : decode cX11_laysLine 0 = .ok (.aload_n 0, 1) := by decide +kernel
theorem dX11_laysLine_1 : decode cX11_laysLine 1 = .ok (.iconst 0, 1) := by decide +kernel
theorem dX11_laysLine_2 : decode cX11_laysLine 2 = .ok (.putfield 373, 3) := by decide +kernel
theorem dX11_laysLine_5 : decode cX11_laysLine 5 = .ok (.aload_n 0, 1) := by decide +kernel
theorem dX11_laysLine_6 : decode cX11_laysLine 6 = .ok (.bipush 80, 2) := by decide +kernel
theorem dX11_laysLine_8 : decode cX11_laysLine 8 = .ok (.invokevirtual 376, 3) := by decide +kernel
theorem dX11_laysLine_11 : decode cX11_laysLine 11 = .ok (.aload_n 0, 1) := by decide +kernel
theorem dX11_laysLine_12 : decode cX11_laysLine 12 = .ok (.aload_n 0, 1) := by decide +kernel
theorem dX11_laysLine_13 : decode cX11_laysLine 13 = .ok (.iload_n 1, 1) := by decide +kernel
theorem dX11_laysLine_14 : decode cX11_laysLine 14 = .ok (.iconst 3, 1) := by decide +kernel
theorem dX11_laysLine_15 : decode cX11_laysLine 15 = .ok (.invokevirtual 219, 3) := by decide +kernel
theorem dX11_laysLine_18 : decode cX11_laysLine 18 = .ok (.iconst 1, 1) := by decide +kernel
theorem dX11_laysLine_19 : decode cX11_laysLine 19 = .ok (.invokevirtual 381, 3) := by decide +kernel
theorem dX11_laysLine_22 : decode cX11_laysLine 22 = .ok (.aload_n 0, 1) := by decide +kernel
theorem dX11_laysLine_23 : decode cX11_laysLine 23 = .ok (.bipush 32, 2) := by decide +kernel
theorem dX11_laysLine_25 : decode cX11_laysLine 25 = .ok (.invokevirtual 376, 3) := by decide +kernel
theorem dX11_laysLine_28 : decode cX11_laysLine 28 = .ok (.aload_n 0, 1) := by decide +kernel
theorem dX11_laysLine_29 : decode cX11_laysLine 29 = .ok (.aload_n 0, 1) := by decide +kernel
theorem dX11_laysLine_30 : decode cX11_laysLine 30 = .ok (.iload_n 1, 1) := by decide +kernel
theorem dX11_laysLine_31 : decode cX11_laysLine 31 = .ok (.iconst 4, 1) := by decide +kernel
theorem dX11_laysLine_32 : decode cX11_laysLine 32 = .ok (.invokevirtual 219, 3) := by decide +kernel
theorem dX11_laysLine_35 : decode cX11_laysLine 35 = .ok (.invokevirtual 392, 3) := by decide +kernel
theorem dX11_laysLine_38 : decode cX11_laysLine 38 = .ok (.aload_n 0, 1) := by decide +kernel
theorem dX11_laysLine_39 : decode cX11_laysLine 39 = .ok (.bipush 32, 2) := by decide +kernel
theorem dX11_laysLine_41 : decode cX11_laysLine 41 = .ok (.invokevirtual 376, 3) := by decide +kernel
theorem dX11_laysLine_44 : decode cX11_laysLine 44 = .ok (.aload_n 0, 1) := by decide +kernel
theorem dX11_laysLine_45 : decode cX11_laysLine 45 = .ok (.ldc2_w 395, 3) := by decide +kernel
theorem dX11_laysLine_48 : decode cX11_laysLine 48 = .ok (.invokevirtual 397, 3) := by decide +kernel
theorem dX11_laysLine_51 : decode cX11_laysLine 51 = .ok (.aload_n 0, 1) := by decide +kernel
theorem dX11_laysLine_52 : decode cX11_laysLine 52 = .ok (.bipush 32, 2) := by decide +kernel
theorem dX11_laysLine_54 : decode cX11_laysLine 54 = .ok (.invokevirtual 376, 3) := by decide +kernel
theorem dX11_laysLine_57 : decode cX11_laysLine 57 = .ok (.aload_n 0, 1) := by decide +kernel
theorem dX11_laysLine_58 : decode cX11_laysLine 58 = .ok (.aload_n 0, 1) := by decide +kernel
theorem dX11_laysLine_59 : decode cX11_laysLine 59 = .ok (.iload_n 1, 1) := by decide +kernel
theorem dX11_laysLine_60 : decode cX11_laysLine 60 = .ok (.iconst 5, 1) := by decide +kernel
theorem dX11_laysLine_61 : decode cX11_laysLine 61 = .ok (.invokevirtual 219, 3) := by decide +kernel
theorem dX11_laysLine_64 : decode cX11_laysLine 64 = .ok (.invokevirtual 392, 3) := by decide +kernel
theorem dX11_laysLine_67 : decode cX11_laysLine 67 = .ok (.aload_n 0, 1) := by decide +kernel
theorem dX11_laysLine_68 : decode cX11_laysLine 68 = .ok (.bipush 32, 2) := by decide +kernel
theorem dX11_laysLine_70 : decode cX11_laysLine 70 = .ok (.invokevirtual 376, 3) := by decide +kernel
theorem dX11_laysLine_73 : decode cX11_laysLine 73 = .ok (.aload_n 0, 1) := by decide +kernel
theorem dX11_laysLine_74 : decode cX11_laysLine 74 = .ok (.bipush 65, 2) := by decide +kernel
theorem dX11_laysLine_76 : decode cX11_laysLine 76 = .ok (.aload_n 0, 1) := by decide +kernel
theorem dX11_laysLine_77 : decode cX11_laysLine 77 = .ok (.iload_n 1, 1) := by decide +kernel
theorem dX11_laysLine_78 : decode cX11_laysLine 78 = .ok (.bipush 6, 2) := by decide +kernel
theorem dX11_laysLine_80 : decode cX11_laysLine 80 = .ok (.invokevirtual 219, 3) := by decide +kernel
theorem dX11_laysLine_83 : decode cX11_laysLine 83 = .ok (.iadd, 1) := by decide +kernel
theorem dX11_laysLine_84 : decode cX11_laysLine 84 = .ok (.invokevirtual 376, 3) := by decide +kernel
theorem dX11_laysLine_87 : decode cX11_laysLine 87 = .ok (.aload_n 0, 1) := by decide +kernel
theorem dX11_laysLine_88 : decode cX11_laysLine 88 = .ok (.bipush 32, 2) := by decide +kernel
theorem dX11_laysLine_90 : decode cX11_laysLine 90 = .ok (.invokevirtual 376, 3) := by decide +kernel
theorem dX11_laysLine_93 : decode cX11_laysLine 93 = .ok (.aload_n 0, 1) := by decide +kernel
theorem dX11_laysLine_94 : decode cX11_laysLine 94 = .ok (.aload_n 0, 1) := by decide +kernel
theorem dX11_laysLine_95 : decode cX11_laysLine 95 = .ok (.iload_n 1, 1) := by decide +kernel
theorem dX11_laysLine_96 : decode cX11_laysLine 96 = .ok (.iconst 0, 1) := by decide +kernel
theorem dX11_laysLine_97 : decode cX11_laysLine 97 = .ok (.invokevirtual 219, 3) := by decide +kernel
theorem dX11_laysLine_100 : decode cX11_laysLine 100 = .ok (.invokestatic 401, 3) := by decide +kernel
theorem dX11_laysLine_103 : decode cX11_laysLine 103 = .ok (.invokevirtual 397, 3) := by decide +kernel
theorem dX11_laysLine_106 : decode cX11_laysLine 106 = .ok (.aload_n 0, 1) := by decide +kernel
theorem dX11_laysLine_107 : decode cX11_laysLine 107 = .ok (.bipush 32, 2) := by decide +kernel
theorem dX11_laysLine_109 : decode cX11_laysLine 109 = .ok (.invokevirtual 376, 3) := by decide +kernel
theorem dX11_laysLine_112 : decode cX11_laysLine 112 = .ok (.aload_n 0, 1) := by decide +kernel
theorem dX11_laysLine_113 : decode cX11_laysLine 113 = .ok (.iload_n 1, 1) := by decide +kernel
theorem dX11_laysLine_114 : decode cX11_laysLine 114 = .ok (.bipush 7, 2) := by decide +kernel
theorem dX11_laysLine_116 : decode cX11_laysLine 116 = .ok (.invokevirtual 219, 3) := by decide +kernel
theorem dX11_laysLine_119 : decode cX11_laysLine 119 = .ok (.istore_n 2, 1) := by decide +kernel
theorem dX11_laysLine_120 : decode cX11_laysLine 120 = .ok (.iload_n 2, 1) := by decide +kernel
theorem dX11_laysLine_121 : decode cX11_laysLine 121 = .ok (.ifCond .ge 9, 3) := by decide +kernel
theorem dX11_laysLine_124 : decode cX11_laysLine 124 = .ok (.aload_n 0, 1) := by decide +kernel
theorem dX11_laysLine_125 : decode cX11_laysLine 125 = .ok (.bipush 45, 2) := by decide +kernel
theorem dX11_laysLine_127 : decode cX11_laysLine 127 = .ok (.invokevirtual 376, 3) := by decide +kernel
theorem dX11_laysLine_130 : decode cX11_laysLine 130 = .ok (.iload_n 2, 1) := by decide +kernel
theorem dX11_laysLine_131 : decode cX11_laysLine 131 = .ok (.ifCond .ge 8, 3) := by decide +kernel
theorem dX11_laysLine_134 : decode cX11_laysLine 134 = .ok (.iload_n 2, 1) := by decide +kernel
theorem dX11_laysLine_135 : decode cX11_laysLine 135 = .ok (.ineg, 1) := by decide +kernel
theorem dX11_laysLine_136 : decode cX11_laysLine 136 = .ok (.goto 4, 3) := by decide +kernel
theorem dX11_laysLine_139 : decode cX11_laysLine 139 = .ok (.iload_n 2, 1) := by decide +kernel
theorem dX11_laysLine_140 : decode cX11_laysLine 140 = .ok (.istore_n 3, 1) := by decide +kernel
theorem dX11_laysLine_141 : decode cX11_laysLine 141 = .ok (.aload_n 0, 1) := by decide +kernel
theorem dX11_laysLine_142 : decode cX11_laysLine 142 = .ok (.iload_n 3, 1) := by decide +kernel
theorem dX11_laysLine_143 : decode cX11_laysLine 143 = .ok (.bipush 100, 2) := by decide +kernel
theorem dX11_laysLine_145 : decode cX11_laysLine 145 = .ok (.idiv, 1) := by decide +kernel
theorem dX11_laysLine_146 : decode cX11_laysLine 146 = .ok (.iconst 1, 1) := by decide +kernel
theorem dX11_laysLine_147 : decode cX11_laysLine 147 = .ok (.invokevirtual 381, 3) := by decide +kernel
theorem dX11_laysLine_150 : decode cX11_laysLine 150 = .ok (.aload_n 0, 1) := by decide +kernel
theorem dX11_laysLine_151 : decode cX11_laysLine 151 = .ok (.bipush 46, 2) := by decide +kernel
theorem dX11_laysLine_153 : decode cX11_laysLine 153 = .ok (.invokevirtual 376, 3) := by decide +kernel
theorem dX11_laysLine_156 : decode cX11_laysLine 156 = .ok (.aload_n 0, 1) := by decide +kernel
theorem dX11_laysLine_157 : decode cX11_laysLine 157 = .ok (.iload_n 3, 1) := by decide +kernel
theorem dX11_laysLine_158 : decode cX11_laysLine 158 = .ok (.bipush 100, 2) := by decide +kernel
theorem dX11_laysLine_160 : decode cX11_laysLine 160 = .ok (.irem, 1) := by decide +kernel
theorem dX11_laysLine_161 : decode cX11_laysLine 161 = .ok (.iconst 2, 1) := by decide +kernel
theorem dX11_laysLine_162 : decode cX11_laysLine 162 = .ok (.invokevirtual 381, 3) := by decide +kernel
theorem dX11_laysLine_165 : decode cX11_laysLine 165 = .ok (.return_, 1) := by decide +kernel
theorem dX11_line_0 : decode cX11_line 0 = .ok (.aload_n 0, 1) := by decide +kernel
theorem dX11_line_1 : decode cX11_line 1 = .ok (.iload_n 1, 1) := by decide +kernel
theorem dX11_line_2 : decode cX11_line 2 = .ok (.invokevirtual 268, 3) := by decide +kernel
theorem dX11_line_5 : decode cX11_line 5 = .ok (.ifCond .ne 5, 3) := by decide +kernel
theorem dX11_line_8 : decode cX11_line 8 = .ok (.iconst (-1), 1) := by decide +kernel
theorem dX11_line_9 : decode cX11_line 9 = .ok (.ireturn, 1) := by decide +kernel
theorem dX11_line_10 : decode cX11_line 10 = .ok (.iload_n 2, 1) := by decide +kernel
theorem dX11_line_11 : decode cX11_line 11 = .ok (.iconst (-1), 1) := by decide +kernel
theorem dX11_line_12 : decode cX11_line 12 = .ok (.if_icmp .ge 6, 3) := by decide +kernel
theorem dX11_line_15 : decode cX11_line 15 = .ok (.bipush (-9), 2) := by decide +kernel
theorem dX11_line_17 : decode cX11_line 17 = .ok (.ireturn, 1) := by decide +kernel
theorem dX11_line_18 : decode cX11_line 18 = .ok (.aload_n 0, 1) := by decide +kernel
theorem dX11_line_19 : decode cX11_line 19 = .ok (.iload_n 1, 1) := by decide +kernel
theorem dX11_line_20 : decode cX11_line 20 = .ok (.invokevirtual 405, 3) := by decide +kernel
theorem dX11_line_23 : decode cX11_line 23 = .ok (.iload_n 2, 1) := by decide +kernel
theorem dX11_line_24 : decode cX11_line 24 = .ok (.iconst (-1), 1) := by decide +kernel
theorem dX11_line_25 : decode cX11_line 25 = .ok (.if_icmp .ne 8, 3) := by decide +kernel
theorem dX11_line_28 : decode cX11_line 28 = .ok (.aload_n 0, 1) := by decide +kernel
theorem dX11_line_29 : decode cX11_line 29 = .ok (.getfield 373, 3) := by decide +kernel
theorem dX11_line_32 : decode cX11_line 32 = .ok (.ireturn, 1) := by decide +kernel
theorem dX11_line_33 : decode cX11_line 33 = .ok (.iload_n 2, 1) := by decide +kernel
theorem dX11_line_34 : decode cX11_line 34 = .ok (.aload_n 0, 1) := by decide +kernel
theorem dX11_line_35 : decode cX11_line 35 = .ok (.getfield 373, 3) := by decide +kernel
theorem dX11_line_38 : decode cX11_line 38 = .ok (.if_icmp .ge 12, 3) := by decide +kernel
theorem dX11_line_41 : decode cX11_line 41 = .ok (.aload_n 0, 1) := by decide +kernel
theorem dX11_line_42 : decode cX11_line 42 = .ok (.getfield 36, 3) := by decide +kernel
theorem dX11_line_45 : decode cX11_line 45 = .ok (.iload_n 2, 1) := by decide +kernel
theorem dX11_line_46 : decode cX11_line 46 = .ok (.baload, 1) := by decide +kernel
theorem dX11_line_47 : decode cX11_line 47 = .ok (.goto 5, 3) := by decide +kernel
theorem dX11_line_50 : decode cX11_line 50 = .ok (.bipush (-4), 2) := by decide +kernel
theorem dX11_line_52 : decode cX11_line 52 = .ok (.ireturn, 1) := by decide +kernel
theorem dX11_pay_0 : decode cX11_pay 0 = .ok (.aload_n 0, 1) := by decide +kernel
theorem dX11_pay_1 : decode cX11_pay 1 = .ok (.iload_n 1, 1) := by decide +kernel
theorem dX11_pay_2 : decode cX11_pay 2 = .ok (.invokevirtual 216, 3) := by decide +kernel
theorem dX11_pay_5 : decode cX11_pay 5 = .ok (.ifCond .eq 27, 3) := by decide +kernel
theorem dX11_pay_8 : decode cX11_pay 8 = .ok (.iload_n 2, 1) := by decide +kernel
theorem dX11_pay_9 : decode cX11_pay 9 = .ok (.iconst 1, 1) := by decide +kernel
theorem dX11_pay_10 : decode cX11_pay 10 = .ok (.ldc 79, 2) := by decide +kernel
theorem dX11_pay_12 : decode cX11_pay 12 = .ok (.invokestatic 56, 3) := by decide +kernel
theorem dX11_pay_15 : decode cX11_pay 15 = .ok (.ifCond .eq 17, 3) := by decide +kernel
theorem dX11_pay_18 : decode cX11_pay 18 = .ok (.iload_n 2, 1) := by decide +kernel
theorem dX11_pay_19 : decode cX11_pay 19 = .ok (.ldc 209, 2) := by decide +kernel
theorem dX11_pay_21 : decode cX11_pay 21 = .ok (.aload_n 0, 1) := by decide +kernel
theorem dX11_pay_22 : decode cX11_pay 22 = .ok (.iload_n 1, 1) := by decide +kernel
theorem dX11_pay_23 : decode cX11_pay 23 = .ok (.bipush 9, 2) := by decide +kernel
theorem dX11_pay_25 : decode cX11_pay 25 = .ok (.invokevirtual 213, 3) := by decide +kernel
theorem dX11_pay_28 : decode cX11_pay 28 = .ok (.isub, 1) := by decide +kernel
theorem dX11_pay_29 : decode cX11_pay 29 = .ok (.if_icmp .le 5, 3) := by decide +kernel
theorem dX11_pay_32 : decode cX11_pay 32 = .ok (.iconst (-1), 1) := by decide +kernel
theorem dX11_pay_33 : decode cX11_pay 33 = .ok (.ireturn, 1) := by decide +kernel
theorem dX11_pay_34 : decode cX11_pay 34 = .ok (.aload_n 0, 1) := by decide +kernel
theorem dX11_pay_35 : decode cX11_pay 35 = .ok (.iload_n 1, 1) := by decide +kernel
theorem dX11_pay_36 : decode cX11_pay 36 = .ok (.bipush 9, 2) := by decide +kernel
theorem dX11_pay_38 : decode cX11_pay 38 = .ok (.aload_n 0, 1) := by decide +kernel
theorem dX11_pay_39 : decode cX11_pay 39 = .ok (.iload_n 1, 1) := by decide +kernel
theorem dX11_pay_40 : decode cX11_pay 40 = .ok (.bipush 9, 2) := by decide +kernel
theorem dX11_pay_42 : decode cX11_pay 42 = .ok (.invokevirtual 213, 3) := by decide +kernel
theorem dX11_pay_45 : decode cX11_pay 45 = .ok (.iload_n 2, 1) := by decide +kernel
theorem dX11_pay_46 : decode cX11_pay 46 = .ok (.iadd, 1) := by decide +kernel
theorem dX11_pay_47 : decode cX11_pay 47 = .ok (.invokevirtual 233, 3) := by decide +kernel
theorem dX11_pay_50 : decode cX11_pay 50 = .ok (.aload_n 0, 1) := by decide +kernel
theorem dX11_pay_51 : decode cX11_pay 51 = .ok (.iload_n 1, 1) := by decide +kernel
theorem dX11_pay_52 : decode cX11_pay 52 = .ok (.bipush 9, 2) := by decide +kernel
theorem dX11_pay_54 : decode cX11_pay 54 = .ok (.invokevirtual 213, 3) := by decide +kernel
theorem dX11_pay_57 : decode cX11_pay 57 = .ok (.ireturn, 1) := by decide +kernel
theorem dX11_covers_0 : decode cX11_covers 0 = .ok (.aload_n 0, 1) := by decide +kernel
theorem dX11_covers_1 : decode cX11_covers 1 = .ok (.aload_n 0, 1) := by decide +kernel
theorem dX11_covers_2 : decode cX11_covers 2 = .ok (.iload_n 1, 1) := by decide +kernel
theorem dX11_covers_3 : decode cX11_covers 3 = .ok (.bipush 9, 2) := by decide +kernel
theorem dX11_covers_5 : decode cX11_covers 5 = .ok (.invokevirtual 213, 3) := by decide +kernel
theorem dX11_covers_8 : decode cX11_covers 8 = .ok (.putfield 408, 3) := by decide +kernel
theorem dX11_covers_11 : decode cX11_covers 11 = .ok (.iconst 0, 1) := by decide +kernel
theorem dX11_covers_12 : decode cX11_covers 12 = .ok (.istore_n 2, 1) := by decide +kernel
theorem dX11_covers_13 : decode cX11_covers 13 = .ok (.iload_n 2, 1) := by decide +kernel
theorem dX11_covers_14 : decode cX11_covers 14 = .ok (.aload_n 0, 1) := by decide +kernel
theorem dX11_covers_15 : decode cX11_covers 15 = .ok (.getfield 13, 3) := by decide +kernel
theorem dX11_covers_18 : decode cX11_covers 18 = .ok (.iconst 1, 1) := by decide +kernel
theorem dX11_covers_19 : decode cX11_covers 19 = .ok (.iaload, 1) := by decide +kernel
theorem dX11_covers_20 : decode cX11_covers 20 = .ok (.if_icmp .ge 45, 3) := by decide +kernel
theorem dX11_covers_23 : decode cX11_covers 23 = .ok (.aload_n 0, 1) := by decide +kernel
theorem dX11_covers_24 : decode cX11_covers 24 = .ok (.iload_n 2, 1) := by decide +kernel
theorem dX11_covers_25 : decode cX11_covers 25 = .ok (.iconst 1, 1) := by decide +kernel
theorem dX11_covers_26 : decode cX11_covers 26 = .ok (.invokevirtual 219, 3) := by decide +kernel
theorem dX11_covers_29 : decode cX11_covers 29 = .ok (.iload_n 1, 1) := by decide +kernel
theorem dX11_covers_30 : decode cX11_covers 30 = .ok (.if_icmp .ne 29, 3) := by decide +kernel
theorem dX11_covers_33 : decode cX11_covers 33 = .ok (.aload_n 0, 1) := by decide +kernel
theorem dX11_covers_34 : decode cX11_covers 34 = .ok (.iload_n 2, 1) := by decide +kernel
theorem dX11_covers_35 : decode cX11_covers 35 = .ok (.bipush 7, 2) := by decide +kernel
theorem dX11_covers_37 : decode cX11_covers 37 = .ok (.invokevirtual 219, 3) := by decide +kernel
theorem dX11_covers_40 : decode cX11_covers 40 = .ok (.ifCond .ge 19, 3) := by decide +kernel
theorem dX11_covers_43 : decode cX11_covers 43 = .ok (.aload_n 0, 1) := by decide +kernel
theorem dX11_covers_44 : decode cX11_covers 44 = .ok (.aload_n 0, 1) := by decide +kernel
theorem dX11_covers_45 : decode cX11_covers 45 = .ok (.getfield 408, 3) := by decide +kernel
theorem dX11_covers_48 : decode cX11_covers 48 = .ok (.aload_n 0, 1) := by decide +kernel
theorem dX11_covers_49 : decode cX11_covers 49 = .ok (.iload_n 2, 1) := by decide +kernel
theorem dX11_covers_50 : decode cX11_covers 50 = .ok (.bipush 7, 2) := by decide +kernel
theorem dX11_covers_52 : decode cX11_covers 52 = .ok (.invokevirtual 219, 3) := by decide +kernel
theorem dX11_covers_55 : decode cX11_covers 55 = .ok (.isub, 1) := by decide +kernel
theorem dX11_covers_56 : decode cX11_covers 56 = .ok (.putfield 408, 3) := by decide +kernel
theorem dX11_covers_59 : decode cX11_covers 59 = .ok (.iinc 2 1, 3) := by decide +kernel
theorem dX11_covers_62 : decode cX11_covers 62 = .ok (.goto (-49), 3) := by decide +kernel
theorem dX11_covers_65 : decode cX11_covers 65 = .ok (.iconst 0, 1) := by decide +kernel
theorem dX11_covers_66 : decode cX11_covers 66 = .ok (.istore_n 2, 1) := by decide +kernel
theorem dX11_covers_67 : decode cX11_covers 67 = .ok (.iload_n 2, 1) := by decide +kernel
theorem dX11_covers_68 : decode cX11_covers 68 = .ok (.aload_n 0, 1) := by decide +kernel
theorem dX11_covers_69 : decode cX11_covers 69 = .ok (.getfield 13, 3) := by decide +kernel
theorem dX11_covers_72 : decode cX11_covers 72 = .ok (.iconst 1, 1) := by decide +kernel
theorem dX11_covers_73 : decode cX11_covers 73 = .ok (.iaload, 1) := by decide +kernel
theorem dX11_covers_74 : decode cX11_covers 74 = .ok (.if_icmp .ge 79, 3) := by decide +kernel
theorem dX11_covers_77 : decode cX11_covers 77 = .ok (.aload_n 0, 1) := by decide +kernel
theorem dX11_covers_78 : decode cX11_covers 78 = .ok (.getfield 39, 3) := by decide +kernel
theorem dX11_covers_81 : decode cX11_covers 81 = .ok (.iload_n 2, 1) := by decide +kernel
theorem dX11_covers_82 : decode cX11_covers 82 = .ok (.iconst 0, 1) := by decide +kernel
theorem dX11_covers_83 : decode cX11_covers 83 = .ok (.iastore, 1) := by decide +kernel
theorem dX11_covers_84 : decode cX11_covers 84 = .ok (.aload_n 0, 1) := by decide +kernel
theorem dX11_covers_85 : decode cX11_covers 85 = .ok (.iload_n 2, 1) := by decide +kernel
theorem dX11_covers_86 : decode cX11_covers 86 = .ok (.iconst 1, 1) := by decide +kernel
theorem dX11_covers_87 : decode cX11_covers 87 = .ok (.invokevirtual 219, 3) := by decide +kernel
theorem dX11_covers_90 : decode cX11_covers 90 = .ok (.iload_n 1, 1) := by decide +kernel
theorem dX11_covers_91 : decode cX11_covers 91 = .ok (.if_icmp .ne 56, 3) := by decide +kernel
theorem dX11_covers_94 : decode cX11_covers 94 = .ok (.aload_n 0, 1) := by decide +kernel
theorem dX11_covers_95 : decode cX11_covers 95 = .ok (.iload_n 2, 1) := by decide +kernel
theorem dX11_covers_96 : decode cX11_covers 96 = .ok (.bipush 7, 2) := by decide +kernel
theorem dX11_covers_98 : decode cX11_covers 98 = .ok (.invokevirtual 219, 3) := by decide +kernel
theorem dX11_covers_101 : decode cX11_covers 101 = .ok (.ifCond .gt 6, 3) := by decide +kernel
theorem dX11_covers_104 : decode cX11_covers 104 = .ok (.goto 43, 3) := by decide +kernel
theorem dX11_covers_107 : decode cX11_covers 107 = .ok (.aload_n 0, 1) := by decide +kernel
theorem dX11_covers_108 : decode cX11_covers 108 = .ok (.getfield 408, 3) := by decide +kernel
theorem dX11_covers_111 : decode cX11_covers 111 = .ok (.aload_n 0, 1) := by decide +kernel
theorem dX11_covers_112 : decode cX11_covers 112 = .ok (.iload_n 2, 1) := by decide +kernel
theorem dX11_covers_113 : decode cX11_covers 113 = .ok (.bipush 7, 2) := by decide +kernel
theorem dX11_covers_115 : decode cX11_covers 115 = .ok (.invokevirtual 219, 3) := by decide +kernel
theorem dX11_covers_118 : decode cX11_covers 118 = .ok (.invokestatic 46, 3) := by decide +kernel
theorem dX11_covers_121 : decode cX11_covers 121 = .ok (.istore_n 3, 1) := by decide +kernel
theorem dX11_covers_122 : decode cX11_covers 122 = .ok (.aload_n 0, 1) := by decide +kernel
theorem dX11_covers_123 : decode cX11_covers 123 = .ok (.getfield 39, 3) := by decide +kernel
theorem dX11_covers_126 : decode cX11_covers 126 = .ok (.iload_n 2, 1) := by decide +kernel
theorem dX11_covers_127 : decode cX11_covers 127 = .ok (.aload_n 0, 1) := by decide +kernel
theorem dX11_covers_128 : decode cX11_covers 128 = .ok (.iload_n 2, 1) := by decide +kernel
theorem dX11_covers_129 : decode cX11_covers 129 = .ok (.bipush 7, 2) := by decide +kernel
theorem dX11_covers_131 : decode cX11_covers 131 = .ok (.invokevirtual 219, 3) := by decide +kernel
theorem dX11_covers_134 : decode cX11_covers 134 = .ok (.iload_n 3, 1) := by decide +kernel
theorem dX11_covers_135 : decode cX11_covers 135 = .ok (.isub, 1) := by decide +kernel
theorem dX11_covers_136 : decode cX11_covers 136 = .ok (.iastore, 1) := by decide +kernel
theorem dX11_covers_137 : decode cX11_covers 137 = .ok (.aload_n 0, 1) := by decide +kernel
theorem dX11_covers_138 : decode cX11_covers 138 = .ok (.aload_n 0, 1) := by decide +kernel
theorem dX11_covers_139 : decode cX11_covers 139 = .ok (.getfield 408, 3) := by decide +kernel
theorem dX11_covers_142 : decode cX11_covers 142 = .ok (.iload_n 3, 1) := by decide +kernel
theorem dX11_covers_143 : decode cX11_covers 143 = .ok (.isub, 1) := by decide +kernel
theorem dX11_covers_144 : decode cX11_covers 144 = .ok (.putfield 408, 3) := by decide +kernel
theorem dX11_covers_147 : decode cX11_covers 147 = .ok (.iinc 2 1, 3) := by decide +kernel
theorem dX11_covers_150 : decode cX11_covers 150 = .ok (.goto (-83), 3) := by decide +kernel
theorem dX11_covers_153 : decode cX11_covers 153 = .ok (.return_, 1) := by decide +kernel
theorem dX11_lateOn_0 : decode cX11_lateOn 0 = .ok (.aload_n 0, 1) := by decide +kernel
theorem dX11_lateOn_1 : decode cX11_lateOn 1 = .ok (.iload_n 1, 1) := by decide +kernel
theorem dX11_lateOn_2 : decode cX11_lateOn 2 = .ok (.invokevirtual 411, 3) := by decide +kernel
theorem dX11_lateOn_5 : decode cX11_lateOn 5 = .ok (.iconst 0, 1) := by decide +kernel
theorem dX11_lateOn_6 : decode cX11_lateOn 6 = .ok (.istore_n 3, 1) := by decide +kernel
theorem dX11_lateOn_7 : decode cX11_lateOn 7 = .ok (.iconst 0, 1) := by decide +kernel
theorem dX11_lateOn_8 : decode cX11_lateOn 8 = .ok (.istore 4, 2) := by decide +kernel
theorem dX11_lateOn_10 : decode cX11_lateOn 10 = .ok (.iload 4, 2) := by decide +kernel
theorem dX11_lateOn_12 : decode cX11_lateOn 12 = .ok (.aload_n 0, 1) := by decide +kernel
theorem dX11_lateOn_13 : decode cX11_lateOn 13 = .ok (.getfield 13, 3) := by decide +kernel
theorem dX11_lateOn_16 : decode cX11_lateOn 16 = .ok (.iconst 1, 1) := by decide +kernel
theorem dX11_lateOn_17 : decode cX11_lateOn 17 = .ok (.iaload, 1) := by decide +kernel
theorem dX11_lateOn_18 : decode cX11_lateOn 18 = .ok (.if_icmp .ge 44, 3) := by decide +kernel
theorem dX11_lateOn_21 : decode cX11_lateOn 21 = .ok (.aload_n 0, 1) := by decide +kernel
theorem dX11_lateOn_22 : decode cX11_lateOn 22 = .ok (.iload 4, 2) := by decide +kernel
theorem dX11_lateOn_24 : decode cX11_lateOn 24 = .ok (.iconst 1, 1) := by decide +kernel
theorem dX11_lateOn_25 : decode cX11_lateOn 25 = .ok (.invokevirtual 219, 3) := by decide +kernel
theorem dX11_lateOn_28 : decode cX11_lateOn 28 = .ok (.iload_n 1, 1) := by decide +kernel
theorem dX11_lateOn_29 : decode cX11_lateOn 29 = .ok (.if_icmp .ne 27, 3) := by decide +kernel
theorem dX11_lateOn_32 : decode cX11_lateOn 32 = .ok (.aload_n 0, 1) := by decide +kernel
theorem dX11_lateOn_33 : decode cX11_lateOn 33 = .ok (.iload 4, 2) := by decide +kernel
theorem dX11_lateOn_35 : decode cX11_lateOn 35 = .ok (.iconst 2, 1) := by decide +kernel
theorem dX11_lateOn_36 : decode cX11_lateOn 36 = .ok (.invokevirtual 219, 3) := by decide +kernel
theorem dX11_lateOn_39 : decode cX11_lateOn 39 = .ok (.bipush 14, 2) := by decide +kernel
theorem dX11_lateOn_41 : decode cX11_lateOn 41 = .ok (.iadd, 1) := by decide +kernel
theorem dX11_lateOn_42 : decode cX11_lateOn 42 = .ok (.iload_n 2, 1) := by decide +kernel
theorem dX11_lateOn_43 : decode cX11_lateOn 43 = .ok (.if_icmp .ge 13, 3) := by decide +kernel
theorem dX11_lateOn_46 : decode cX11_lateOn 46 = .ok (.iload_n 3, 1) := by decide +kernel
theorem dX11_lateOn_47 : decode cX11_lateOn 47 = .ok (.aload_n 0, 1) := by decide +kernel
theorem dX11_lateOn_48 : decode cX11_lateOn 48 = .ok (.getfield 39, 3) := by decide +kernel
theorem dX11_lateOn_51 : decode cX11_lateOn 51 = .ok (.iload 4, 2) := by decide +kernel
theorem dX11_lateOn_53 : decode cX11_lateOn 53 = .ok (.iaload, 1) := by decide +kernel
theorem dX11_lateOn_54 : decode cX11_lateOn 54 = .ok (.iadd, 1) := by decide +kernel
theorem dX11_lateOn_55 : decode cX11_lateOn 55 = .ok (.istore_n 3, 1) := by decide +kernel
theorem dX11_lateOn_56 : decode cX11_lateOn 56 = .ok (.iinc 4 1, 3) := by decide +kernel
theorem dX11_lateOn_59 : decode cX11_lateOn 59 = .ok (.goto (-49), 3) := by decide +kernel
theorem dX11_lateOn_62 : decode cX11_lateOn 62 = .ok (.iload_n 3, 1) := by decide +kernel
theorem dX11_lateOn_63 : decode cX11_lateOn 63 = .ok (.ireturn, 1) := by decide +kernel
theorem dX11_late_0 : decode cX11_late 0 = .ok (.aload_n 0, 1) := by decide +kernel
theorem dX11_late_1 : decode cX11_late 1 = .ok (.iload_n 1, 1) := by decide +kernel
theorem dX11_late_2 : decode cX11_late 2 = .ok (.invokevirtual 216, 3) := by decide +kernel
theorem dX11_late_5 : decode cX11_late 5 = .ok (.ifCond .eq 28, 3) := by decide +kernel
theorem dX11_late_8 : decode cX11_late 8 = .ok (.iload_n 2, 1) := by decide +kernel
theorem dX11_late_9 : decode cX11_late 9 = .ok (.aload_n 0, 1) := by decide +kernel
theorem dX11_late_10 : decode cX11_late 10 = .ok (.getfield 13, 3) := by decide +kernel
theorem dX11_late_13 : decode cX11_late 13 = .ok (.iconst 0, 1) := by decide +kernel
theorem dX11_late_14 : decode cX11_late 14 = .ok (.iaload, 1) := by decide +kernel
theorem dX11_late_15 : decode cX11_late 15 = .ok (.sipush 3652, 3) := by decide +kernel
theorem dX11_late_18 : decode cX11_late 18 = .ok (.invokestatic 56, 3) := by decide +kernel
theorem dX11_late_21 : decode cX11_late 21 = .ok (.ifCond .eq 12, 3) := by decide +kernel
theorem dX11_late_24 : decode cX11_late 24 = .ok (.aload_n 0, 1) := by decide +kernel
theorem dX11_late_25 : decode cX11_late 25 = .ok (.iload_n 1, 1) := by decide +kernel
theorem dX11_late_26 : decode cX11_late 26 = .ok (.iload_n 2, 1) := by decide +kernel
theorem dX11_late_27 : decode cX11_late 27 = .ok (.invokevirtual 414, 3) := by decide +kernel
theorem dX11_late_30 : decode cX11_late 30 = .ok (.goto 5, 3) := by decide +kernel
theorem dX11_late_33 : decode cX11_late 33 = .ok (.ldc 247, 2) := by decide +kernel
theorem dX11_late_35 : decode cX11_late 35 = .ok (.ireturn, 1) := by decide +kernel
theorem dX11_open_0 : decode cX11_open 0 = .ok (.aload_n 0, 1) := by decide +kernel
theorem dX11_open_1 : decode cX11_open 1 = .ok (.iload_n 1, 1) := by decide +kernel
theorem dX11_open_2 : decode cX11_open 2 = .ok (.invokevirtual 268, 3) := by decide +kernel
theorem dX11_open_5 : decode cX11_open 5 = .ok (.ifCond .ne 6, 3) := by decide +kernel
theorem dX11_open_8 : decode cX11_open 8 = .ok (.ldc 247, 2) := by decide +kernel
theorem dX11_open_10 : decode cX11_open 10 = .ok (.ireturn, 1) := by decide +kernel
theorem dX11_open_11 : decode cX11_open 11 = .ok (.aload_n 0, 1) := by decide +kernel
theorem dX11_open_12 : decode cX11_open 12 = .ok (.aload_n 0, 1) := by decide +kernel
theorem dX11_open_13 : decode cX11_open 13 = .ok (.iload_n 1, 1) := by decide +kernel
theorem dX11_open_14 : decode cX11_open 14 = .ok (.iconst 1, 1) := by decide +kernel
theorem dX11_open_15 : decode cX11_open 15 = .ok (.invokevirtual 219, 3) := by decide +kernel
theorem dX11_open_18 : decode cX11_open 18 = .ok (.invokevirtual 411, 3) := by decide +kernel
theorem dX11_open_21 : decode cX11_open 21 = .ok (.aload_n 0, 1) := by decide +kernel
theorem dX11_open_22 : decode cX11_open 22 = .ok (.getfield 39, 3) := by decide +kernel
theorem dX11_open_25 : decode cX11_open 25 = .ok (.iload_n 1, 1) := by decide +kernel
theorem dX11_open_26 : decode cX11_open 26 = .ok (.iaload, 1) := by decide +kernel
theorem dX11_open_27 : decode cX11_open 27 = .ok (.ireturn, 1) := by decide +kernel
theorem dX11_owes_0 : decode cX11_owes 0 = .ok (.aload_n 0, 1) := by decide +kernel
theorem dX11_owes_1 : decode cX11_owes 1 = .ok (.iload_n 1, 1) := by decide +kernel
theorem dX11_owes_2 : decode cX11_owes 2 = .ok (.invokevirtual 216, 3) := by decide +kernel
theorem dX11_owes_5 : decode cX11_owes 5 = .ok (.ifCond .eq 12, 3) := by decide +kernel
theorem dX11_owes_8 : decode cX11_owes 8 = .ok (.iload_n 2, 1) := by decide +kernel
theorem dX11_owes_9 : decode cX11_owes 9 = .ok (.iconst 0, 1) := by decide +kernel
theorem dX11_owes_10 : decode cX11_owes 10 = .ok (.iconst 3, 1) := by decide +kernel
theorem dX11_owes_11 : decode cX11_owes 11 = .ok (.invokestatic 56, 3) := by decide +kernel
theorem dX11_owes_14 : decode cX11_owes 14 = .ok (.ifCond .ne 5, 3) := by decide +kernel
theorem dX11_owes_17 : decode cX11_owes 17 = .ok (.iconst (-1), 1) := by decide +kernel
theorem dX11_owes_18 : decode cX11_owes 18 = .ok (.ireturn, 1) := by decide +kernel
theorem dX11_owes_19 : decode cX11_owes 19 = .ok (.aload_n 0, 1) := by decide +kernel
theorem dX11_owes_20 : decode cX11_owes 20 = .ok (.iload_n 1, 1) := by decide +kernel
theorem dX11_owes_21 : decode cX11_owes 21 = .ok (.invokevirtual 411, 3) := by decide +kernel
theorem dX11_owes_24 : decode cX11_owes 24 = .ok (.iconst 0, 1) := by decide +kernel
theorem dX11_owes_25 : decode cX11_owes 25 = .ok (.istore_n 3, 1) := by decide +kernel
theorem dX11_owes_26 : decode cX11_owes 26 = .ok (.bipush (-2), 2) := by decide +kernel
theorem dX11_owes_28 : decode cX11_owes 28 = .ok (.istore 4, 2) := by decide +kernel
theorem dX11_owes_30 : decode cX11_owes 30 = .ok (.iconst 0, 1) := by decide +kernel
theorem dX11_owes_31 : decode cX11_owes 31 = .ok (.istore 5, 2) := by decide +kernel
theorem dX11_owes_33 : decode cX11_owes 33 = .ok (.iconst 0, 1) := by decide +kernel
theorem dX11_owes_34 : decode cX11_owes 34 = .ok (.istore 6, 2) := by decide +kernel
theorem dX11_owes_36 : decode cX11_owes 36 = .ok (.iload 6, 2) := by decide +kernel
theorem dX11_owes_38 : decode cX11_owes 38 = .ok (.aload_n 0, 1) := by decide +kernel
theorem dX11_owes_39 : decode cX11_owes 39 = .ok (.getfield 13, 3) := by decide +kernel
theorem dX11_owes_42 : decode cX11_owes 42 = .ok (.iconst 1, 1) := by decide +kernel
theorem dX11_owes_43 : decode cX11_owes 43 = .ok (.iaload, 1) := by decide +kernel
theorem dX11_owes_44 : decode cX11_owes 44 = .ok (.if_icmp .ge 47, 3) := by decide +kernel
theorem dX11_owes_47 : decode cX11_owes 47 = .ok (.aload_n 0, 1) := by decide +kernel
theorem dX11_owes_48 : decode cX11_owes 48 = .ok (.getfield 39, 3) := by decide +kernel
theorem dX11_owes_51 : decode cX11_owes 51 = .ok (.iload 6, 2) := by decide +kernel
theorem dX11_owes_53 : decode cX11_owes 53 = .ok (.iaload, 1) := by decide +kernel
theorem dX11_owes_54 : decode cX11_owes 54 = .ok (.ifCond .ne 6, 3) := by decide +kernel
theorem dX11_owes_57 : decode cX11_owes 57 = .ok (.goto 28, 3) := by decide +kernel
theorem dX11_owes_60 : decode cX11_owes 60 = .ok (.iload_n 3, 1) := by decide +kernel
theorem dX11_owes_61 : decode cX11_owes 61 = .ok (.iconst 1, 1) := by decide +kernel
theorem dX11_owes_62 : decode cX11_owes 62 = .ok (.iadd, 1) := by decide +kernel
theorem dX11_owes_63 : decode cX11_owes 63 = .ok (.istore_n 3, 1) := by decide +kernel
theorem dX11_owes_64 : decode cX11_owes 64 = .ok (.iload 4, 2) := by decide +kernel
theorem dX11_owes_66 : decode cX11_owes 66 = .ok (.ifCond .ge 7, 3) := by decide +kernel
theorem dX11_owes_69 : decode cX11_owes 69 = .ok (.iload 6, 2) := by decide +kernel
theorem dX11_owes_71 : decode cX11_owes 71 = .ok (.istore 4, 2) := by decide +kernel
theorem dX11_owes_73 : decode cX11_owes 73 = .ok (.iload 5, 2) := by decide +kernel
theorem dX11_owes_75 : decode cX11_owes 75 = .ok (.aload_n 0, 1) := by decide +kernel
theorem dX11_owes_76 : decode cX11_owes 76 = .ok (.getfield 39, 3) := by decide +kernel
theorem dX11_owes_79 : decode cX11_owes 79 = .ok (.iload 6, 2) := by decide +kernel
theorem dX11_owes_81 : decode cX11_owes 81 = .ok (.iaload, 1) := by decide +kernel
theorem dX11_owes_82 : decode cX11_owes 82 = .ok (.iadd, 1) := by decide +kernel
theorem dX11_owes_83 : decode cX11_owes 83 = .ok (.istore 5, 2) := by decide +kernel
theorem dX11_owes_85 : decode cX11_owes 85 = .ok (.iinc 6 1, 3) := by decide +kernel
theorem dX11_owes_88 : decode cX11_owes 88 = .ok (.goto (-52), 3) := by decide +kernel
theorem dX11_owes_91 : decode cX11_owes 91 = .ok (.iload_n 2, 1) := by decide +kernel
theorem dX11_owes_92 : decode cX11_owes 92 = .ok (.ifCond .ne 7, 3) := by decide +kernel
theorem dX11_owes_95 : decode cX11_owes 95 = .ok (.iload_n 3, 1) := by decide +kernel
theorem dX11_owes_96 : decode cX11_owes 96 = .ok (.goto 27, 3) := by decide +kernel
theorem dX11_owes_99 : decode cX11_owes 99 = .ok (.iload_n 2, 1) := by decide +kernel
theorem dX11_owes_100 : decode cX11_owes 100 = .ok (.iconst 1, 1) := by decide +kernel
theorem dX11_owes_101 : decode cX11_owes 101 = .ok (.if_icmp .ne 8, 3) := by decide +kernel
theorem dX11_owes_104 : decode cX11_owes 104 = .ok (.iload 4, 2) := by decide +kernel
theorem dX11_owes_106 : decode cX11_owes 106 = .ok (.goto 17, 3) := by decide +kernel
theorem dX11_owes_109 : decode cX11_owes 109 = .ok (.iload_n 2, 1) := by decide +kernel
theorem dX11_owes_110 : decode cX11_owes 110 = .ok (.iconst 2, 1) := by decide +kernel
theorem dX11_owes_111 : decode cX11_owes 111 = .ok (.if_icmp .ne 8, 3) := by decide +kernel
theorem dX11_owes_114 : decode cX11_owes 114 = .ok (.iload 5, 2) := by decide +kernel
theorem dX11_owes_116 : decode cX11_owes 116 = .ok (.goto 7, 3) := by decide +kernel
theorem dX11_owes_119 : decode cX11_owes 119 = .ok (.aload_n 0, 1) := by decide +kernel
theorem dX11_owes_120 : decode cX11_owes 120 = .ok (.getfield 408, 3) := by decide +kernel
theorem dX11_owes_123 : decode cX11_owes 123 = .ok (.ireturn, 1) := by decide +kernel
theorem dX11_isRemindedToday_0 : decode cX11_isRemindedToday 0 = .ok (.iconst 0, 1) := by decide +kernel
theorem dX11_isRemindedToday_1 : decode cX11_isRemindedToday 1 = .ok (.istore_n 2, 1) := by decide +kernel
theorem dX11_isRemindedToday_2 : decode cX11_isRemindedToday 2 = .ok (.iload_n 2, 1) := by decide +kernel
theorem dX11_isRemindedToday_3 : decode cX11_isRemindedToday 3 = .ok (.aload_n 0, 1) := by decide +kernel
theorem dX11_isRemindedToday_4 : decode cX11_isRemindedToday 4 = .ok (.getfield 13, 3) := by decide +kernel
theorem dX11_isRemindedToday_7 : decode cX11_isRemindedToday 7 = .ok (.iconst 1, 1) := by decide +kernel
theorem dX11_isRemindedToday_8 : decode cX11_isRemindedToday 8 = .ok (.iaload, 1) := by decide +kernel
theorem dX11_isRemindedToday_9 : decode cX11_isRemindedToday 9 = .ok (.if_icmp .ge 46, 3) := by decide +kernel
theorem dX11_isRemindedToday_12 : decode cX11_isRemindedToday 12 = .ok (.aload_n 0, 1) := by decide +kernel
theorem dX11_isRemindedToday_13 : decode cX11_isRemindedToday 13 = .ok (.iload_n 2, 1) := by decide +kernel
theorem dX11_isRemindedToday_14 : decode cX11_isRemindedToday 14 = .ok (.iconst 1, 1) := by decide +kernel
theorem dX11_isRemindedToday_15 : decode cX11_isRemindedToday 15 = .ok (.invokevirtual 219, 3) := by decide +kernel
theorem dX11_isRemindedToday_18 : decode cX11_isRemindedToday 18 = .ok (.iload_n 1, 1) := by decide +kernel
theorem dX11_isRemindedToday_19 : decode cX11_isRemindedToday 19 = .ok (.if_icmp .ne 30, 3) := by decide +kernel
theorem dX11_isRemindedToday_22 : decode cX11_isRemindedToday 22 = .ok (.aload_n 0, 1) := by decide +kernel
theorem dX11_isRemindedToday_23 : decode cX11_isRemindedToday 23 = .ok (.iload_n 2, 1) := by decide +kernel
theorem dX11_isRemindedToday_24 : decode cX11_isRemindedToday 24 = .ok (.iconst 0, 1) := by decide +kernel
theorem dX11_isRemindedToday_25 : decode cX11_isRemindedToday 25 = .ok (.invokevirtual 219, 3) := by decide +kernel
theorem dX11_isRemindedToday_28 : decode cX11_isRemindedToday 28 = .ok (.iconst 5, 1) := by decide +kernel
theorem dX11_isRemindedToday_29 : decode cX11_isRemindedToday 29 = .ok (.if_icmp .ne 20, 3) := by decide +kernel
theorem dX11_isRemindedToday_32 : decode cX11_isRemindedToday 32 = .ok (.aload_n 0, 1) := by decide +kernel
theorem dX11_isRemindedToday_33 : decode cX11_isRemindedToday 33 = .ok (.iload_n 2, 1) := by decide +kernel
theorem dX11_isRemindedToday_34 : decode cX11_isRemindedToday 34 = .ok (.iconst 2, 1) := by decide +kernel
theorem dX11_isRemindedToday_35 : decode cX11_isRemindedToday 35 = .ok (.invokevirtual 219, 3) := by decide +kernel
theorem dX11_isRemindedToday_38 : decode cX11_isRemindedToday 38 = .ok (.aload_n 0, 1) := by decide +kernel
theorem dX11_isRemindedToday_39 : decode cX11_isRemindedToday 39 = .ok (.getfield 13, 3) := by decide +kernel
theorem dX11_isRemindedToday_42 : decode cX11_isRemindedToday 42 = .ok (.iconst 0, 1) := by decide +kernel
theorem dX11_isRemindedToday_43 : decode cX11_isRemindedToday 43 = .ok (.iaload, 1) := by decide +kernel
theorem dX11_isRemindedToday_44 : decode cX11_isRemindedToday 44 = .ok (.if_icmp .ne 5, 3) := by decide +kernel
theorem dX11_isRemindedToday_47 : decode cX11_isRemindedToday 47 = .ok (.iconst 1, 1) := by decide +kernel
theorem dX11_isRemindedToday_48 : decode cX11_isRemindedToday 48 = .ok (.ireturn, 1) := by decide +kernel
theorem dX11_isRemindedToday_49 : decode cX11_isRemindedToday 49 = .ok (.iinc 2 1, 3) := by decide +kernel
theorem dX11_isRemindedToday_52 : decode cX11_isRemindedToday 52 = .ok (.goto (-50), 3) := by decide +kernel
theorem dX11_isRemindedToday_55 : decode cX11_isRemindedToday 55 = .ok (.iconst 0, 1) := by decide +kernel
theorem dX11_isRemindedToday_56 : decode cX11_isRemindedToday 56 = .ok (.ireturn, 1) := by decide +kernel
theorem dX11_remind_0 : decode cX11_remind 0 = .ok (.aload_n 0, 1) := by decide +kernel
theorem dX11_remind_1 : decode cX11_remind 1 = .ok (.iload_n 1, 1) := by decide +kernel
theorem dX11_remind_2 : decode cX11_remind 2 = .ok (.invokevirtual 216, 3) := by decide +kernel
theorem dX11_remind_5 : decode cX11_remind 5 = .ok (.ifCond .ne 5, 3) := by decide +kernel
theorem dX11_remind_8 : decode cX11_remind 8 = .ok (.iconst (-1), 1) := by decide +kernel
theorem dX11_remind_9 : decode cX11_remind 9 = .ok (.ireturn, 1) := by decide +kernel
theorem dX11_remind_10 : decode cX11_remind 10 = .ok (.aload_n 0, 1) := by decide +kernel
theorem dX11_remind_11 : decode cX11_remind 11 = .ok (.iload_n 1, 1) := by decide +kernel
theorem dX11_remind_12 : decode cX11_remind 12 = .ok (.aload_n 0, 1) := by decide +kernel
theorem dX11_remind_13 : decode cX11_remind 13 = .ok (.getfield 13, 3) := by decide +kernel
theorem dX11_remind_16 : decode cX11_remind 16 = .ok (.iconst 0, 1) := by decide +kernel
theorem dX11_remind_17 : decode cX11_remind 17 = .ok (.iaload, 1) := by decide +kernel
theorem dX11_remind_18 : decode cX11_remind 18 = .ok (.invokevirtual 414, 3) := by decide +kernel
theorem dX11_remind_21 : decode cX11_remind 21 = .ok (.istore_n 2, 1) := by decide +kernel
theorem dX11_remind_22 : decode cX11_remind 22 = .ok (.iload_n 2, 1) := by decide +kernel
theorem dX11_remind_23 : decode cX11_remind 23 = .ok (.ifCond .ne 6, 3) := by decide +kernel
theorem dX11_remind_26 : decode cX11_remind 26 = .ok (.bipush (-2), 2) := by decide +kernel
theorem dX11_remind_28 : decode cX11_remind 28 = .ok (.ireturn, 1) := by decide +kernel
theorem dX11_remind_29 : decode cX11_remind 29 = .ok (.aload_n 0, 1) := by decide +kernel
theorem dX11_remind_30 : decode cX11_remind 30 = .ok (.getfield 13, 3) := by decide +kernel
theorem dX11_remind_33 : decode cX11_remind 33 = .ok (.iconst 1, 1) := by decide +kernel
theorem dX11_remind_34 : decode cX11_remind 34 = .ok (.iaload, 1) := by decide +kernel
theorem dX11_remind_35 : decode cX11_remind 35 = .ok (.sipush 400, 3) := by decide +kernel
theorem dX11_remind_38 : decode cX11_remind 38 = .ok (.if_icmp .ne 6, 3) := by decide +kernel
theorem dX11_remind_41 : decode cX11_remind 41 = .ok (.bipush (-3), 2) := by decide +kernel
theorem dX11_remind_43 : decode cX11_remind 43 = .ok (.ireturn, 1) := by decide +kernel
theorem dX11_remind_44 : decode cX11_remind 44 = .ok (.aload_n 0, 1) := by decide +kernel
theorem dX11_remind_45 : decode cX11_remind 45 = .ok (.iload_n 1, 1) := by decide +kernel
theorem dX11_remind_46 : decode cX11_remind 46 = .ok (.invokevirtual 417, 3) := by decide +kernel
theorem dX11_remind_49 : decode cX11_remind 49 = .ok (.ifCond .eq 6, 3) := by decide +kernel
theorem dX11_remind_52 : decode cX11_remind 52 = .ok (.bipush (-4), 2) := by decide +kernel
theorem dX11_remind_54 : decode cX11_remind 54 = .ok (.ireturn, 1) := by decide +kernel
theorem dX11_remind_55 : decode cX11_remind 55 = .ok (.aload_n 0, 1) := by decide +kernel
theorem dX11_remind_56 : decode cX11_remind 56 = .ok (.iconst 5, 1) := by decide +kernel
theorem dX11_remind_57 : decode cX11_remind 57 = .ok (.iload_n 1, 1) := by decide +kernel
theorem dX11_remind_58 : decode cX11_remind 58 = .ok (.aload_n 0, 1) := by decide +kernel
theorem dX11_remind_59 : decode cX11_remind 59 = .ok (.getfield 13, 3) := by decide +kernel
theorem dX11_remind_62 : decode cX11_remind 62 = .ok (.iconst 0, 1) := by decide +kernel
theorem dX11_remind_63 : decode cX11_remind 63 = .ok (.iaload, 1) := by decide +kernel
theorem dX11_remind_64 : decode cX11_remind 64 = .ok (.aload_n 0, 1) := by decide +kernel
theorem dX11_remind_65 : decode cX11_remind 65 = .ok (.getfield 13, 3) := by decide +kernel
theorem dX11_remind_68 : decode cX11_remind 68 = .ok (.iconst 0, 1) := by decide +kernel
theorem dX11_remind_69 : decode cX11_remind 69 = .ok (.iaload, 1) := by decide +kernel
theorem dX11_remind_70 : decode cX11_remind 70 = .ok (.ldc 193, 2) := by decide +kernel
theorem dX11_remind_72 : decode cX11_remind 72 = .ok (.iload_n 2, 1) := by decide +kernel
theorem dX11_remind_73 : decode cX11_remind 73 = .ok (.i2l, 1) := by decide +kernel
theorem dX11_remind_74 : decode cX11_remind 74 = .ok (.aload_n 0, 1) := by decide +kernel
theorem dX11_remind_75 : decode cX11_remind 75 = .ok (.getfield 13, 3) := by decide +kernel
theorem dX11_remind_78 : decode cX11_remind 78 = .ok (.iconst 5, 1) := by decide +kernel
theorem dX11_remind_79 : decode cX11_remind 79 = .ok (.iaload, 1) := by decide +kernel
theorem dX11_remind_80 : decode cX11_remind 80 = .ok (.i2l, 1) := by decide +kernel
theorem dX11_remind_81 : decode cX11_remind 81 = .ok (.lmul, 1) := by decide +kernel
theorem dX11_remind_82 : decode cX11_remind 82 = .ok (.ldc2_w 420, 3) := by decide +kernel
theorem dX11_remind_85 : decode cX11_remind 85 = .ok (.ldiv, 1) := by decide +kernel
theorem dX11_remind_86 : decode cX11_remind 86 = .ok (.l2i, 1) := by decide +kernel
theorem dX11_remind_87 : decode cX11_remind 87 = .ok (.invokestatic 46, 3) := by decide +kernel
theorem dX11_remind_90 : decode cX11_remind 90 = .ok (.invokevirtual 229, 3) := by decide +kernel
theorem dX11_remind_93 : decode cX11_remind 93 = .ok (.ireturn, 1) := by decide +kernel
theorem dX11_earnedOf_0 : decode cX11_earnedOf 0 = .ok (.aload_n 0, 1) := by decide +kernel
theorem dX11_earnedOf_1 : decode cX11_earnedOf 1 = .ok (.iload_n 1, 1) := by decide +kernel
theorem dX11_earnedOf_2 : decode cX11_earnedOf 2 = .ok (.iconst 4, 1) := by decide +kernel
theorem dX11_earnedOf_3 : decode cX11_earnedOf 3 = .ok (.invokevirtual 219, 3) := by decide +kernel
theorem dX11_earnedOf_6 : decode cX11_earnedOf 6 = .ok (.istore_n 3, 1) := by decide +kernel
theorem dX11_earnedOf_7 : decode cX11_earnedOf 7 = .ok (.aload_n 0, 1) := by decide +kernel
theorem dX11_earnedOf_8 : decode cX11_earnedOf 8 = .ok (.iload_n 1, 1) := by decide +kernel
theorem dX11_earnedOf_9 : decode cX11_earnedOf 9 = .ok (.iconst 5, 1) := by decide +kernel
theorem dX11_earnedOf_10 : decode cX11_earnedOf 10 = .ok (.invokevirtual 219, 3) := by decide +kernel
theorem dX11_earnedOf_13 : decode cX11_earnedOf 13 = .ok (.iload_n 3, 1) := by decide +kernel
theorem dX11_earnedOf_14 : decode cX11_earnedOf 14 = .ok (.isub, 1) := by decide +kernel
theorem dX11_earnedOf_15 : decode cX11_earnedOf 15 = .ok (.istore 4, 2) := by decide +kernel
theorem dX11_earnedOf_17 : decode cX11_earnedOf 17 = .ok (.aload_n 0, 1) := by decide +kernel
theorem dX11_earnedOf_18 : decode cX11_earnedOf 18 = .ok (.iload_n 1, 1) := by decide +kernel
theorem dX11_earnedOf_19 : decode cX11_earnedOf 19 = .ok (.iconst 0, 1) := by decide +kernel
theorem dX11_earnedOf_20 : decode cX11_earnedOf 20 = .ok (.invokevirtual 219, 3) := by decide +kernel
theorem dX11_earnedOf_23 : decode cX11_earnedOf 23 = .ok (.iconst 1, 1) := by decide +kernel
theorem dX11_earnedOf_24 : decode cX11_earnedOf 24 = .ok (.if_icmp .gt 8, 3) := by decide +kernel
theorem dX11_earnedOf_27 : decode cX11_earnedOf 27 = .ok (.iload 4, 2) := by decide +kernel
theorem dX11_earnedOf_29 : decode cX11_earnedOf 29 = .ok (.ifCond .ne 25, 3) := by decide +kernel
theorem dX11_earnedOf_32 : decode cX11_earnedOf 32 = .ok (.aload_n 0, 1) := by decide +kernel
theorem dX11_earnedOf_33 : decode cX11_earnedOf 33 = .ok (.iload_n 1, 1) := by decide +kernel
theorem dX11_earnedOf_34 : decode cX11_earnedOf 34 = .ok (.iconst 2, 1) := by decide +kernel
theorem dX11_earnedOf_35 : decode cX11_earnedOf 35 = .ok (.invokevirtual 219, 3) := by decide +kernel
theorem dX11_earnedOf_38 : decode cX11_earnedOf 38 = .ok (.iload_n 2, 1) := by decide +kernel
theorem dX11_earnedOf_39 : decode cX11_earnedOf 39 = .ok (.if_icmp .ge 13, 3) := by decide +kernel
theorem dX11_earnedOf_42 : decode cX11_earnedOf 42 = .ok (.aload_n 0, 1) := by decide +kernel
theorem dX11_earnedOf_43 : decode cX11_earnedOf 43 = .ok (.iload_n 1, 1) := by decide +kernel
theorem dX11_earnedOf_44 : decode cX11_earnedOf 44 = .ok (.bipush 7, 2) := by decide +kernel
theorem dX11_earnedOf_46 : decode cX11_earnedOf 46 = .ok (.invokevirtual 219, 3) := by decide +kernel
theorem dX11_earnedOf_49 : decode cX11_earnedOf 49 = .ok (.goto 4, 3) := by decide +kernel
theorem dX11_earnedOf_52 : decode cX11_earnedOf 52 = .ok (.iconst 0, 1) := by decide +kernel
theorem dX11_earnedOf_53 : decode cX11_earnedOf 53 = .ok (.ireturn, 1) := by decide +kernel
theorem dX11_earnedOf_54 : decode cX11_earnedOf 54 = .ok (.aload_n 0, 1) := by decide +kernel
theorem dX11_earnedOf_55 : decode cX11_earnedOf 55 = .ok (.iload_n 1, 1) := by decide +kernel
theorem dX11_earnedOf_56 : decode cX11_earnedOf 56 = .ok (.bipush 7, 2) := by decide +kernel
theorem dX11_earnedOf_58 : decode cX11_earnedOf 58 = .ok (.invokevirtual 219, 3) := by decide +kernel
theorem dX11_earnedOf_61 : decode cX11_earnedOf 61 = .ok (.i2l, 1) := by decide +kernel
theorem dX11_earnedOf_62 : decode cX11_earnedOf 62 = .ok (.iconst 0, 1) := by decide +kernel
theorem dX11_earnedOf_63 : decode cX11_earnedOf 63 = .ok (.iload 4, 2) := by decide +kernel
theorem dX11_earnedOf_65 : decode cX11_earnedOf 65 = .ok (.iload_n 2, 1) := by decide +kernel
theorem dX11_earnedOf_66 : decode cX11_earnedOf 66 = .ok (.iload_n 3, 1) := by decide +kernel
theorem dX11_earnedOf_67 : decode cX11_earnedOf 67 = .ok (.isub, 1) := by decide +kernel
theorem dX11_earnedOf_68 : decode cX11_earnedOf 68 = .ok (.invokestatic 46, 3) := by decide +kernel
theorem dX11_earnedOf_71 : decode cX11_earnedOf 71 = .ok (.invokestatic 203, 3) := by decide +kernel
theorem dX11_earnedOf_74 : decode cX11_earnedOf 74 = .ok (.i2l, 1) := by decide +kernel
theorem dX11_earnedOf_75 : decode cX11_earnedOf 75 = .ok (.lmul, 1) := by decide +kernel
theorem dX11_earnedOf_76 : decode cX11_earnedOf 76 = .ok (.iload 4, 2) := by decide +kernel
theorem dX11_earnedOf_78 : decode cX11_earnedOf 78 = .ok (.i2l, 1) := by decide +kernel
theorem dX11_earnedOf_79 : decode cX11_earnedOf 79 = .ok (.ldiv, 1) := by decide +kernel
theorem dX11_earnedOf_80 : decode cX11_earnedOf 80 = .ok (.l2i, 1) := by decide +kernel
theorem dX11_earnedOf_81 : decode cX11_earnedOf 81 = .ok (.ireturn, 1) := by decide +kernel
theorem dX11_earned_0 : decode cX11_earned 0 = .ok (.aload_n 0, 1) := by decide +kernel
theorem dX11_earned_1 : decode cX11_earned 1 = .ok (.iload_n 1, 1) := by decide +kernel
theorem dX11_earned_2 : decode cX11_earned 2 = .ok (.invokevirtual 216, 3) := by decide +kernel
theorem dX11_earned_5 : decode cX11_earned 5 = .ok (.ifCond .eq 14, 3) := by decide +kernel
theorem dX11_earned_8 : decode cX11_earned 8 = .ok (.iload_n 2, 1) := by decide +kernel
theorem dX11_earned_9 : decode cX11_earned 9 = .ok (.iconst 0, 1) := by decide +kernel
theorem dX11_earned_10 : decode cX11_earned 10 = .ok (.sipush 3653, 3) := by decide +kernel
theorem dX11_earned_13 : decode cX11_earned 13 = .ok (.invokestatic 56, 3) := by decide +kernel
theorem dX11_earned_16 : decode cX11_earned 16 = .ok (.ifCond .ne 6, 3) := by decide +kernel
theorem dX11_earned_19 : decode cX11_earned 19 = .ok (.ldc 247, 2) := by decide +kernel
theorem dX11_earned_21 : decode cX11_earned 21 = .ok (.ireturn, 1) := by decide +kernel
theorem dX11_earned_22 : decode cX11_earned 22 = .ok (.iconst 0, 1) := by decide +kernel
theorem dX11_earned_23 : decode cX11_earned 23 = .ok (.istore_n 3, 1) := by decide +kernel
theorem dX11_earned_24 : decode cX11_earned 24 = .ok (.iconst 0, 1) := by decide +kernel
theorem dX11_earned_25 : decode cX11_earned 25 = .ok (.istore 4, 2) := by decide +kernel
theorem dX11_earned_27 : decode cX11_earned 27 = .ok (.iload 4, 2) := by decide +kernel
theorem dX11_earned_29 : decode cX11_earned 29 = .ok (.aload_n 0, 1) := by decide +kernel
theorem dX11_earned_30 : decode cX11_earned 30 = .ok (.getfield 13, 3) := by decide +kernel
theorem dX11_earned_33 : decode cX11_earned 33 = .ok (.iconst 1, 1) := by decide +kernel
theorem dX11_earned_34 : decode cX11_earned 34 = .ok (.iaload, 1) := by decide +kernel
theorem dX11_earned_35 : decode cX11_earned 35 = .ok (.if_icmp .ge 30, 3) := by decide +kernel
theorem dX11_earned_38 : decode cX11_earned 38 = .ok (.aload_n 0, 1) := by decide +kernel
theorem dX11_earned_39 : decode cX11_earned 39 = .ok (.iload 4, 2) := by decide +kernel
theorem dX11_earned_41 : decode cX11_earned 41 = .ok (.iconst 1, 1) := by decide +kernel
theorem dX11_earned_42 : decode cX11_earned 42 = .ok (.invokevirtual 219, 3) := by decide +kernel
theorem dX11_earned_45 : decode cX11_earned 45 = .ok (.iload_n 1, 1) := by decide +kernel
theorem dX11_earned_46 : decode cX11_earned 46 = .ok (.if_icmp .ne 13, 3) := by decide +kernel
theorem dX11_earned_49 : decode cX11_earned 49 = .ok (.iload_n 3, 1) := by decide +kernel
theorem dX11_earned_50 : decode cX11_earned 50 = .ok (.aload_n 0, 1) := by decide +kernel
theorem dX11_earned_51 : decode cX11_earned 51 = .ok (.iload 4, 2) := by decide +kernel
theorem dX11_earned_53 : decode cX11_earned 53 = .ok (.iload_n 2, 1) := by decide +kernel
theorem dX11_earned_54 : decode cX11_earned 54 = .ok (.invokevirtual 422, 3) := by decide +kernel
theorem dX11_earned_57 : decode cX11_earned 57 = .ok (.iadd, 1) := by decide +kernel
theorem dX11_earned_58 : decode cX11_earned 58 = .ok (.istore_n 3, 1) := by decide +kernel
theorem dX11_earned_59 : decode cX11_earned 59 = .ok (.iinc 4 1, 3) := by decide +kernel
theorem dX11_earned_62 : decode cX11_earned 62 = .ok (.goto (-35), 3) := by decide +kernel
theorem dX11_earned_65 : decode cX11_earned 65 = .ok (.iload_n 3, 1) := by decide +kernel
theorem dX11_earned_66 : decode cX11_earned 66 = .ok (.ireturn, 1) := by decide +kernel
theorem dX11_written_0 : decode cX11_written 0 = .ok (.iload_n 1, 1) := by decide +kernel
theorem dX11_written_1 : decode cX11_written 1 = .ok (.invokestatic 64, 3) := by decide +kernel
theorem dX11_written_4 : decode cX11_written 4 = .ok (.ifCond .eq 15, 3) := by decide +kernel
theorem dX11_written_7 : decode cX11_written 7 = .ok (.iload_n 2, 1) := by decide +kernel
theorem dX11_written_8 : decode cX11_written 8 = .ok (.invokestatic 64, 3) := by decide +kernel
theorem dX11_written_11 : decode cX11_written 11 = .ok (.ifCond .eq 8, 3) := by decide +kernel
theorem dX11_written_14 : decode cX11_written 14 = .ok (.iload_n 1, 1) := by decide +kernel
theorem dX11_written_15 : decode cX11_written 15 = .ok (.iload_n 2, 1) := by decide +kernel
theorem dX11_written_16 : decode cX11_written 16 = .ok (.if_icmp .le 6, 3) := by decide +kernel
theorem dX11_written_19 : decode cX11_written 19 = .ok (.ldc 247, 2) := by decide +kernel
theorem dX11_written_21 : decode cX11_written 21 = .ok (.ireturn, 1) := by decide +kernel
theorem dX11_written_22 : decode cX11_written 22 = .ok (.iconst 0, 1) := by decide +kernel
theorem dX11_written_23 : decode cX11_written 23 = .ok (.istore_n 3, 1) := by decide +kernel
theorem dX11_written_24 : decode cX11_written 24 = .ok (.iconst 0, 1) := by decide +kernel
theorem dX11_written_25 : decode cX11_written 25 = .ok (.istore 4, 2) := by decide +kernel
theorem dX11_written_27 : decode cX11_written 27 = .ok (.iload 4, 2) := by decide +kernel
theorem dX11_written_29 : decode cX11_written 29 = .ok (.aload_n 0, 1) := by decide +kernel
theorem dX11_written_30 : decode cX11_written 30 = .ok (.getfield 13, 3) := by decide +kernel
theorem dX11_written_33 : decode cX11_written 33 = .ok (.iconst 1, 1) := by decide +kernel
theorem dX11_written_34 : decode cX11_written 34 = .ok (.iaload, 1) := by decide +kernel
theorem dX11_written_35 : decode cX11_written 35 = .ok (.if_icmp .ge 35, 3) := by decide +kernel
theorem dX11_written_38 : decode cX11_written 38 = .ok (.aload_n 0, 1) := by decide +kernel
theorem dX11_written_39 : decode cX11_written 39 = .ok (.iload 4, 2) := by decide +kernel
theorem dX11_written_41 : decode cX11_written 41 = .ok (.iconst 2, 1) := by decide +kernel
theorem dX11_written_42 : decode cX11_written 42 = .ok (.invokevirtual 219, 3) := by decide +kernel
theorem dX11_written_45 : decode cX11_written 45 = .ok (.iload_n 1, 1) := by decide +kernel
theorem dX11_written_46 : decode cX11_written 46 = .ok (.iload_n 2, 1) := by decide +kernel
theorem dX11_written_47 : decode cX11_written 47 = .ok (.invokestatic 56, 3) := by decide +kernel
theorem dX11_written_50 : decode cX11_written 50 = .ok (.ifCond .eq 14, 3) := by decide +kernel
theorem dX11_written_53 : decode cX11_written 53 = .ok (.iload_n 3, 1) := by decide +kernel
theorem dX11_written_54 : decode cX11_written 54 = .ok (.aload_n 0, 1) := by decide +kernel
theorem dX11_written_55 : decode cX11_written 55 = .ok (.iload 4, 2) := by decide +kernel
theorem dX11_written_57 : decode cX11_written 57 = .ok (.bipush 7, 2) := by decide +kernel
theorem dX11_written_59 : decode cX11_written 59 = .ok (.invokevirtual 219, 3) := by decide +kernel
theorem dX11_written_62 : decode cX11_written 62 = .ok (.iadd, 1) := by decide +kernel
theorem dX11_written_63 : decode cX11_written 63 = .ok (.istore_n 3, 1) := by decide +kernel
theorem dX11_written_64 : decode cX11_written 64 = .ok (.iinc 4 1, 3) := by decide +kernel
theorem dX11_written_67 : decode cX11_written 67 = .ok (.goto (-40), 3) := by decide +kernel
theorem dX11_written_70 : decode cX11_written 70 = .ok (.iload_n 3, 1) := by decide +kernel
theorem dX11_written_71 : decode cX11_written 71 = .ok (.ireturn, 1) := by decide +kernel
theorem dX11_rateOn_0 : decode cX11_rateOn 0 = .ok (.iconst 0, 1) := by decide +kernel
theorem dX11_rateOn_1 : decode cX11_rateOn 1 = .ok (.istore_n 2, 1) := by decide +kernel
theorem dX11_rateOn_2 : decode cX11_rateOn 2 = .ok (.iconst 0, 1) := by decide +kernel
theorem dX11_rateOn_3 : decode cX11_rateOn 3 = .ok (.istore_n 3, 1) := by decide +kernel
theorem dX11_rateOn_4 : decode cX11_rateOn 4 = .ok (.iload_n 3, 1) := by decide +kernel
theorem dX11_rateOn_5 : decode cX11_rateOn 5 = .ok (.aload_n 0, 1) := by decide +kernel
theorem dX11_rateOn_6 : decode cX11_rateOn 6 = .ok (.getfield 13, 3) := by decide +kernel
theorem dX11_rateOn_9 : decode cX11_rateOn 9 = .ok (.bipush 6, 2) := by decide +kernel
theorem dX11_rateOn_11 : decode cX11_rateOn 11 = .ok (.iaload, 1) := by decide +kernel
theorem dX11_rateOn_12 : decode cX11_rateOn 12 = .ok (.if_icmp .ge 32, 3) := by decide +kernel
theorem dX11_rateOn_15 : decode cX11_rateOn 15 = .ok (.aload_n 0, 1) := by decide +kernel
theorem dX11_rateOn_16 : decode cX11_rateOn 16 = .ok (.getfield 13, 3) := by decide +kernel
theorem dX11_rateOn_19 : decode cX11_rateOn 19 = .ok (.bipush 7, 2) := by decide +kernel
theorem dX11_rateOn_21 : decode cX11_rateOn 21 = .ok (.iload_n 3, 1) := by decide +kernel
theorem dX11_rateOn_22 : decode cX11_rateOn 22 = .ok (.iadd, 1) := by decide +kernel
theorem dX11_rateOn_23 : decode cX11_rateOn 23 = .ok (.iaload, 1) := by decide +kernel
theorem dX11_rateOn_24 : decode cX11_rateOn 24 = .ok (.iload_n 1, 1) := by decide +kernel
theorem dX11_rateOn_25 : decode cX11_rateOn 25 = .ok (.if_icmp .gt 13, 3) := by decide +kernel
theorem dX11_rateOn_28 : decode cX11_rateOn 28 = .ok (.aload_n 0, 1) := by decide +kernel
theorem dX11_rateOn_29 : decode cX11_rateOn 29 = .ok (.getfield 13, 3) := by decide +kernel
theorem dX11_rateOn_32 : decode cX11_rateOn 32 = .ok (.bipush 11, 2) := by decide +kernel
theorem dX11_rateOn_34 : decode cX11_rateOn 34 = .ok (.iload_n 3, 1) := by decide +kernel
theorem dX11_rateOn_35 : decode cX11_rateOn 35 = .ok (.iadd, 1) := by decide +kernel
theorem dX11_rateOn_36 : decode cX11_rateOn 36 = .ok (.iaload, 1) := by decide +kernel
theorem dX11_rateOn_37 : decode cX11_rateOn 37 = .ok (.istore_n 2, 1) := by decide +kernel
theorem dX11_rateOn_38 : decode cX11_rateOn 38 = .ok (.iinc 3 1, 3) := by decide +kernel
theorem dX11_rateOn_41 : decode cX11_rateOn 41 = .ok (.goto (-37), 3) := by decide +kernel
theorem dX11_rateOn_44 : decode cX11_rateOn 44 = .ok (.iload_n 2, 1) := by decide +kernel
theorem dX11_rateOn_45 : decode cX11_rateOn 45 = .ok (.ireturn, 1) := by decide +kernel
theorem dX11_taxAhead_0 : decode cX11_taxAhead 0 = .ok (.lconst 0, 1) := by decide +kernel
theorem dX11_taxAhead_1 : decode cX11_taxAhead 1 = .ok (.lstore 4, 2) := by decide +kernel
theorem dX11_taxAhead_3 : decode cX11_taxAhead 3 = .ok (.iconst 0, 1) := by decide +kernel
theorem dX11_taxAhead_4 : decode cX11_taxAhead 4 = .ok (.istore 6, 2) := by decide +kernel
theorem dX11_taxAhead_6 : decode cX11_taxAhead 6 = .ok (.iload 6, 2) := by decide +kernel
theorem dX11_taxAhead_8 : decode cX11_taxAhead 8 = .ok (.iload_n 3, 1) := by decide +kernel
theorem dX11_taxAhead_9 : decode cX11_taxAhead 9 = .ok (.if_icmp .ge 49, 3) := by decide +kernel
theorem dX11_taxAhead_12 : decode cX11_taxAhead 12 = .ok (.aload_n 0, 1) := by decide +kernel
theorem dX11_taxAhead_13 : decode cX11_taxAhead 13 = .ok (.iload 6, 2) := by decide +kernel
theorem dX11_taxAhead_15 : decode cX11_taxAhead 15 = .ok (.iconst 1, 1) := by decide +kernel
theorem dX11_taxAhead_16 : decode cX11_taxAhead 16 = .ok (.invokevirtual 219, 3) := by decide +kernel
theorem dX11_taxAhead_19 : decode cX11_taxAhead 19 = .ok (.iload_n 1, 1) := by decide +kernel
theorem dX11_taxAhead_20 : decode cX11_taxAhead 20 = .ok (.if_icmp .ne 32, 3) := by decide +kernel
theorem dX11_taxAhead_23 : decode cX11_taxAhead 23 = .ok (.aload_n 0, 1) := by decide +kernel
theorem dX11_taxAhead_24 : decode cX11_taxAhead 24 = .ok (.aload_n 0, 1) := by decide +kernel
theorem dX11_taxAhead_25 : decode cX11_taxAhead 25 = .ok (.iload 6, 2) := by decide +kernel
theorem dX11_taxAhead_27 : decode cX11_taxAhead 27 = .ok (.iconst 2, 1) := by decide +kernel
theorem dX11_taxAhead_28 : decode cX11_taxAhead 28 = .ok (.invokevirtual 219, 3) := by decide +kernel
theorem dX11_taxAhead_31 : decode cX11_taxAhead 31 = .ok (.invokevirtual 425, 3) := by decide +kernel
theorem dX11_taxAhead_34 : decode cX11_taxAhead 34 = .ok (.iload_n 2, 1) := by decide +kernel
theorem dX11_taxAhead_35 : decode cX11_taxAhead 35 = .ok (.if_icmp .ne 17, 3) := by decide +kernel
theorem dX11_taxAhead_38 : decode cX11_taxAhead 38 = .ok (.lload 4, 2) := by decide +kernel
theorem dX11_taxAhead_40 : decode cX11_taxAhead 40 = .ok (.aload_n 0, 1) := by decide +kernel
theorem dX11_taxAhead_41 : decode cX11_taxAhead 41 = .ok (.iload 6, 2) := by decide +kernel
theorem dX11_taxAhead_43 : decode cX11_taxAhead 43 = .ok (.bipush 7, 2) := by decide +kernel
theorem dX11_taxAhead_45 : decode cX11_taxAhead 45 = .ok (.invokevirtual 219, 3) := by decide +kernel
theorem dX11_taxAhead_48 : decode cX11_taxAhead 48 = .ok (.i2l, 1) := by decide +kernel
theorem dX11_taxAhead_49 : decode cX11_taxAhead 49 = .ok (.ladd, 1) := by decide +kernel
theorem dX11_taxAhead_50 : decode cX11_taxAhead 50 = .ok (.lstore 4, 2) := by decide +kernel
theorem dX11_taxAhead_52 : decode cX11_taxAhead 52 = .ok (.iinc 6 1, 3) := by decide +kernel
theorem dX11_taxAhead_55 : decode cX11_taxAhead 55 = .ok (.goto (-49), 3) := by decide +kernel
theorem dX11_taxAhead_58 : decode cX11_taxAhead 58 = .ok (.lload 4, 2) := by decide +kernel
theorem dX11_taxAhead_60 : decode cX11_taxAhead 60 = .ok (.iload_n 2, 1) := by decide +kernel
theorem dX11_taxAhead_61 : decode cX11_taxAhead 61 = .ok (.i2l, 1) := by decide +kernel
theorem dX11_taxAhead_62 : decode cX11_taxAhead 62 = .ok (.lmul, 1) := by decide +kernel
theorem dX11_taxAhead_63 : decode cX11_taxAhead 63 = .ok (.ldc2_w 420, 3) := by decide +kernel
theorem dX11_taxAhead_66 : decode cX11_taxAhead 66 = .ok (.ldiv, 1) := by decide +kernel
theorem dX11_taxAhead_67 : decode cX11_taxAhead 67 = .ok (.l2i, 1) := by decide +kernel
theorem dX11_taxAhead_68 : decode cX11_taxAhead 68 = .ok (.ireturn, 1) := by decide +kernel
theorem dX11_tax_0 : decode cX11_tax 0 = .ok (.aload_n 0, 1) := by decide +kernel
theorem dX11_tax_1 : decode cX11_tax 1 = .ok (.iload_n 1, 1) := by decide +kernel
theorem dX11_tax_2 : decode cX11_tax 2 = .ok (.invokevirtual 268, 3) := by decide +kernel
theorem dX11_tax_5 : decode cX11_tax 5 = .ok (.ifCond .ne 6, 3) := by decide +kernel
theorem dX11_tax_8 : decode cX11_tax 8 = .ok (.ldc 247, 2) := by decide +kernel
theorem dX11_tax_10 : decode cX11_tax 10 = .ok (.ireturn, 1) := by decide +kernel
theorem dX11_tax_11 : decode cX11_tax 11 = .ok (.aload_n 0, 1) := by decide +kernel
theorem dX11_tax_12 : decode cX11_tax 12 = .ok (.iload_n 1, 1) := by decide +kernel
theorem dX11_tax_13 : decode cX11_tax 13 = .ok (.iconst 1, 1) := by decide +kernel
theorem dX11_tax_14 : decode cX11_tax 14 = .ok (.invokevirtual 219, 3) := by decide +kernel
theorem dX11_tax_17 : decode cX11_tax 17 = .ok (.istore_n 2, 1) := by decide +kernel
theorem dX11_tax_18 : decode cX11_tax 18 = .ok (.aload_n 0, 1) := by decide +kernel
theorem dX11_tax_19 : decode cX11_tax 19 = .ok (.aload_n 0, 1) := by decide +kernel
theorem dX11_tax_20 : decode cX11_tax 20 = .ok (.iload_n 1, 1) := by decide +kernel
theorem dX11_tax_21 : decode cX11_tax 21 = .ok (.iconst 2, 1) := by decide +kernel
theorem dX11_tax_22 : decode cX11_tax 22 = .ok (.invokevirtual 219, 3) := by decide +kernel
theorem dX11_tax_25 : decode cX11_tax 25 = .ok (.invokevirtual 425, 3) := by decide +kernel
theorem dX11_tax_28 : decode cX11_tax 28 = .ok (.istore_n 3, 1) := by decide +kernel
theorem dX11_tax_29 : decode cX11_tax 29 = .ok (.aload_n 0, 1) := by decide +kernel
theorem dX11_tax_30 : decode cX11_tax 30 = .ok (.iload_n 2, 1) := by decide +kernel
theorem dX11_tax_31 : decode cX11_tax 31 = .ok (.iload_n 3, 1) := by decide +kernel
theorem dX11_tax_32 : decode cX11_tax 32 = .ok (.iload_n 1, 1) := by decide +kernel
theorem dX11_tax_33 : decode cX11_tax 33 = .ok (.iconst 1, 1) := by decide +kernel
theorem dX11_tax_34 : decode cX11_tax 34 = .ok (.iadd, 1) := by decide +kernel
theorem dX11_tax_35 : decode cX11_tax 35 = .ok (.invokevirtual 428, 3) := by decide +kernel
theorem dX11_tax_38 : decode cX11_tax 38 = .ok (.aload_n 0, 1) := by decide +kernel
theorem dX11_tax_39 : decode cX11_tax 39 = .ok (.iload_n 2, 1) := by decide +kernel
theorem dX11_tax_40 : decode cX11_tax 40 = .ok (.iload_n 3, 1) := by decide +kernel
theorem dX11_tax_41 : decode cX11_tax 41 = .ok (.iload_n 1, 1) := by decide +kernel
theorem dX11_tax_42 : decode cX11_tax 42 = .ok (.invokevirtual 428, 3) := by decide +kernel
theorem dX11_tax_45 : decode cX11_tax 45 = .ok (.isub, 1) := by decide +kernel
theorem dX11_tax_46 : decode cX11_tax 46 = .ok (.ireturn, 1) := by decide +kernel
theorem dX11_taxes_0 : decode cX11_taxes 0 = .ok (.aload_n 0, 1) := by decide +kernel
theorem dX11_taxes_1 : decode cX11_taxes 1 = .ok (.iload_n 1, 1) := by decide +kernel
theorem dX11_taxes_2 : decode cX11_taxes 2 = .ok (.invokevirtual 216, 3) := by decide +kernel
theorem dX11_taxes_5 : decode cX11_taxes 5 = .ok (.ifCond .eq 28, 3) := by decide +kernel
theorem dX11_taxes_8 : decode cX11_taxes 8 = .ok (.iload_n 2, 1) := by decide +kernel
theorem dX11_taxes_9 : decode cX11_taxes 9 = .ok (.iconst 0, 1) := by decide +kernel
theorem dX11_taxes_10 : decode cX11_taxes 10 = .ok (.bipush 100, 2) := by decide +kernel
theorem dX11_taxes_12 : decode cX11_taxes 12 = .ok (.invokestatic 56, 3) := by decide +kernel
theorem dX11_taxes_15 : decode cX11_taxes 15 = .ok (.ifCond .eq 18, 3) := by decide +kernel
theorem dX11_taxes_18 : decode cX11_taxes 18 = .ok (.aload_n 0, 1) := by decide +kernel
theorem dX11_taxes_19 : decode cX11_taxes 19 = .ok (.iload_n 1, 1) := by decide +kernel
theorem dX11_taxes_20 : decode cX11_taxes 20 = .ok (.iload_n 2, 1) := by decide +kernel
theorem dX11_taxes_21 : decode cX11_taxes 21 = .ok (.aload_n 0, 1) := by decide +kernel
theorem dX11_taxes_22 : decode cX11_taxes 22 = .ok (.getfield 13, 3) := by decide +kernel
theorem dX11_taxes_25 : decode cX11_taxes 25 = .ok (.iconst 1, 1) := by decide +kernel
theorem dX11_taxes_26 : decode cX11_taxes 26 = .ok (.iaload, 1) := by decide +kernel
theorem dX11_taxes_27 : decode cX11_taxes 27 = .ok (.invokevirtual 428, 3) := by decide +kernel
theorem dX11_taxes_30 : decode cX11_taxes 30 = .ok (.goto 5, 3) := by decide +kernel
theorem dX11_taxes_33 : decode cX11_taxes 33 = .ok (.ldc 247, 2) := by decide +kernel
theorem dX11_taxes_35 : decode cX11_taxes 35 = .ok (.ireturn, 1) := by decide +kernel
theorem dX11_quoteOf_0 : decode cX11_quoteOf 0 = .ok (.iload_n 2, 1) := by decide +kernel
theorem dX11_quoteOf_1 : decode cX11_quoteOf 1 = .ok (.aload_n 0, 1) := by decide +kernel
theorem dX11_quoteOf_2 : decode cX11_quoteOf 2 = .ok (.iload_n 1, 1) := by decide +kernel
theorem dX11_quoteOf_3 : decode cX11_quoteOf 3 = .ok (.iconst 1, 1) := by decide +kernel
theorem dX11_quoteOf_4 : decode cX11_quoteOf 4 = .ok (.invokevirtual 213, 3) := by decide +kernel
theorem dX11_quoteOf_7 : decode cX11_quoteOf 7 = .ok (.if_icmp .ne 7, 3) := by decide +kernel
theorem dX11_quoteOf_10 : decode cX11_quoteOf 10 = .ok (.iconst 0, 1) := by decide +kernel
theorem dX11_quoteOf_11 : decode cX11_quoteOf 11 = .ok (.goto 23, 3) := by decide +kernel
theorem dX11_quoteOf_14 : decode cX11_quoteOf 14 = .ok (.aload_n 0, 1) := by decide +kernel
theorem dX11_quoteOf_15 : decode cX11_quoteOf 15 = .ok (.iload_n 1, 1) := by decide +kernel
theorem dX11_quoteOf_16 : decode cX11_quoteOf 16 = .ok (.iload_n 2, 1) := by decide +kernel
theorem dX11_quoteOf_17 : decode cX11_quoteOf 17 = .ok (.iload_n 3, 1) := by decide +kernel
theorem dX11_quoteOf_18 : decode cX11_quoteOf 18 = .ok (.invokevirtual 225, 3) := by decide +kernel
theorem dX11_quoteOf_21 : decode cX11_quoteOf 21 = .ok (.aload_n 0, 1) := by decide +kernel
theorem dX11_quoteOf_22 : decode cX11_quoteOf 22 = .ok (.iload_n 1, 1) := by decide +kernel
theorem dX11_quoteOf_23 : decode cX11_quoteOf 23 = .ok (.aload_n 0, 1) := by decide +kernel
theorem dX11_quoteOf_24 : decode cX11_quoteOf 24 = .ok (.iload_n 1, 1) := by decide +kernel
theorem dX11_quoteOf_25 : decode cX11_quoteOf 25 = .ok (.iconst 1, 1) := by decide +kernel
theorem dX11_quoteOf_26 : decode cX11_quoteOf 26 = .ok (.invokevirtual 213, 3) := by decide +kernel
theorem dX11_quoteOf_29 : decode cX11_quoteOf 29 = .ok (.iload_n 3, 1) := by decide +kernel
theorem dX11_quoteOf_30 : decode cX11_quoteOf 30 = .ok (.invokevirtual 225, 3) := by decide +kernel
theorem dX11_quoteOf_33 : decode cX11_quoteOf 33 = .ok (.isub, 1) := by decide +kernel
theorem dX11_quoteOf_34 : decode cX11_quoteOf 34 = .ok (.ireturn, 1) := by decide +kernel
theorem dX11_quote_0 : decode cX11_quote 0 = .ok (.aload_n 0, 1) := by decide +kernel
theorem dX11_quote_1 : decode cX11_quote 1 = .ok (.iload_n 1, 1) := by decide +kernel
theorem dX11_quote_2 : decode cX11_quote 2 = .ok (.invokevirtual 244, 3) := by decide +kernel
theorem dX11_quote_5 : decode cX11_quote 5 = .ok (.ifCond .eq 31, 3) := by decide +kernel
theorem dX11_quote_8 : decode cX11_quote 8 = .ok (.iload_n 2, 1) := by decide +kernel
theorem dX11_quote_9 : decode cX11_quote 9 = .ok (.invokestatic 197, 3) := by decide +kernel
theorem dX11_quote_12 : decode cX11_quote 12 = .ok (.ifCond .eq 24, 3) := by decide +kernel
theorem dX11_quote_15 : decode cX11_quote 15 = .ok (.iload_n 3, 1) := by decide +kernel
theorem dX11_quote_16 : decode cX11_quote 16 = .ok (.aload_n 0, 1) := by decide +kernel
theorem dX11_quote_17 : decode cX11_quote 17 = .ok (.getfield 13, 3) := by decide +kernel
theorem dX11_quote_20 : decode cX11_quote 20 = .ok (.iconst 0, 1) := by decide +kernel
theorem dX11_quote_21 : decode cX11_quote 21 = .ok (.iaload, 1) := by decide +kernel
theorem dX11_quote_22 : decode cX11_quote 22 = .ok (.aload_n 0, 1) := by decide +kernel
theorem dX11_quote_23 : decode cX11_quote 23 = .ok (.iload_n 1, 1) := by decide +kernel
theorem dX11_quote_24 : decode cX11_quote 24 = .ok (.iconst 5, 1) := by decide +kernel
theorem dX11_quote_25 : decode cX11_quote 25 = .ok (.invokevirtual 213, 3) := by decide +kernel
theorem dX11_quote_28 : decode cX11_quote 28 = .ok (.iconst 1, 1) := by decide +kernel
theorem dX11_quote_29 : decode cX11_quote 29 = .ok (.isub, 1) := by decide +kernel
theorem dX11_quote_30 : decode cX11_quote 30 = .ok (.invokestatic 56, 3) := by decide +kernel
theorem dX11_quote_33 : decode cX11_quote 33 = .ok (.ifCond .ne 6, 3) := by decide +kernel
theorem dX11_quote_36 : decode cX11_quote 36 = .ok (.ldc 247, 2) := by decide +kernel
theorem dX11_quote_38 : decode cX11_quote 38 = .ok (.ireturn, 1) := by decide +kernel
theorem dX11_quote_39 : decode cX11_quote 39 = .ok (.aload_n 0, 1) := by decide +kernel
theorem dX11_quote_40 : decode cX11_quote 40 = .ok (.iload_n 1, 1) := by decide +kernel
theorem dX11_quote_41 : decode cX11_quote 41 = .ok (.iload_n 2, 1) := by decide +kernel
theorem dX11_quote_42 : decode cX11_quote 42 = .ok (.iload_n 3, 1) := by decide +kernel
theorem dX11_quote_43 : decode cX11_quote 43 = .ok (.invokevirtual 431, 3) := by decide +kernel
theorem dX11_quote_46 : decode cX11_quote 46 = .ok (.ireturn, 1) := by decide +kernel
theorem dX11_best_0 : decode cX11_best 0 = .ok (.aload_n 0, 1) := by decide +kernel
theorem dX11_best_1 : decode cX11_best 1 = .ok (.iload_n 1, 1) := by decide +kernel
theorem dX11_best_2 : decode cX11_best 2 = .ok (.invokevirtual 244, 3) := by decide +kernel
theorem dX11_best_5 : decode cX11_best 5 = .ok (.ifCond .eq 19, 3) := by decide +kernel
theorem dX11_best_8 : decode cX11_best 8 = .ok (.iload_n 2, 1) := by decide +kernel
theorem dX11_best_9 : decode cX11_best 9 = .ok (.invokestatic 197, 3) := by decide +kernel
theorem dX11_best_12 : decode cX11_best 12 = .ok (.ifCond .eq 12, 3) := by decide +kernel
theorem dX11_best_15 : decode cX11_best 15 = .ok (.iload_n 3, 1) := by decide +kernel
theorem dX11_best_16 : decode cX11_best 16 = .ok (.iconst 0, 1) := by decide +kernel
theorem dX11_best_17 : decode cX11_best 17 = .ok (.iconst 2, 1) := by decide +kernel
theorem dX11_best_18 : decode cX11_best 18 = .ok (.invokestatic 56, 3) := by decide +kernel
theorem dX11_best_21 : decode cX11_best 21 = .ok (.ifCond .ne 6, 3) := by decide +kernel
theorem dX11_best_24 : decode cX11_best 24 = .ok (.ldc 247, 2) := by decide +kernel
theorem dX11_best_26 : decode cX11_best 26 = .ok (.ireturn, 1) := by decide +kernel
theorem dX11_best_27 : decode cX11_best 27 = .ok (.aload_n 0, 1) := by decide +kernel
theorem dX11_best_28 : decode cX11_best 28 = .ok (.getfield 13, 3) := by decide +kernel
theorem dX11_best_31 : decode cX11_best 31 = .ok (.iconst 0, 1) := by decide +kernel
theorem dX11_best_32 : decode cX11_best 32 = .ok (.iaload, 1) := by decide +kernel
theorem dX11_best_33 : decode cX11_best 33 = .ok (.istore 4, 2) := by decide +kernel
theorem dX11_best_35 : decode cX11_best 35 = .ok (.iload 4, 2) := by decide +kernel
theorem dX11_best_37 : decode cX11_best 37 = .ok (.iconst 1, 1) := by decide +kernel
theorem dX11_best_38 : decode cX11_best 38 = .ok (.iadd, 1) := by decide +kernel
theorem dX11_best_39 : decode cX11_best 39 = .ok (.istore 5, 2) := by decide +kernel
theorem dX11_best_41 : decode cX11_best 41 = .ok (.iload 5, 2) := by decide +kernel
theorem dX11_best_43 : decode cX11_best 43 = .ok (.aload_n 0, 1) := by decide +kernel
theorem dX11_best_44 : decode cX11_best 44 = .ok (.iload_n 1, 1) := by decide +kernel
theorem dX11_best_45 : decode cX11_best 45 = .ok (.iconst 5, 1) := by decide +kernel
theorem dX11_best_46 : decode cX11_best 46 = .ok (.invokevirtual 213, 3) := by decide +kernel
theorem dX11_best_49 : decode cX11_best 49 = .ok (.if_icmp .ge 32, 3) := by decide +kernel
theorem dX11_best_52 : decode cX11_best 52 = .ok (.aload_n 0, 1) := by decide +kernel
theorem dX11_best_53 : decode cX11_best 53 = .ok (.iload_n 1, 1) := by decide +kernel
theorem dX11_best_54 : decode cX11_best 54 = .ok (.iload_n 2, 1) := by decide +kernel
theorem dX11_best_55 : decode cX11_best 55 = .ok (.iload 5, 2) := by decide +kernel
theorem dX11_best_57 : decode cX11_best 57 = .ok (.invokevirtual 431, 3) := by decide +kernel
theorem dX11_best_60 : decode cX11_best 60 = .ok (.aload_n 0, 1) := by decide +kernel
theorem dX11_best_61 : decode cX11_best 61 = .ok (.iload_n 1, 1) := by decide +kernel
theorem dX11_best_62 : decode cX11_best 62 = .ok (.iload_n 2, 1) := by decide +kernel
theorem dX11_best_63 : decode cX11_best 63 = .ok (.iload 4, 2) := by decide +kernel
theorem dX11_best_65 : decode cX11_best 65 = .ok (.invokevirtual 431, 3) := by decide +kernel
theorem dX11_best_68 : decode cX11_best 68 = .ok (.if_icmp .ge 7, 3) := by decide +kernel
theorem dX11_best_71 : decode cX11_best 71 = .ok (.iload 5, 2) := by decide +kernel
theorem dX11_best_73 : decode cX11_best 73 = .ok (.istore 4, 2) := by decide +kernel
theorem dX11_best_75 : decode cX11_best 75 = .ok (.iinc 5 1, 3) := by decide +kernel
theorem dX11_best_78 : decode cX11_best 78 = .ok (.goto (-37), 3) := by decide +kernel
theorem dX11_best_81 : decode cX11_best 81 = .ok (.iconst 0, 1) := by decide +kernel
theorem dX11_best_82 : decode cX11_best 82 = .ok (.istore 5, 2) := by decide +kernel
theorem dX11_best_84 : decode cX11_best 84 = .ok (.iconst 1, 1) := by decide +kernel
theorem dX11_best_85 : decode cX11_best 85 = .ok (.istore 6, 2) := by decide +kernel
theorem dX11_best_87 : decode cX11_best 87 = .ok (.iload 6, 2) := by decide +kernel
theorem dX11_best_89 : decode cX11_best 89 = .ok (.bipush 6, 2) := by decide +kernel
theorem dX11_best_91 : decode cX11_best 91 = .ok (.if_icmp .ge 42, 3) := by decide +kernel
theorem dX11_best_94 : decode cX11_best 94 = .ok (.aload_n 0, 1) := by decide +kernel
theorem dX11_best_95 : decode cX11_best 95 = .ok (.iload_n 1, 1) := by decide +kernel
theorem dX11_best_96 : decode cX11_best 96 = .ok (.iload 6, 2) := by decide +kernel
theorem dX11_best_98 : decode cX11_best 98 = .ok (.aload_n 0, 1) := by decide +kernel
theorem dX11_best_99 : decode cX11_best 99 = .ok (.getfield 13, 3) := by decide +kernel
theorem dX11_best_102 : decode cX11_best 102 = .ok (.iconst 0, 1) := by decide +kernel
theorem dX11_best_103 : decode cX11_best 103 = .ok (.iaload, 1) := by decide +kernel
theorem dX11_best_104 : decode cX11_best 104 = .ok (.invokevirtual 431, 3) := by decide +kernel
theorem dX11_best_107 : decode cX11_best 107 = .ok (.aload_n 0, 1) := by decide +kernel
theorem dX11_best_108 : decode cX11_best 108 = .ok (.iload_n 1, 1) := by decide +kernel
theorem dX11_best_109 : decode cX11_best 109 = .ok (.iload 5, 2) := by decide +kernel
theorem dX11_best_111 : decode cX11_best 111 = .ok (.aload_n 0, 1) := by decide +kernel
theorem dX11_best_112 : decode cX11_best 112 = .ok (.getfield 13, 3) := by decide +kernel
theorem dX11_best_115 : decode cX11_best 115 = .ok (.iconst 0, 1) := by decide +kernel
theorem dX11_best_116 : decode cX11_best 116 = .ok (.iaload, 1) := by decide +kernel
theorem dX11_best_117 : decode cX11_best 117 = .ok (.invokevirtual 431, 3) := by decide +kernel
theorem dX11_best_120 : decode cX11_best 120 = .ok (.if_icmp .ge 7, 3) := by decide +kernel
theorem dX11_best_123 : decode cX11_best 123 = .ok (.iload 6, 2) := by decide +kernel
theorem dX11_best_125 : decode cX11_best 125 = .ok (.istore 5, 2) := by decide +kernel
theorem dX11_best_127 : decode cX11_best 127 = .ok (.iinc 6 1, 3) := by decide +kernel
theorem dX11_best_130 : decode cX11_best 130 = .ok (.goto (-43), 3) := by decide +kernel
theorem dX11_best_133 : decode cX11_best 133 = .ok (.iload_n 3, 1) := by decide +kernel
theorem dX11_best_134 : decode cX11_best 134 = .ok (.ifCond .ne 8, 3) := by decide +kernel
theorem dX11_best_137 : decode cX11_best 137 = .ok (.iload 4, 2) := by decide +kernel
theorem dX11_best_139 : decode cX11_best 139 = .ok (.goto 21, 3) := by decide +kernel
theorem dX11_best_142 : decode cX11_best 142 = .ok (.iload_n 3, 1) := by decide +kernel
theorem dX11_best_143 : decode cX11_best 143 = .ok (.iconst 1, 1) := by decide +kernel
theorem dX11_best_144 : decode cX11_best 144 = .ok (.if_icmp .ne 14, 3) := by decide +kernel
theorem dX11_best_147 : decode cX11_best 147 = .ok (.aload_n 0, 1) := by decide +kernel
theorem dX11_best_148 : decode cX11_best 148 = .ok (.iload_n 1, 1) := by decide +kernel
theorem dX11_best_149 : decode cX11_best 149 = .ok (.iload_n 2, 1) := by decide +kernel
theorem dX11_best_150 : decode cX11_best 150 = .ok (.iload 4, 2) := by decide +kernel
theorem dX11_best_152 : decode cX11_best 152 = .ok (.invokevirtual 431, 3) := by decide +kernel
theorem dX11_best_155 : decode cX11_best 155 = .ok (.goto 5, 3) := by decide +kernel
theorem dX11_best_158 : decode cX11_best 158 = .ok (.iload 5, 2) := by decide +kernel
theorem dX11_best_160 : decode cX11_best 160 = .ok (.ireturn, 1) := by decide +kernel
theorem dX11_ahead_0 : decode cX11_ahead 0 = .ok (.aload_n 0, 1) := by decide +kernel
theorem dX11_ahead_1 : decode cX11_ahead 1 = .ok (.iload_n 1, 1) := by decide +kernel
theorem dX11_ahead_2 : decode cX11_ahead 2 = .ok (.invokevirtual 216, 3) := by decide +kernel
theorem dX11_ahead_5 : decode cX11_ahead 5 = .ok (.ifCond .eq 14, 3) := by decide +kernel
theorem dX11_ahead_8 : decode cX11_ahead 8 = .ok (.iload_n 2, 1) := by decide +kernel
theorem dX11_ahead_9 : decode cX11_ahead 9 = .ok (.iconst 0, 1) := by decide +kernel
theorem dX11_ahead_10 : decode cX11_ahead 10 = .ok (.sipush 400, 3) := by decide +kernel
theorem dX11_ahead_13 : decode cX11_ahead 13 = .ok (.invokestatic 56, 3) := by decide +kernel
theorem dX11_ahead_16 : decode cX11_ahead 16 = .ok (.ifCond .ne 6, 3) := by decide +kernel
theorem dX11_ahead_19 : decode cX11_ahead 19 = .ok (.ldc 247, 2) := by decide +kernel
theorem dX11_ahead_21 : decode cX11_ahead 21 = .ok (.ireturn, 1) := by decide +kernel
theorem dX11_ahead_22 : decode cX11_ahead 22 = .ok (.aload_n 0, 1) := by decide +kernel
theorem dX11_ahead_23 : decode cX11_ahead 23 = .ok (.iconst 0, 1) := by decide +kernel
theorem dX11_ahead_24 : decode cX11_ahead 24 = .ok (.iconst 2, 1) := by decide +kernel
theorem dX11_ahead_25 : decode cX11_ahead 25 = .ok (.invokevirtual 361, 3) := by decide +kernel
theorem dX11_ahead_28 : decode cX11_ahead 28 = .ok (.aload_n 0, 1) := by decide +kernel
theorem dX11_ahead_29 : decode cX11_ahead 29 = .ok (.iload_n 2, 1) := by decide +kernel
theorem dX11_ahead_30 : decode cX11_ahead 30 = .ok (.invokevirtual 262, 3) := by decide +kernel
theorem dX11_ahead_33 : decode cX11_ahead 33 = .ok (.pop, 1) := by decide +kernel
theorem dX11_ahead_34 : decode cX11_ahead 34 = .ok (.aload_n 0, 1) := by decide +kernel
theorem dX11_ahead_35 : decode cX11_ahead 35 = .ok (.iload_n 1, 1) := by decide +kernel
theorem dX11_ahead_36 : decode cX11_ahead 36 = .ok (.invokevirtual 265, 3) := by decide +kernel
theorem dX11_ahead_39 : decode cX11_ahead 39 = .ok (.istore_n 3, 1) := by decide +kernel
theorem dX11_ahead_40 : decode cX11_ahead 40 = .ok (.aload_n 0, 1) := by decide +kernel
theorem dX11_ahead_41 : decode cX11_ahead 41 = .ok (.iconst 2, 1) := by decide +kernel
theorem dX11_ahead_42 : decode cX11_ahead 42 = .ok (.iconst 0, 1) := by decide +kernel
theorem dX11_ahead_43 : decode cX11_ahead 43 = .ok (.invokevirtual 361, 3) := by decide +kernel
theorem dX11_ahead_46 : decode cX11_ahead 46 = .ok (.iload_n 3, 1) := by decide +kernel
theorem dX11_ahead_47 : decode cX11_ahead 47 = .ok (.ireturn, 1) := by decide +kernel
theorem dX11_when_0 : decode cX11_when 0 = .ok (.aload_n 0, 1) := by decide +kernel
theorem dX11_when_1 : decode cX11_when 1 = .ok (.iload_n 1, 1) := by decide +kernel
theorem dX11_when_2 : decode cX11_when 2 = .ok (.invokevirtual 216, 3) := by decide +kernel
theorem dX11_when_5 : decode cX11_when 5 = .ok (.ifCond .ne 5, 3) := by decide +kernel
theorem dX11_when_8 : decode cX11_when 8 = .ok (.iconst (-1), 1) := by decide +kernel
theorem dX11_when_9 : decode cX11_when 9 = .ok (.ireturn, 1) := by decide +kernel
theorem dX11_when_10 : decode cX11_when 10 = .ok (.aload_n 0, 1) := by decide +kernel
theorem dX11_when_11 : decode cX11_when 11 = .ok (.iconst 0, 1) := by decide +kernel
theorem dX11_when_12 : decode cX11_when 12 = .ok (.iconst 2, 1) := by decide +kernel
theorem dX11_when_13 : decode cX11_when 13 = .ok (.invokevirtual 361, 3) := by decide +kernel
theorem dX11_when_16 : decode cX11_when 16 = .ok (.iconst 0, 1) := by decide +kernel
theorem dX11_when_17 : decode cX11_when 17 = .ok (.istore_n 3, 1) := by decide +kernel
theorem dX11_when_18 : decode cX11_when 18 = .ok (.iconst 1, 1) := by decide +kernel
theorem dX11_when_19 : decode cX11_when 19 = .ok (.istore 4, 2) := by decide +kernel
theorem dX11_when_21 : decode cX11_when 21 = .ok (.iload 4, 2) := by decide +kernel
theorem dX11_when_23 : decode cX11_when 23 = .ok (.ifCond .eq 47, 3) := by decide +kernel
theorem dX11_when_26 : decode cX11_when 26 = .ok (.iload_n 3, 1) := by decide +kernel
theorem dX11_when_27 : decode cX11_when 27 = .ok (.sipush 400, 3) := by decide +kernel
theorem dX11_when_30 : decode cX11_when 30 = .ok (.if_icmp .ge 40, 3) := by decide +kernel
theorem dX11_when_33 : decode cX11_when 33 = .ok (.aload_n 0, 1) := by decide +kernel
theorem dX11_when_34 : decode cX11_when 34 = .ok (.iload_n 1, 1) := by decide +kernel
theorem dX11_when_35 : decode cX11_when 35 = .ok (.invokevirtual 265, 3) := by decide +kernel
theorem dX11_when_38 : decode cX11_when 38 = .ok (.iload_n 2, 1) := by decide +kernel
theorem dX11_when_39 : decode cX11_when 39 = .ok (.if_icmp .ge 31, 3) := by decide +kernel
theorem dX11_when_42 : decode cX11_when 42 = .ok (.aload_n 0, 1) := by decide +kernel
theorem dX11_when_43 : decode cX11_when 43 = .ok (.iconst 1, 1) := by decide +kernel
theorem dX11_when_44 : decode cX11_when 44 = .ok (.invokevirtual 262, 3) := by decide +kernel
theorem dX11_when_47 : decode cX11_when 47 = .ok (.iconst 1, 1) := by decide +kernel
theorem dX11_when_48 : decode cX11_when 48 = .ok (.if_icmp .ne 7, 3) := by decide +kernel
theorem dX11_when_51 : decode cX11_when 51 = .ok (.iconst 1, 1) := by decide +kernel
theorem dX11_when_52 : decode cX11_when 52 = .ok (.goto 4, 3) := by decide +kernel
theorem dX11_when_55 : decode cX11_when 55 = .ok (.iconst 0, 1) := by decide +kernel
theorem dX11_when_56 : decode cX11_when 56 = .ok (.istore 4, 2) := by decide +kernel
theorem dX11_when_58 : decode cX11_when 58 = .ok (.iload 4, 2) := by decide +kernel
theorem dX11_when_60 : decode cX11_when 60 = .ok (.ifCond .eq (-39), 3) := by decide +kernel
theorem dX11_when_63 : decode cX11_when 63 = .ok (.iload_n 3, 1) := by decide +kernel
theorem dX11_when_64 : decode cX11_when 64 = .ok (.iconst 1, 1) := by decide +kernel
theorem dX11_when_65 : decode cX11_when 65 = .ok (.iadd, 1) := by decide +kernel
theorem dX11_when_66 : decode cX11_when 66 = .ok (.istore_n 3, 1) := by decide +kernel
theorem dX11_when_67 : decode cX11_when 67 = .ok (.goto (-46), 3) := by decide +kernel
theorem dX11_when_70 : decode cX11_when 70 = .ok (.aload_n 0, 1) := by decide +kernel
theorem dX11_when_71 : decode cX11_when 71 = .ok (.iload_n 1, 1) := by decide +kernel
theorem dX11_when_72 : decode cX11_when 72 = .ok (.invokevirtual 265, 3) := by decide +kernel
theorem dX11_when_75 : decode cX11_when 75 = .ok (.iload_n 2, 1) := by decide +kernel
theorem dX11_when_76 : decode cX11_when 76 = .ok (.if_icmp .lt 7, 3) := by decide +kernel
theorem dX11_when_79 : decode cX11_when 79 = .ok (.iload_n 3, 1) := by decide +kernel
theorem dX11_when_80 : decode cX11_when 80 = .ok (.goto 5, 3) := by decide +kernel
theorem dX11_when_83 : decode cX11_when 83 = .ok (.bipush (-2), 2) := by decide +kernel
theorem dX11_when_85 : decode cX11_when 85 = .ok (.istore 5, 2) := by decide +kernel
theorem dX11_when_87 : decode cX11_when 87 = .ok (.aload_n 0, 1) := by decide +kernel
theorem dX11_when_88 : decode cX11_when 88 = .ok (.iconst 2, 1) := by decide +kernel
theorem dX11_when_89 : decode cX11_when 89 = .ok (.iconst 0, 1) := by decide +kernel
theorem dX11_when_90 : decode cX11_when 90 = .ok (.invokevirtual 361, 3) := by decide +kernel
theorem dX11_when_93 : decode cX11_when 93 = .ok (.iload 5, 2) := by decide +kernel
theorem dX11_when_95 : decode cX11_when 95 = .ok (.ireturn, 1) := by decide +kernel
theorem dX11_keep_0 : decode cX11_keep 0 = .ok (.aload_n 0, 1) := by decide +kernel
theorem dX11_keep_1 : decode cX11_keep 1 = .ok (.iconst 1, 1) := by decide +kernel
theorem dX11_keep_2 : decode cX11_keep 2 = .ok (.putfield 434, 3) := by decide +kernel
theorem dX11_keep_5 : decode cX11_keep 5 = .ok (.aload_n 0, 1) := by decide +kernel
theorem dX11_keep_6 : decode cX11_keep 6 = .ok (.iconst 0, 1) := by decide +kernel
theorem dX11_keep_7 : decode cX11_keep 7 = .ok (.iconst 1, 1) := by decide +kernel
theorem dX11_keep_8 : decode cX11_keep 8 = .ok (.invokevirtual 361, 3) := by decide +kernel
theorem dX11_keep_11 : decode cX11_keep 11 = .ok (.aload_n 0, 1) := by decide +kernel
theorem dX11_keep_12 : decode cX11_keep 12 = .ok (.getfield 13, 3) := by decide +kernel
theorem dX11_keep_15 : decode cX11_keep 15 = .ok (.iconst 1, 1) := by decide +kernel
theorem dX11_keep_16 : decode cX11_keep 16 = .ok (.iaload, 1) := by decide +kernel
theorem dX11_keep_17 : decode cX11_keep 17 = .ok (.ireturn, 1) := by decide +kernel
theorem dX11_undo_0 : decode cX11_undo 0 = .ok (.aload_n 0, 1) := by decide +kernel
theorem dX11_undo_1 : decode cX11_undo 1 = .ok (.getfield 434, 3) := by decide +kernel
theorem dX11_undo_4 : decode cX11_undo 4 = .ok (.ifCond .ne 5, 3) := by decide +kernel
theorem dX11_undo_7 : decode cX11_undo 7 = .ok (.iconst 0, 1) := by decide +kernel
theorem dX11_undo_8 : decode cX11_undo 8 = .ok (.ireturn, 1) := by decide +kernel
theorem dX11_undo_9 : decode cX11_undo 9 = .ok (.aload_n 0, 1) := by decide +kernel
theorem dX11_undo_10 : decode cX11_undo 10 = .ok (.iconst 1, 1) := by decide +kernel
theorem dX11_undo_11 : decode cX11_undo 11 = .ok (.iconst 0, 1) := by decide +kernel
theorem dX11_undo_12 : decode cX11_undo 12 = .ok (.invokevirtual 361, 3) := by decide +kernel
theorem dX11_undo_15 : decode cX11_undo 15 = .ok (.iconst 1, 1) := by decide +kernel
theorem dX11_undo_16 : decode cX11_undo 16 = .ok (.ireturn, 1) := by decide +kernel
theorem dX11_check_0 : decode cX11_check 0 = .ok (.iload_n 1, 1) := by decide +kernel
theorem dX11_check_1 : decode cX11_check 1 = .ok (.iconst 0, 1) := by decide +kernel
theorem dX11_check_2 : decode cX11_check 2 = .ok (.sipush 400, 3) := by decide +kernel
theorem dX11_check_5 : decode cX11_check 5 = .ok (.invokestatic 56, 3) := by decide +kernel
theorem dX11_check_8 : decode cX11_check 8 = .ok (.ifCond .eq 11, 3) := by decide +kernel
theorem dX11_check_11 : decode cX11_check 11 = .ok (.iload_n 1, 1) := by decide +kernel
theorem dX11_check_12 : decode cX11_check 12 = .ok (.aload_n 0, 1) := by decide +kernel
theorem dX11_check_13 : decode cX11_check 13 = .ok (.getfield 84, 3) := by decide +kernel
theorem dX11_check_16 : decode cX11_check 16 = .ok (.if_icmp .le 6, 3) := by decide +kernel
theorem dX11_check_19 : decode cX11_check 19 = .ok (.bipush (-2), 2) := by decide +kernel
theorem dX11_check_21 : decode cX11_check 21 = .ok (.ireturn, 1) := by decide +kernel
theorem dX11_check_22 : decode cX11_check 22 = .ok (.iconst (-1), 1) := by decide +kernel
theorem dX11_check_23 : decode cX11_check 23 = .ok (.istore_n 2, 1) := by decide +kernel
theorem dX11_check_24 : decode cX11_check 24 = .ok (.iload_n 1, 1) := by decide +kernel
theorem dX11_check_25 : decode cX11_check 25 = .ok (.iconst 1, 1) := by decide +kernel
theorem dX11_check_26 : decode cX11_check 26 = .ok (.isub, 1) := by decide +kernel
theorem dX11_check_27 : decode cX11_check 27 = .ok (.istore_n 3, 1) := by decide +kernel
theorem dX11_check_28 : decode cX11_check 28 = .ok (.iload_n 3, 1) := by decide +kernel
theorem dX11_check_29 : decode cX11_check 29 = .ok (.ifCond .lt 45, 3) := by decide +kernel
theorem dX11_check_32 : decode cX11_check 32 = .ok (.iload_n 3, 1) := by decide +kernel
theorem dX11_check_33 : decode cX11_check 33 = .ok (.aload_n 0, 1) := by decide +kernel
theorem dX11_check_34 : decode cX11_check 34 = .ok (.getfield 13, 3) := by decide +kernel
theorem dX11_check_37 : decode cX11_check 37 = .ok (.iconst 1, 1) := by decide +kernel
theorem dX11_check_38 : decode cX11_check 38 = .ok (.iaload, 1) := by decide +kernel
theorem dX11_check_39 : decode cX11_check 39 = .ok (.if_icmp .ge 27, 3) := by decide +kernel
theorem dX11_check_42 : decode cX11_check 42 = .ok (.aload_n 0, 1) := by decide +kernel
theorem dX11_check_43 : decode cX11_check 43 = .ok (.getfield 16, 3) := by decide +kernel
theorem dX11_check_46 : decode cX11_check 46 = .ok (.iload_n 3, 1) := by decide +kernel
theorem dX11_check_47 : decode cX11_check 47 = .ok (.baload, 1) := by decide +kernel
theorem dX11_check_48 : decode cX11_check 48 = .ok (.sipush 255, 3) := by decide +kernel
theorem dX11_check_51 : decode cX11_check 51 = .ok (.iand, 1) := by decide +kernel
theorem dX11_check_52 : decode cX11_check 52 = .ok (.aload_n 0, 1) := by decide +kernel
theorem dX11_check_53 : decode cX11_check 53 = .ok (.iload_n 3, 1) := by decide +kernel
theorem dX11_check_54 : decode cX11_check 54 = .ok (.bipush 7, 2) := by decide +kernel
theorem dX11_check_56 : decode cX11_check 56 = .ok (.invokevirtual 219, 3) := by decide +kernel
theorem dX11_check_59 : decode cX11_check 59 = .ok (.sipush 255, 3) := by decide +kernel
theorem dX11_check_62 : decode cX11_check 62 = .ok (.iand, 1) := by decide +kernel
theorem dX11_check_63 : decode cX11_check 63 = .ok (.if_icmp .eq 5, 3) := by decide +kernel
theorem dX11_check_66 : decode cX11_check 66 = .ok (.iload_n 3, 1) := by decide +kernel
theorem dX11_check_67 : decode cX11_check 67 = .ok (.istore_n 2, 1) := by decide +kernel
theorem dX11_check_68 : decode cX11_check 68 = .ok (.iinc 3 (-1), 3) := by decide +kernel
theorem dX11_check_71 : decode cX11_check 71 = .ok (.goto (-43), 3) := by decide +kernel
theorem dX11_check_74 : decode cX11_check 74 = .ok (.aload_n 0, 1) := by decide +kernel
theorem dX11_check_75 : decode cX11_check 75 = .ok (.iconst 0, 1) := by decide +kernel
theorem dX11_check_76 : decode cX11_check 76 = .ok (.putfield 84, 3) := by decide +kernel
theorem dX11_check_79 : decode cX11_check 79 = .ok (.iload_n 2, 1) := by decide +kernel
theorem dX11_check_80 : decode cX11_check 80 = .ok (.ireturn, 1) := by decide +kernel
theorem dX11_count_0 : decode cX11_count 0 = .ok (.iload_n 1, 1) := by decide +kernel
theorem dX11_count_1 : decode cX11_count 1 = .ok (.ifCond .ne 12, 3) := by decide +kernel
theorem dX11_count_4 : decode cX11_count 4 = .ok (.aload_n 0, 1) := by decide +kernel
theorem dX11_count_5 : decode cX11_count 5 = .ok (.getfield 13, 3) := by decide +kernel
theorem dX11_count_8 : decode cX11_count 8 = .ok (.iconst 1, 1) := by decide +kernel
theorem dX11_count_9 : decode cX11_count 9 = .ok (.iaload, 1) := by decide +kernel
theorem dX11_count_10 : decode cX11_count 10 = .ok (.goto 44, 3) := by decide +kernel
theorem dX11_count_13 : decode cX11_count 13 = .ok (.iload_n 1, 1) := by decide +kernel
theorem dX11_count_14 : decode cX11_count 14 = .ok (.iconst 1, 1) := by decide +kernel
theorem dX11_count_15 : decode cX11_count 15 = .ok (.if_icmp .ne 12, 3) := by decide +kernel
theorem dX11_count_18 : decode cX11_count 18 = .ok (.aload_n 0, 1) := by decide +kernel
theorem dX11_count_19 : decode cX11_count 19 = .ok (.getfield 13, 3) := by decide +kernel
theorem dX11_count_22 : decode cX11_count 22 = .ok (.iconst 0, 1) := by decide +kernel
theorem dX11_count_23 : decode cX11_count 23 = .ok (.iaload, 1) := by decide +kernel
theorem dX11_count_24 : decode cX11_count 24 = .ok (.goto 30, 3) := by decide +kernel
theorem dX11_count_27 : decode cX11_count 27 = .ok (.iload_n 1, 1) := by decide +kernel
theorem dX11_count_28 : decode cX11_count 28 = .ok (.iconst 2, 1) := by decide +kernel
theorem dX11_count_29 : decode cX11_count 29 = .ok (.if_icmp .ne 10, 3) := by decide +kernel
theorem dX11_count_32 : decode cX11_count 32 = .ok (.aload_n 0, 1) := by decide +kernel
theorem dX11_count_33 : decode cX11_count 33 = .ok (.getfield 84, 3) := by decide +kernel
theorem dX11_count_36 : decode cX11_count 36 = .ok (.goto 18, 3) := by decide +kernel
theorem dX11_count_39 : decode cX11_count 39 = .ok (.iload_n 1, 1) := by decide +kernel
theorem dX11_count_40 : decode cX11_count 40 = .ok (.iconst 3, 1) := by decide +kernel
theorem dX11_count_41 : decode cX11_count 41 = .ok (.if_icmp .ne 12, 3) := by decide +kernel
theorem dX11_count_44 : decode cX11_count 44 = .ok (.aload_n 0, 1) := by decide +kernel
theorem dX11_count_45 : decode cX11_count 45 = .ok (.getfield 13, 3) := by decide +kernel
theorem dX11_count_48 : decode cX11_count 48 = .ok (.iconst 4, 1) := by decide +kernel
theorem dX11_count_49 : decode cX11_count 49 = .ok (.iaload, 1) := by decide +kernel
theorem dX11_count_50 : decode cX11_count 50 = .ok (.goto 4, 3) := by decide +kernel
theorem dX11_count_53 : decode cX11_count 53 = .ok (.iconst (-1), 1) := by decide +kernel
theorem dX11_count_54 : decode cX11_count 54 = .ok (.ireturn, 1) := by decide +kernel
theorem dJ9_abs_0f7a4_0 : decode cJ9_abs_0f7a4 0 = .ok (.iload_n 0, 1) := by decide +kernel
theorem dJ9_abs_0f7a4_1 : decode cJ9_abs_0f7a4 1 = .ok (.ifCond .ge 8, 3) := by decide +kernel
theorem dJ9_abs_0f7a4_4 : decode cJ9_abs_0f7a4 4 = .ok (.iload_n 0, 1) := by decide +kernel
theorem dJ9_abs_0f7a4_5 : decode cJ9_abs_0f7a4 5 = .ok (.ineg, 1) := by decide +kernel
theorem dJ9_abs_0f7a4_6 : decode cJ9_abs_0f7a4 6 = .ok (.goto 4, 3) := by decide +kernel
theorem dJ9_abs_0f7a4_9 : decode cJ9_abs_0f7a4 9 = .ok (.iload_n 0, 1) := by decide +kernel
theorem dJ9_abs_0f7a4_10 : decode cJ9_abs_0f7a4 10 = .ok (.ireturn, 1) := by decide +kernel
theorem dJ9_max_7cf53_0 : decode cJ9_max_7cf53 0 = .ok (.iload_n 0, 1) := by decide +kernel
theorem dJ9_max_7cf53_1 : decode cJ9_max_7cf53 1 = .ok (.iload_n 1, 1) := by decide +kernel
theorem dJ9_max_7cf53_2 : decode cJ9_max_7cf53 2 = .ok (.if_icmp .lt 7, 3) := by decide +kernel
theorem dJ9_max_7cf53_5 : decode cJ9_max_7cf53 5 = .ok (.iload_n 0, 1) := by decide +kernel
theorem dJ9_max_7cf53_6 : decode cJ9_max_7cf53 6 = .ok (.goto 4, 3) := by decide +kernel
theorem dJ9_max_7cf53_9 : decode cJ9_max_7cf53 9 = .ok (.iload_n 1, 1) := by decide +kernel
theorem dJ9_max_7cf53_10 : decode cJ9_max_7cf53 10 = .ok (.ireturn, 1) := by decide +kernel
theorem dJ9_min_7cf53_0 : decode cJ9_min_7cf53 0 = .ok (.iload_n 0, 1) := by decide +kernel
theorem dJ9_min_7cf53_1 : decode cJ9_min_7cf53 1 = .ok (.iload_n 1, 1) := by decide +kernel
theorem dJ9_min_7cf53_2 : decode cJ9_min_7cf53 2 = .ok (.if_icmp .gt 7, 3) := by decide +kernel
theorem dJ9_min_7cf53_5 : decode cJ9_min_7cf53 5 = .ok (.iload_n 0, 1) := by decide +kernel
theorem dJ9_min_7cf53_6 : decode cJ9_min_7cf53 6 = .ok (.goto 4, 3) := by decide +kernel
theorem dJ9_min_7cf53_9 : decode cJ9_min_7cf53 9 = .ok (.iload_n 1, 1) := by decide +kernel
theorem dJ9_min_7cf53_10 : decode cJ9_min_7cf53 10 = .ok (.ireturn, 1) := by decide +kernel
theorem dJ9_min_f86c9_0 : decode cJ9_min_f86c9 0 = .ok (.lload_n 0, 1) := by decide +kernel
theorem dJ9_min_f86c9_1 : decode cJ9_min_f86c9 1 = .ok (.lload_n 2, 1) := by decide +kernel
theorem dJ9_min_f86c9_2 : decode cJ9_min_f86c9 2 = .ok (.lcmp, 1) := by decide +kernel
theorem dJ9_min_f86c9_3 : decode cJ9_min_f86c9 3 = .ok (.ifCond .gt 7, 3) := by decide +kernel
theorem dJ9_min_f86c9_6 : decode cJ9_min_f86c9 6 = .ok (.lload_n 0, 1) := by decide +kernel
theorem dJ9_min_f86c9_7 : decode cJ9_min_f86c9 7 = .ok (.goto 4, 3) := by decide +kernel
theorem dJ9_min_f86c9_10 : decode cJ9_min_f86c9 10 = .ok (.lload_n 2, 1) := by decide +kernel
theorem dJ9_min_f86c9_11 : decode cJ9_min_f86c9 11 = .ok (.lreturn, 1) := by decide +kernel
theorem dJ0_length_8abf5_0 : decode cJ0_length_8abf5 0 = .ok (.aload_n 0, 1) := by decide +kernel
theorem dJ0_length_8abf5_1 : decode cJ0_length_8abf5 1 = .ok (.getfield 9, 3) := by decide +kernel
theorem dJ0_length_8abf5_4 : decode cJ0_length_8abf5 4 = .ok (.arraylength, 1) := by decide +kernel
theorem dJ0_length_8abf5_5 : decode cJ0_length_8abf5 5 = .ok (.aload_n 0, 1) := by decide +kernel
theorem dJ0_length_8abf5_6 : decode cJ0_length_8abf5 6 = .ok (.invokevirtual 335, 3) := by decide +kernel
theorem dJ0_length_8abf5_9 : decode cJ0_length_8abf5 9 = .ok (.ishr, 1) := by decide +kernel
theorem dJ0_length_8abf5_10 : decode cJ0_length_8abf5 10 = .ok (.ireturn, 1) := by decide +kernel
theorem dJ0_charAt_5068e_0 : decode cJ0_charAt_5068e 0 = .ok (.aload_n 0, 1) := by decide +kernel
theorem dJ0_charAt_5068e_1 : decode cJ0_charAt_5068e 1 = .ok (.invokevirtual 492, 3) := by decide +kernel
theorem dJ0_charAt_5068e_4 : decode cJ0_charAt_5068e 4 = .ok (.ifCond .eq 12, 3) := by decide +kernel
theorem dJ0_charAt_5068e_7 : decode cJ0_charAt_5068e 7 = .ok (.aload_n 0, 1) := by decide +kernel
theorem dJ0_charAt_5068e_8 : decode cJ0_charAt_5068e 8 = .ok (.getfield 9, 3) := by decide +kernel
theorem dJ0_charAt_5068e_11 : decode cJ0_charAt_5068e 11 = .ok (.iload_n 1, 1) := by decide +kernel
theorem dJ0_charAt_5068e_12 : decode cJ0_charAt_5068e 12 = .ok (.invokestatic 495, 3) := by decide +kernel
theorem dJ0_charAt_5068e_15 : decode cJ0_charAt_5068e 15 = .ok (.ireturn, 1) := by decide +kernel
theorem dJ0_charAt_5068e_16 : decode cJ0_charAt_5068e 16 = .ok (.aload_n 0, 1) := by decide +kernel
theorem dJ0_charAt_5068e_17 : decode cJ0_charAt_5068e 17 = .ok (.getfield 9, 3) := by decide +kernel
theorem dJ0_charAt_5068e_20 : decode cJ0_charAt_5068e 20 = .ok (.iload_n 1, 1) := by decide +kernel
theorem dJ0_charAt_5068e_21 : decode cJ0_charAt_5068e 21 = .ok (.invokestatic 498, 3) := by decide +kernel
theorem dJ0_charAt_5068e_24 : decode cJ0_charAt_5068e 24 = .ok (.ireturn, 1) := by decide +kernel
theorem dJ0_coder_7d493_0 : decode cJ0_coder_7d493 0 = .ok (.getstatic 38, 3) := by decide +kernel
theorem dJ0_coder_7d493_3 : decode cJ0_coder_7d493 3 = .ok (.ifCond .eq 10, 3) := by decide +kernel
theorem dJ0_coder_7d493_6 : decode cJ0_coder_7d493 6 = .ok (.aload_n 0, 1) := by decide +kernel
theorem dJ0_coder_7d493_7 : decode cJ0_coder_7d493 7 = .ok (.getfield 15, 3) := by decide +kernel
theorem dJ0_coder_7d493_10 : decode cJ0_coder_7d493 10 = .ok (.goto 4, 3) := by decide +kernel
theorem dJ0_coder_7d493_13 : decode cJ0_coder_7d493 13 = .ok (.iconst 1, 1) := by decide +kernel
theorem dJ0_coder_7d493_14 : decode cJ0_coder_7d493 14 = .ok (.ireturn, 1) := by decide +kernel
theorem dJ0_isLatin1_aae02_0 : decode cJ0_isLatin1_aae02 0 = .ok (.getstatic 38, 3) := by decide +kernel
theorem dJ0_isLatin1_aae02_3 : decode cJ0_isLatin1_aae02 3 = .ok (.ifCond .eq 14, 3) := by decide +kernel
theorem dJ0_isLatin1_aae02_6 : decode cJ0_isLatin1_aae02 6 = .ok (.aload_n 0, 1) := by decide +kernel
theorem dJ0_isLatin1_aae02_7 : decode cJ0_isLatin1_aae02 7 = .ok (.getfield 15, 3) := by decide +kernel
theorem dJ0_isLatin1_aae02_10 : decode cJ0_isLatin1_aae02 10 = .ok (.ifCond .ne 7, 3) := by decide +kernel
theorem dJ0_isLatin1_aae02_13 : decode cJ0_isLatin1_aae02 13 = .ok (.iconst 1, 1) := by decide +kernel
theorem dJ0_isLatin1_aae02_14 : decode cJ0_isLatin1_aae02 14 = .ok (.goto 4, 3) := by decide +kernel
theorem dJ0_isLatin1_aae02_17 : decode cJ0_isLatin1_aae02 17 = .ok (.iconst 0, 1) := by decide +kernel
theorem dJ0_isLatin1_aae02_18 : decode cJ0_isLatin1_aae02 18 = .ok (.ireturn, 1) := by decide +kernel
theorem dJ0_checkIndex_df160_0 : decode cJ0_checkIndex_df160 0 = .ok (.iload_n 0, 1) := by decide +kernel
theorem dJ0_checkIndex_df160_1 : decode cJ0_checkIndex_df160 1 = .ok (.iload_n 1, 1) := by decide +kernel
theorem dJ0_checkIndex_df160_2 : decode cJ0_checkIndex_df160 2 = .ok (.getstatic 1053, 3) := by decide +kernel
theorem dJ0_checkIndex_df160_5 : decode cJ0_checkIndex_df160 5 = .ok (.invokestatic 1059, 3) := by decide +kernel
theorem dJ0_checkIndex_df160_8 : decode cJ0_checkIndex_df160 8 = .ok (.pop, 1) := by decide +kernel
theorem dJ0_checkIndex_df160_9 : decode cJ0_checkIndex_df160 9 = .ok (.return_, 1) := by decide +kernel
theorem dJ1_charAt_3b067_0 : decode cJ1_charAt_3b067 0 = .ok (.iload_n 1, 1) := by decide +kernel
theorem dJ1_charAt_3b067_1 : decode cJ1_charAt_3b067 1 = .ok (.aload_n 0, 1) := by decide +kernel
theorem dJ1_charAt_3b067_2 : decode cJ1_charAt_3b067 2 = .ok (.arraylength, 1) := by decide +kernel
theorem dJ1_charAt_3b067_3 : decode cJ1_charAt_3b067 3 = .ok (.invokestatic 9, 3) := by decide +kernel
theorem dJ1_charAt_3b067_6 : decode cJ1_charAt_3b067 6 = .ok (.aload_n 0, 1) := by decide +kernel
theorem dJ1_charAt_3b067_7 : decode cJ1_charAt_3b067 7 = .ok (.iload_n 1, 1) := by decide +kernel
theorem dJ1_charAt_3b067_8 : decode cJ1_charAt_3b067 8 = .ok (.baload, 1) := by decide +kernel
theorem dJ1_charAt_3b067_9 : decode cJ1_charAt_3b067 9 = .ok (.sipush 255, 3) := by decide +kernel
theorem dJ1_charAt_3b067_12 : decode cJ1_charAt_3b067 12 = .ok (.iand, 1) := by decide +kernel
theorem dJ1_charAt_3b067_13 : decode cJ1_charAt_3b067 13 = .ok (.i2c, 1) := by decide +kernel
theorem dJ1_charAt_3b067_14 : decode cJ1_charAt_3b067 14 = .ok (.ireturn, 1) := by decide +kernel
theorem dJ2_getChar_3b067_0 : decode cJ2_getChar_3b067 0 = .ok (.getstatic 44, 3) := by decide +kernel
theorem dJ2_getChar_3b067_3 : decode cJ2_getChar_3b067 3 = .ok (.ifCond .ne 25, 3) := by decide +kernel
theorem dJ2_getChar_3b067_6 : decode cJ2_getChar_3b067 6 = .ok (.iload_n 1, 1) := by decide +kernel
theorem dJ2_getChar_3b067_7 : decode cJ2_getChar_3b067 7 = .ok (.ifCond .lt 11, 3) := by decide +kernel
theorem dJ2_getChar_3b067_10 : decode cJ2_getChar_3b067 10 = .ok (.iload_n 1, 1) := by decide +kernel
theorem dJ2_getChar_3b067_11 : decode cJ2_getChar_3b067 11 = .ok (.aload_n 0, 1) := by decide +kernel
theorem dJ2_getChar_3b067_12 : decode cJ2_getChar_3b067 12 = .ok (.invokestatic 48, 3) := by decide +kernel
theorem dJ2_getChar_3b067_15 : decode cJ2_getChar_3b067 15 = .ok (.if_icmp .lt 13, 3) := by decide +kernel
theorem dJ2_getChar_3b067_18 : decode cJ2_getChar_3b067 18 = .ok (.new 52, 3) := by decide +kernel
theorem dJ2_getChar_3b067_21 : decode cJ2_getChar_3b067 21 = .ok (.dup, 1) := by decide +kernel
theorem dJ2_getChar_3b067_22 : decode cJ2_getChar_3b067 22 = .ok (.ldc 54, 2) := by decide +kernel
theorem dJ2_getChar_3b067_24 : decode cJ2_getChar_3b067 24 = .ok (.invokespecial 56, 3) := by decide +kernel
theorem dJ2_getChar_3b067_27 : decode cJ2_getChar_3b067 27 = .ok (.athrow, 1) := by decide +kernel
theorem dJ2_getChar_3b067_28 : decode cJ2_getChar_3b067 28 = .ok (.iload_n 1, 1) := by decide +kernel
theorem dJ2_getChar_3b067_29 : decode cJ2_getChar_3b067 29 = .ok (.iconst 1, 1) := by decide +kernel
theorem dJ2_getChar_3b067_30 : decode cJ2_getChar_3b067 30 = .ok (.ishl, 1) := by decide +kernel
theorem dJ2_getChar_3b067_31 : decode cJ2_getChar_3b067 31 = .ok (.istore_n 1, 1) := by decide +kernel
theorem dJ2_getChar_3b067_32 : decode cJ2_getChar_3b067 32 = .ok (.aload_n 0, 1) := by decide +kernel
theorem dJ2_getChar_3b067_33 : decode cJ2_getChar_3b067 33 = .ok (.iload_n 1, 1) := by decide +kernel
theorem dJ2_getChar_3b067_34 : decode cJ2_getChar_3b067 34 = .ok (.iinc 1 1, 3) := by decide +kernel
theorem dJ2_getChar_3b067_37 : decode cJ2_getChar_3b067 37 = .ok (.baload, 1) := by decide +kernel
theorem dJ2_getChar_3b067_38 : decode cJ2_getChar_3b067 38 = .ok (.sipush 255, 3) := by decide +kernel
theorem dJ2_getChar_3b067_41 : decode cJ2_getChar_3b067 41 = .ok (.iand, 1) := by decide +kernel
theorem dJ2_getChar_3b067_42 : decode cJ2_getChar_3b067 42 = .ok (.getstatic 59, 3) := by decide +kernel
theorem dJ2_getChar_3b067_45 : decode cJ2_getChar_3b067 45 = .ok (.ishl, 1) := by decide +kernel
theorem dJ2_getChar_3b067_46 : decode cJ2_getChar_3b067 46 = .ok (.aload_n 0, 1) := by decide +kernel
theorem dJ2_getChar_3b067_47 : decode cJ2_getChar_3b067 47 = .ok (.iload_n 1, 1) := by decide +kernel
theorem dJ2_getChar_3b067_48 : decode cJ2_getChar_3b067 48 = .ok (.baload, 1) := by decide +kernel
theorem dJ2_getChar_3b067_49 : decode cJ2_getChar_3b067 49 = .ok (.sipush 255, 3) := by decide +kernel
theorem dJ2_getChar_3b067_52 : decode cJ2_getChar_3b067 52 = .ok (.iand, 1) := by decide +kernel
theorem dJ2_getChar_3b067_53 : decode cJ2_getChar_3b067 53 = .ok (.getstatic 63, 3) := by decide +kernel
theorem dJ2_getChar_3b067_56 : decode cJ2_getChar_3b067 56 = .ok (.ishl, 1) := by decide +kernel
theorem dJ2_getChar_3b067_57 : decode cJ2_getChar_3b067 57 = .ok (.ior, 1) := by decide +kernel
theorem dJ2_getChar_3b067_58 : decode cJ2_getChar_3b067 58 = .ok (.i2c, 1) := by decide +kernel
theorem dJ2_getChar_3b067_59 : decode cJ2_getChar_3b067 59 = .ok (.ireturn, 1) := by decide +kernel
theorem dJ2_length_9d52b_0 : decode cJ2_length_9d52b 0 = .ok (.aload_n 0, 1) := by decide +kernel
theorem dJ2_length_9d52b_1 : decode cJ2_length_9d52b 1 = .ok (.arraylength, 1) := by decide +kernel
theorem dJ2_length_9d52b_2 : decode cJ2_length_9d52b 2 = .ok (.iconst 1, 1) := by decide +kernel
theorem dJ2_length_9d52b_3 : decode cJ2_length_9d52b 3 = .ok (.ishr, 1) := by decide +kernel
theorem dJ2_length_9d52b_4 : decode cJ2_length_9d52b 4 = .ok (.ireturn, 1) := by decide +kernel
theorem dJ2_charAt_3b067_0 : decode cJ2_charAt_3b067 0 = .ok (.iload_n 1, 1) := by decide +kernel
theorem dJ2_charAt_3b067_1 : decode cJ2_charAt_3b067 1 = .ok (.aload_n 0, 1) := by decide +kernel
theorem dJ2_charAt_3b067_2 : decode cJ2_charAt_3b067 2 = .ok (.invokestatic 67, 3) := by decide +kernel
theorem dJ2_charAt_3b067_5 : decode cJ2_charAt_3b067 5 = .ok (.aload_n 0, 1) := by decide +kernel
theorem dJ2_charAt_3b067_6 : decode cJ2_charAt_3b067 6 = .ok (.iload_n 1, 1) := by decide +kernel
theorem dJ2_charAt_3b067_7 : decode cJ2_charAt_3b067 7 = .ok (.invokestatic 71, 3) := by decide +kernel
theorem dJ2_charAt_3b067_10 : decode cJ2_charAt_3b067 10 = .ok (.ireturn, 1) := by decide +kernel
theorem dJ2_checkIndex_2214a_0 : decode cJ2_checkIndex_2214a 0 = .ok (.iload_n 0, 1) := by decide +kernel
theorem dJ2_checkIndex_2214a_1 : decode cJ2_checkIndex_2214a 1 = .ok (.aload_n 1, 1) := by decide +kernel
theorem dJ2_checkIndex_2214a_2 : decode cJ2_checkIndex_2214a 2 = .ok (.invokestatic 48, 3) := by decide +kernel
theorem dJ2_checkIndex_2214a_5 : decode cJ2_checkIndex_2214a 5 = .ok (.invokestatic 414, 3) := by decide +kernel
theorem dJ2_checkIndex_2214a_8 : decode cJ2_checkIndex_2214a 8 = .ok (.return_, 1) := by decide +kernel
theorem dJ3_checkIndex_8e157_0 : decode cJ3_checkIndex_8e157 0 = .ok (.iload_n 0, 1) := by decide +kernel
theorem dJ3_checkIndex_8e157_1 : decode cJ3_checkIndex_8e157 1 = .ok (.ifCond .lt 8, 3) := by decide +kernel
theorem dJ3_checkIndex_8e157_4 : decode cJ3_checkIndex_8e157 4 = .ok (.iload_n 0, 1) := by decide +kernel
theorem dJ3_checkIndex_8e157_5 : decode cJ3_checkIndex_8e157 5 = .ok (.iload_n 1, 1) := by decide +kernel
theorem dJ3_checkIndex_8e157_6 : decode cJ3_checkIndex_8e157 6 = .ok (.if_icmp .lt 10, 3) := by decide +kernel
theorem dJ3_checkIndex_8e157_9 : decode cJ3_checkIndex_8e157 9 = .ok (.aload_n 2, 1) := by decide +kernel
theorem dJ3_checkIndex_8e157_10 : decode cJ3_checkIndex_8e157 10 = .ok (.iload_n 0, 1) := by decide +kernel
theorem dJ3_checkIndex_8e157_11 : decode cJ3_checkIndex_8e157 11 = .ok (.iload_n 1, 1) := by decide +kernel
theorem dJ3_checkIndex_8e157_12 : decode cJ3_checkIndex_8e157 12 = .ok (.invokestatic 95, 3) := by decide +kernel
theorem dJ3_checkIndex_8e157_15 : decode cJ3_checkIndex_8e157 15 = .ok (.athrow, 1) := by decide +kernel
theorem dJ3_checkIndex_8e157_16 : decode cJ3_checkIndex_8e157 16 = .ok (.iload_n 0, 1) := by decide +kernel
theorem dJ3_checkIndex_8e157_17 : decode cJ3_checkIndex_8e157 17 = .ok (.ireturn, 1) := by decide +kernel
theorem dL_law_0 : decode cL_law 0 = .ok (.new 7, 3) := by decide +kernel
theorem dL_law_3 : decode cL_law 3 = .ok (.dup, 1) := by decide +kernel
theorem dL_law_4 : decode cL_law 4 = .ok (.invokespecial 9, 3) := by decide +kernel
theorem dL_law_7 : decode cL_law 7 = .ok (.astore_n 1, 1) := by decide +kernel
theorem dL_law_8 : decode cL_law 8 = .ok (.new 10, 3) := by decide +kernel
theorem dL_law_11 : decode cL_law 11 = .ok (.dup, 1) := by decide +kernel
theorem dL_law_12 : decode cL_law 12 = .ok (.invokespecial 12, 3) := by decide +kernel
theorem dL_law_15 : decode cL_law 15 = .ok (.astore_n 2, 1) := by decide +kernel
theorem dL_law_16 : decode cL_law 16 = .ok (.iconst 0, 1) := by decide +kernel
theorem dL_law_17 : decode cL_law 17 = .ok (.istore_n 3, 1) := by decide +kernel
theorem dL_law_18 : decode cL_law 18 = .ok (.iload_n 3, 1) := by decide +kernel
theorem dL_law_19 : decode cL_law 19 = .ok (.aload_n 0, 1) := by decide +kernel
theorem dL_law_20 : decode cL_law 20 = .ok (.arraylength, 1) := by decide +kernel
theorem dL_law_21 : decode cL_law 21 = .ok (.bipush 6, 2) := by decide +kernel
theorem dL_law_23 : decode cL_law 23 = .ok (.isub, 1) := by decide +kernel
theorem dL_law_24 : decode cL_law 24 = .ok (.if_icmp .gt 1614, 3) := by decide +kernel
theorem dL_law_27 : decode cL_law 27 = .ok (.aload_n 0, 1) := by decide +kernel
theorem dL_law_28 : decode cL_law 28 = .ok (.iload_n 3, 1) := by decide +kernel
theorem dL_law_29 : decode cL_law 29 = .ok (.iaload, 1) := by decide +kernel
theorem dL_law_30 : decode cL_law 30 = .ok (.bipush 63, 2) := by decide +kernel
theorem dL_law_32 : decode cL_law 32 = .ok (.iand, 1) := by decide +kernel
theorem dL_law_33 : decode cL_law 33 = .ok (.tableswitch 1599 0 43 #[191, 254, 277, 320, 353, 386, 409, 442, 491, 514, 547, 570, 603, 636, 659, 692, 725, 748, 781, 804, 837, 870, 903, 926, 959, 982, 1015, 1048, 1071, 1104, 1157, 1200, 1233, 1276, 1309, 1342, 1375, 1418, 1461, 1494, 1527, 1540, 1553, 1576], 191) := by decide +kernel
theorem dL_law_224 : decode cL_law 224 = .ok (.aload_n 1, 1) := by decide +kernel
theorem dL_law_225 : decode cL_law 225 = .ok (.aload_n 0, 1) := by decide +kernel
theorem dL_law_226 : decode cL_law 226 = .ok (.iload_n 3, 1) := by decide +kernel
theorem dL_law_227 : decode cL_law 227 = .ok (.iconst 1, 1) := by decide +kernel
theorem dL_law_228 : decode cL_law 228 = .ok (.iadd, 1) := by decide +kernel
theorem dL_law_229 : decode cL_law 229 = .ok (.iaload, 1) := by decide +kernel
theorem dL_law_230 : decode cL_law 230 = .ok (.aload_n 0, 1) := by decide +kernel
theorem dL_law_231 : decode cL_law 231 = .ok (.iload_n 3, 1) := by decide +kernel
theorem dL_law_232 : decode cL_law 232 = .ok (.iconst 2, 1) := by decide +kernel
theorem dL_law_233 : decode cL_law 233 = .ok (.iadd, 1) := by decide +kernel
theorem dL_law_234 : decode cL_law 234 = .ok (.iaload, 1) := by decide +kernel
theorem dL_law_235 : decode cL_law 235 = .ok (.aload_n 0, 1) := by decide +kernel
theorem dL_law_236 : decode cL_law 236 = .ok (.iload_n 3, 1) := by decide +kernel
theorem dL_law_237 : decode cL_law 237 = .ok (.iconst 3, 1) := by decide +kernel
theorem dL_law_238 : decode cL_law 238 = .ok (.iadd, 1) := by decide +kernel
theorem dL_law_239 : decode cL_law 239 = .ok (.iaload, 1) := by decide +kernel
theorem dL_law_240 : decode cL_law 240 = .ok (.aload_n 0, 1) := by decide +kernel
theorem dL_law_241 : decode cL_law 241 = .ok (.iload_n 3, 1) := by decide +kernel
theorem dL_law_242 : decode cL_law 242 = .ok (.iconst 4, 1) := by decide +kernel
theorem dL_law_243 : decode cL_law 243 = .ok (.iadd, 1) := by decide +kernel
theorem dL_law_244 : decode cL_law 244 = .ok (.iaload, 1) := by decide +kernel
theorem dL_law_245 : decode cL_law 245 = .ok (.aload_n 0, 1) := by decide +kernel
theorem dL_law_246 : decode cL_law 246 = .ok (.iload_n 3, 1) := by decide +kernel
theorem dL_law_247 : decode cL_law 247 = .ok (.iconst 5, 1) := by decide +kernel
theorem dL_law_248 : decode cL_law 248 = .ok (.iadd, 1) := by decide +kernel
theorem dL_law_249 : decode cL_law 249 = .ok (.iaload, 1) := by decide +kernel
theorem dL_law_250 : decode cL_law 250 = .ok (.invokevirtual 13, 3) := by decide +kernel
theorem dL_law_253 : decode cL_law 253 = .ok (.aload_n 2, 1) := by decide +kernel
theorem dL_law_254 : decode cL_law 254 = .ok (.aload_n 0, 1) := by decide +kernel
theorem dL_law_255 : decode cL_law 255 = .ok (.iload_n 3, 1) := by decide +kernel
theorem dL_law_256 : decode cL_law 256 = .ok (.iconst 1, 1) := by decide +kernel
theorem dL_law_257 : decode cL_law 257 = .ok (.iadd, 1) := by decide +kernel
theorem dL_law_258 : decode cL_law 258 = .ok (.iaload, 1) := by decide +kernel
theorem dL_law_259 : decode cL_law 259 = .ok (.aload_n 0, 1) := by decide +kernel
theorem dL_law_260 : decode cL_law 260 = .ok (.iload_n 3, 1) := by decide +kernel
theorem dL_law_261 : decode cL_law 261 = .ok (.iconst 2, 1) := by decide +kernel
theorem dL_law_262 : decode cL_law 262 = .ok (.iadd, 1) := by decide +kernel
theorem dL_law_263 : decode cL_law 263 = .ok (.iaload, 1) := by decide +kernel
theorem dL_law_264 : decode cL_law 264 = .ok (.aload_n 0, 1) := by decide +kernel
theorem dL_law_265 : decode cL_law 265 = .ok (.iload_n 3, 1) := by decide +kernel
theorem dL_law_266 : decode cL_law 266 = .ok (.iconst 3, 1) := by decide +kernel
theorem dL_law_267 : decode cL_law 267 = .ok (.iadd, 1) := by decide +kernel
theorem dL_law_268 : decode cL_law 268 = .ok (.iaload, 1) := by decide +kernel
theorem dL_law_269 : decode cL_law 269 = .ok (.aload_n 0, 1) := by decide +kernel
theorem dL_law_270 : decode cL_law 270 = .ok (.iload_n 3, 1) := by decide +kernel
theorem dL_law_271 : decode cL_law 271 = .ok (.iconst 4, 1) := by decide +kernel
theorem dL_law_272 : decode cL_law 272 = .ok (.iadd, 1) := by decide +kernel
theorem dL_law_273 : decode cL_law 273 = .ok (.iaload, 1) := by decide +kernel
theorem dL_law_274 : decode cL_law 274 = .ok (.aload_n 0, 1) := by decide +kernel
theorem dL_law_275 : decode cL_law 275 = .ok (.iload_n 3, 1) := by decide +kernel
theorem dL_law_276 : decode cL_law 276 = .ok (.iconst 5, 1) := by decide +kernel
theorem dL_law_277 : decode cL_law 277 = .ok (.iadd, 1) := by decide +kernel
theorem dL_law_278 : decode cL_law 278 = .ok (.iaload, 1) := by decide +kernel
theorem dL_law_279 : decode cL_law 279 = .ok (.invokevirtual 17, 3) := by decide +kernel
theorem dL_law_282 : decode cL_law 282 = .ok (.if_icmp .eq 1350, 3) := by decide +kernel
theorem dL_law_285 : decode cL_law 285 = .ok (.iconst 0, 1) := by decide +kernel
theorem dL_law_286 : decode cL_law 286 = .ok (.ireturn, 1) := by decide +kernel
theorem dL_law_287 : decode cL_law 287 = .ok (.aload_n 1, 1) := by decide +kernel
theorem dL_law_288 : decode cL_law 288 = .ok (.aload_n 0, 1) := by decide +kernel
theorem dL_law_289 : decode cL_law 289 = .ok (.iload_n 3, 1) := by decide +kernel
theorem dL_law_290 : decode cL_law 290 = .ok (.iconst 1, 1) := by decide +kernel
theorem dL_law_291 : decode cL_law 291 = .ok (.iadd, 1) := by decide +kernel
theorem dL_law_292 : decode cL_law 292 = .ok (.iaload, 1) := by decide +kernel
theorem dL_law_293 : decode cL_law 293 = .ok (.invokevirtual 18, 3) := by decide +kernel
theorem dL_law_296 : decode cL_law 296 = .ok (.aload_n 2, 1) := by decide +kernel
theorem dL_law_297 : decode cL_law 297 = .ok (.aload_n 0, 1) := by decide +kernel
theorem dL_law_298 : decode cL_law 298 = .ok (.iload_n 3, 1) := by decide +kernel
theorem dL_law_299 : decode cL_law 299 = .ok (.iconst 1, 1) := by decide +kernel
theorem dL_law_300 : decode cL_law 300 = .ok (.iadd, 1) := by decide +kernel
theorem dL_law_301 : decode cL_law 301 = .ok (.iaload, 1) := by decide +kernel
theorem dL_law_302 : decode cL_law 302 = .ok (.invokevirtual 22, 3) := by decide +kernel
theorem dL_law_305 : decode cL_law 305 = .ok (.if_icmp .eq 1327, 3) := by decide +kernel
theorem dL_law_308 : decode cL_law 308 = .ok (.iconst 0, 1) := by decide +kernel
theorem dL_law_309 : decode cL_law 309 = .ok (.ireturn, 1) := by decide +kernel
theorem dL_law_310 : decode cL_law 310 = .ok (.aload_n 1, 1) := by decide +kernel
theorem dL_law_311 : decode cL_law 311 = .ok (.aload_n 0, 1) := by decide +kernel
theorem dL_law_312 : decode cL_law 312 = .ok (.iload_n 3, 1) := by decide +kernel
theorem dL_law_313 : decode cL_law 313 = .ok (.iconst 1, 1) := by decide +kernel
theorem dL_law_314 : decode cL_law 314 = .ok (.iadd, 1) := by decide +kernel
theorem dL_law_315 : decode cL_law 315 = .ok (.iaload, 1) := by decide +kernel
theorem dL_law_316 : decode cL_law 316 = .ok (.aload_n 0, 1) := by decide +kernel
theorem dL_law_317 : decode cL_law 317 = .ok (.iload_n 3, 1) := by decide +kernel
theorem dL_law_318 : decode cL_law 318 = .ok (.iconst 2, 1) := by decide +kernel
theorem dL_law_319 : decode cL_law 319 = .ok (.iadd, 1) := by decide +kernel
theorem dL_law_320 : decode cL_law 320 = .ok (.iaload, 1) := by decide +kernel
theorem dL_law_321 : decode cL_law 321 = .ok (.aload_n 0, 1) := by decide +kernel
theorem dL_law_322 : decode cL_law 322 = .ok (.iload_n 3, 1) := by decide +kernel
theorem dL_law_323 : decode cL_law 323 = .ok (.iconst 3, 1) := by decide +kernel
theorem dL_law_324 : decode cL_law 324 = .ok (.iadd, 1) := by decide +kernel
theorem dL_law_325 : decode cL_law 325 = .ok (.iaload, 1) := by decide +kernel
theorem dL_law_326 : decode cL_law 326 = .ok (.invokevirtual 23, 3) := by decide +kernel
theorem dL_law_329 : decode cL_law 329 = .ok (.aload_n 2, 1) := by decide +kernel
theorem dL_law_330 : decode cL_law 330 = .ok (.aload_n 0, 1) := by decide +kernel
theorem dL_law_331 : decode cL_law 331 = .ok (.iload_n 3, 1) := by decide +kernel
theorem dL_law_332 : decode cL_law 332 = .ok (.iconst 1, 1) := by decide +kernel
theorem dL_law_333 : decode cL_law 333 = .ok (.iadd, 1) := by decide +kernel
theorem dL_law_334 : decode cL_law 334 = .ok (.iaload, 1) := by decide +kernel
theorem dL_law_335 : decode cL_law 335 = .ok (.aload_n 0, 1) := by decide +kernel
theorem dL_law_336 : decode cL_law 336 = .ok (.iload_n 3, 1) := by decide +kernel
theorem dL_law_337 : decode cL_law 337 = .ok (.iconst 2, 1) := by decide +kernel
theorem dL_law_338 : decode cL_law 338 = .ok (.iadd, 1) := by decide +kernel
theorem dL_law_339 : decode cL_law 339 = .ok (.iaload, 1) := by decide +kernel
theorem dL_law_340 : decode cL_law 340 = .ok (.aload_n 0, 1) := by decide +kernel
theorem dL_law_341 : decode cL_law 341 = .ok (.iload_n 3, 1) := by decide +kernel
theorem dL_law_342 : decode cL_law 342 = .ok (.iconst 3, 1) := by decide +kernel
theorem dL_law_343 : decode cL_law 343 = .ok (.iadd, 1) := by decide +kernel
theorem dL_law_344 : decode cL_law 344 = .ok (.iaload, 1) := by decide +kernel
theorem dL_law_345 : decode cL_law 345 = .ok (.invokevirtual 27, 3) := by decide +kernel
theorem dL_law_348 : decode cL_law 348 = .ok (.if_icmp .eq 1284, 3) := by decide +kernel
theorem dL_law_351 : decode cL_law 351 = .ok (.iconst 0, 1) := by decide +kernel
theorem dL_law_352 : decode cL_law 352 = .ok (.ireturn, 1) := by decide +kernel
theorem dL_law_353 : decode cL_law 353 = .ok (.aload_n 1, 1) := by decide +kernel
theorem dL_law_354 : decode cL_law 354 = .ok (.aload_n 0, 1) := by decide +kernel
theorem dL_law_355 : decode cL_law 355 = .ok (.iload_n 3, 1) := by decide +kernel
theorem dL_law_356 : decode cL_law 356 = .ok (.iconst 1, 1) := by decide +kernel
theorem dL_law_357 : decode cL_law 357 = .ok (.iadd, 1) := by decide +kernel
theorem dL_law_358 : decode cL_law 358 = .ok (.iaload, 1) := by decide +kernel
theorem dL_law_359 : decode cL_law 359 = .ok (.aload_n 0, 1) := by decide +kernel
theorem dL_law_360 : decode cL_law 360 = .ok (.iload_n 3, 1) := by decide +kernel
theorem dL_law_361 : decode cL_law 361 = .ok (.iconst 2, 1) := by decide +kernel
theorem dL_law_362 : decode cL_law 362 = .ok (.iadd, 1) := by decide +kernel
theorem dL_law_363 : decode cL_law 363 = .ok (.iaload, 1) := by decide +kernel
theorem dL_law_364 : decode cL_law 364 = .ok (.invokevirtual 28, 3) := by decide +kernel
theorem dL_law_367 : decode cL_law 367 = .ok (.aload_n 2, 1) := by decide +kernel
theorem dL_law_368 : decode cL_law 368 = .ok (.aload_n 0, 1) := by decide +kernel
theorem dL_law_369 : decode cL_law 369 = .ok (.iload_n 3, 1) := by decide +kernel
theorem dL_law_370 : decode cL_law 370 = .ok (.iconst 1, 1) := by decide +kernel
theorem dL_law_371 : decode cL_law 371 = .ok (.iadd, 1) := by decide +kernel
theorem dL_law_372 : decode cL_law 372 = .ok (.iaload, 1) := by decide +kernel
theorem dL_law_373 : decode cL_law 373 = .ok (.aload_n 0, 1) := by decide +kernel
theorem dL_law_374 : decode cL_law 374 = .ok (.iload_n 3, 1) := by decide +kernel
theorem dL_law_375 : decode cL_law 375 = .ok (.iconst 2, 1) := by decide +kernel
theorem dL_law_376 : decode cL_law 376 = .ok (.iadd, 1) := by decide +kernel
theorem dL_law_377 : decode cL_law 377 = .ok (.iaload, 1) := by decide +kernel
theorem dL_law_378 : decode cL_law 378 = .ok (.invokevirtual 32, 3) := by decide +kernel
theorem dL_law_381 : decode cL_law 381 = .ok (.if_icmp .eq 1251, 3) := by decide +kernel
theorem dL_law_384 : decode cL_law 384 = .ok (.iconst 0, 1) := by decide +kernel
theorem dL_law_385 : decode cL_law 385 = .ok (.ireturn, 1) := by decide +kernel
theorem dL_law_386 : decode cL_law 386 = .ok (.aload_n 1, 1) := by decide +kernel
theorem dL_law_387 : decode cL_law 387 = .ok (.aload_n 0, 1) := by decide +kernel
theorem dL_law_388 : decode cL_law 388 = .ok (.iload_n 3, 1) := by decide +kernel
theorem dL_law_389 : decode cL_law 389 = .ok (.iconst 1, 1) := by decide +kernel
theorem dL_law_390 : decode cL_law 390 = .ok (.iadd, 1) := by decide +kernel
theorem dL_law_391 : decode cL_law 391 = .ok (.iaload, 1) := by decide +kernel
theorem dL_law_392 : decode cL_law 392 = .ok (.aload_n 0, 1) := by decide +kernel
theorem dL_law_393 : decode cL_law 393 = .ok (.iload_n 3, 1) := by decide +kernel
theorem dL_law_394 : decode cL_law 394 = .ok (.iconst 2, 1) := by decide +kernel
theorem dL_law_395 : decode cL_law 395 = .ok (.iadd, 1) := by decide +kernel
theorem dL_law_396 : decode cL_law 396 = .ok (.iaload, 1) := by decide +kernel
theorem dL_law_397 : decode cL_law 397 = .ok (.invokevirtual 33, 3) := by decide +kernel
theorem dL_law_400 : decode cL_law 400 = .ok (.aload_n 2, 1) := by decide +kernel
theorem dL_law_401 : decode cL_law 401 = .ok (.aload_n 0, 1) := by decide +kernel
theorem dL_law_402 : decode cL_law 402 = .ok (.iload_n 3, 1) := by decide +kernel
theorem dL_law_403 : decode cL_law 403 = .ok (.iconst 1, 1) := by decide +kernel
theorem dL_law_404 : decode cL_law 404 = .ok (.iadd, 1) := by decide +kernel
theorem dL_law_405 : decode cL_law 405 = .ok (.iaload, 1) := by decide +kernel
theorem dL_law_406 : decode cL_law 406 = .ok (.aload_n 0, 1) := by decide +kernel
theorem dL_law_407 : decode cL_law 407 = .ok (.iload_n 3, 1) := by decide +kernel
theorem dL_law_408 : decode cL_law 408 = .ok (.iconst 2, 1) := by decide +kernel
theorem dL_law_409 : decode cL_law 409 = .ok (.iadd, 1) := by decide +kernel
theorem dL_law_410 : decode cL_law 410 = .ok (.iaload, 1) := by decide +kernel
theorem dL_law_411 : decode cL_law 411 = .ok (.invokevirtual 36, 3) := by decide +kernel
theorem dL_law_414 : decode cL_law 414 = .ok (.if_icmp .eq 1218, 3) := by decide +kernel
theorem dL_law_417 : decode cL_law 417 = .ok (.iconst 0, 1) := by decide +kernel
theorem dL_law_418 : decode cL_law 418 = .ok (.ireturn, 1) := by decide +kernel
theorem dL_law_419 : decode cL_law 419 = .ok (.aload_n 1, 1) := by decide +kernel
theorem dL_law_420 : decode cL_law 420 = .ok (.aload_n 0, 1) := by decide +kernel
theorem dL_law_421 : decode cL_law 421 = .ok (.iload_n 3, 1) := by decide +kernel
theorem dL_law_422 : decode cL_law 422 = .ok (.iconst 1, 1) := by decide +kernel
theorem dL_law_423 : decode cL_law 423 = .ok (.iadd, 1) := by decide +kernel
theorem dL_law_424 : decode cL_law 424 = .ok (.iaload, 1) := by decide +kernel
theorem dL_law_425 : decode cL_law 425 = .ok (.invokevirtual 37, 3) := by decide +kernel
theorem dL_law_428 : decode cL_law 428 = .ok (.aload_n 2, 1) := by decide +kernel
theorem dL_law_429 : decode cL_law 429 = .ok (.aload_n 0, 1) := by decide +kernel
theorem dL_law_430 : decode cL_law 430 = .ok (.iload_n 3, 1) := by decide +kernel
theorem dL_law_431 : decode cL_law 431 = .ok (.iconst 1, 1) := by decide +kernel
theorem dL_law_432 : decode cL_law 432 = .ok (.iadd, 1) := by decide +kernel
theorem dL_law_433 : decode cL_law 433 = .ok (.iaload, 1) := by decide +kernel
theorem dL_law_434 : decode cL_law 434 = .ok (.invokevirtual 40, 3) := by decide +kernel
theorem dL_law_437 : decode cL_law 437 = .ok (.if_icmp .eq 1195, 3) := by decide +kernel
theorem dL_law_440 : decode cL_law 440 = .ok (.iconst 0, 1) := by decide +kernel
theorem dL_law_441 : decode cL_law 441 = .ok (.ireturn, 1) := by decide +kernel
theorem dL_law_442 : decode cL_law 442 = .ok (.aload_n 1, 1) := by decide +kernel
theorem dL_law_443 : decode cL_law 443 = .ok (.aload_n 0, 1) := by decide +kernel
theorem dL_law_444 : decode cL_law 444 = .ok (.iload_n 3, 1) := by decide +kernel
theorem dL_law_445 : decode cL_law 445 = .ok (.iconst 1, 1) := by decide +kernel
theorem dL_law_446 : decode cL_law 446 = .ok (.iadd, 1) := by decide +kernel
theorem dL_law_447 : decode cL_law 447 = .ok (.iaload, 1) := by decide +kernel
theorem dL_law_448 : decode cL_law 448 = .ok (.aload_n 0, 1) := by decide +kernel
theorem dL_law_449 : decode cL_law 449 = .ok (.iload_n 3, 1) := by decide +kernel
theorem dL_law_450 : decode cL_law 450 = .ok (.iconst 2, 1) := by decide +kernel
theorem dL_law_451 : decode cL_law 451 = .ok (.iadd, 1) := by decide +kernel
theorem dL_law_452 : decode cL_law 452 = .ok (.iaload, 1) := by decide +kernel
theorem dL_law_453 : decode cL_law 453 = .ok (.invokevirtual 41, 3) := by decide +kernel
theorem dL_law_456 : decode cL_law 456 = .ok (.aload_n 2, 1) := by decide +kernel
theorem dL_law_457 : decode cL_law 457 = .ok (.aload_n 0, 1) := by decide +kernel
theorem dL_law_458 : decode cL_law 458 = .ok (.iload_n 3, 1) := by decide +kernel
theorem dL_law_459 : decode cL_law 459 = .ok (.iconst 1, 1) := by decide +kernel
theorem dL_law_460 : decode cL_law 460 = .ok (.iadd, 1) := by decide +kernel
theorem dL_law_461 : decode cL_law 461 = .ok (.iaload, 1) := by decide +kernel
theorem dL_law_462 : decode cL_law 462 = .ok (.aload_n 0, 1) := by decide +kernel
theorem dL_law_463 : decode cL_law 463 = .ok (.iload_n 3, 1) := by decide +kernel
theorem dL_law_464 : decode cL_law 464 = .ok (.iconst 2, 1) := by decide +kernel
theorem dL_law_465 : decode cL_law 465 = .ok (.iadd, 1) := by decide +kernel
theorem dL_law_466 : decode cL_law 466 = .ok (.iaload, 1) := by decide +kernel
theorem dL_law_467 : decode cL_law 467 = .ok (.invokevirtual 44, 3) := by decide +kernel
theorem dL_law_470 : decode cL_law 470 = .ok (.if_icmp .eq 1162, 3) := by decide +kernel
theorem dL_law_473 : decode cL_law 473 = .ok (.iconst 0, 1) := by decide +kernel
theorem dL_law_474 : decode cL_law 474 = .ok (.ireturn, 1) := by decide +kernel
theorem dL_law_475 : decode cL_law 475 = .ok (.aload_n 1, 1) := by decide +kernel
theorem dL_law_476 : decode cL_law 476 = .ok (.aload_n 0, 1) := by decide +kernel
theorem dL_law_477 : decode cL_law 477 = .ok (.iload_n 3, 1) := by decide +kernel
theorem dL_law_478 : decode cL_law 478 = .ok (.iconst 1, 1) := by decide +kernel
theorem dL_law_479 : decode cL_law 479 = .ok (.iadd, 1) := by decide +kernel
theorem dL_law_480 : decode cL_law 480 = .ok (.iaload, 1) := by decide +kernel
theorem dL_law_481 : decode cL_law 481 = .ok (.aload_n 0, 1) := by decide +kernel
theorem dL_law_482 : decode cL_law 482 = .ok (.iload_n 3, 1) := by decide +kernel
theorem dL_law_483 : decode cL_law 483 = .ok (.iconst 2, 1) := by decide +kernel
theorem dL_law_484 : decode cL_law 484 = .ok (.iadd, 1) := by decide +kernel
theorem dL_law_485 : decode cL_law 485 = .ok (.iaload, 1) := by decide +kernel
theorem dL_law_486 : decode cL_law 486 = .ok (.ifCond .eq 7, 3) := by decide +kernel
theorem dL_law_489 : decode cL_law 489 = .ok (.iconst 1, 1) := by decide +kernel
theorem dL_law_490 : decode cL_law 490 = .ok (.goto 4, 3) := by decide +kernel
theorem dL_law_493 : decode cL_law 493 = .ok (.iconst 0, 1) := by decide +kernel
theorem dL_law_494 : decode cL_law 494 = .ok (.invokevirtual 45, 3) := by decide +kernel
theorem dL_law_497 : decode cL_law 497 = .ok (.aload_n 2, 1) := by decide +kernel
theorem dL_law_498 : decode cL_law 498 = .ok (.aload_n 0, 1) := by decide +kernel
theorem dL_law_499 : decode cL_law 499 = .ok (.iload_n 3, 1) := by decide +kernel
theorem dL_law_500 : decode cL_law 500 = .ok (.iconst 1, 1) := by decide +kernel
theorem dL_law_501 : decode cL_law 501 = .ok (.iadd, 1) := by decide +kernel
theorem dL_law_502 : decode cL_law 502 = .ok (.iaload, 1) := by decide +kernel
theorem dL_law_503 : decode cL_law 503 = .ok (.aload_n 0, 1) := by decide +kernel
theorem dL_law_504 : decode cL_law 504 = .ok (.iload_n 3, 1) := by decide +kernel
theorem dL_law_505 : decode cL_law 505 = .ok (.iconst 2, 1) := by decide +kernel
theorem dL_law_506 : decode cL_law 506 = .ok (.iadd, 1) := by decide +kernel
theorem dL_law_507 : decode cL_law 507 = .ok (.iaload, 1) := by decide +kernel
theorem dL_law_508 : decode cL_law 508 = .ok (.ifCond .eq 7, 3) := by decide +kernel
theorem dL_law_511 : decode cL_law 511 = .ok (.iconst 1, 1) := by decide +kernel
theorem dL_law_512 : decode cL_law 512 = .ok (.goto 4, 3) := by decide +kernel
theorem dL_law_515 : decode cL_law 515 = .ok (.iconst 0, 1) := by decide +kernel
theorem dL_law_516 : decode cL_law 516 = .ok (.invokevirtual 49, 3) := by decide +kernel
theorem dL_law_519 : decode cL_law 519 = .ok (.if_icmp .eq 1113, 3) := by decide +kernel
theorem dL_law_522 : decode cL_law 522 = .ok (.iconst 0, 1) := by decide +kernel
theorem dL_law_523 : decode cL_law 523 = .ok (.ireturn, 1) := by decide +kernel
theorem dL_law_524 : decode cL_law 524 = .ok (.aload_n 1, 1) := by decide +kernel
theorem dL_law_525 : decode cL_law 525 = .ok (.aload_n 0, 1) := by decide +kernel
theorem dL_law_526 : decode cL_law 526 = .ok (.iload_n 3, 1) := by decide +kernel
theorem dL_law_527 : decode cL_law 527 = .ok (.iconst 1, 1) := by decide +kernel
theorem dL_law_528 : decode cL_law 528 = .ok (.iadd, 1) := by decide +kernel
theorem dL_law_529 : decode cL_law 529 = .ok (.iaload, 1) := by decide +kernel
theorem dL_law_530 : decode cL_law 530 = .ok (.invokevirtual 50, 3) := by decide +kernel
theorem dL_law_533 : decode cL_law 533 = .ok (.aload_n 2, 1) := by decide +kernel
theorem dL_law_534 : decode cL_law 534 = .ok (.aload_n 0, 1) := by decide +kernel
theorem dL_law_535 : decode cL_law 535 = .ok (.iload_n 3, 1) := by decide +kernel
theorem dL_law_536 : decode cL_law 536 = .ok (.iconst 1, 1) := by decide +kernel
theorem dL_law_537 : decode cL_law 537 = .ok (.iadd, 1) := by decide +kernel
theorem dL_law_538 : decode cL_law 538 = .ok (.iaload, 1) := by decide +kernel
theorem dL_law_539 : decode cL_law 539 = .ok (.invokevirtual 53, 3) := by decide +kernel
theorem dL_law_542 : decode cL_law 542 = .ok (.if_icmp .eq 1090, 3) := by decide +kernel
theorem dL_law_545 : decode cL_law 545 = .ok (.iconst 0, 1) := by decide +kernel
theorem dL_law_546 : decode cL_law 546 = .ok (.ireturn, 1) := by decide +kernel
theorem dL_law_547 : decode cL_law 547 = .ok (.aload_n 1, 1) := by decide +kernel
theorem dL_law_548 : decode cL_law 548 = .ok (.aload_n 0, 1) := by decide +kernel
theorem dL_law_549 : decode cL_law 549 = .ok (.iload_n 3, 1) := by decide +kernel
theorem dL_law_550 : decode cL_law 550 = .ok (.iconst 1, 1) := by decide +kernel
theorem dL_law_551 : decode cL_law 551 = .ok (.iadd, 1) := by decide +kernel
theorem dL_law_552 : decode cL_law 552 = .ok (.iaload, 1) := by decide +kernel
theorem dL_law_553 : decode cL_law 553 = .ok (.aload_n 0, 1) := by decide +kernel
theorem dL_law_554 : decode cL_law 554 = .ok (.iload_n 3, 1) := by decide +kernel
theorem dL_law_555 : decode cL_law 555 = .ok (.iconst 2, 1) := by decide +kernel
theorem dL_law_556 : decode cL_law 556 = .ok (.iadd, 1) := by decide +kernel
theorem dL_law_557 : decode cL_law 557 = .ok (.iaload, 1) := by decide +kernel
theorem dL_law_558 : decode cL_law 558 = .ok (.invokevirtual 54, 3) := by decide +kernel
theorem dL_law_561 : decode cL_law 561 = .ok (.aload_n 2, 1) := by decide +kernel
theorem dL_law_562 : decode cL_law 562 = .ok (.aload_n 0, 1) := by decide +kernel
theorem dL_law_563 : decode cL_law 563 = .ok (.iload_n 3, 1) := by decide +kernel
theorem dL_law_564 : decode cL_law 564 = .ok (.iconst 1, 1) := by decide +kernel
theorem dL_law_565 : decode cL_law 565 = .ok (.iadd, 1) := by decide +kernel
theorem dL_law_566 : decode cL_law 566 = .ok (.iaload, 1) := by decide +kernel
theorem dL_law_567 : decode cL_law 567 = .ok (.aload_n 0, 1) := by decide +kernel
theorem dL_law_568 : decode cL_law 568 = .ok (.iload_n 3, 1) := by decide +kernel
theorem dL_law_569 : decode cL_law 569 = .ok (.iconst 2, 1) := by decide +kernel
theorem dL_law_570 : decode cL_law 570 = .ok (.iadd, 1) := by decide +kernel
theorem dL_law_571 : decode cL_law 571 = .ok (.iaload, 1) := by decide +kernel
theorem dL_law_572 : decode cL_law 572 = .ok (.invokevirtual 57, 3) := by decide +kernel
theorem dL_law_575 : decode cL_law 575 = .ok (.if_icmp .eq 1057, 3) := by decide +kernel
theorem dL_law_578 : decode cL_law 578 = .ok (.iconst 0, 1) := by decide +kernel
theorem dL_law_579 : decode cL_law 579 = .ok (.ireturn, 1) := by decide +kernel
theorem dL_law_580 : decode cL_law 580 = .ok (.aload_n 1, 1) := by decide +kernel
theorem dL_law_581 : decode cL_law 581 = .ok (.aload_n 0, 1) := by decide +kernel
theorem dL_law_582 : decode cL_law 582 = .ok (.iload_n 3, 1) := by decide +kernel
theorem dL_law_583 : decode cL_law 583 = .ok (.iconst 1, 1) := by decide +kernel
theorem dL_law_584 : decode cL_law 584 = .ok (.iadd, 1) := by decide +kernel
theorem dL_law_585 : decode cL_law 585 = .ok (.iaload, 1) := by decide +kernel
theorem dL_law_586 : decode cL_law 586 = .ok (.invokevirtual 58, 3) := by decide +kernel
theorem dL_law_589 : decode cL_law 589 = .ok (.aload_n 2, 1) := by decide +kernel
theorem dL_law_590 : decode cL_law 590 = .ok (.aload_n 0, 1) := by decide +kernel
theorem dL_law_591 : decode cL_law 591 = .ok (.iload_n 3, 1) := by decide +kernel
theorem dL_law_592 : decode cL_law 592 = .ok (.iconst 1, 1) := by decide +kernel
theorem dL_law_593 : decode cL_law 593 = .ok (.iadd, 1) := by decide +kernel
theorem dL_law_594 : decode cL_law 594 = .ok (.iaload, 1) := by decide +kernel
theorem dL_law_595 : decode cL_law 595 = .ok (.invokevirtual 61, 3) := by decide +kernel
theorem dL_law_598 : decode cL_law 598 = .ok (.if_icmp .eq 1034, 3) := by decide +kernel
theorem dL_law_601 : decode cL_law 601 = .ok (.iconst 0, 1) := by decide +kernel
theorem dL_law_602 : decode cL_law 602 = .ok (.ireturn, 1) := by decide +kernel
theorem dL_law_603 : decode cL_law 603 = .ok (.aload_n 1, 1) := by decide +kernel
theorem dL_law_604 : decode cL_law 604 = .ok (.aload_n 0, 1) := by decide +kernel
theorem dL_law_605 : decode cL_law 605 = .ok (.iload_n 3, 1) := by decide +kernel
theorem dL_law_606 : decode cL_law 606 = .ok (.iconst 1, 1) := by decide +kernel
theorem dL_law_607 : decode cL_law 607 = .ok (.iadd, 1) := by decide +kernel
theorem dL_law_608 : decode cL_law 608 = .ok (.iaload, 1) := by decide +kernel
theorem dL_law_609 : decode cL_law 609 = .ok (.aload_n 0, 1) := by decide +kernel
theorem dL_law_610 : decode cL_law 610 = .ok (.iload_n 3, 1) := by decide +kernel
theorem dL_law_611 : decode cL_law 611 = .ok (.iconst 2, 1) := by decide +kernel
theorem dL_law_612 : decode cL_law 612 = .ok (.iadd, 1) := by decide +kernel
theorem dL_law_613 : decode cL_law 613 = .ok (.iaload, 1) := by decide +kernel
theorem dL_law_614 : decode cL_law 614 = .ok (.invokevirtual 62, 3) := by decide +kernel
theorem dL_law_617 : decode cL_law 617 = .ok (.aload_n 2, 1) := by decide +kernel
theorem dL_law_618 : decode cL_law 618 = .ok (.aload_n 0, 1) := by decide +kernel
theorem dL_law_619 : decode cL_law 619 = .ok (.iload_n 3, 1) := by decide +kernel
theorem dL_law_620 : decode cL_law 620 = .ok (.iconst 1, 1) := by decide +kernel
theorem dL_law_621 : decode cL_law 621 = .ok (.iadd, 1) := by decide +kernel
theorem dL_law_622 : decode cL_law 622 = .ok (.iaload, 1) := by decide +kernel
theorem dL_law_623 : decode cL_law 623 = .ok (.aload_n 0, 1) := by decide +kernel
theorem dL_law_624 : decode cL_law 624 = .ok (.iload_n 3, 1) := by decide +kernel
theorem dL_law_625 : decode cL_law 625 = .ok (.iconst 2, 1) := by decide +kernel
theorem dL_law_626 : decode cL_law 626 = .ok (.iadd, 1) := by decide +kernel
theorem dL_law_627 : decode cL_law 627 = .ok (.iaload, 1) := by decide +kernel
theorem dL_law_628 : decode cL_law 628 = .ok (.invokevirtual 65, 3) := by decide +kernel
theorem dL_law_631 : decode cL_law 631 = .ok (.if_icmp .eq 1001, 3) := by decide +kernel
theorem dL_law_634 : decode cL_law 634 = .ok (.iconst 0, 1) := by decide +kernel
theorem dL_law_635 : decode cL_law 635 = .ok (.ireturn, 1) := by decide +kernel
theorem dL_law_636 : decode cL_law 636 = .ok (.aload_n 1, 1) := by decide +kernel
theorem dL_law_637 : decode cL_law 637 = .ok (.aload_n 0, 1) := by decide +kernel
theorem dL_law_638 : decode cL_law 638 = .ok (.iload_n 3, 1) := by decide +kernel
theorem dL_law_639 : decode cL_law 639 = .ok (.iconst 1, 1) := by decide +kernel
theorem dL_law_640 : decode cL_law 640 = .ok (.iadd, 1) := by decide +kernel
theorem dL_law_641 : decode cL_law 641 = .ok (.iaload, 1) := by decide +kernel
theorem dL_law_642 : decode cL_law 642 = .ok (.aload_n 0, 1) := by decide +kernel
theorem dL_law_643 : decode cL_law 643 = .ok (.iload_n 3, 1) := by decide +kernel
theorem dL_law_644 : decode cL_law 644 = .ok (.iconst 2, 1) := by decide +kernel
theorem dL_law_645 : decode cL_law 645 = .ok (.iadd, 1) := by decide +kernel
theorem dL_law_646 : decode cL_law 646 = .ok (.iaload, 1) := by decide +kernel
theorem dL_law_647 : decode cL_law 647 = .ok (.invokevirtual 66, 3) := by decide +kernel
theorem dL_law_650 : decode cL_law 650 = .ok (.aload_n 2, 1) := by decide +kernel
theorem dL_law_651 : decode cL_law 651 = .ok (.aload_n 0, 1) := by decide +kernel
theorem dL_law_652 : decode cL_law 652 = .ok (.iload_n 3, 1) := by decide +kernel
theorem dL_law_653 : decode cL_law 653 = .ok (.iconst 1, 1) := by decide +kernel
theorem dL_law_654 : decode cL_law 654 = .ok (.iadd, 1) := by decide +kernel
theorem dL_law_655 : decode cL_law 655 = .ok (.iaload, 1) := by decide +kernel
theorem dL_law_656 : decode cL_law 656 = .ok (.aload_n 0, 1) := by decide +kernel
theorem dL_law_657 : decode cL_law 657 = .ok (.iload_n 3, 1) := by decide +kernel
theorem dL_law_658 : decode cL_law 658 = .ok (.iconst 2, 1) := by decide +kernel
theorem dL_law_659 : decode cL_law 659 = .ok (.iadd, 1) := by decide +kernel
theorem dL_law_660 : decode cL_law 660 = .ok (.iaload, 1) := by decide +kernel
theorem dL_law_661 : decode cL_law 661 = .ok (.invokevirtual 69, 3) := by decide +kernel
theorem dL_law_664 : decode cL_law 664 = .ok (.if_icmp .eq 968, 3) := by decide +kernel
theorem dL_law_667 : decode cL_law 667 = .ok (.iconst 0, 1) := by decide +kernel
theorem dL_law_668 : decode cL_law 668 = .ok (.ireturn, 1) := by decide +kernel
theorem dL_law_669 : decode cL_law 669 = .ok (.aload_n 1, 1) := by decide +kernel
theorem dL_law_670 : decode cL_law 670 = .ok (.aload_n 0, 1) := by decide +kernel
theorem dL_law_671 : decode cL_law 671 = .ok (.iload_n 3, 1) := by decide +kernel
theorem dL_law_672 : decode cL_law 672 = .ok (.iconst 1, 1) := by decide +kernel
theorem dL_law_673 : decode cL_law 673 = .ok (.iadd, 1) := by decide +kernel
theorem dL_law_674 : decode cL_law 674 = .ok (.iaload, 1) := by decide +kernel
theorem dL_law_675 : decode cL_law 675 = .ok (.invokevirtual 70, 3) := by decide +kernel
theorem dL_law_678 : decode cL_law 678 = .ok (.aload_n 2, 1) := by decide +kernel
theorem dL_law_679 : decode cL_law 679 = .ok (.aload_n 0, 1) := by decide +kernel
theorem dL_law_680 : decode cL_law 680 = .ok (.iload_n 3, 1) := by decide +kernel
theorem dL_law_681 : decode cL_law 681 = .ok (.iconst 1, 1) := by decide +kernel
theorem dL_law_682 : decode cL_law 682 = .ok (.iadd, 1) := by decide +kernel
theorem dL_law_683 : decode cL_law 683 = .ok (.iaload, 1) := by decide +kernel
theorem dL_law_684 : decode cL_law 684 = .ok (.invokevirtual 73, 3) := by decide +kernel
theorem dL_law_687 : decode cL_law 687 = .ok (.if_icmp .eq 945, 3) := by decide +kernel
theorem dL_law_690 : decode cL_law 690 = .ok (.iconst 0, 1) := by decide +kernel
theorem dL_law_691 : decode cL_law 691 = .ok (.ireturn, 1) := by decide +kernel
theorem dL_law_692 : decode cL_law 692 = .ok (.aload_n 1, 1) := by decide +kernel
theorem dL_law_693 : decode cL_law 693 = .ok (.aload_n 0, 1) := by decide +kernel
theorem dL_law_694 : decode cL_law 694 = .ok (.iload_n 3, 1) := by decide +kernel
theorem dL_law_695 : decode cL_law 695 = .ok (.iconst 1, 1) := by decide +kernel
theorem dL_law_696 : decode cL_law 696 = .ok (.iadd, 1) := by decide +kernel
theorem dL_law_697 : decode cL_law 697 = .ok (.iaload, 1) := by decide +kernel
theorem dL_law_698 : decode cL_law 698 = .ok (.aload_n 0, 1) := by decide +kernel
theorem dL_law_699 : decode cL_law 699 = .ok (.iload_n 3, 1) := by decide +kernel
theorem dL_law_700 : decode cL_law 700 = .ok (.iconst 2, 1) := by decide +kernel
theorem dL_law_701 : decode cL_law 701 = .ok (.iadd, 1) := by decide +kernel
theorem dL_law_702 : decode cL_law 702 = .ok (.iaload, 1) := by decide +kernel
theorem dL_law_703 : decode cL_law 703 = .ok (.invokevirtual 74, 3) := by decide +kernel
theorem dL_law_706 : decode cL_law 706 = .ok (.aload_n 2, 1) := by decide +kernel
theorem dL_law_707 : decode cL_law 707 = .ok (.aload_n 0, 1) := by decide +kernel
theorem dL_law_708 : decode cL_law 708 = .ok (.iload_n 3, 1) := by decide +kernel
theorem dL_law_709 : decode cL_law 709 = .ok (.iconst 1, 1) := by decide +kernel
theorem dL_law_710 : decode cL_law 710 = .ok (.iadd, 1) := by decide +kernel
theorem dL_law_711 : decode cL_law 711 = .ok (.iaload, 1) := by decide +kernel
theorem dL_law_712 : decode cL_law 712 = .ok (.aload_n 0, 1) := by decide +kernel
theorem dL_law_713 : decode cL_law 713 = .ok (.iload_n 3, 1) := by decide +kernel
theorem dL_law_714 : decode cL_law 714 = .ok (.iconst 2, 1) := by decide +kernel
theorem dL_law_715 : decode cL_law 715 = .ok (.iadd, 1) := by decide +kernel
theorem dL_law_716 : decode cL_law 716 = .ok (.iaload, 1) := by decide +kernel
theorem dL_law_717 : decode cL_law 717 = .ok (.invokevirtual 77, 3) := by decide +kernel
theorem dL_law_720 : decode cL_law 720 = .ok (.if_icmp .eq 912, 3) := by decide +kernel
theorem dL_law_723 : decode cL_law 723 = .ok (.iconst 0, 1) := by decide +kernel
theorem dL_law_724 : decode cL_law 724 = .ok (.ireturn, 1) := by decide +kernel
theorem dL_law_725 : decode cL_law 725 = .ok (.aload_n 1, 1) := by decide +kernel
theorem dL_law_726 : decode cL_law 726 = .ok (.aload_n 0, 1) := by decide +kernel
theorem dL_law_727 : decode cL_law 727 = .ok (.iload_n 3, 1) := by decide +kernel
theorem dL_law_728 : decode cL_law 728 = .ok (.iconst 1, 1) := by decide +kernel
theorem dL_law_729 : decode cL_law 729 = .ok (.iadd, 1) := by decide +kernel
theorem dL_law_730 : decode cL_law 730 = .ok (.iaload, 1) := by decide +kernel
theorem dL_law_731 : decode cL_law 731 = .ok (.aload_n 0, 1) := by decide +kernel
theorem dL_law_732 : decode cL_law 732 = .ok (.iload_n 3, 1) := by decide +kernel
theorem dL_law_733 : decode cL_law 733 = .ok (.iconst 2, 1) := by decide +kernel
theorem dL_law_734 : decode cL_law 734 = .ok (.iadd, 1) := by decide +kernel
theorem dL_law_735 : decode cL_law 735 = .ok (.iaload, 1) := by decide +kernel
theorem dL_law_736 : decode cL_law 736 = .ok (.invokevirtual 78, 3) := by decide +kernel
theorem dL_law_739 : decode cL_law 739 = .ok (.aload_n 2, 1) := by decide +kernel
theorem dL_law_740 : decode cL_law 740 = .ok (.aload_n 0, 1) := by decide +kernel
theorem dL_law_741 : decode cL_law 741 = .ok (.iload_n 3, 1) := by decide +kernel
theorem dL_law_742 : decode cL_law 742 = .ok (.iconst 1, 1) := by decide +kernel
theorem dL_law_743 : decode cL_law 743 = .ok (.iadd, 1) := by decide +kernel
theorem dL_law_744 : decode cL_law 744 = .ok (.iaload, 1) := by decide +kernel
theorem dL_law_745 : decode cL_law 745 = .ok (.aload_n 0, 1) := by decide +kernel
theorem dL_law_746 : decode cL_law 746 = .ok (.iload_n 3, 1) := by decide +kernel
theorem dL_law_747 : decode cL_law 747 = .ok (.iconst 2, 1) := by decide +kernel
theorem dL_law_748 : decode cL_law 748 = .ok (.iadd, 1) := by decide +kernel
theorem dL_law_749 : decode cL_law 749 = .ok (.iaload, 1) := by decide +kernel
theorem dL_law_750 : decode cL_law 750 = .ok (.invokevirtual 81, 3) := by decide +kernel
theorem dL_law_753 : decode cL_law 753 = .ok (.if_icmp .eq 879, 3) := by decide +kernel
theorem dL_law_756 : decode cL_law 756 = .ok (.iconst 0, 1) := by decide +kernel
theorem dL_law_757 : decode cL_law 757 = .ok (.ireturn, 1) := by decide +kernel
theorem dL_law_758 : decode cL_law 758 = .ok (.aload_n 1, 1) := by decide +kernel
theorem dL_law_759 : decode cL_law 759 = .ok (.aload_n 0, 1) := by decide +kernel
theorem dL_law_760 : decode cL_law 760 = .ok (.iload_n 3, 1) := by decide +kernel
theorem dL_law_761 : decode cL_law 761 = .ok (.iconst 1, 1) := by decide +kernel
theorem dL_law_762 : decode cL_law 762 = .ok (.iadd, 1) := by decide +kernel
theorem dL_law_763 : decode cL_law 763 = .ok (.iaload, 1) := by decide +kernel
theorem dL_law_764 : decode cL_law 764 = .ok (.invokevirtual 82, 3) := by decide +kernel
theorem dL_law_767 : decode cL_law 767 = .ok (.aload_n 2, 1) := by decide +kernel
theorem dL_law_768 : decode cL_law 768 = .ok (.aload_n 0, 1) := by decide +kernel
theorem dL_law_769 : decode cL_law 769 = .ok (.iload_n 3, 1) := by decide +kernel
theorem dL_law_770 : decode cL_law 770 = .ok (.iconst 1, 1) := by decide +kernel
theorem dL_law_771 : decode cL_law 771 = .ok (.iadd, 1) := by decide +kernel
theorem dL_law_772 : decode cL_law 772 = .ok (.iaload, 1) := by decide +kernel
theorem dL_law_773 : decode cL_law 773 = .ok (.invokevirtual 85, 3) := by decide +kernel
theorem dL_law_776 : decode cL_law 776 = .ok (.if_icmp .eq 856, 3) := by decide +kernel
theorem dL_law_779 : decode cL_law 779 = .ok (.iconst 0, 1) := by decide +kernel
theorem dL_law_780 : decode cL_law 780 = .ok (.ireturn, 1) := by decide +kernel
theorem dL_law_781 : decode cL_law 781 = .ok (.aload_n 1, 1) := by decide +kernel
theorem dL_law_782 : decode cL_law 782 = .ok (.aload_n 0, 1) := by decide +kernel
theorem dL_law_783 : decode cL_law 783 = .ok (.iload_n 3, 1) := by decide +kernel
theorem dL_law_784 : decode cL_law 784 = .ok (.iconst 1, 1) := by decide +kernel
theorem dL_law_785 : decode cL_law 785 = .ok (.iadd, 1) := by decide +kernel
theorem dL_law_786 : decode cL_law 786 = .ok (.iaload, 1) := by decide +kernel
theorem dL_law_787 : decode cL_law 787 = .ok (.aload_n 0, 1) := by decide +kernel
theorem dL_law_788 : decode cL_law 788 = .ok (.iload_n 3, 1) := by decide +kernel
theorem dL_law_789 : decode cL_law 789 = .ok (.iconst 2, 1) := by decide +kernel
theorem dL_law_790 : decode cL_law 790 = .ok (.iadd, 1) := by decide +kernel
theorem dL_law_791 : decode cL_law 791 = .ok (.iaload, 1) := by decide +kernel
theorem dL_law_792 : decode cL_law 792 = .ok (.invokevirtual 86, 3) := by decide +kernel
theorem dL_law_795 : decode cL_law 795 = .ok (.aload_n 2, 1) := by decide +kernel
theorem dL_law_796 : decode cL_law 796 = .ok (.aload_n 0, 1) := by decide +kernel
theorem dL_law_797 : decode cL_law 797 = .ok (.iload_n 3, 1) := by decide +kernel
theorem dL_law_798 : decode cL_law 798 = .ok (.iconst 1, 1) := by decide +kernel
theorem dL_law_799 : decode cL_law 799 = .ok (.iadd, 1) := by decide +kernel
theorem dL_law_800 : decode cL_law 800 = .ok (.iaload, 1) := by decide +kernel
theorem dL_law_801 : decode cL_law 801 = .ok (.aload_n 0, 1) := by decide +kernel
theorem dL_law_802 : decode cL_law 802 = .ok (.iload_n 3, 1) := by decide +kernel
theorem dL_law_803 : decode cL_law 803 = .ok (.iconst 2, 1) := by decide +kernel
theorem dL_law_804 : decode cL_law 804 = .ok (.iadd, 1) := by decide +kernel
theorem dL_law_805 : decode cL_law 805 = .ok (.iaload, 1) := by decide +kernel
theorem dL_law_806 : decode cL_law 806 = .ok (.invokevirtual 89, 3) := by decide +kernel
theorem dL_law_809 : decode cL_law 809 = .ok (.if_icmp .eq 823, 3) := by decide +kernel
theorem dL_law_812 : decode cL_law 812 = .ok (.iconst 0, 1) := by decide +kernel
theorem dL_law_813 : decode cL_law 813 = .ok (.ireturn, 1) := by decide +kernel
theorem dL_law_814 : decode cL_law 814 = .ok (.aload_n 1, 1) := by decide +kernel
theorem dL_law_815 : decode cL_law 815 = .ok (.aload_n 0, 1) := by decide +kernel
theorem dL_law_816 : decode cL_law 816 = .ok (.iload_n 3, 1) := by decide +kernel
theorem dL_law_817 : decode cL_law 817 = .ok (.iconst 1, 1) := by decide +kernel
theorem dL_law_818 : decode cL_law 818 = .ok (.iadd, 1) := by decide +kernel
theorem dL_law_819 : decode cL_law 819 = .ok (.iaload, 1) := by decide +kernel
theorem dL_law_820 : decode cL_law 820 = .ok (.invokevirtual 90, 3) := by decide +kernel
theorem dL_law_823 : decode cL_law 823 = .ok (.aload_n 2, 1) := by decide +kernel
theorem dL_law_824 : decode cL_law 824 = .ok (.aload_n 0, 1) := by decide +kernel
theorem dL_law_825 : decode cL_law 825 = .ok (.iload_n 3, 1) := by decide +kernel
theorem dL_law_826 : decode cL_law 826 = .ok (.iconst 1, 1) := by decide +kernel
theorem dL_law_827 : decode cL_law 827 = .ok (.iadd, 1) := by decide +kernel
theorem dL_law_828 : decode cL_law 828 = .ok (.iaload, 1) := by decide +kernel
theorem dL_law_829 : decode cL_law 829 = .ok (.invokevirtual 93, 3) := by decide +kernel
theorem dL_law_832 : decode cL_law 832 = .ok (.if_icmp .eq 800, 3) := by decide +kernel
theorem dL_law_835 : decode cL_law 835 = .ok (.iconst 0, 1) := by decide +kernel
theorem dL_law_836 : decode cL_law 836 = .ok (.ireturn, 1) := by decide +kernel
theorem dL_law_837 : decode cL_law 837 = .ok (.aload_n 1, 1) := by decide +kernel
theorem dL_law_838 : decode cL_law 838 = .ok (.aload_n 0, 1) := by decide +kernel
theorem dL_law_839 : decode cL_law 839 = .ok (.iload_n 3, 1) := by decide +kernel
theorem dL_law_840 : decode cL_law 840 = .ok (.iconst 1, 1) := by decide +kernel
theorem dL_law_841 : decode cL_law 841 = .ok (.iadd, 1) := by decide +kernel
theorem dL_law_842 : decode cL_law 842 = .ok (.iaload, 1) := by decide +kernel
theorem dL_law_843 : decode cL_law 843 = .ok (.aload_n 0, 1) := by decide +kernel
theorem dL_law_844 : decode cL_law 844 = .ok (.iload_n 3, 1) := by decide +kernel
theorem dL_law_845 : decode cL_law 845 = .ok (.iconst 2, 1) := by decide +kernel
theorem dL_law_846 : decode cL_law 846 = .ok (.iadd, 1) := by decide +kernel
theorem dL_law_847 : decode cL_law 847 = .ok (.iaload, 1) := by decide +kernel
theorem dL_law_848 : decode cL_law 848 = .ok (.invokevirtual 94, 3) := by decide +kernel
theorem dL_law_851 : decode cL_law 851 = .ok (.aload_n 2, 1) := by decide +kernel
theorem dL_law_852 : decode cL_law 852 = .ok (.aload_n 0, 1) := by decide +kernel
theorem dL_law_853 : decode cL_law 853 = .ok (.iload_n 3, 1) := by decide +kernel
theorem dL_law_854 : decode cL_law 854 = .ok (.iconst 1, 1) := by decide +kernel
theorem dL_law_855 : decode cL_law 855 = .ok (.iadd, 1) := by decide +kernel
theorem dL_law_856 : decode cL_law 856 = .ok (.iaload, 1) := by decide +kernel
theorem dL_law_857 : decode cL_law 857 = .ok (.aload_n 0, 1) := by decide +kernel
theorem dL_law_858 : decode cL_law 858 = .ok (.iload_n 3, 1) := by decide +kernel
theorem dL_law_859 : decode cL_law 859 = .ok (.iconst 2, 1) := by decide +kernel
theorem dL_law_860 : decode cL_law 860 = .ok (.iadd, 1) := by decide +kernel
theorem dL_law_861 : decode cL_law 861 = .ok (.iaload, 1) := by decide +kernel
theorem dL_law_862 : decode cL_law 862 = .ok (.invokevirtual 97, 3) := by decide +kernel
theorem dL_law_865 : decode cL_law 865 = .ok (.if_icmp .eq 767, 3) := by decide +kernel
theorem dL_law_868 : decode cL_law 868 = .ok (.iconst 0, 1) := by decide +kernel
theorem dL_law_869 : decode cL_law 869 = .ok (.ireturn, 1) := by decide +kernel
theorem dL_law_870 : decode cL_law 870 = .ok (.aload_n 1, 1) := by decide +kernel
theorem dL_law_871 : decode cL_law 871 = .ok (.aload_n 0, 1) := by decide +kernel
theorem dL_law_872 : decode cL_law 872 = .ok (.iload_n 3, 1) := by decide +kernel
theorem dL_law_873 : decode cL_law 873 = .ok (.iconst 1, 1) := by decide +kernel
theorem dL_law_874 : decode cL_law 874 = .ok (.iadd, 1) := by decide +kernel
theorem dL_law_875 : decode cL_law 875 = .ok (.iaload, 1) := by decide +kernel
theorem dL_law_876 : decode cL_law 876 = .ok (.aload_n 0, 1) := by decide +kernel
theorem dL_law_877 : decode cL_law 877 = .ok (.iload_n 3, 1) := by decide +kernel
theorem dL_law_878 : decode cL_law 878 = .ok (.iconst 2, 1) := by decide +kernel
theorem dL_law_879 : decode cL_law 879 = .ok (.iadd, 1) := by decide +kernel
theorem dL_law_880 : decode cL_law 880 = .ok (.iaload, 1) := by decide +kernel
theorem dL_law_881 : decode cL_law 881 = .ok (.invokevirtual 98, 3) := by decide +kernel
theorem dL_law_884 : decode cL_law 884 = .ok (.aload_n 2, 1) := by decide +kernel
theorem dL_law_885 : decode cL_law 885 = .ok (.aload_n 0, 1) := by decide +kernel
theorem dL_law_886 : decode cL_law 886 = .ok (.iload_n 3, 1) := by decide +kernel
theorem dL_law_887 : decode cL_law 887 = .ok (.iconst 1, 1) := by decide +kernel
theorem dL_law_888 : decode cL_law 888 = .ok (.iadd, 1) := by decide +kernel
theorem dL_law_889 : decode cL_law 889 = .ok (.iaload, 1) := by decide +kernel
theorem dL_law_890 : decode cL_law 890 = .ok (.aload_n 0, 1) := by decide +kernel
theorem dL_law_891 : decode cL_law 891 = .ok (.iload_n 3, 1) := by decide +kernel
theorem dL_law_892 : decode cL_law 892 = .ok (.iconst 2, 1) := by decide +kernel
theorem dL_law_893 : decode cL_law 893 = .ok (.iadd, 1) := by decide +kernel
theorem dL_law_894 : decode cL_law 894 = .ok (.iaload, 1) := by decide +kernel
theorem dL_law_895 : decode cL_law 895 = .ok (.invokevirtual 101, 3) := by decide +kernel
theorem dL_law_898 : decode cL_law 898 = .ok (.if_icmp .eq 734, 3) := by decide +kernel
theorem dL_law_901 : decode cL_law 901 = .ok (.iconst 0, 1) := by decide +kernel
theorem dL_law_902 : decode cL_law 902 = .ok (.ireturn, 1) := by decide +kernel
theorem dL_law_903 : decode cL_law 903 = .ok (.aload_n 1, 1) := by decide +kernel
theorem dL_law_904 : decode cL_law 904 = .ok (.aload_n 0, 1) := by decide +kernel
theorem dL_law_905 : decode cL_law 905 = .ok (.iload_n 3, 1) := by decide +kernel
theorem dL_law_906 : decode cL_law 906 = .ok (.iconst 1, 1) := by decide +kernel
theorem dL_law_907 : decode cL_law 907 = .ok (.iadd, 1) := by decide +kernel
theorem dL_law_908 : decode cL_law 908 = .ok (.iaload, 1) := by decide +kernel
theorem dL_law_909 : decode cL_law 909 = .ok (.aload_n 0, 1) := by decide +kernel
theorem dL_law_910 : decode cL_law 910 = .ok (.iload_n 3, 1) := by decide +kernel
theorem dL_law_911 : decode cL_law 911 = .ok (.iconst 2, 1) := by decide +kernel
theorem dL_law_912 : decode cL_law 912 = .ok (.iadd, 1) := by decide +kernel
theorem dL_law_913 : decode cL_law 913 = .ok (.iaload, 1) := by decide +kernel
theorem dL_law_914 : decode cL_law 914 = .ok (.invokevirtual 102, 3) := by decide +kernel
theorem dL_law_917 : decode cL_law 917 = .ok (.aload_n 2, 1) := by decide +kernel
theorem dL_law_918 : decode cL_law 918 = .ok (.aload_n 0, 1) := by decide +kernel
theorem dL_law_919 : decode cL_law 919 = .ok (.iload_n 3, 1) := by decide +kernel
theorem dL_law_920 : decode cL_law 920 = .ok (.iconst 1, 1) := by decide +kernel
theorem dL_law_921 : decode cL_law 921 = .ok (.iadd, 1) := by decide +kernel
theorem dL_law_922 : decode cL_law 922 = .ok (.iaload, 1) := by decide +kernel
theorem dL_law_923 : decode cL_law 923 = .ok (.aload_n 0, 1) := by decide +kernel
theorem dL_law_924 : decode cL_law 924 = .ok (.iload_n 3, 1) := by decide +kernel
theorem dL_law_925 : decode cL_law 925 = .ok (.iconst 2, 1) := by decide +kernel
theorem dL_law_926 : decode cL_law 926 = .ok (.iadd, 1) := by decide +kernel
theorem dL_law_927 : decode cL_law 927 = .ok (.iaload, 1) := by decide +kernel
theorem dL_law_928 : decode cL_law 928 = .ok (.invokevirtual 105, 3) := by decide +kernel
theorem dL_law_931 : decode cL_law 931 = .ok (.if_icmp .eq 701, 3) := by decide +kernel
theorem dL_law_934 : decode cL_law 934 = .ok (.iconst 0, 1) := by decide +kernel
theorem dL_law_935 : decode cL_law 935 = .ok (.ireturn, 1) := by decide +kernel
theorem dL_law_936 : decode cL_law 936 = .ok (.aload_n 1, 1) := by decide +kernel
theorem dL_law_937 : decode cL_law 937 = .ok (.aload_n 0, 1) := by decide +kernel
theorem dL_law_938 : decode cL_law 938 = .ok (.iload_n 3, 1) := by decide +kernel
theorem dL_law_939 : decode cL_law 939 = .ok (.iconst 1, 1) := by decide +kernel
theorem dL_law_940 : decode cL_law 940 = .ok (.iadd, 1) := by decide +kernel
theorem dL_law_941 : decode cL_law 941 = .ok (.iaload, 1) := by decide +kernel
theorem dL_law_942 : decode cL_law 942 = .ok (.invokevirtual 106, 3) := by decide +kernel
theorem dL_law_945 : decode cL_law 945 = .ok (.aload_n 2, 1) := by decide +kernel
theorem dL_law_946 : decode cL_law 946 = .ok (.aload_n 0, 1) := by decide +kernel
theorem dL_law_947 : decode cL_law 947 = .ok (.iload_n 3, 1) := by decide +kernel
theorem dL_law_948 : decode cL_law 948 = .ok (.iconst 1, 1) := by decide +kernel
theorem dL_law_949 : decode cL_law 949 = .ok (.iadd, 1) := by decide +kernel
theorem dL_law_950 : decode cL_law 950 = .ok (.iaload, 1) := by decide +kernel
theorem dL_law_951 : decode cL_law 951 = .ok (.invokevirtual 109, 3) := by decide +kernel
theorem dL_law_954 : decode cL_law 954 = .ok (.if_icmp .eq 678, 3) := by decide +kernel
theorem dL_law_957 : decode cL_law 957 = .ok (.iconst 0, 1) := by decide +kernel
theorem dL_law_958 : decode cL_law 958 = .ok (.ireturn, 1) := by decide +kernel
theorem dL_law_959 : decode cL_law 959 = .ok (.aload_n 1, 1) := by decide +kernel
theorem dL_law_960 : decode cL_law 960 = .ok (.aload_n 0, 1) := by decide +kernel
theorem dL_law_961 : decode cL_law 961 = .ok (.iload_n 3, 1) := by decide +kernel
theorem dL_law_962 : decode cL_law 962 = .ok (.iconst 1, 1) := by decide +kernel
theorem dL_law_963 : decode cL_law 963 = .ok (.iadd, 1) := by decide +kernel
theorem dL_law_964 : decode cL_law 964 = .ok (.iaload, 1) := by decide +kernel
theorem dL_law_965 : decode cL_law 965 = .ok (.aload_n 0, 1) := by decide +kernel
theorem dL_law_966 : decode cL_law 966 = .ok (.iload_n 3, 1) := by decide +kernel
theorem dL_law_967 : decode cL_law 967 = .ok (.iconst 2, 1) := by decide +kernel
theorem dL_law_968 : decode cL_law 968 = .ok (.iadd, 1) := by decide +kernel
theorem dL_law_969 : decode cL_law 969 = .ok (.iaload, 1) := by decide +kernel
theorem dL_law_970 : decode cL_law 970 = .ok (.invokevirtual 110, 3) := by decide +kernel
theorem dL_law_973 : decode cL_law 973 = .ok (.aload_n 2, 1) := by decide +kernel
theorem dL_law_974 : decode cL_law 974 = .ok (.aload_n 0, 1) := by decide +kernel
theorem dL_law_975 : decode cL_law 975 = .ok (.iload_n 3, 1) := by decide +kernel
theorem dL_law_976 : decode cL_law 976 = .ok (.iconst 1, 1) := by decide +kernel
theorem dL_law_977 : decode cL_law 977 = .ok (.iadd, 1) := by decide +kernel
theorem dL_law_978 : decode cL_law 978 = .ok (.iaload, 1) := by decide +kernel
theorem dL_law_979 : decode cL_law 979 = .ok (.aload_n 0, 1) := by decide +kernel
theorem dL_law_980 : decode cL_law 980 = .ok (.iload_n 3, 1) := by decide +kernel
theorem dL_law_981 : decode cL_law 981 = .ok (.iconst 2, 1) := by decide +kernel
theorem dL_law_982 : decode cL_law 982 = .ok (.iadd, 1) := by decide +kernel
theorem dL_law_983 : decode cL_law 983 = .ok (.iaload, 1) := by decide +kernel
theorem dL_law_984 : decode cL_law 984 = .ok (.invokevirtual 113, 3) := by decide +kernel
theorem dL_law_987 : decode cL_law 987 = .ok (.if_icmp .eq 645, 3) := by decide +kernel
theorem dL_law_990 : decode cL_law 990 = .ok (.iconst 0, 1) := by decide +kernel
theorem dL_law_991 : decode cL_law 991 = .ok (.ireturn, 1) := by decide +kernel
theorem dL_law_992 : decode cL_law 992 = .ok (.aload_n 1, 1) := by decide +kernel
theorem dL_law_993 : decode cL_law 993 = .ok (.aload_n 0, 1) := by decide +kernel
theorem dL_law_994 : decode cL_law 994 = .ok (.iload_n 3, 1) := by decide +kernel
theorem dL_law_995 : decode cL_law 995 = .ok (.iconst 1, 1) := by decide +kernel
theorem dL_law_996 : decode cL_law 996 = .ok (.iadd, 1) := by decide +kernel
theorem dL_law_997 : decode cL_law 997 = .ok (.iaload, 1) := by decide +kernel
theorem dL_law_998 : decode cL_law 998 = .ok (.invokevirtual 114, 3) := by decide +kernel
theorem dL_law_1001 : decode cL_law 1001 = .ok (.aload_n 2, 1) := by decide +kernel
theorem dL_law_1002 : decode cL_law 1002 = .ok (.aload_n 0, 1) := by decide +kernel
theorem dL_law_1003 : decode cL_law 1003 = .ok (.iload_n 3, 1) := by decide +kernel
theorem dL_law_1004 : decode cL_law 1004 = .ok (.iconst 1, 1) := by decide +kernel
theorem dL_law_1005 : decode cL_law 1005 = .ok (.iadd, 1) := by decide +kernel
theorem dL_law_1006 : decode cL_law 1006 = .ok (.iaload, 1) := by decide +kernel
theorem dL_law_1007 : decode cL_law 1007 = .ok (.invokevirtual 117, 3) := by decide +kernel
theorem dL_law_1010 : decode cL_law 1010 = .ok (.if_icmp .eq 622, 3) := by decide +kernel
theorem dL_law_1013 : decode cL_law 1013 = .ok (.iconst 0, 1) := by decide +kernel
theorem dL_law_1014 : decode cL_law 1014 = .ok (.ireturn, 1) := by decide +kernel
theorem dL_law_1015 : decode cL_law 1015 = .ok (.aload_n 1, 1) := by decide +kernel
theorem dL_law_1016 : decode cL_law 1016 = .ok (.aload_n 0, 1) := by decide +kernel
theorem dL_law_1017 : decode cL_law 1017 = .ok (.iload_n 3, 1) := by decide +kernel
theorem dL_law_1018 : decode cL_law 1018 = .ok (.iconst 1, 1) := by decide +kernel
theorem dL_law_1019 : decode cL_law 1019 = .ok (.iadd, 1) := by decide +kernel
theorem dL_law_1020 : decode cL_law 1020 = .ok (.iaload, 1) := by decide +kernel
theorem dL_law_1021 : decode cL_law 1021 = .ok (.aload_n 0, 1) := by decide +kernel
theorem dL_law_1022 : decode cL_law 1022 = .ok (.iload_n 3, 1) := by decide +kernel
theorem dL_law_1023 : decode cL_law 1023 = .ok (.iconst 2, 1) := by decide +kernel
theorem dL_law_1024 : decode cL_law 1024 = .ok (.iadd, 1) := by decide +kernel
theorem dL_law_1025 : decode cL_law 1025 = .ok (.iaload, 1) := by decide +kernel
theorem dL_law_1026 : decode cL_law 1026 = .ok (.invokevirtual 118, 3) := by decide +kernel
theorem dL_law_1029 : decode cL_law 1029 = .ok (.aload_n 2, 1) := by decide +kernel
theorem dL_law_1030 : decode cL_law 1030 = .ok (.aload_n 0, 1) := by decide +kernel
theorem dL_law_1031 : decode cL_law 1031 = .ok (.iload_n 3, 1) := by decide +kernel
theorem dL_law_1032 : decode cL_law 1032 = .ok (.iconst 1, 1) := by decide +kernel
theorem dL_law_1033 : decode cL_law 1033 = .ok (.iadd, 1) := by decide +kernel
theorem dL_law_1034 : decode cL_law 1034 = .ok (.iaload, 1) := by decide +kernel
theorem dL_law_1035 : decode cL_law 1035 = .ok (.aload_n 0, 1) := by decide +kernel
theorem dL_law_1036 : decode cL_law 1036 = .ok (.iload_n 3, 1) := by decide +kernel
theorem dL_law_1037 : decode cL_law 1037 = .ok (.iconst 2, 1) := by decide +kernel
theorem dL_law_1038 : decode cL_law 1038 = .ok (.iadd, 1) := by decide +kernel
theorem dL_law_1039 : decode cL_law 1039 = .ok (.iaload, 1) := by decide +kernel
theorem dL_law_1040 : decode cL_law 1040 = .ok (.invokevirtual 121, 3) := by decide +kernel
theorem dL_law_1043 : decode cL_law 1043 = .ok (.if_icmp .eq 589, 3) := by decide +kernel
theorem dL_law_1046 : decode cL_law 1046 = .ok (.iconst 0, 1) := by decide +kernel
theorem dL_law_1047 : decode cL_law 1047 = .ok (.ireturn, 1) := by decide +kernel
theorem dL_law_1048 : decode cL_law 1048 = .ok (.aload_n 1, 1) := by decide +kernel
theorem dL_law_1049 : decode cL_law 1049 = .ok (.aload_n 0, 1) := by decide +kernel
theorem dL_law_1050 : decode cL_law 1050 = .ok (.iload_n 3, 1) := by decide +kernel
theorem dL_law_1051 : decode cL_law 1051 = .ok (.iconst 1, 1) := by decide +kernel
theorem dL_law_1052 : decode cL_law 1052 = .ok (.iadd, 1) := by decide +kernel
theorem dL_law_1053 : decode cL_law 1053 = .ok (.iaload, 1) := by decide +kernel
theorem dL_law_1054 : decode cL_law 1054 = .ok (.aload_n 0, 1) := by decide +kernel
theorem dL_law_1055 : decode cL_law 1055 = .ok (.iload_n 3, 1) := by decide +kernel
theorem dL_law_1056 : decode cL_law 1056 = .ok (.iconst 2, 1) := by decide +kernel
theorem dL_law_1057 : decode cL_law 1057 = .ok (.iadd, 1) := by decide +kernel
theorem dL_law_1058 : decode cL_law 1058 = .ok (.iaload, 1) := by decide +kernel
theorem dL_law_1059 : decode cL_law 1059 = .ok (.invokevirtual 122, 3) := by decide +kernel
theorem dL_law_1062 : decode cL_law 1062 = .ok (.aload_n 2, 1) := by decide +kernel
theorem dL_law_1063 : decode cL_law 1063 = .ok (.aload_n 0, 1) := by decide +kernel
theorem dL_law_1064 : decode cL_law 1064 = .ok (.iload_n 3, 1) := by decide +kernel
theorem dL_law_1065 : decode cL_law 1065 = .ok (.iconst 1, 1) := by decide +kernel
theorem dL_law_1066 : decode cL_law 1066 = .ok (.iadd, 1) := by decide +kernel
theorem dL_law_1067 : decode cL_law 1067 = .ok (.iaload, 1) := by decide +kernel
theorem dL_law_1068 : decode cL_law 1068 = .ok (.aload_n 0, 1) := by decide +kernel
theorem dL_law_1069 : decode cL_law 1069 = .ok (.iload_n 3, 1) := by decide +kernel
theorem dL_law_1070 : decode cL_law 1070 = .ok (.iconst 2, 1) := by decide +kernel
theorem dL_law_1071 : decode cL_law 1071 = .ok (.iadd, 1) := by decide +kernel
theorem dL_law_1072 : decode cL_law 1072 = .ok (.iaload, 1) := by decide +kernel
theorem dL_law_1073 : decode cL_law 1073 = .ok (.invokevirtual 125, 3) := by decide +kernel
theorem dL_law_1076 : decode cL_law 1076 = .ok (.if_icmp .eq 556, 3) := by decide +kernel
theorem dL_law_1079 : decode cL_law 1079 = .ok (.iconst 0, 1) := by decide +kernel
theorem dL_law_1080 : decode cL_law 1080 = .ok (.ireturn, 1) := by decide +kernel
theorem dL_law_1081 : decode cL_law 1081 = .ok (.aload_n 1, 1) := by decide +kernel
theorem dL_law_1082 : decode cL_law 1082 = .ok (.aload_n 0, 1) := by decide +kernel
theorem dL_law_1083 : decode cL_law 1083 = .ok (.iload_n 3, 1) := by decide +kernel
theorem dL_law_1084 : decode cL_law 1084 = .ok (.iconst 1, 1) := by decide +kernel
theorem dL_law_1085 : decode cL_law 1085 = .ok (.iadd, 1) := by decide +kernel
theorem dL_law_1086 : decode cL_law 1086 = .ok (.iaload, 1) := by decide +kernel
theorem dL_law_1087 : decode cL_law 1087 = .ok (.invokevirtual 126, 3) := by decide +kernel
theorem dL_law_1090 : decode cL_law 1090 = .ok (.aload_n 2, 1) := by decide +kernel
theorem dL_law_1091 : decode cL_law 1091 = .ok (.aload_n 0, 1) := by decide +kernel
theorem dL_law_1092 : decode cL_law 1092 = .ok (.iload_n 3, 1) := by decide +kernel
theorem dL_law_1093 : decode cL_law 1093 = .ok (.iconst 1, 1) := by decide +kernel
theorem dL_law_1094 : decode cL_law 1094 = .ok (.iadd, 1) := by decide +kernel
theorem dL_law_1095 : decode cL_law 1095 = .ok (.iaload, 1) := by decide +kernel
theorem dL_law_1096 : decode cL_law 1096 = .ok (.invokevirtual 129, 3) := by decide +kernel
theorem dL_law_1099 : decode cL_law 1099 = .ok (.if_icmp .eq 533, 3) := by decide +kernel
theorem dL_law_1102 : decode cL_law 1102 = .ok (.iconst 0, 1) := by decide +kernel
theorem dL_law_1103 : decode cL_law 1103 = .ok (.ireturn, 1) := by decide +kernel
theorem dL_law_1104 : decode cL_law 1104 = .ok (.aload_n 1, 1) := by decide +kernel
theorem dL_law_1105 : decode cL_law 1105 = .ok (.aload_n 0, 1) := by decide +kernel
theorem dL_law_1106 : decode cL_law 1106 = .ok (.iload_n 3, 1) := by decide +kernel
theorem dL_law_1107 : decode cL_law 1107 = .ok (.iconst 1, 1) := by decide +kernel
theorem dL_law_1108 : decode cL_law 1108 = .ok (.iadd, 1) := by decide +kernel
theorem dL_law_1109 : decode cL_law 1109 = .ok (.iaload, 1) := by decide +kernel
theorem dL_law_1110 : decode cL_law 1110 = .ok (.aload_n 0, 1) := by decide +kernel
theorem dL_law_1111 : decode cL_law 1111 = .ok (.iload_n 3, 1) := by decide +kernel
theorem dL_law_1112 : decode cL_law 1112 = .ok (.iconst 2, 1) := by decide +kernel
theorem dL_law_1113 : decode cL_law 1113 = .ok (.iadd, 1) := by decide +kernel
theorem dL_law_1114 : decode cL_law 1114 = .ok (.iaload, 1) := by decide +kernel
theorem dL_law_1115 : decode cL_law 1115 = .ok (.invokevirtual 130, 3) := by decide +kernel
theorem dL_law_1118 : decode cL_law 1118 = .ok (.aload_n 2, 1) := by decide +kernel
theorem dL_law_1119 : decode cL_law 1119 = .ok (.aload_n 0, 1) := by decide +kernel
theorem dL_law_1120 : decode cL_law 1120 = .ok (.iload_n 3, 1) := by decide +kernel
theorem dL_law_1121 : decode cL_law 1121 = .ok (.iconst 1, 1) := by decide +kernel
theorem dL_law_1122 : decode cL_law 1122 = .ok (.iadd, 1) := by decide +kernel
theorem dL_law_1123 : decode cL_law 1123 = .ok (.iaload, 1) := by decide +kernel
theorem dL_law_1124 : decode cL_law 1124 = .ok (.aload_n 0, 1) := by decide +kernel
theorem dL_law_1125 : decode cL_law 1125 = .ok (.iload_n 3, 1) := by decide +kernel
theorem dL_law_1126 : decode cL_law 1126 = .ok (.iconst 2, 1) := by decide +kernel
theorem dL_law_1127 : decode cL_law 1127 = .ok (.iadd, 1) := by decide +kernel
theorem dL_law_1128 : decode cL_law 1128 = .ok (.iaload, 1) := by decide +kernel
theorem dL_law_1129 : decode cL_law 1129 = .ok (.invokevirtual 133, 3) := by decide +kernel
theorem dL_law_1132 : decode cL_law 1132 = .ok (.if_icmp .eq 500, 3) := by decide +kernel
theorem dL_law_1135 : decode cL_law 1135 = .ok (.iconst 0, 1) := by decide +kernel
theorem dL_law_1136 : decode cL_law 1136 = .ok (.ireturn, 1) := by decide +kernel
theorem dL_law_1137 : decode cL_law 1137 = .ok (.aload_n 1, 1) := by decide +kernel
theorem dL_law_1138 : decode cL_law 1138 = .ok (.aload_n 0, 1) := by decide +kernel
theorem dL_law_1139 : decode cL_law 1139 = .ok (.iload_n 3, 1) := by decide +kernel
theorem dL_law_1140 : decode cL_law 1140 = .ok (.iconst 1, 1) := by decide +kernel
theorem dL_law_1141 : decode cL_law 1141 = .ok (.iadd, 1) := by decide +kernel
theorem dL_law_1142 : decode cL_law 1142 = .ok (.iaload, 1) := by decide +kernel
theorem dL_law_1143 : decode cL_law 1143 = .ok (.aload_n 0, 1) := by decide +kernel
theorem dL_law_1144 : decode cL_law 1144 = .ok (.iload_n 3, 1) := by decide +kernel
theorem dL_law_1145 : decode cL_law 1145 = .ok (.iconst 2, 1) := by decide +kernel
theorem dL_law_1146 : decode cL_law 1146 = .ok (.iadd, 1) := by decide +kernel
theorem dL_law_1147 : decode cL_law 1147 = .ok (.iaload, 1) := by decide +kernel
theorem dL_law_1148 : decode cL_law 1148 = .ok (.aload_n 0, 1) := by decide +kernel
theorem dL_law_1149 : decode cL_law 1149 = .ok (.iload_n 3, 1) := by decide +kernel
theorem dL_law_1150 : decode cL_law 1150 = .ok (.iconst 3, 1) := by decide +kernel
theorem dL_law_1151 : decode cL_law 1151 = .ok (.iadd, 1) := by decide +kernel
theorem dL_law_1152 : decode cL_law 1152 = .ok (.iaload, 1) := by decide +kernel
theorem dL_law_1153 : decode cL_law 1153 = .ok (.aload_n 0, 1) := by decide +kernel
theorem dL_law_1154 : decode cL_law 1154 = .ok (.iload_n 3, 1) := by decide +kernel
theorem dL_law_1155 : decode cL_law 1155 = .ok (.iconst 4, 1) := by decide +kernel
theorem dL_law_1156 : decode cL_law 1156 = .ok (.iadd, 1) := by decide +kernel
theorem dL_law_1157 : decode cL_law 1157 = .ok (.iaload, 1) := by decide +kernel
theorem dL_law_1158 : decode cL_law 1158 = .ok (.invokevirtual 134, 3) := by decide +kernel
theorem dL_law_1161 : decode cL_law 1161 = .ok (.aload_n 2, 1) := by decide +kernel
theorem dL_law_1162 : decode cL_law 1162 = .ok (.aload_n 0, 1) := by decide +kernel
theorem dL_law_1163 : decode cL_law 1163 = .ok (.iload_n 3, 1) := by decide +kernel
theorem dL_law_1164 : decode cL_law 1164 = .ok (.iconst 1, 1) := by decide +kernel
theorem dL_law_1165 : decode cL_law 1165 = .ok (.iadd, 1) := by decide +kernel
theorem dL_law_1166 : decode cL_law 1166 = .ok (.iaload, 1) := by decide +kernel
theorem dL_law_1167 : decode cL_law 1167 = .ok (.aload_n 0, 1) := by decide +kernel
theorem dL_law_1168 : decode cL_law 1168 = .ok (.iload_n 3, 1) := by decide +kernel
theorem dL_law_1169 : decode cL_law 1169 = .ok (.iconst 2, 1) := by decide +kernel
theorem dL_law_1170 : decode cL_law 1170 = .ok (.iadd, 1) := by decide +kernel
theorem dL_law_1171 : decode cL_law 1171 = .ok (.iaload, 1) := by decide +kernel
theorem dL_law_1172 : decode cL_law 1172 = .ok (.aload_n 0, 1) := by decide +kernel
theorem dL_law_1173 : decode cL_law 1173 = .ok (.iload_n 3, 1) := by decide +kernel
theorem dL_law_1174 : decode cL_law 1174 = .ok (.iconst 3, 1) := by decide +kernel
theorem dL_law_1175 : decode cL_law 1175 = .ok (.iadd, 1) := by decide +kernel
theorem dL_law_1176 : decode cL_law 1176 = .ok (.iaload, 1) := by decide +kernel
theorem dL_law_1177 : decode cL_law 1177 = .ok (.aload_n 0, 1) := by decide +kernel
theorem dL_law_1178 : decode cL_law 1178 = .ok (.iload_n 3, 1) := by decide +kernel
theorem dL_law_1179 : decode cL_law 1179 = .ok (.iconst 4, 1) := by decide +kernel
theorem dL_law_1180 : decode cL_law 1180 = .ok (.iadd, 1) := by decide +kernel
theorem dL_law_1181 : decode cL_law 1181 = .ok (.iaload, 1) := by decide +kernel
theorem dL_law_1182 : decode cL_law 1182 = .ok (.invokevirtual 138, 3) := by decide +kernel
theorem dL_law_1185 : decode cL_law 1185 = .ok (.if_icmp .eq 447, 3) := by decide +kernel
theorem dL_law_1188 : decode cL_law 1188 = .ok (.iconst 0, 1) := by decide +kernel
theorem dL_law_1189 : decode cL_law 1189 = .ok (.ireturn, 1) := by decide +kernel
theorem dL_law_1190 : decode cL_law 1190 = .ok (.aload_n 1, 1) := by decide +kernel
theorem dL_law_1191 : decode cL_law 1191 = .ok (.aload_n 0, 1) := by decide +kernel
theorem dL_law_1192 : decode cL_law 1192 = .ok (.iload_n 3, 1) := by decide +kernel
theorem dL_law_1193 : decode cL_law 1193 = .ok (.iconst 1, 1) := by decide +kernel
theorem dL_law_1194 : decode cL_law 1194 = .ok (.iadd, 1) := by decide +kernel
theorem dL_law_1195 : decode cL_law 1195 = .ok (.iaload, 1) := by decide +kernel
theorem dL_law_1196 : decode cL_law 1196 = .ok (.aload_n 0, 1) := by decide +kernel
theorem dL_law_1197 : decode cL_law 1197 = .ok (.iload_n 3, 1) := by decide +kernel
theorem dL_law_1198 : decode cL_law 1198 = .ok (.iconst 2, 1) := by decide +kernel
theorem dL_law_1199 : decode cL_law 1199 = .ok (.iadd, 1) := by decide +kernel
theorem dL_law_1200 : decode cL_law 1200 = .ok (.iaload, 1) := by decide +kernel
theorem dL_law_1201 : decode cL_law 1201 = .ok (.aload_n 0, 1) := by decide +kernel
theorem dL_law_1202 : decode cL_law 1202 = .ok (.iload_n 3, 1) := by decide +kernel
theorem dL_law_1203 : decode cL_law 1203 = .ok (.iconst 3, 1) := by decide +kernel
theorem dL_law_1204 : decode cL_law 1204 = .ok (.iadd, 1) := by decide +kernel
theorem dL_law_1205 : decode cL_law 1205 = .ok (.iaload, 1) := by decide +kernel
theorem dL_law_1206 : decode cL_law 1206 = .ok (.invokevirtual 139, 3) := by decide +kernel
theorem dL_law_1209 : decode cL_law 1209 = .ok (.aload_n 2, 1) := by decide +kernel
theorem dL_law_1210 : decode cL_law 1210 = .ok (.aload_n 0, 1) := by decide +kernel
theorem dL_law_1211 : decode cL_law 1211 = .ok (.iload_n 3, 1) := by decide +kernel
theorem dL_law_1212 : decode cL_law 1212 = .ok (.iconst 1, 1) := by decide +kernel
theorem dL_law_1213 : decode cL_law 1213 = .ok (.iadd, 1) := by decide +kernel
theorem dL_law_1214 : decode cL_law 1214 = .ok (.iaload, 1) := by decide +kernel
theorem dL_law_1215 : decode cL_law 1215 = .ok (.aload_n 0, 1) := by decide +kernel
theorem dL_law_1216 : decode cL_law 1216 = .ok (.iload_n 3, 1) := by decide +kernel
theorem dL_law_1217 : decode cL_law 1217 = .ok (.iconst 2, 1) := by decide +kernel
theorem dL_law_1218 : decode cL_law 1218 = .ok (.iadd, 1) := by decide +kernel
theorem dL_law_1219 : decode cL_law 1219 = .ok (.iaload, 1) := by decide +kernel
theorem dL_law_1220 : decode cL_law 1220 = .ok (.aload_n 0, 1) := by decide +kernel
theorem dL_law_1221 : decode cL_law 1221 = .ok (.iload_n 3, 1) := by decide +kernel
theorem dL_law_1222 : decode cL_law 1222 = .ok (.iconst 3, 1) := by decide +kernel
theorem dL_law_1223 : decode cL_law 1223 = .ok (.iadd, 1) := by decide +kernel
theorem dL_law_1224 : decode cL_law 1224 = .ok (.iaload, 1) := by decide +kernel
theorem dL_law_1225 : decode cL_law 1225 = .ok (.invokevirtual 142, 3) := by decide +kernel
theorem dL_law_1228 : decode cL_law 1228 = .ok (.if_icmp .eq 404, 3) := by decide +kernel
theorem dL_law_1231 : decode cL_law 1231 = .ok (.iconst 0, 1) := by decide +kernel
theorem dL_law_1232 : decode cL_law 1232 = .ok (.ireturn, 1) := by decide +kernel
theorem dL_law_1233 : decode cL_law 1233 = .ok (.aload_n 1, 1) := by decide +kernel
theorem dL_law_1234 : decode cL_law 1234 = .ok (.aload_n 0, 1) := by decide +kernel
theorem dL_law_1235 : decode cL_law 1235 = .ok (.iload_n 3, 1) := by decide +kernel
theorem dL_law_1236 : decode cL_law 1236 = .ok (.iconst 1, 1) := by decide +kernel
theorem dL_law_1237 : decode cL_law 1237 = .ok (.iadd, 1) := by decide +kernel
theorem dL_law_1238 : decode cL_law 1238 = .ok (.iaload, 1) := by decide +kernel
theorem dL_law_1239 : decode cL_law 1239 = .ok (.aload_n 0, 1) := by decide +kernel
theorem dL_law_1240 : decode cL_law 1240 = .ok (.iload_n 3, 1) := by decide +kernel
theorem dL_law_1241 : decode cL_law 1241 = .ok (.iconst 2, 1) := by decide +kernel
theorem dL_law_1242 : decode cL_law 1242 = .ok (.iadd, 1) := by decide +kernel
theorem dL_law_1243 : decode cL_law 1243 = .ok (.iaload, 1) := by decide +kernel
theorem dL_law_1244 : decode cL_law 1244 = .ok (.invokevirtual 143, 3) := by decide +kernel
theorem dL_law_1247 : decode cL_law 1247 = .ok (.aload_n 2, 1) := by decide +kernel
theorem dL_law_1248 : decode cL_law 1248 = .ok (.aload_n 0, 1) := by decide +kernel
theorem dL_law_1249 : decode cL_law 1249 = .ok (.iload_n 3, 1) := by decide +kernel
theorem dL_law_1250 : decode cL_law 1250 = .ok (.iconst 1, 1) := by decide +kernel
theorem dL_law_1251 : decode cL_law 1251 = .ok (.iadd, 1) := by decide +kernel
theorem dL_law_1252 : decode cL_law 1252 = .ok (.iaload, 1) := by decide +kernel
theorem dL_law_1253 : decode cL_law 1253 = .ok (.aload_n 0, 1) := by decide +kernel
theorem dL_law_1254 : decode cL_law 1254 = .ok (.iload_n 3, 1) := by decide +kernel
theorem dL_law_1255 : decode cL_law 1255 = .ok (.iconst 2, 1) := by decide +kernel
theorem dL_law_1256 : decode cL_law 1256 = .ok (.iadd, 1) := by decide +kernel
theorem dL_law_1257 : decode cL_law 1257 = .ok (.iaload, 1) := by decide +kernel
theorem dL_law_1258 : decode cL_law 1258 = .ok (.invokevirtual 146, 3) := by decide +kernel
theorem dL_law_1261 : decode cL_law 1261 = .ok (.if_icmp .eq 371, 3) := by decide +kernel
theorem dL_law_1264 : decode cL_law 1264 = .ok (.iconst 0, 1) := by decide +kernel
theorem dL_law_1265 : decode cL_law 1265 = .ok (.ireturn, 1) := by decide +kernel
theorem dL_law_1266 : decode cL_law 1266 = .ok (.aload_n 1, 1) := by decide +kernel
theorem dL_law_1267 : decode cL_law 1267 = .ok (.aload_n 0, 1) := by decide +kernel
theorem dL_law_1268 : decode cL_law 1268 = .ok (.iload_n 3, 1) := by decide +kernel
theorem dL_law_1269 : decode cL_law 1269 = .ok (.iconst 1, 1) := by decide +kernel
theorem dL_law_1270 : decode cL_law 1270 = .ok (.iadd, 1) := by decide +kernel
theorem dL_law_1271 : decode cL_law 1271 = .ok (.iaload, 1) := by decide +kernel
theorem dL_law_1272 : decode cL_law 1272 = .ok (.aload_n 0, 1) := by decide +kernel
theorem dL_law_1273 : decode cL_law 1273 = .ok (.iload_n 3, 1) := by decide +kernel
theorem dL_law_1274 : decode cL_law 1274 = .ok (.iconst 2, 1) := by decide +kernel
theorem dL_law_1275 : decode cL_law 1275 = .ok (.iadd, 1) := by decide +kernel
theorem dL_law_1276 : decode cL_law 1276 = .ok (.iaload, 1) := by decide +kernel
theorem dL_law_1277 : decode cL_law 1277 = .ok (.aload_n 0, 1) := by decide +kernel
theorem dL_law_1278 : decode cL_law 1278 = .ok (.iload_n 3, 1) := by decide +kernel
theorem dL_law_1279 : decode cL_law 1279 = .ok (.iconst 3, 1) := by decide +kernel
theorem dL_law_1280 : decode cL_law 1280 = .ok (.iadd, 1) := by decide +kernel
theorem dL_law_1281 : decode cL_law 1281 = .ok (.iaload, 1) := by decide +kernel
theorem dL_law_1282 : decode cL_law 1282 = .ok (.invokevirtual 147, 3) := by decide +kernel
theorem dL_law_1285 : decode cL_law 1285 = .ok (.aload_n 2, 1) := by decide +kernel
theorem dL_law_1286 : decode cL_law 1286 = .ok (.aload_n 0, 1) := by decide +kernel
theorem dL_law_1287 : decode cL_law 1287 = .ok (.iload_n 3, 1) := by decide +kernel
theorem dL_law_1288 : decode cL_law 1288 = .ok (.iconst 1, 1) := by decide +kernel
theorem dL_law_1289 : decode cL_law 1289 = .ok (.iadd, 1) := by decide +kernel
theorem dL_law_1290 : decode cL_law 1290 = .ok (.iaload, 1) := by decide +kernel
theorem dL_law_1291 : decode cL_law 1291 = .ok (.aload_n 0, 1) := by decide +kernel
theorem dL_law_1292 : decode cL_law 1292 = .ok (.iload_n 3, 1) := by decide +kernel
theorem dL_law_1293 : decode cL_law 1293 = .ok (.iconst 2, 1) := by decide +kernel
theorem dL_law_1294 : decode cL_law 1294 = .ok (.iadd, 1) := by decide +kernel
theorem dL_law_1295 : decode cL_law 1295 = .ok (.iaload, 1) := by decide +kernel
theorem dL_law_1296 : decode cL_law 1296 = .ok (.aload_n 0, 1) := by decide +kernel
theorem dL_law_1297 : decode cL_law 1297 = .ok (.iload_n 3, 1) := by decide +kernel
theorem dL_law_1298 : decode cL_law 1298 = .ok (.iconst 3, 1) := by decide +kernel
theorem dL_law_1299 : decode cL_law 1299 = .ok (.iadd, 1) := by decide +kernel
theorem dL_law_1300 : decode cL_law 1300 = .ok (.iaload, 1) := by decide +kernel
theorem dL_law_1301 : decode cL_law 1301 = .ok (.invokevirtual 150, 3) := by decide +kernel
theorem dL_law_1304 : decode cL_law 1304 = .ok (.if_icmp .eq 328, 3) := by decide +kernel
theorem dL_law_1307 : decode cL_law 1307 = .ok (.iconst 0, 1) := by decide +kernel
theorem dL_law_1308 : decode cL_law 1308 = .ok (.ireturn, 1) := by decide +kernel
theorem dL_law_1309 : decode cL_law 1309 = .ok (.aload_n 1, 1) := by decide +kernel
theorem dL_law_1310 : decode cL_law 1310 = .ok (.aload_n 0, 1) := by decide +kernel
theorem dL_law_1311 : decode cL_law 1311 = .ok (.iload_n 3, 1) := by decide +kernel
theorem dL_law_1312 : decode cL_law 1312 = .ok (.iconst 1, 1) := by decide +kernel
theorem dL_law_1313 : decode cL_law 1313 = .ok (.iadd, 1) := by decide +kernel
theorem dL_law_1314 : decode cL_law 1314 = .ok (.iaload, 1) := by decide +kernel
theorem dL_law_1315 : decode cL_law 1315 = .ok (.aload_n 0, 1) := by decide +kernel
theorem dL_law_1316 : decode cL_law 1316 = .ok (.iload_n 3, 1) := by decide +kernel
theorem dL_law_1317 : decode cL_law 1317 = .ok (.iconst 2, 1) := by decide +kernel
theorem dL_law_1318 : decode cL_law 1318 = .ok (.iadd, 1) := by decide +kernel
theorem dL_law_1319 : decode cL_law 1319 = .ok (.iaload, 1) := by decide +kernel
theorem dL_law_1320 : decode cL_law 1320 = .ok (.invokevirtual 151, 3) := by decide +kernel
theorem dL_law_1323 : decode cL_law 1323 = .ok (.aload_n 2, 1) := by decide +kernel
theorem dL_law_1324 : decode cL_law 1324 = .ok (.aload_n 0, 1) := by decide +kernel
theorem dL_law_1325 : decode cL_law 1325 = .ok (.iload_n 3, 1) := by decide +kernel
theorem dL_law_1326 : decode cL_law 1326 = .ok (.iconst 1, 1) := by decide +kernel
theorem dL_law_1327 : decode cL_law 1327 = .ok (.iadd, 1) := by decide +kernel
theorem dL_law_1328 : decode cL_law 1328 = .ok (.iaload, 1) := by decide +kernel
theorem dL_law_1329 : decode cL_law 1329 = .ok (.aload_n 0, 1) := by decide +kernel
theorem dL_law_1330 : decode cL_law 1330 = .ok (.iload_n 3, 1) := by decide +kernel
theorem dL_law_1331 : decode cL_law 1331 = .ok (.iconst 2, 1) := by decide +kernel
theorem dL_law_1332 : decode cL_law 1332 = .ok (.iadd, 1) := by decide +kernel
theorem dL_law_1333 : decode cL_law 1333 = .ok (.iaload, 1) := by decide +kernel
theorem dL_law_1334 : decode cL_law 1334 = .ok (.invokevirtual 154, 3) := by decide +kernel
theorem dL_law_1337 : decode cL_law 1337 = .ok (.if_icmp .eq 295, 3) := by decide +kernel
theorem dL_law_1340 : decode cL_law 1340 = .ok (.iconst 0, 1) := by decide +kernel
theorem dL_law_1341 : decode cL_law 1341 = .ok (.ireturn, 1) := by decide +kernel
theorem dL_law_1342 : decode cL_law 1342 = .ok (.aload_n 1, 1) := by decide +kernel
theorem dL_law_1343 : decode cL_law 1343 = .ok (.aload_n 0, 1) := by decide +kernel
theorem dL_law_1344 : decode cL_law 1344 = .ok (.iload_n 3, 1) := by decide +kernel
theorem dL_law_1345 : decode cL_law 1345 = .ok (.iconst 1, 1) := by decide +kernel
theorem dL_law_1346 : decode cL_law 1346 = .ok (.iadd, 1) := by decide +kernel
theorem dL_law_1347 : decode cL_law 1347 = .ok (.iaload, 1) := by decide +kernel
theorem dL_law_1348 : decode cL_law 1348 = .ok (.aload_n 0, 1) := by decide +kernel
theorem dL_law_1349 : decode cL_law 1349 = .ok (.iload_n 3, 1) := by decide +kernel
theorem dL_law_1350 : decode cL_law 1350 = .ok (.iconst 2, 1) := by decide +kernel
theorem dL_law_1351 : decode cL_law 1351 = .ok (.iadd, 1) := by decide +kernel
theorem dL_law_1352 : decode cL_law 1352 = .ok (.iaload, 1) := by decide +kernel
theorem dL_law_1353 : decode cL_law 1353 = .ok (.invokevirtual 155, 3) := by decide +kernel
theorem dL_law_1356 : decode cL_law 1356 = .ok (.aload_n 2, 1) := by decide +kernel
theorem dL_law_1357 : decode cL_law 1357 = .ok (.aload_n 0, 1) := by decide +kernel
theorem dL_law_1358 : decode cL_law 1358 = .ok (.iload_n 3, 1) := by decide +kernel
theorem dL_law_1359 : decode cL_law 1359 = .ok (.iconst 1, 1) := by decide +kernel
theorem dL_law_1360 : decode cL_law 1360 = .ok (.iadd, 1) := by decide +kernel
theorem dL_law_1361 : decode cL_law 1361 = .ok (.iaload, 1) := by decide +kernel
theorem dL_law_1362 : decode cL_law 1362 = .ok (.aload_n 0, 1) := by decide +kernel
theorem dL_law_1363 : decode cL_law 1363 = .ok (.iload_n 3, 1) := by decide +kernel
theorem dL_law_1364 : decode cL_law 1364 = .ok (.iconst 2, 1) := by decide +kernel
theorem dL_law_1365 : decode cL_law 1365 = .ok (.iadd, 1) := by decide +kernel
theorem dL_law_1366 : decode cL_law 1366 = .ok (.iaload, 1) := by decide +kernel
theorem dL_law_1367 : decode cL_law 1367 = .ok (.invokevirtual 158, 3) := by decide +kernel
theorem dL_law_1370 : decode cL_law 1370 = .ok (.if_icmp .eq 262, 3) := by decide +kernel
theorem dL_law_1373 : decode cL_law 1373 = .ok (.iconst 0, 1) := by decide +kernel
theorem dL_law_1374 : decode cL_law 1374 = .ok (.ireturn, 1) := by decide +kernel
theorem dL_law_1375 : decode cL_law 1375 = .ok (.aload_n 1, 1) := by decide +kernel
theorem dL_law_1376 : decode cL_law 1376 = .ok (.aload_n 0, 1) := by decide +kernel
theorem dL_law_1377 : decode cL_law 1377 = .ok (.iload_n 3, 1) := by decide +kernel
theorem dL_law_1378 : decode cL_law 1378 = .ok (.iconst 1, 1) := by decide +kernel
theorem dL_law_1379 : decode cL_law 1379 = .ok (.iadd, 1) := by decide +kernel
theorem dL_law_1380 : decode cL_law 1380 = .ok (.iaload, 1) := by decide +kernel
theorem dL_law_1381 : decode cL_law 1381 = .ok (.aload_n 0, 1) := by decide +kernel
theorem dL_law_1382 : decode cL_law 1382 = .ok (.iload_n 3, 1) := by decide +kernel
theorem dL_law_1383 : decode cL_law 1383 = .ok (.iconst 2, 1) := by decide +kernel
theorem dL_law_1384 : decode cL_law 1384 = .ok (.iadd, 1) := by decide +kernel
theorem dL_law_1385 : decode cL_law 1385 = .ok (.iaload, 1) := by decide +kernel
theorem dL_law_1386 : decode cL_law 1386 = .ok (.invokevirtual 159, 3) := by decide +kernel
theorem dL_law_1389 : decode cL_law 1389 = .ok (.aload_n 2, 1) := by decide +kernel
theorem dL_law_1390 : decode cL_law 1390 = .ok (.aload_n 0, 1) := by decide +kernel
theorem dL_law_1391 : decode cL_law 1391 = .ok (.iload_n 3, 1) := by decide +kernel
theorem dL_law_1392 : decode cL_law 1392 = .ok (.iconst 1, 1) := by decide +kernel
theorem dL_law_1393 : decode cL_law 1393 = .ok (.iadd, 1) := by decide +kernel
theorem dL_law_1394 : decode cL_law 1394 = .ok (.iaload, 1) := by decide +kernel
theorem dL_law_1395 : decode cL_law 1395 = .ok (.aload_n 0, 1) := by decide +kernel
theorem dL_law_1396 : decode cL_law 1396 = .ok (.iload_n 3, 1) := by decide +kernel
theorem dL_law_1397 : decode cL_law 1397 = .ok (.iconst 2, 1) := by decide +kernel
theorem dL_law_1398 : decode cL_law 1398 = .ok (.iadd, 1) := by decide +kernel
theorem dL_law_1399 : decode cL_law 1399 = .ok (.iaload, 1) := by decide +kernel
theorem dL_law_1400 : decode cL_law 1400 = .ok (.invokevirtual 162, 3) := by decide +kernel
theorem dL_law_1403 : decode cL_law 1403 = .ok (.if_icmp .eq 229, 3) := by decide +kernel
theorem dL_law_1406 : decode cL_law 1406 = .ok (.iconst 0, 1) := by decide +kernel
theorem dL_law_1407 : decode cL_law 1407 = .ok (.ireturn, 1) := by decide +kernel
theorem dL_law_1408 : decode cL_law 1408 = .ok (.aload_n 1, 1) := by decide +kernel
theorem dL_law_1409 : decode cL_law 1409 = .ok (.aload_n 0, 1) := by decide +kernel
theorem dL_law_1410 : decode cL_law 1410 = .ok (.iload_n 3, 1) := by decide +kernel
theorem dL_law_1411 : decode cL_law 1411 = .ok (.iconst 1, 1) := by decide +kernel
theorem dL_law_1412 : decode cL_law 1412 = .ok (.iadd, 1) := by decide +kernel
theorem dL_law_1413 : decode cL_law 1413 = .ok (.iaload, 1) := by decide +kernel
theorem dL_law_1414 : decode cL_law 1414 = .ok (.aload_n 0, 1) := by decide +kernel
theorem dL_law_1415 : decode cL_law 1415 = .ok (.iload_n 3, 1) := by decide +kernel
theorem dL_law_1416 : decode cL_law 1416 = .ok (.iconst 2, 1) := by decide +kernel
theorem dL_law_1417 : decode cL_law 1417 = .ok (.iadd, 1) := by decide +kernel
theorem dL_law_1418 : decode cL_law 1418 = .ok (.iaload, 1) := by decide +kernel
theorem dL_law_1419 : decode cL_law 1419 = .ok (.aload_n 0, 1) := by decide +kernel
theorem dL_law_1420 : decode cL_law 1420 = .ok (.iload_n 3, 1) := by decide +kernel
theorem dL_law_1421 : decode cL_law 1421 = .ok (.iconst 3, 1) := by decide +kernel
theorem dL_law_1422 : decode cL_law 1422 = .ok (.iadd, 1) := by decide +kernel
theorem dL_law_1423 : decode cL_law 1423 = .ok (.iaload, 1) := by decide +kernel
theorem dL_law_1424 : decode cL_law 1424 = .ok (.invokevirtual 163, 3) := by decide +kernel
theorem dL_law_1427 : decode cL_law 1427 = .ok (.aload_n 2, 1) := by decide +kernel
theorem dL_law_1428 : decode cL_law 1428 = .ok (.aload_n 0, 1) := by decide +kernel
theorem dL_law_1429 : decode cL_law 1429 = .ok (.iload_n 3, 1) := by decide +kernel
theorem dL_law_1430 : decode cL_law 1430 = .ok (.iconst 1, 1) := by decide +kernel
theorem dL_law_1431 : decode cL_law 1431 = .ok (.iadd, 1) := by decide +kernel
theorem dL_law_1432 : decode cL_law 1432 = .ok (.iaload, 1) := by decide +kernel
theorem dL_law_1433 : decode cL_law 1433 = .ok (.aload_n 0, 1) := by decide +kernel
theorem dL_law_1434 : decode cL_law 1434 = .ok (.iload_n 3, 1) := by decide +kernel
theorem dL_law_1435 : decode cL_law 1435 = .ok (.iconst 2, 1) := by decide +kernel
theorem dL_law_1436 : decode cL_law 1436 = .ok (.iadd, 1) := by decide +kernel
theorem dL_law_1437 : decode cL_law 1437 = .ok (.iaload, 1) := by decide +kernel
theorem dL_law_1438 : decode cL_law 1438 = .ok (.aload_n 0, 1) := by decide +kernel
theorem dL_law_1439 : decode cL_law 1439 = .ok (.iload_n 3, 1) := by decide +kernel
theorem dL_law_1440 : decode cL_law 1440 = .ok (.iconst 3, 1) := by decide +kernel
theorem dL_law_1441 : decode cL_law 1441 = .ok (.iadd, 1) := by decide +kernel
theorem dL_law_1442 : decode cL_law 1442 = .ok (.iaload, 1) := by decide +kernel
theorem dL_law_1443 : decode cL_law 1443 = .ok (.invokevirtual 166, 3) := by decide +kernel
theorem dL_law_1446 : decode cL_law 1446 = .ok (.if_icmp .eq 186, 3) := by decide +kernel
theorem dL_law_1449 : decode cL_law 1449 = .ok (.iconst 0, 1) := by decide +kernel
theorem dL_law_1450 : decode cL_law 1450 = .ok (.ireturn, 1) := by decide +kernel
theorem dL_law_1451 : decode cL_law 1451 = .ok (.aload_n 1, 1) := by decide +kernel
theorem dL_law_1452 : decode cL_law 1452 = .ok (.aload_n 0, 1) := by decide +kernel
theorem dL_law_1453 : decode cL_law 1453 = .ok (.iload_n 3, 1) := by decide +kernel
theorem dL_law_1454 : decode cL_law 1454 = .ok (.iconst 1, 1) := by decide +kernel
theorem dL_law_1455 : decode cL_law 1455 = .ok (.iadd, 1) := by decide +kernel
theorem dL_law_1456 : decode cL_law 1456 = .ok (.iaload, 1) := by decide +kernel
theorem dL_law_1457 : decode cL_law 1457 = .ok (.aload_n 0, 1) := by decide +kernel
theorem dL_law_1458 : decode cL_law 1458 = .ok (.iload_n 3, 1) := by decide +kernel
theorem dL_law_1459 : decode cL_law 1459 = .ok (.iconst 2, 1) := by decide +kernel
theorem dL_law_1460 : decode cL_law 1460 = .ok (.iadd, 1) := by decide +kernel
theorem dL_law_1461 : decode cL_law 1461 = .ok (.iaload, 1) := by decide +kernel
theorem dL_law_1462 : decode cL_law 1462 = .ok (.aload_n 0, 1) := by decide +kernel
theorem dL_law_1463 : decode cL_law 1463 = .ok (.iload_n 3, 1) := by decide +kernel
theorem dL_law_1464 : decode cL_law 1464 = .ok (.iconst 3, 1) := by decide +kernel
theorem dL_law_1465 : decode cL_law 1465 = .ok (.iadd, 1) := by decide +kernel
theorem dL_law_1466 : decode cL_law 1466 = .ok (.iaload, 1) := by decide +kernel
theorem dL_law_1467 : decode cL_law 1467 = .ok (.invokevirtual 167, 3) := by decide +kernel
theorem dL_law_1470 : decode cL_law 1470 = .ok (.aload_n 2, 1) := by decide +kernel
theorem dL_law_1471 : decode cL_law 1471 = .ok (.aload_n 0, 1) := by decide +kernel
theorem dL_law_1472 : decode cL_law 1472 = .ok (.iload_n 3, 1) := by decide +kernel
theorem dL_law_1473 : decode cL_law 1473 = .ok (.iconst 1, 1) := by decide +kernel
theorem dL_law_1474 : decode cL_law 1474 = .ok (.iadd, 1) := by decide +kernel
theorem dL_law_1475 : decode cL_law 1475 = .ok (.iaload, 1) := by decide +kernel
theorem dL_law_1476 : decode cL_law 1476 = .ok (.aload_n 0, 1) := by decide +kernel
theorem dL_law_1477 : decode cL_law 1477 = .ok (.iload_n 3, 1) := by decide +kernel
theorem dL_law_1478 : decode cL_law 1478 = .ok (.iconst 2, 1) := by decide +kernel
theorem dL_law_1479 : decode cL_law 1479 = .ok (.iadd, 1) := by decide +kernel
theorem dL_law_1480 : decode cL_law 1480 = .ok (.iaload, 1) := by decide +kernel
theorem dL_law_1481 : decode cL_law 1481 = .ok (.aload_n 0, 1) := by decide +kernel
theorem dL_law_1482 : decode cL_law 1482 = .ok (.iload_n 3, 1) := by decide +kernel
theorem dL_law_1483 : decode cL_law 1483 = .ok (.iconst 3, 1) := by decide +kernel
theorem dL_law_1484 : decode cL_law 1484 = .ok (.iadd, 1) := by decide +kernel
theorem dL_law_1485 : decode cL_law 1485 = .ok (.iaload, 1) := by decide +kernel
theorem dL_law_1486 : decode cL_law 1486 = .ok (.invokevirtual 170, 3) := by decide +kernel
theorem dL_law_1489 : decode cL_law 1489 = .ok (.if_icmp .eq 143, 3) := by decide +kernel
theorem dL_law_1492 : decode cL_law 1492 = .ok (.iconst 0, 1) := by decide +kernel
theorem dL_law_1493 : decode cL_law 1493 = .ok (.ireturn, 1) := by decide +kernel
theorem dL_law_1494 : decode cL_law 1494 = .ok (.aload_n 1, 1) := by decide +kernel
theorem dL_law_1495 : decode cL_law 1495 = .ok (.aload_n 0, 1) := by decide +kernel
theorem dL_law_1496 : decode cL_law 1496 = .ok (.iload_n 3, 1) := by decide +kernel
theorem dL_law_1497 : decode cL_law 1497 = .ok (.iconst 1, 1) := by decide +kernel
theorem dL_law_1498 : decode cL_law 1498 = .ok (.iadd, 1) := by decide +kernel
theorem dL_law_1499 : decode cL_law 1499 = .ok (.iaload, 1) := by decide +kernel
theorem dL_law_1500 : decode cL_law 1500 = .ok (.aload_n 0, 1) := by decide +kernel
theorem dL_law_1501 : decode cL_law 1501 = .ok (.iload_n 3, 1) := by decide +kernel
theorem dL_law_1502 : decode cL_law 1502 = .ok (.iconst 2, 1) := by decide +kernel
theorem dL_law_1503 : decode cL_law 1503 = .ok (.iadd, 1) := by decide +kernel
theorem dL_law_1504 : decode cL_law 1504 = .ok (.iaload, 1) := by decide +kernel
theorem dL_law_1505 : decode cL_law 1505 = .ok (.invokevirtual 171, 3) := by decide +kernel
theorem dL_law_1508 : decode cL_law 1508 = .ok (.aload_n 2, 1) := by decide +kernel
theorem dL_law_1509 : decode cL_law 1509 = .ok (.aload_n 0, 1) := by decide +kernel
theorem dL_law_1510 : decode cL_law 1510 = .ok (.iload_n 3, 1) := by decide +kernel
theorem dL_law_1511 : decode cL_law 1511 = .ok (.iconst 1, 1) := by decide +kernel
theorem dL_law_1512 : decode cL_law 1512 = .ok (.iadd, 1) := by decide +kernel
theorem dL_law_1513 : decode cL_law 1513 = .ok (.iaload, 1) := by decide +kernel
theorem dL_law_1514 : decode cL_law 1514 = .ok (.aload_n 0, 1) := by decide +kernel
theorem dL_law_1515 : decode cL_law 1515 = .ok (.iload_n 3, 1) := by decide +kernel
theorem dL_law_1516 : decode cL_law 1516 = .ok (.iconst 2, 1) := by decide +kernel
theorem dL_law_1517 : decode cL_law 1517 = .ok (.iadd, 1) := by decide +kernel
theorem dL_law_1518 : decode cL_law 1518 = .ok (.iaload, 1) := by decide +kernel
theorem dL_law_1519 : decode cL_law 1519 = .ok (.invokevirtual 174, 3) := by decide +kernel
theorem dL_law_1522 : decode cL_law 1522 = .ok (.if_icmp .eq 110, 3) := by decide +kernel
theorem dL_law_1525 : decode cL_law 1525 = .ok (.iconst 0, 1) := by decide +kernel
theorem dL_law_1526 : decode cL_law 1526 = .ok (.ireturn, 1) := by decide +kernel
theorem dL_law_1527 : decode cL_law 1527 = .ok (.aload_n 1, 1) := by decide +kernel
theorem dL_law_1528 : decode cL_law 1528 = .ok (.aload_n 0, 1) := by decide +kernel
theorem dL_law_1529 : decode cL_law 1529 = .ok (.iload_n 3, 1) := by decide +kernel
theorem dL_law_1530 : decode cL_law 1530 = .ok (.iconst 1, 1) := by decide +kernel
theorem dL_law_1531 : decode cL_law 1531 = .ok (.iadd, 1) := by decide +kernel
theorem dL_law_1532 : decode cL_law 1532 = .ok (.iaload, 1) := by decide +kernel
theorem dL_law_1533 : decode cL_law 1533 = .ok (.aload_n 0, 1) := by decide +kernel
theorem dL_law_1534 : decode cL_law 1534 = .ok (.iload_n 3, 1) := by decide +kernel
theorem dL_law_1535 : decode cL_law 1535 = .ok (.iconst 2, 1) := by decide +kernel
theorem dL_law_1536 : decode cL_law 1536 = .ok (.iadd, 1) := by decide +kernel
theorem dL_law_1537 : decode cL_law 1537 = .ok (.iaload, 1) := by decide +kernel
theorem dL_law_1538 : decode cL_law 1538 = .ok (.invokevirtual 175, 3) := by decide +kernel
theorem dL_law_1541 : decode cL_law 1541 = .ok (.aload_n 2, 1) := by decide +kernel
theorem dL_law_1542 : decode cL_law 1542 = .ok (.aload_n 0, 1) := by decide +kernel
theorem dL_law_1543 : decode cL_law 1543 = .ok (.iload_n 3, 1) := by decide +kernel
theorem dL_law_1544 : decode cL_law 1544 = .ok (.iconst 1, 1) := by decide +kernel
theorem dL_law_1545 : decode cL_law 1545 = .ok (.iadd, 1) := by decide +kernel
theorem dL_law_1546 : decode cL_law 1546 = .ok (.iaload, 1) := by decide +kernel
theorem dL_law_1547 : decode cL_law 1547 = .ok (.aload_n 0, 1) := by decide +kernel
theorem dL_law_1548 : decode cL_law 1548 = .ok (.iload_n 3, 1) := by decide +kernel
theorem dL_law_1549 : decode cL_law 1549 = .ok (.iconst 2, 1) := by decide +kernel
theorem dL_law_1550 : decode cL_law 1550 = .ok (.iadd, 1) := by decide +kernel
theorem dL_law_1551 : decode cL_law 1551 = .ok (.iaload, 1) := by decide +kernel
theorem dL_law_1552 : decode cL_law 1552 = .ok (.invokevirtual 178, 3) := by decide +kernel
theorem dL_law_1555 : decode cL_law 1555 = .ok (.if_icmp .eq 77, 3) := by decide +kernel
theorem dL_law_1558 : decode cL_law 1558 = .ok (.iconst 0, 1) := by decide +kernel
theorem dL_law_1559 : decode cL_law 1559 = .ok (.ireturn, 1) := by decide +kernel
theorem dL_law_1560 : decode cL_law 1560 = .ok (.aload_n 1, 1) := by decide +kernel
theorem dL_law_1561 : decode cL_law 1561 = .ok (.invokevirtual 179, 3) := by decide +kernel
theorem dL_law_1564 : decode cL_law 1564 = .ok (.aload_n 2, 1) := by decide +kernel
theorem dL_law_1565 : decode cL_law 1565 = .ok (.invokevirtual 183, 3) := by decide +kernel
theorem dL_law_1568 : decode cL_law 1568 = .ok (.if_icmp .eq 64, 3) := by decide +kernel
theorem dL_law_1571 : decode cL_law 1571 = .ok (.iconst 0, 1) := by decide +kernel
theorem dL_law_1572 : decode cL_law 1572 = .ok (.ireturn, 1) := by decide +kernel
theorem dL_law_1573 : decode cL_law 1573 = .ok (.aload_n 1, 1) := by decide +kernel
theorem dL_law_1574 : decode cL_law 1574 = .ok (.invokevirtual 184, 3) := by decide +kernel
theorem dL_law_1577 : decode cL_law 1577 = .ok (.aload_n 2, 1) := by decide +kernel
theorem dL_law_1578 : decode cL_law 1578 = .ok (.invokevirtual 188, 3) := by decide +kernel
theorem dL_law_1581 : decode cL_law 1581 = .ok (.if_icmp .eq 51, 3) := by decide +kernel
theorem dL_law_1584 : decode cL_law 1584 = .ok (.iconst 0, 1) := by decide +kernel
theorem dL_law_1585 : decode cL_law 1585 = .ok (.ireturn, 1) := by decide +kernel
theorem dL_law_1586 : decode cL_law 1586 = .ok (.aload_n 1, 1) := by decide +kernel
theorem dL_law_1587 : decode cL_law 1587 = .ok (.aload_n 0, 1) := by decide +kernel
theorem dL_law_1588 : decode cL_law 1588 = .ok (.iload_n 3, 1) := by decide +kernel
theorem dL_law_1589 : decode cL_law 1589 = .ok (.iconst 1, 1) := by decide +kernel
theorem dL_law_1590 : decode cL_law 1590 = .ok (.iadd, 1) := by decide +kernel
theorem dL_law_1591 : decode cL_law 1591 = .ok (.iaload, 1) := by decide +kernel
theorem dL_law_1592 : decode cL_law 1592 = .ok (.invokevirtual 189, 3) := by decide +kernel
theorem dL_law_1595 : decode cL_law 1595 = .ok (.aload_n 2, 1) := by decide +kernel
theorem dL_law_1596 : decode cL_law 1596 = .ok (.aload_n 0, 1) := by decide +kernel
theorem dL_law_1597 : decode cL_law 1597 = .ok (.iload_n 3, 1) := by decide +kernel
theorem dL_law_1598 : decode cL_law 1598 = .ok (.iconst 1, 1) := by decide +kernel
theorem dL_law_1599 : decode cL_law 1599 = .ok (.iadd, 1) := by decide +kernel
theorem dL_law_1600 : decode cL_law 1600 = .ok (.iaload, 1) := by decide +kernel
theorem dL_law_1601 : decode cL_law 1601 = .ok (.invokevirtual 192, 3) := by decide +kernel
theorem dL_law_1604 : decode cL_law 1604 = .ok (.if_icmp .eq 28, 3) := by decide +kernel
theorem dL_law_1607 : decode cL_law 1607 = .ok (.iconst 0, 1) := by decide +kernel
theorem dL_law_1608 : decode cL_law 1608 = .ok (.ireturn, 1) := by decide +kernel
theorem dL_law_1609 : decode cL_law 1609 = .ok (.aload_n 1, 1) := by decide +kernel
theorem dL_law_1610 : decode cL_law 1610 = .ok (.aload_n 0, 1) := by decide +kernel
theorem dL_law_1611 : decode cL_law 1611 = .ok (.iload_n 3, 1) := by decide +kernel
theorem dL_law_1612 : decode cL_law 1612 = .ok (.iconst 1, 1) := by decide +kernel
theorem dL_law_1613 : decode cL_law 1613 = .ok (.iadd, 1) := by decide +kernel
theorem dL_law_1614 : decode cL_law 1614 = .ok (.iaload, 1) := by decide +kernel
theorem dL_law_1615 : decode cL_law 1615 = .ok (.invokevirtual 193, 3) := by decide +kernel
theorem dL_law_1618 : decode cL_law 1618 = .ok (.aload_n 2, 1) := by decide +kernel
theorem dL_law_1619 : decode cL_law 1619 = .ok (.aload_n 0, 1) := by decide +kernel
theorem dL_law_1620 : decode cL_law 1620 = .ok (.iload_n 3, 1) := by decide +kernel
theorem dL_law_1621 : decode cL_law 1621 = .ok (.iconst 1, 1) := by decide +kernel
theorem dL_law_1622 : decode cL_law 1622 = .ok (.iadd, 1) := by decide +kernel
theorem dL_law_1623 : decode cL_law 1623 = .ok (.iaload, 1) := by decide +kernel
theorem dL_law_1624 : decode cL_law 1624 = .ok (.invokevirtual 196, 3) := by decide +kernel
theorem dL_law_1627 : decode cL_law 1627 = .ok (.if_icmp .eq 5, 3) := by decide +kernel
theorem dL_law_1630 : decode cL_law 1630 = .ok (.iconst 0, 1) := by decide +kernel
theorem dL_law_1631 : decode cL_law 1631 = .ok (.ireturn, 1) := by decide +kernel
theorem dL_law_1632 : decode cL_law 1632 = .ok (.iinc 3 6, 3) := by decide +kernel
theorem dL_law_1635 : decode cL_law 1635 = .ok (.goto (-1617), 3) := by decide +kernel
theorem dL_law_1638 : decode cL_law 1638 = .ok (.iconst 1, 1) := by decide +kernel
theorem dL_law_1639 : decode cL_law 1639 = .ok (.ireturn, 1) := by decide +kernel
