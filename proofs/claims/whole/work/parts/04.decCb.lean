theorem dX5_pairsOfBits_21 : decode cX5_pairsOfBits 21 = .ok (.goto (-17), 3) := by decide +kernel
theorem dX5_pairsOfBits_24 : decode cX5_pairsOfBits 24 = .ok (.iload_n 2, 1) := by decide +kernel
theorem dX5_pairsOfBits_25 : decode cX5_pairsOfBits 25 = .ok (.ireturn, 1) := by decide +kernel
theorem dX5_work_0 : decode cX5_work 0 = .ok (.aload_n 0, 1) := by decide +kernel
theorem dX5_work_1 : decode cX5_work 1 = .ok (.bipush 21, 2) := by decide +kernel
theorem dX5_work_3 : decode cX5_work 3 = .ok (.invokevirtual 141, 3) := by decide +kernel
theorem dX5_work_6 : decode cX5_work 6 = .ok (.istore_n 1, 1) := by decide +kernel
theorem dX5_work_7 : decode cX5_work 7 = .ok (.iload_n 1, 1) := by decide +kernel
theorem dX5_work_8 : decode cX5_work 8 = .ok (.bipush 8, 2) := by decide +kernel
theorem dX5_work_10 : decode cX5_work 10 = .ok (.if_icmp .lt 13, 3) := by decide +kernel
theorem dX5_work_13 : decode cX5_work 13 = .ok (.iload_n 1, 1) := by decide +kernel
theorem dX5_work_14 : decode cX5_work 14 = .ok (.bipush 11, 2) := by decide +kernel
theorem dX5_work_16 : decode cX5_work 16 = .ok (.if_icmp .gt 7, 3) := by decide +kernel
theorem dX5_work_19 : decode cX5_work 19 = .ok (.iconst 1, 1) := by decide +kernel
theorem dX5_work_20 : decode cX5_work 20 = .ok (.goto 4, 3) := by decide +kernel
theorem dX5_work_23 : decode cX5_work 23 = .ok (.iconst 0, 1) := by decide +kernel
theorem dX5_work_24 : decode cX5_work 24 = .ok (.istore_n 2, 1) := by decide +kernel
theorem dX5_work_25 : decode cX5_work 25 = .ok (.iload_n 2, 1) := by decide +kernel
theorem dX5_work_26 : decode cX5_work 26 = .ok (.ifCond .eq 18, 3) := by decide +kernel
theorem dX5_work_29 : decode cX5_work 29 = .ok (.aload_n 0, 1) := by decide +kernel
theorem dX5_work_30 : decode cX5_work 30 = .ok (.ldc 148, 2) := by decide +kernel
theorem dX5_work_32 : decode cX5_work 32 = .ok (.invokevirtual 114, 3) := by decide +kernel
theorem dX5_work_35 : decode cX5_work 35 = .ok (.ifCond .ne 9, 3) := by decide +kernel
theorem dX5_work_38 : decode cX5_work 38 = .ok (.aload_n 0, 1) := by decide +kernel
theorem dX5_work_39 : decode cX5_work 39 = .ok (.iconst 0, 1) := by decide +kernel
theorem dX5_work_40 : decode cX5_work 40 = .ok (.invokevirtual 101, 3) := by decide +kernel
theorem dX5_work_43 : decode cX5_work 43 = .ok (.ireturn, 1) := by decide +kernel
theorem dX5_work_44 : decode cX5_work 44 = .ok (.aload_n 0, 1) := by decide +kernel
theorem dX5_work_45 : decode cX5_work 45 = .ok (.ldc 160, 2) := by decide +kernel
theorem dX5_work_47 : decode cX5_work 47 = .ok (.invokevirtual 114, 3) := by decide +kernel
theorem dX5_work_50 : decode cX5_work 50 = .ok (.ifCond .ne 16, 3) := by decide +kernel
theorem dX5_work_53 : decode cX5_work 53 = .ok (.aload_n 0, 1) := by decide +kernel
theorem dX5_work_54 : decode cX5_work 54 = .ok (.bipush 16, 2) := by decide +kernel
theorem dX5_work_56 : decode cX5_work 56 = .ok (.invokevirtual 114, 3) := by decide +kernel
theorem dX5_work_59 : decode cX5_work 59 = .ok (.ifCond .eq 7, 3) := by decide +kernel
theorem dX5_work_62 : decode cX5_work 62 = .ok (.iconst 1, 1) := by decide +kernel
theorem dX5_work_63 : decode cX5_work 63 = .ok (.goto 4, 3) := by decide +kernel
theorem dX5_work_66 : decode cX5_work 66 = .ok (.iconst 0, 1) := by decide +kernel
theorem dX5_work_67 : decode cX5_work 67 = .ok (.istore_n 3, 1) := by decide +kernel
theorem dX5_work_68 : decode cX5_work 68 = .ok (.iload_n 3, 1) := by decide +kernel
theorem dX5_work_69 : decode cX5_work 69 = .ok (.ifCond .eq 8, 3) := by decide +kernel
theorem dX5_work_72 : decode cX5_work 72 = .ok (.bipush 12, 2) := by decide +kernel
theorem dX5_work_74 : decode cX5_work 74 = .ok (.goto 5, 3) := by decide +kernel
theorem dX5_work_77 : decode cX5_work 77 = .ok (.bipush 8, 2) := by decide +kernel
theorem dX5_work_79 : decode cX5_work 79 = .ok (.istore 4, 2) := by decide +kernel
theorem dX5_work_81 : decode cX5_work 81 = .ok (.aload_n 0, 1) := by decide +kernel
theorem dX5_work_82 : decode cX5_work 82 = .ok (.ldc 160, 2) := by decide +kernel
theorem dX5_work_84 : decode cX5_work 84 = .ok (.invokevirtual 114, 3) := by decide +kernel
theorem dX5_work_87 : decode cX5_work 87 = .ok (.ifCond .eq 10, 3) := by decide +kernel
theorem dX5_work_90 : decode cX5_work 90 = .ok (.aload_n 0, 1) := by decide +kernel
theorem dX5_work_91 : decode cX5_work 91 = .ok (.invokevirtual 161, 3) := by decide +kernel
theorem dX5_work_94 : decode cX5_work 94 = .ok (.goto 10, 3) := by decide +kernel
theorem dX5_work_97 : decode cX5_work 97 = .ok (.aload_n 0, 1) := by decide +kernel
theorem dX5_work_98 : decode cX5_work 98 = .ok (.iload_n 3, 1) := by decide +kernel
theorem dX5_work_99 : decode cX5_work 99 = .ok (.iload 4, 2) := by decide +kernel
theorem dX5_work_101 : decode cX5_work 101 = .ok (.invokevirtual 164, 3) := by decide +kernel
theorem dX5_work_104 : decode cX5_work 104 = .ok (.istore 5, 2) := by decide +kernel
theorem dX5_work_106 : decode cX5_work 106 = .ok (.aload_n 0, 1) := by decide +kernel
theorem dX5_work_107 : decode cX5_work 107 = .ok (.aload_n 0, 1) := by decide +kernel
theorem dX5_work_108 : decode cX5_work 108 = .ok (.getfield 19, 3) := by decide +kernel
theorem dX5_work_111 : decode cX5_work 111 = .ok (.ldc 123, 2) := by decide +kernel
theorem dX5_work_113 : decode cX5_work 113 = .ok (.invokevirtual 48, 3) := by decide +kernel
theorem dX5_work_116 : decode cX5_work 116 = .ok (.ifCond .eq 7, 3) := by decide +kernel
theorem dX5_work_119 : decode cX5_work 119 = .ok (.iconst 1, 1) := by decide +kernel
theorem dX5_work_120 : decode cX5_work 120 = .ok (.goto 4, 3) := by decide +kernel
theorem dX5_work_123 : decode cX5_work 123 = .ok (.iconst 0, 1) := by decide +kernel
theorem dX5_work_124 : decode cX5_work 124 = .ok (.putfield 168, 3) := by decide +kernel
theorem dX5_work_127 : decode cX5_work 127 = .ok (.aload_n 0, 1) := by decide +kernel
theorem dX5_work_128 : decode cX5_work 128 = .ok (.iload_n 1, 1) := by decide +kernel
theorem dX5_work_129 : decode cX5_work 129 = .ok (.aload_n 0, 1) := by decide +kernel
theorem dX5_work_130 : decode cX5_work 130 = .ok (.aload_n 0, 1) := by decide +kernel
theorem dX5_work_131 : decode cX5_work 131 = .ok (.bipush 16, 2) := by decide +kernel
theorem dX5_work_133 : decode cX5_work 133 = .ok (.invokevirtual 141, 3) := by decide +kernel
theorem dX5_work_136 : decode cX5_work 136 = .ok (.iload 4, 2) := by decide +kernel
theorem dX5_work_138 : decode cX5_work 138 = .ok (.invokevirtual 144, 3) := by decide +kernel
theorem dX5_work_141 : decode cX5_work 141 = .ok (.iload 5, 2) := by decide +kernel
theorem dX5_work_143 : decode cX5_work 143 = .ok (.invokevirtual 171, 3) := by decide +kernel
theorem dX5_work_146 : decode cX5_work 146 = .ok (.istore 6, 2) := by decide +kernel
theorem dX5_work_148 : decode cX5_work 148 = .ok (.aload_n 0, 1) := by decide +kernel
theorem dX5_work_149 : decode cX5_work 149 = .ok (.getfield 19, 3) := by decide +kernel
theorem dX5_work_152 : decode cX5_work 152 = .ok (.invokevirtual 56, 3) := by decide +kernel
theorem dX5_work_155 : decode cX5_work 155 = .ok (.istore 7, 2) := by decide +kernel
theorem dX5_work_157 : decode cX5_work 157 = .ok (.aload_n 0, 1) := by decide +kernel
theorem dX5_work_158 : decode cX5_work 158 = .ok (.bipush 12, 2) := by decide +kernel
theorem dX5_work_160 : decode cX5_work 160 = .ok (.invokevirtual 141, 3) := by decide +kernel
theorem dX5_work_163 : decode cX5_work 163 = .ok (.istore 8, 2) := by decide +kernel
theorem dX5_work_165 : decode cX5_work 165 = .ok (.iload_n 2, 1) := by decide +kernel
theorem dX5_work_166 : decode cX5_work 166 = .ok (.ifCond .ne 11, 3) := by decide +kernel
theorem dX5_work_169 : decode cX5_work 169 = .ok (.aload_n 0, 1) := by decide +kernel
theorem dX5_work_170 : decode cX5_work 170 = .ok (.iload 8, 2) := by decide +kernel
theorem dX5_work_172 : decode cX5_work 172 = .ok (.iload 6, 2) := by decide +kernel
theorem dX5_work_174 : decode cX5_work 174 = .ok (.invokevirtual 175, 3) := by decide +kernel
theorem dX5_work_177 : decode cX5_work 177 = .ok (.aload_n 0, 1) := by decide +kernel
theorem dX5_work_178 : decode cX5_work 178 = .ok (.ldc 148, 2) := by decide +kernel
theorem dX5_work_180 : decode cX5_work 180 = .ok (.invokevirtual 114, 3) := by decide +kernel
theorem dX5_work_183 : decode cX5_work 183 = .ok (.ifCond .eq 11, 3) := by decide +kernel
theorem dX5_work_186 : decode cX5_work 186 = .ok (.aload_n 0, 1) := by decide +kernel
theorem dX5_work_187 : decode cX5_work 187 = .ok (.iload 8, 2) := by decide +kernel
theorem dX5_work_189 : decode cX5_work 189 = .ok (.iload 6, 2) := by decide +kernel
theorem dX5_work_191 : decode cX5_work 191 = .ok (.invokevirtual 178, 3) := by decide +kernel
theorem dX5_work_194 : decode cX5_work 194 = .ok (.iload 8, 2) := by decide +kernel
theorem dX5_work_196 : decode cX5_work 196 = .ok (.bipush 15, 2) := by decide +kernel
theorem dX5_work_198 : decode cX5_work 198 = .ok (.if_icmp .ne 11, 3) := by decide +kernel
theorem dX5_work_201 : decode cX5_work 201 = .ok (.iload_n 2, 1) := by decide +kernel
theorem dX5_work_202 : decode cX5_work 202 = .ok (.ifCond .ne 7, 3) := by decide +kernel
theorem dX5_work_205 : decode cX5_work 205 = .ok (.iconst 1, 1) := by decide +kernel
theorem dX5_work_206 : decode cX5_work 206 = .ok (.goto 4, 3) := by decide +kernel
theorem dX5_work_209 : decode cX5_work 209 = .ok (.iconst 0, 1) := by decide +kernel
theorem dX5_work_210 : decode cX5_work 210 = .ok (.istore 9, 2) := by decide +kernel
theorem dX5_work_212 : decode cX5_work 212 = .ok (.iload 9, 2) := by decide +kernel
theorem dX5_work_214 : decode cX5_work 214 = .ok (.ifCond .ne 15, 3) := by decide +kernel
theorem dX5_work_217 : decode cX5_work 217 = .ok (.aload_n 0, 1) := by decide +kernel
theorem dX5_work_218 : decode cX5_work 218 = .ok (.getfield 19, 3) := by decide +kernel
theorem dX5_work_221 : decode cX5_work 221 = .ok (.invokevirtual 56, 3) := by decide +kernel
theorem dX5_work_224 : decode cX5_work 224 = .ok (.iload 7, 2) := by decide +kernel
theorem dX5_work_226 : decode cX5_work 226 = .ok (.if_icmp .eq 7, 3) := by decide +kernel
theorem dX5_work_229 : decode cX5_work 229 = .ok (.iconst 3, 1) := by decide +kernel
theorem dX5_work_230 : decode cX5_work 230 = .ok (.goto 4, 3) := by decide +kernel
theorem dX5_work_233 : decode cX5_work 233 = .ok (.iconst 0, 1) := by decide +kernel
theorem dX5_work_234 : decode cX5_work 234 = .ok (.istore 10, 2) := by decide +kernel
theorem dX5_work_236 : decode cX5_work 236 = .ok (.iload_n 3, 1) := by decide +kernel
theorem dX5_work_237 : decode cX5_work 237 = .ok (.ifCond .eq 7, 3) := by decide +kernel
theorem dX5_work_240 : decode cX5_work 240 = .ok (.iconst 2, 1) := by decide +kernel
theorem dX5_work_241 : decode cX5_work 241 = .ok (.goto 4, 3) := by decide +kernel
theorem dX5_work_244 : decode cX5_work 244 = .ok (.iconst 1, 1) := by decide +kernel
theorem dX5_work_245 : decode cX5_work 245 = .ok (.iload 10, 2) := by decide +kernel
theorem dX5_work_247 : decode cX5_work 247 = .ok (.iadd, 1) := by decide +kernel
theorem dX5_work_248 : decode cX5_work 248 = .ok (.ireturn, 1) := by decide +kernel
theorem dX5_setSignsOfWork_0 : decode cX5_setSignsOfWork 0 = .ok (.iload_n 1, 1) := by decide +kernel
theorem dX5_setSignsOfWork_1 : decode cX5_setSignsOfWork 1 = .ok (.bipush 15, 2) := by decide +kernel
theorem dX5_setSignsOfWork_3 : decode cX5_setSignsOfWork 3 = .ok (.if_icmp .ne 14, 3) := by decide +kernel
theorem dX5_setSignsOfWork_6 : decode cX5_setSignsOfWork 6 = .ok (.aload_n 0, 1) := by decide +kernel
theorem dX5_setSignsOfWork_7 : decode cX5_setSignsOfWork 7 = .ok (.getfield 19, 3) := by decide +kernel
theorem dX5_setSignsOfWork_10 : decode cX5_setSignsOfWork 10 = .ok (.iload_n 2, 1) := by decide +kernel
theorem dX5_setSignsOfWork_11 : decode cX5_setSignsOfWork 11 = .ok (.invokevirtual 181, 3) := by decide +kernel
theorem dX5_setSignsOfWork_14 : decode cX5_setSignsOfWork 14 = .ok (.goto 26, 3) := by decide +kernel
theorem dX5_setSignsOfWork_17 : decode cX5_setSignsOfWork 17 = .ok (.aload_n 0, 1) := by decide +kernel
theorem dX5_setSignsOfWork_18 : decode cX5_setSignsOfWork 18 = .ok (.getfield 19, 3) := by decide +kernel
theorem dX5_setSignsOfWork_21 : decode cX5_setSignsOfWork 21 = .ok (.iload_n 2, 1) := by decide +kernel
theorem dX5_setSignsOfWork_22 : decode cX5_setSignsOfWork 22 = .ok (.invokevirtual 149, 3) := by decide +kernel
theorem dX5_setSignsOfWork_25 : decode cX5_setSignsOfWork 25 = .ok (.aload_n 0, 1) := by decide +kernel
theorem dX5_setSignsOfWork_26 : decode cX5_setSignsOfWork 26 = .ok (.getfield 19, 3) := by decide +kernel
theorem dX5_setSignsOfWork_29 : decode cX5_setSignsOfWork 29 = .ok (.aload_n 0, 1) := by decide +kernel
theorem dX5_setSignsOfWork_30 : decode cX5_setSignsOfWork 30 = .ok (.getfield 184, 3) := by decide +kernel
theorem dX5_setSignsOfWork_33 : decode cX5_setSignsOfWork 33 = .ok (.aload_n 0, 1) := by decide +kernel
theorem dX5_setSignsOfWork_34 : decode cX5_setSignsOfWork 34 = .ok (.getfield 168, 3) := by decide +kernel
theorem dX5_setSignsOfWork_37 : decode cX5_setSignsOfWork 37 = .ok (.invokevirtual 187, 3) := by decide +kernel
theorem dX5_setSignsOfWork_40 : decode cX5_setSignsOfWork 40 = .ok (.return_, 1) := by decide +kernel
theorem dX5_worked_0 : decode cX5_worked 0 = .ok (.iload_n 1, 1) := by decide +kernel
theorem dX5_worked_1 : decode cX5_worked 1 = .ok (.tableswitch 169 0 14 #[75, 79, 83, 93, 103, 111, 125, 141, 75, 79, 83, 103, 157, 161, 163], 75) := by decide +kernel
theorem dX5_worked_76 : decode cX5_worked 76 = .ok (.iload_n 2, 1) := by decide +kernel
theorem dX5_worked_77 : decode cX5_worked 77 = .ok (.iload_n 3, 1) := by decide +kernel
theorem dX5_worked_78 : decode cX5_worked 78 = .ok (.iand, 1) := by decide +kernel
theorem dX5_worked_79 : decode cX5_worked 79 = .ok (.ireturn, 1) := by decide +kernel
theorem dX5_worked_80 : decode cX5_worked 80 = .ok (.iload_n 2, 1) := by decide +kernel
theorem dX5_worked_81 : decode cX5_worked 81 = .ok (.iload_n 3, 1) := by decide +kernel
theorem dX5_worked_82 : decode cX5_worked 82 = .ok (.ixor, 1) := by decide +kernel
theorem dX5_worked_83 : decode cX5_worked 83 = .ok (.ireturn, 1) := by decide +kernel
theorem dX5_worked_84 : decode cX5_worked 84 = .ok (.aload_n 0, 1) := by decide +kernel
theorem dX5_worked_85 : decode cX5_worked 85 = .ok (.iload_n 2, 1) := by decide +kernel
theorem dX5_worked_86 : decode cX5_worked 86 = .ok (.iload_n 3, 1) := by decide +kernel
theorem dX5_worked_87 : decode cX5_worked 87 = .ok (.iconst (-1), 1) := by decide +kernel
theorem dX5_worked_88 : decode cX5_worked 88 = .ok (.ixor, 1) := by decide +kernel
theorem dX5_worked_89 : decode cX5_worked 89 = .ok (.iconst 1, 1) := by decide +kernel
theorem dX5_worked_90 : decode cX5_worked 90 = .ok (.invokevirtual 190, 3) := by decide +kernel
theorem dX5_worked_93 : decode cX5_worked 93 = .ok (.ireturn, 1) := by decide +kernel
theorem dX5_worked_94 : decode cX5_worked 94 = .ok (.aload_n 0, 1) := by decide +kernel
theorem dX5_worked_95 : decode cX5_worked 95 = .ok (.iload_n 3, 1) := by decide +kernel
theorem dX5_worked_96 : decode cX5_worked 96 = .ok (.iload_n 2, 1) := by decide +kernel
theorem dX5_worked_97 : decode cX5_worked 97 = .ok (.iconst (-1), 1) := by decide +kernel
theorem dX5_worked_98 : decode cX5_worked 98 = .ok (.ixor, 1) := by decide +kernel
theorem dX5_worked_99 : decode cX5_worked 99 = .ok (.iconst 1, 1) := by decide +kernel
theorem dX5_worked_100 : decode cX5_worked 100 = .ok (.invokevirtual 190, 3) := by decide +kernel
theorem dX5_worked_103 : decode cX5_worked 103 = .ok (.ireturn, 1) := by decide +kernel
theorem dX5_worked_104 : decode cX5_worked 104 = .ok (.aload_n 0, 1) := by decide +kernel
theorem dX5_worked_105 : decode cX5_worked 105 = .ok (.iload_n 2, 1) := by decide +kernel
theorem dX5_worked_106 : decode cX5_worked 106 = .ok (.iload_n 3, 1) := by decide +kernel
theorem dX5_worked_107 : decode cX5_worked 107 = .ok (.iconst 0, 1) := by decide +kernel
theorem dX5_worked_108 : decode cX5_worked 108 = .ok (.invokevirtual 190, 3) := by decide +kernel
theorem dX5_worked_111 : decode cX5_worked 111 = .ok (.ireturn, 1) := by decide +kernel
theorem dX5_worked_112 : decode cX5_worked 112 = .ok (.aload_n 0, 1) := by decide +kernel
theorem dX5_worked_113 : decode cX5_worked 113 = .ok (.iload_n 2, 1) := by decide +kernel
theorem dX5_worked_114 : decode cX5_worked 114 = .ok (.iload_n 3, 1) := by decide +kernel
theorem dX5_worked_115 : decode cX5_worked 115 = .ok (.aload_n 0, 1) := by decide +kernel
theorem dX5_worked_116 : decode cX5_worked 116 = .ok (.getfield 19, 3) := by decide +kernel
theorem dX5_worked_119 : decode cX5_worked 119 = .ok (.invokevirtual 193, 3) := by decide +kernel
theorem dX5_worked_122 : decode cX5_worked 122 = .ok (.invokevirtual 190, 3) := by decide +kernel
theorem dX5_worked_125 : decode cX5_worked 125 = .ok (.ireturn, 1) := by decide +kernel
theorem dX5_worked_126 : decode cX5_worked 126 = .ok (.aload_n 0, 1) := by decide +kernel
theorem dX5_worked_127 : decode cX5_worked 127 = .ok (.iload_n 2, 1) := by decide +kernel
theorem dX5_worked_128 : decode cX5_worked 128 = .ok (.iload_n 3, 1) := by decide +kernel
theorem dX5_worked_129 : decode cX5_worked 129 = .ok (.iconst (-1), 1) := by decide +kernel
theorem dX5_worked_130 : decode cX5_worked 130 = .ok (.ixor, 1) := by decide +kernel
theorem dX5_worked_131 : decode cX5_worked 131 = .ok (.aload_n 0, 1) := by decide +kernel
theorem dX5_worked_132 : decode cX5_worked 132 = .ok (.getfield 19, 3) := by decide +kernel
theorem dX5_worked_135 : decode cX5_worked 135 = .ok (.invokevirtual 193, 3) := by decide +kernel
theorem dX5_worked_138 : decode cX5_worked 138 = .ok (.invokevirtual 190, 3) := by decide +kernel
theorem dX5_worked_141 : decode cX5_worked 141 = .ok (.ireturn, 1) := by decide +kernel
theorem dX5_worked_142 : decode cX5_worked 142 = .ok (.aload_n 0, 1) := by decide +kernel
theorem dX5_worked_143 : decode cX5_worked 143 = .ok (.iload_n 3, 1) := by decide +kernel
theorem dX5_worked_144 : decode cX5_worked 144 = .ok (.iload_n 2, 1) := by decide +kernel
theorem dX5_worked_145 : decode cX5_worked 145 = .ok (.iconst (-1), 1) := by decide +kernel
theorem dX5_worked_146 : decode cX5_worked 146 = .ok (.ixor, 1) := by decide +kernel
theorem dX5_worked_147 : decode cX5_worked 147 = .ok (.aload_n 0, 1) := by decide +kernel
theorem dX5_worked_148 : decode cX5_worked 148 = .ok (.getfield 19, 3) := by decide +kernel
theorem dX5_worked_151 : decode cX5_worked 151 = .ok (.invokevirtual 193, 3) := by decide +kernel
theorem dX5_worked_154 : decode cX5_worked 154 = .ok (.invokevirtual 190, 3) := by decide +kernel
theorem dX5_worked_157 : decode cX5_worked 157 = .ok (.ireturn, 1) := by decide +kernel
theorem dX5_worked_158 : decode cX5_worked 158 = .ok (.iload_n 2, 1) := by decide +kernel
theorem dX5_worked_159 : decode cX5_worked 159 = .ok (.iload_n 3, 1) := by decide +kernel
theorem dX5_worked_160 : decode cX5_worked 160 = .ok (.ior, 1) := by decide +kernel
theorem dX5_worked_161 : decode cX5_worked 161 = .ok (.ireturn, 1) := by decide +kernel
theorem dX5_worked_162 : decode cX5_worked 162 = .ok (.iload_n 3, 1) := by decide +kernel
theorem dX5_worked_163 : decode cX5_worked 163 = .ok (.ireturn, 1) := by decide +kernel
theorem dX5_worked_164 : decode cX5_worked 164 = .ok (.iload_n 2, 1) := by decide +kernel
theorem dX5_worked_165 : decode cX5_worked 165 = .ok (.iload_n 3, 1) := by decide +kernel
theorem dX5_worked_166 : decode cX5_worked 166 = .ok (.iconst (-1), 1) := by decide +kernel
theorem dX5_worked_167 : decode cX5_worked 167 = .ok (.ixor, 1) := by decide +kernel
theorem dX5_worked_168 : decode cX5_worked 168 = .ok (.iand, 1) := by decide +kernel
theorem dX5_worked_169 : decode cX5_worked 169 = .ok (.ireturn, 1) := by decide +kernel
theorem dX5_worked_170 : decode cX5_worked 170 = .ok (.iload_n 3, 1) := by decide +kernel
theorem dX5_worked_171 : decode cX5_worked 171 = .ok (.iconst (-1), 1) := by decide +kernel
theorem dX5_worked_172 : decode cX5_worked 172 = .ok (.ixor, 1) := by decide +kernel
theorem dX5_worked_173 : decode cX5_worked 173 = .ok (.ireturn, 1) := by decide +kernel
theorem dX5_sum_0 : decode cX5_sum 0 = .ok (.iload_n 1, 1) := by decide +kernel
theorem dX5_sum_1 : decode cX5_sum 1 = .ok (.i2l, 1) := by decide +kernel
theorem dX5_sum_2 : decode cX5_sum 2 = .ok (.ldc2_w 195, 3) := by decide +kernel
theorem dX5_sum_5 : decode cX5_sum 5 = .ok (.land, 1) := by decide +kernel
theorem dX5_sum_6 : decode cX5_sum 6 = .ok (.iload_n 2, 1) := by decide +kernel
theorem dX5_sum_7 : decode cX5_sum 7 = .ok (.i2l, 1) := by decide +kernel
theorem dX5_sum_8 : decode cX5_sum 8 = .ok (.ldc2_w 195, 3) := by decide +kernel
theorem dX5_sum_11 : decode cX5_sum 11 = .ok (.land, 1) := by decide +kernel
theorem dX5_sum_12 : decode cX5_sum 12 = .ok (.ladd, 1) := by decide +kernel
theorem dX5_sum_13 : decode cX5_sum 13 = .ok (.iload_n 3, 1) := by decide +kernel
theorem dX5_sum_14 : decode cX5_sum 14 = .ok (.i2l, 1) := by decide +kernel
theorem dX5_sum_15 : decode cX5_sum 15 = .ok (.ladd, 1) := by decide +kernel
theorem dX5_sum_16 : decode cX5_sum 16 = .ok (.lstore 4, 2) := by decide +kernel
theorem dX5_sum_18 : decode cX5_sum 18 = .ok (.lload 4, 2) := by decide +kernel
theorem dX5_sum_20 : decode cX5_sum 20 = .ok (.l2i, 1) := by decide +kernel
theorem dX5_sum_21 : decode cX5_sum 21 = .ok (.istore 6, 2) := by decide +kernel
theorem dX5_sum_23 : decode cX5_sum 23 = .ok (.aload_n 0, 1) := by decide +kernel
theorem dX5_sum_24 : decode cX5_sum 24 = .ok (.lload 4, 2) := by decide +kernel
theorem dX5_sum_26 : decode cX5_sum 26 = .ok (.bipush 32, 2) := by decide +kernel
theorem dX5_sum_28 : decode cX5_sum 28 = .ok (.lushr, 1) := by decide +kernel
theorem dX5_sum_29 : decode cX5_sum 29 = .ok (.l2i, 1) := by decide +kernel
theorem dX5_sum_30 : decode cX5_sum 30 = .ok (.putfield 184, 3) := by decide +kernel
theorem dX5_sum_33 : decode cX5_sum 33 = .ok (.aload_n 0, 1) := by decide +kernel
theorem dX5_sum_34 : decode cX5_sum 34 = .ok (.iload_n 1, 1) := by decide +kernel
theorem dX5_sum_35 : decode cX5_sum 35 = .ok (.iload 6, 2) := by decide +kernel
theorem dX5_sum_37 : decode cX5_sum 37 = .ok (.ixor, 1) := by decide +kernel
theorem dX5_sum_38 : decode cX5_sum 38 = .ok (.iload_n 2, 1) := by decide +kernel
theorem dX5_sum_39 : decode cX5_sum 39 = .ok (.iload 6, 2) := by decide +kernel
theorem dX5_sum_41 : decode cX5_sum 41 = .ok (.ixor, 1) := by decide +kernel
theorem dX5_sum_42 : decode cX5_sum 42 = .ok (.iand, 1) := by decide +kernel
theorem dX5_sum_43 : decode cX5_sum 43 = .ok (.bipush 31, 2) := by decide +kernel
theorem dX5_sum_45 : decode cX5_sum 45 = .ok (.iushr, 1) := by decide +kernel
theorem dX5_sum_46 : decode cX5_sum 46 = .ok (.putfield 168, 3) := by decide +kernel
theorem dX5_sum_49 : decode cX5_sum 49 = .ok (.iload 6, 2) := by decide +kernel
theorem dX5_sum_51 : decode cX5_sum 51 = .ok (.ireturn, 1) := by decide +kernel
theorem dX5_turnedByte_0 : decode cX5_turnedByte 0 = .ok (.iconst 2, 1) := by decide +kernel
theorem dX5_turnedByte_1 : decode cX5_turnedByte 1 = .ok (.aload_n 0, 1) := by decide +kernel
theorem dX5_turnedByte_2 : decode cX5_turnedByte 2 = .ok (.bipush 8, 2) := by decide +kernel
theorem dX5_turnedByte_4 : decode cX5_turnedByte 4 = .ok (.invokevirtual 141, 3) := by decide +kernel
theorem dX5_turnedByte_7 : decode cX5_turnedByte 7 = .ok (.imul, 1) := by decide +kernel
theorem dX5_turnedByte_8 : decode cX5_turnedByte 8 = .ok (.istore_n 1, 1) := by decide +kernel
theorem dX5_turnedByte_9 : decode cX5_turnedByte 9 = .ok (.aload_n 0, 1) := by decide +kernel
theorem dX5_turnedByte_10 : decode cX5_turnedByte 10 = .ok (.getfield 69, 3) := by decide +kernel
theorem dX5_turnedByte_13 : decode cX5_turnedByte 13 = .ok (.sipush 255, 3) := by decide +kernel
theorem dX5_turnedByte_16 : decode cX5_turnedByte 16 = .ok (.iand, 1) := by decide +kernel
theorem dX5_turnedByte_17 : decode cX5_turnedByte 17 = .ok (.iload_n 1, 1) := by decide +kernel
theorem dX5_turnedByte_18 : decode cX5_turnedByte 18 = .ok (.invokestatic 197, 3) := by decide +kernel
theorem dX5_turnedByte_21 : decode cX5_turnedByte 21 = .ok (.istore_n 2, 1) := by decide +kernel
theorem dX5_turnedByte_22 : decode cX5_turnedByte 22 = .ok (.aload_n 0, 1) := by decide +kernel
theorem dX5_turnedByte_23 : decode cX5_turnedByte 23 = .ok (.iload_n 1, 1) := by decide +kernel
theorem dX5_turnedByte_24 : decode cX5_turnedByte 24 = .ok (.ifCond .ne 13, 3) := by decide +kernel
theorem dX5_turnedByte_27 : decode cX5_turnedByte 27 = .ok (.aload_n 0, 1) := by decide +kernel
theorem dX5_turnedByte_28 : decode cX5_turnedByte 28 = .ok (.getfield 19, 3) := by decide +kernel
theorem dX5_turnedByte_31 : decode cX5_turnedByte 31 = .ok (.invokevirtual 193, 3) := by decide +kernel
theorem dX5_turnedByte_34 : decode cX5_turnedByte 34 = .ok (.goto 7, 3) := by decide +kernel
theorem dX5_turnedByte_37 : decode cX5_turnedByte 37 = .ok (.iload_n 2, 1) := by decide +kernel
theorem dX5_turnedByte_38 : decode cX5_turnedByte 38 = .ok (.bipush 31, 2) := by decide +kernel
theorem dX5_turnedByte_40 : decode cX5_turnedByte 40 = .ok (.iushr, 1) := by decide +kernel
theorem dX5_turnedByte_41 : decode cX5_turnedByte 41 = .ok (.putfield 184, 3) := by decide +kernel
theorem dX5_turnedByte_44 : decode cX5_turnedByte 44 = .ok (.iload_n 2, 1) := by decide +kernel
theorem dX5_turnedByte_45 : decode cX5_turnedByte 45 = .ok (.ireturn, 1) := by decide +kernel
theorem dX5_shiftedRegister_0 : decode cX5_shiftedRegister 0 = .ok (.aload_n 0, 1) := by decide +kernel
theorem dX5_shiftedRegister_1 : decode cX5_shiftedRegister 1 = .ok (.iconst 0, 1) := by decide +kernel
theorem dX5_shiftedRegister_2 : decode cX5_shiftedRegister 2 = .ok (.invokevirtual 141, 3) := by decide +kernel
theorem dX5_shiftedRegister_5 : decode cX5_shiftedRegister 5 = .ok (.istore_n 3, 1) := by decide +kernel
theorem dX5_shiftedRegister_6 : decode cX5_shiftedRegister 6 = .ok (.iload_n 3, 1) := by decide +kernel
theorem dX5_shiftedRegister_7 : decode cX5_shiftedRegister 7 = .ok (.bipush 15, 2) := by decide +kernel
theorem dX5_shiftedRegister_9 : decode cX5_shiftedRegister 9 = .ok (.if_icmp .ne 11, 3) := by decide +kernel
theorem dX5_shiftedRegister_12 : decode cX5_shiftedRegister 12 = .ok (.aload_n 0, 1) := by decide +kernel
theorem dX5_shiftedRegister_13 : decode cX5_shiftedRegister 13 = .ok (.iload_n 2, 1) := by decide +kernel
theorem dX5_shiftedRegister_14 : decode cX5_shiftedRegister 14 = .ok (.invokevirtual 73, 3) := by decide +kernel
theorem dX5_shiftedRegister_17 : decode cX5_shiftedRegister 17 = .ok (.goto 9, 3) := by decide +kernel
theorem dX5_shiftedRegister_20 : decode cX5_shiftedRegister 20 = .ok (.aload_n 0, 1) := by decide +kernel
theorem dX5_shiftedRegister_21 : decode cX5_shiftedRegister 21 = .ok (.iload_n 3, 1) := by decide +kernel
theorem dX5_shiftedRegister_22 : decode cX5_shiftedRegister 22 = .ok (.iload_n 2, 1) := by decide +kernel
theorem dX5_shiftedRegister_23 : decode cX5_shiftedRegister 23 = .ok (.invokevirtual 144, 3) := by decide +kernel
theorem dX5_shiftedRegister_26 : decode cX5_shiftedRegister 26 = .ok (.istore 4, 2) := by decide +kernel
theorem dX5_shiftedRegister_28 : decode cX5_shiftedRegister 28 = .ok (.iload_n 1, 1) := by decide +kernel
theorem dX5_shiftedRegister_29 : decode cX5_shiftedRegister 29 = .ok (.ifCond .eq 34, 3) := by decide +kernel
theorem dX5_shiftedRegister_32 : decode cX5_shiftedRegister 32 = .ok (.aload_n 0, 1) := by decide +kernel
theorem dX5_shiftedRegister_33 : decode cX5_shiftedRegister 33 = .ok (.iload 4, 2) := by decide +kernel
theorem dX5_shiftedRegister_35 : decode cX5_shiftedRegister 35 = .ok (.aload_n 0, 1) := by decide +kernel
theorem dX5_shiftedRegister_36 : decode cX5_shiftedRegister 36 = .ok (.getfield 69, 3) := by decide +kernel
theorem dX5_shiftedRegister_39 : decode cX5_shiftedRegister 39 = .ok (.iconst 5, 1) := by decide +kernel
theorem dX5_shiftedRegister_40 : decode cX5_shiftedRegister 40 = .ok (.iushr, 1) := by decide +kernel
theorem dX5_shiftedRegister_41 : decode cX5_shiftedRegister 41 = .ok (.iconst 3, 1) := by decide +kernel
theorem dX5_shiftedRegister_42 : decode cX5_shiftedRegister 42 = .ok (.iand, 1) := by decide +kernel
theorem dX5_shiftedRegister_43 : decode cX5_shiftedRegister 43 = .ok (.aload_n 0, 1) := by decide +kernel
theorem dX5_shiftedRegister_44 : decode cX5_shiftedRegister 44 = .ok (.aload_n 0, 1) := by decide +kernel
theorem dX5_shiftedRegister_45 : decode cX5_shiftedRegister 45 = .ok (.bipush 8, 2) := by decide +kernel
theorem dX5_shiftedRegister_47 : decode cX5_shiftedRegister 47 = .ok (.invokevirtual 141, 3) := by decide +kernel
theorem dX5_shiftedRegister_50 : decode cX5_shiftedRegister 50 = .ok (.bipush 8, 2) := by decide +kernel
theorem dX5_shiftedRegister_52 : decode cX5_shiftedRegister 52 = .ok (.invokevirtual 144, 3) := by decide +kernel
theorem dX5_shiftedRegister_55 : decode cX5_shiftedRegister 55 = .ok (.sipush 255, 3) := by decide +kernel
theorem dX5_shiftedRegister_58 : decode cX5_shiftedRegister 58 = .ok (.iand, 1) := by decide +kernel
theorem dX5_shiftedRegister_59 : decode cX5_shiftedRegister 59 = .ok (.invokevirtual 200, 3) := by decide +kernel
theorem dX5_shiftedRegister_62 : decode cX5_shiftedRegister 62 = .ok (.ireturn, 1) := by decide +kernel
theorem dX5_shiftedRegister_63 : decode cX5_shiftedRegister 63 = .ok (.aload_n 0, 1) := by decide +kernel
theorem dX5_shiftedRegister_64 : decode cX5_shiftedRegister 64 = .ok (.iload 4, 2) := by decide +kernel
theorem dX5_shiftedRegister_66 : decode cX5_shiftedRegister 66 = .ok (.invokevirtual 203, 3) := by decide +kernel
theorem dX5_shiftedRegister_69 : decode cX5_shiftedRegister 69 = .ok (.ireturn, 1) := by decide +kernel
theorem dX5_shiftedByBits_0 : decode cX5_shiftedByBits 0 = .ok (.aload_n 0, 1) := by decide +kernel
theorem dX5_shiftedByBits_1 : decode cX5_shiftedByBits 1 = .ok (.getfield 69, 3) := by decide +kernel
theorem dX5_shiftedByBits_4 : decode cX5_shiftedByBits 4 = .ok (.iconst 5, 1) := by decide +kernel
theorem dX5_shiftedByBits_5 : decode cX5_shiftedByBits 5 = .ok (.iushr, 1) := by decide +kernel
theorem dX5_shiftedByBits_6 : decode cX5_shiftedByBits 6 = .ok (.iconst 3, 1) := by decide +kernel
theorem dX5_shiftedByBits_7 : decode cX5_shiftedByBits 7 = .ok (.iand, 1) := by decide +kernel
theorem dX5_shiftedByBits_8 : decode cX5_shiftedByBits 8 = .ok (.istore_n 2, 1) := by decide +kernel
theorem dX5_shiftedByBits_9 : decode cX5_shiftedByBits 9 = .ok (.aload_n 0, 1) := by decide +kernel
theorem dX5_shiftedByBits_10 : decode cX5_shiftedByBits 10 = .ok (.getfield 69, 3) := by decide +kernel
theorem dX5_shiftedByBits_13 : decode cX5_shiftedByBits 13 = .ok (.bipush 7, 2) := by decide +kernel
theorem dX5_shiftedByBits_15 : decode cX5_shiftedByBits 15 = .ok (.iushr, 1) := by decide +kernel
theorem dX5_shiftedByBits_16 : decode cX5_shiftedByBits 16 = .ok (.bipush 31, 2) := by decide +kernel
theorem dX5_shiftedByBits_18 : decode cX5_shiftedByBits 18 = .ok (.iand, 1) := by decide +kernel
theorem dX5_shiftedByBits_19 : decode cX5_shiftedByBits 19 = .ok (.istore_n 3, 1) := by decide +kernel
theorem dX5_shiftedByBits_20 : decode cX5_shiftedByBits 20 = .ok (.iload_n 3, 1) := by decide +kernel
theorem dX5_shiftedByBits_21 : decode cX5_shiftedByBits 21 = .ok (.ifCond .ne 7, 3) := by decide +kernel
theorem dX5_shiftedByBits_24 : decode cX5_shiftedByBits 24 = .ok (.iload_n 2, 1) := by decide +kernel
theorem dX5_shiftedByBits_25 : decode cX5_shiftedByBits 25 = .ok (.ifCond .ne 11, 3) := by decide +kernel
theorem dX5_shiftedByBits_28 : decode cX5_shiftedByBits 28 = .ok (.aload_n 0, 1) := by decide +kernel
theorem dX5_shiftedByBits_29 : decode cX5_shiftedByBits 29 = .ok (.iload_n 1, 1) := by decide +kernel
theorem dX5_shiftedByBits_30 : decode cX5_shiftedByBits 30 = .ok (.iload_n 2, 1) := by decide +kernel
theorem dX5_shiftedByBits_31 : decode cX5_shiftedByBits 31 = .ok (.iload_n 3, 1) := by decide +kernel
theorem dX5_shiftedByBits_32 : decode cX5_shiftedByBits 32 = .ok (.invokevirtual 200, 3) := by decide +kernel
theorem dX5_shiftedByBits_35 : decode cX5_shiftedByBits 35 = .ok (.ireturn, 1) := by decide +kernel
theorem dX5_shiftedByBits_36 : decode cX5_shiftedByBits 36 = .ok (.iload_n 2, 1) := by decide +kernel
theorem dX5_shiftedByBits_37 : decode cX5_shiftedByBits 37 = .ok (.iconst 3, 1) := by decide +kernel
theorem dX5_shiftedByBits_38 : decode cX5_shiftedByBits 38 = .ok (.if_icmp .ne 25, 3) := by decide +kernel
theorem dX5_shiftedByBits_41 : decode cX5_shiftedByBits 41 = .ok (.aload_n 0, 1) := by decide +kernel
theorem dX5_shiftedByBits_42 : decode cX5_shiftedByBits 42 = .ok (.iload_n 1, 1) := by decide +kernel
theorem dX5_shiftedByBits_43 : decode cX5_shiftedByBits 43 = .ok (.iconst 1, 1) := by decide +kernel
theorem dX5_shiftedByBits_44 : decode cX5_shiftedByBits 44 = .ok (.iand, 1) := by decide +kernel
theorem dX5_shiftedByBits_45 : decode cX5_shiftedByBits 45 = .ok (.putfield 184, 3) := by decide +kernel
theorem dX5_shiftedByBits_48 : decode cX5_shiftedByBits 48 = .ok (.iload_n 1, 1) := by decide +kernel
theorem dX5_shiftedByBits_49 : decode cX5_shiftedByBits 49 = .ok (.iconst 1, 1) := by decide +kernel
theorem dX5_shiftedByBits_50 : decode cX5_shiftedByBits 50 = .ok (.iushr, 1) := by decide +kernel
theorem dX5_shiftedByBits_51 : decode cX5_shiftedByBits 51 = .ok (.aload_n 0, 1) := by decide +kernel
theorem dX5_shiftedByBits_52 : decode cX5_shiftedByBits 52 = .ok (.getfield 19, 3) := by decide +kernel
theorem dX5_shiftedByBits_55 : decode cX5_shiftedByBits 55 = .ok (.invokevirtual 193, 3) := by decide +kernel
theorem dX5_shiftedByBits_58 : decode cX5_shiftedByBits 58 = .ok (.bipush 31, 2) := by decide +kernel
theorem dX5_shiftedByBits_60 : decode cX5_shiftedByBits 60 = .ok (.ishl, 1) := by decide +kernel
theorem dX5_shiftedByBits_61 : decode cX5_shiftedByBits 61 = .ok (.ior, 1) := by decide +kernel
theorem dX5_shiftedByBits_62 : decode cX5_shiftedByBits 62 = .ok (.ireturn, 1) := by decide +kernel
theorem dX5_shiftedByBits_63 : decode cX5_shiftedByBits 63 = .ok (.aload_n 0, 1) := by decide +kernel
theorem dX5_shiftedByBits_64 : decode cX5_shiftedByBits 64 = .ok (.iload_n 1, 1) := by decide +kernel
theorem dX5_shiftedByBits_65 : decode cX5_shiftedByBits 65 = .ok (.iload_n 2, 1) := by decide +kernel
theorem dX5_shiftedByBits_66 : decode cX5_shiftedByBits 66 = .ok (.bipush 32, 2) := by decide +kernel
theorem dX5_shiftedByBits_68 : decode cX5_shiftedByBits 68 = .ok (.invokevirtual 200, 3) := by decide +kernel
theorem dX5_shiftedByBits_71 : decode cX5_shiftedByBits 71 = .ok (.ireturn, 1) := by decide +kernel
theorem dX5_shifted_0 : decode cX5_shifted 0 = .ok (.iload_n 3, 1) := by decide +kernel
theorem dX5_shifted_1 : decode cX5_shifted 1 = .ok (.ifCond .ne 16, 3) := by decide +kernel
theorem dX5_shifted_4 : decode cX5_shifted 4 = .ok (.aload_n 0, 1) := by decide +kernel
theorem dX5_shifted_5 : decode cX5_shifted 5 = .ok (.aload_n 0, 1) := by decide +kernel
theorem dX5_shifted_6 : decode cX5_shifted 6 = .ok (.getfield 19, 3) := by decide +kernel
theorem dX5_shifted_9 : decode cX5_shifted 9 = .ok (.invokevirtual 193, 3) := by decide +kernel
theorem dX5_shifted_12 : decode cX5_shifted 12 = .ok (.putfield 184, 3) := by decide +kernel
theorem dX5_shifted_15 : decode cX5_shifted 15 = .ok (.iload_n 1, 1) := by decide +kernel
theorem dX5_shifted_16 : decode cX5_shifted 16 = .ok (.ireturn, 1) := by decide +kernel
theorem dX5_shifted_17 : decode cX5_shifted 17 = .ok (.iload_n 2, 1) := by decide +kernel
theorem dX5_shifted_18 : decode cX5_shifted 18 = .ok (.tableswitch 122 0 2 #[26, 62, 97], 26) := by decide +kernel
theorem dX5_shifted_44 : decode cX5_shifted 44 = .ok (.aload_n 0, 1) := by decide +kernel
theorem dX5_shifted_45 : decode cX5_shifted 45 = .ok (.iload_n 3, 1) := by decide +kernel
theorem dX5_shifted_46 : decode cX5_shifted 46 = .ok (.bipush 32, 2) := by decide +kernel
theorem dX5_shifted_48 : decode cX5_shifted 48 = .ok (.if_icmp .gt 14, 3) := by decide +kernel
theorem dX5_shifted_51 : decode cX5_shifted 51 = .ok (.iload_n 1, 1) := by decide +kernel
theorem dX5_shifted_52 : decode cX5_shifted 52 = .ok (.bipush 32, 2) := by decide +kernel
theorem dX5_shifted_54 : decode cX5_shifted 54 = .ok (.iload_n 3, 1) := by decide +kernel
theorem dX5_shifted_55 : decode cX5_shifted 55 = .ok (.isub, 1) := by decide +kernel
theorem dX5_shifted_56 : decode cX5_shifted 56 = .ok (.iushr, 1) := by decide +kernel
theorem dX5_shifted_57 : decode cX5_shifted 57 = .ok (.iconst 1, 1) := by decide +kernel
theorem dX5_shifted_58 : decode cX5_shifted 58 = .ok (.iand, 1) := by decide +kernel
theorem dX5_shifted_59 : decode cX5_shifted 59 = .ok (.goto 4, 3) := by decide +kernel
theorem dX5_shifted_62 : decode cX5_shifted 62 = .ok (.iconst 0, 1) := by decide +kernel
theorem dX5_shifted_63 : decode cX5_shifted 63 = .ok (.putfield 184, 3) := by decide +kernel
theorem dX5_shifted_66 : decode cX5_shifted 66 = .ok (.iload_n 3, 1) := by decide +kernel
theorem dX5_shifted_67 : decode cX5_shifted 67 = .ok (.bipush 32, 2) := by decide +kernel
theorem dX5_shifted_69 : decode cX5_shifted 69 = .ok (.if_icmp .ge 9, 3) := by decide +kernel
theorem dX5_shifted_72 : decode cX5_shifted 72 = .ok (.iload_n 1, 1) := by decide +kernel
theorem dX5_shifted_73 : decode cX5_shifted 73 = .ok (.iload_n 3, 1) := by decide +kernel
theorem dX5_shifted_74 : decode cX5_shifted 74 = .ok (.ishl, 1) := by decide +kernel
theorem dX5_shifted_75 : decode cX5_shifted 75 = .ok (.goto 4, 3) := by decide +kernel
theorem dX5_shifted_78 : decode cX5_shifted 78 = .ok (.iconst 0, 1) := by decide +kernel
theorem dX5_shifted_79 : decode cX5_shifted 79 = .ok (.ireturn, 1) := by decide +kernel
theorem dX5_shifted_80 : decode cX5_shifted 80 = .ok (.aload_n 0, 1) := by decide +kernel
theorem dX5_shifted_81 : decode cX5_shifted 81 = .ok (.iload_n 3, 1) := by decide +kernel
theorem dX5_shifted_82 : decode cX5_shifted 82 = .ok (.bipush 32, 2) := by decide +kernel
theorem dX5_shifted_84 : decode cX5_shifted 84 = .ok (.if_icmp .gt 13, 3) := by decide +kernel
theorem dX5_shifted_87 : decode cX5_shifted 87 = .ok (.iload_n 1, 1) := by decide +kernel
theorem dX5_shifted_88 : decode cX5_shifted 88 = .ok (.iload_n 3, 1) := by decide +kernel
theorem dX5_shifted_89 : decode cX5_shifted 89 = .ok (.iconst 1, 1) := by decide +kernel
theorem dX5_shifted_90 : decode cX5_shifted 90 = .ok (.isub, 1) := by decide +kernel
theorem dX5_shifted_91 : decode cX5_shifted 91 = .ok (.iushr, 1) := by decide +kernel
theorem dX5_shifted_92 : decode cX5_shifted 92 = .ok (.iconst 1, 1) := by decide +kernel
theorem dX5_shifted_93 : decode cX5_shifted 93 = .ok (.iand, 1) := by decide +kernel
theorem dX5_shifted_94 : decode cX5_shifted 94 = .ok (.goto 4, 3) := by decide +kernel
theorem dX5_shifted_97 : decode cX5_shifted 97 = .ok (.iconst 0, 1) := by decide +kernel
theorem dX5_shifted_98 : decode cX5_shifted 98 = .ok (.putfield 184, 3) := by decide +kernel
theorem dX5_shifted_101 : decode cX5_shifted 101 = .ok (.iload_n 3, 1) := by decide +kernel
theorem dX5_shifted_102 : decode cX5_shifted 102 = .ok (.bipush 32, 2) := by decide +kernel
theorem dX5_shifted_104 : decode cX5_shifted 104 = .ok (.if_icmp .ge 9, 3) := by decide +kernel
theorem dX5_shifted_107 : decode cX5_shifted 107 = .ok (.iload_n 1, 1) := by decide +kernel
theorem dX5_shifted_108 : decode cX5_shifted 108 = .ok (.iload_n 3, 1) := by decide +kernel
theorem dX5_shifted_109 : decode cX5_shifted 109 = .ok (.iushr, 1) := by decide +kernel
theorem dX5_shifted_110 : decode cX5_shifted 110 = .ok (.goto 4, 3) := by decide +kernel
theorem dX5_shifted_113 : decode cX5_shifted 113 = .ok (.iconst 0, 1) := by decide +kernel
theorem dX5_shifted_114 : decode cX5_shifted 114 = .ok (.ireturn, 1) := by decide +kernel
theorem dX5_shifted_115 : decode cX5_shifted 115 = .ok (.aload_n 0, 1) := by decide +kernel
theorem dX5_shifted_116 : decode cX5_shifted 116 = .ok (.iload_n 1, 1) := by decide +kernel
theorem dX5_shifted_117 : decode cX5_shifted 117 = .ok (.iload_n 3, 1) := by decide +kernel
theorem dX5_shifted_118 : decode cX5_shifted 118 = .ok (.iconst 1, 1) := by decide +kernel
theorem dX5_shifted_119 : decode cX5_shifted 119 = .ok (.isub, 1) := by decide +kernel
theorem dX5_shifted_120 : decode cX5_shifted 120 = .ok (.bipush 31, 2) := by decide +kernel
theorem dX5_shifted_122 : decode cX5_shifted 122 = .ok (.invokestatic 206, 3) := by decide +kernel
theorem dX5_shifted_125 : decode cX5_shifted 125 = .ok (.ishr, 1) := by decide +kernel
theorem dX5_shifted_126 : decode cX5_shifted 126 = .ok (.iconst 1, 1) := by decide +kernel
theorem dX5_shifted_127 : decode cX5_shifted 127 = .ok (.iand, 1) := by decide +kernel
theorem dX5_shifted_128 : decode cX5_shifted 128 = .ok (.putfield 184, 3) := by decide +kernel
theorem dX5_shifted_131 : decode cX5_shifted 131 = .ok (.iload_n 1, 1) := by decide +kernel
theorem dX5_shifted_132 : decode cX5_shifted 132 = .ok (.iload_n 3, 1) := by decide +kernel
theorem dX5_shifted_133 : decode cX5_shifted 133 = .ok (.bipush 31, 2) := by decide +kernel
theorem dX5_shifted_135 : decode cX5_shifted 135 = .ok (.invokestatic 206, 3) := by decide +kernel
theorem dX5_shifted_138 : decode cX5_shifted 138 = .ok (.ishr, 1) := by decide +kernel
theorem dX5_shifted_139 : decode cX5_shifted 139 = .ok (.ireturn, 1) := by decide +kernel
theorem dX5_shifted_140 : decode cX5_shifted 140 = .ok (.iload_n 1, 1) := by decide +kernel
theorem dX5_shifted_141 : decode cX5_shifted 141 = .ok (.iload_n 3, 1) := by decide +kernel
theorem dX5_shifted_142 : decode cX5_shifted 142 = .ok (.bipush 31, 2) := by decide +kernel
theorem dX5_shifted_144 : decode cX5_shifted 144 = .ok (.iand, 1) := by decide +kernel
theorem dX5_shifted_145 : decode cX5_shifted 145 = .ok (.invokestatic 197, 3) := by decide +kernel
theorem dX5_shifted_148 : decode cX5_shifted 148 = .ok (.istore 4, 2) := by decide +kernel
theorem dX5_shifted_150 : decode cX5_shifted 150 = .ok (.aload_n 0, 1) := by decide +kernel
theorem dX5_shifted_151 : decode cX5_shifted 151 = .ok (.iload 4, 2) := by decide +kernel
theorem dX5_shifted_153 : decode cX5_shifted 153 = .ok (.bipush 31, 2) := by decide +kernel
theorem dX5_shifted_155 : decode cX5_shifted 155 = .ok (.iushr, 1) := by decide +kernel
theorem dX5_shifted_156 : decode cX5_shifted 156 = .ok (.putfield 184, 3) := by decide +kernel
theorem dX5_shifted_159 : decode cX5_shifted 159 = .ok (.iload 4, 2) := by decide +kernel
theorem dX5_shifted_161 : decode cX5_shifted 161 = .ok (.ireturn, 1) := by decide +kernel
theorem dX5_turned_0 : decode cX5_turned 0 = .ok (.iload_n 1, 1) := by decide +kernel
theorem dX5_turned_1 : decode cX5_turned 1 = .ok (.ifCond .ne 7, 3) := by decide +kernel
theorem dX5_turned_4 : decode cX5_turned 4 = .ok (.iload_n 0, 1) := by decide +kernel
theorem dX5_turned_5 : decode cX5_turned 5 = .ok (.goto 13, 3) := by decide +kernel
theorem dX5_turned_8 : decode cX5_turned 8 = .ok (.iload_n 0, 1) := by decide +kernel
theorem dX5_turned_9 : decode cX5_turned 9 = .ok (.iload_n 1, 1) := by decide +kernel
theorem dX5_turned_10 : decode cX5_turned 10 = .ok (.iushr, 1) := by decide +kernel
theorem dX5_turned_11 : decode cX5_turned 11 = .ok (.iload_n 0, 1) := by decide +kernel
theorem dX5_turned_12 : decode cX5_turned 12 = .ok (.bipush 32, 2) := by decide +kernel
theorem dX5_turned_14 : decode cX5_turned 14 = .ok (.iload_n 1, 1) := by decide +kernel
theorem dX5_turned_15 : decode cX5_turned 15 = .ok (.isub, 1) := by decide +kernel
theorem dX5_turned_16 : decode cX5_turned 16 = .ok (.ishl, 1) := by decide +kernel
theorem dX5_turned_17 : decode cX5_turned 17 = .ok (.ior, 1) := by decide +kernel
theorem dX5_turned_18 : decode cX5_turned 18 = .ok (.ireturn, 1) := by decide +kernel
theorem dX5_transferOne_0 : decode cX5_transferOne 0 = .ok (.aload_n 0, 1) := by decide +kernel
theorem dX5_transferOne_1 : decode cX5_transferOne 1 = .ok (.ldc 160, 2) := by decide +kernel
theorem dX5_transferOne_3 : decode cX5_transferOne 3 = .ok (.invokevirtual 114, 3) := by decide +kernel
theorem dX5_transferOne_6 : decode cX5_transferOne 6 = .ok (.ifCond .eq 18, 3) := by decide +kernel
theorem dX5_transferOne_9 : decode cX5_transferOne 9 = .ok (.aload_n 0, 1) := by decide +kernel
theorem dX5_transferOne_10 : decode cX5_transferOne 10 = .ok (.bipush 16, 2) := by decide +kernel
theorem dX5_transferOne_12 : decode cX5_transferOne 12 = .ok (.invokevirtual 114, 3) := by decide +kernel
theorem dX5_transferOne_15 : decode cX5_transferOne 15 = .ok (.ifCond .eq 9, 3) := by decide +kernel
theorem dX5_transferOne_18 : decode cX5_transferOne 18 = .ok (.aload_n 0, 1) := by decide +kernel
theorem dX5_transferOne_19 : decode cX5_transferOne 19 = .ok (.iconst 0, 1) := by decide +kernel
theorem dX5_transferOne_20 : decode cX5_transferOne 20 = .ok (.invokevirtual 101, 3) := by decide +kernel
theorem dX5_transferOne_23 : decode cX5_transferOne 23 = .ok (.ireturn, 1) := by decide +kernel
theorem dX5_transferOne_24 : decode cX5_transferOne 24 = .ok (.aload_n 0, 1) := by decide +kernel
theorem dX5_transferOne_25 : decode cX5_transferOne 25 = .ok (.bipush 16, 2) := by decide +kernel
theorem dX5_transferOne_27 : decode cX5_transferOne 27 = .ok (.invokevirtual 141, 3) := by decide +kernel
theorem dX5_transferOne_30 : decode cX5_transferOne 30 = .ok (.istore_n 1, 1) := by decide +kernel
theorem dX5_transferOne_31 : decode cX5_transferOne 31 = .ok (.aload_n 0, 1) := by decide +kernel
theorem dX5_transferOne_32 : decode cX5_transferOne 32 = .ok (.iload_n 1, 1) := by decide +kernel
theorem dX5_transferOne_33 : decode cX5_transferOne 33 = .ok (.bipush 8, 2) := by decide +kernel
theorem dX5_transferOne_35 : decode cX5_transferOne 35 = .ok (.invokevirtual 144, 3) := by decide +kernel
theorem dX5_transferOne_38 : decode cX5_transferOne 38 = .ok (.istore_n 2, 1) := by decide +kernel
theorem dX5_transferOne_39 : decode cX5_transferOne 39 = .ok (.aload_n 0, 1) := by decide +kernel
theorem dX5_transferOne_40 : decode cX5_transferOne 40 = .ok (.ldc 160, 2) := by decide +kernel
theorem dX5_transferOne_42 : decode cX5_transferOne 42 = .ok (.invokevirtual 114, 3) := by decide +kernel
theorem dX5_transferOne_45 : decode cX5_transferOne 45 = .ok (.ifCond .eq 21, 3) := by decide +kernel
theorem dX5_transferOne_48 : decode cX5_transferOne 48 = .ok (.aload_n 0, 1) := by decide +kernel
theorem dX5_transferOne_49 : decode cX5_transferOne 49 = .ok (.aload_n 0, 1) := by decide +kernel
theorem dX5_transferOne_50 : decode cX5_transferOne 50 = .ok (.aload_n 0, 1) := by decide +kernel
theorem dX5_transferOne_51 : decode cX5_transferOne 51 = .ok (.iconst 0, 1) := by decide +kernel
theorem dX5_transferOne_52 : decode cX5_transferOne 52 = .ok (.invokevirtual 141, 3) := by decide +kernel
theorem dX5_transferOne_55 : decode cX5_transferOne 55 = .ok (.bipush 8, 2) := by decide +kernel
theorem dX5_transferOne_57 : decode cX5_transferOne 57 = .ok (.invokevirtual 144, 3) := by decide +kernel
theorem dX5_transferOne_60 : decode cX5_transferOne 60 = .ok (.invokevirtual 203, 3) := by decide +kernel
theorem dX5_transferOne_63 : decode cX5_transferOne 63 = .ok (.goto 11, 3) := by decide +kernel
theorem dX5_transferOne_66 : decode cX5_transferOne 66 = .ok (.aload_n 0, 1) := by decide +kernel
theorem dX5_transferOne_67 : decode cX5_transferOne 67 = .ok (.getfield 69, 3) := by decide +kernel
theorem dX5_transferOne_70 : decode cX5_transferOne 70 = .ok (.sipush 4095, 3) := by decide +kernel
theorem dX5_transferOne_73 : decode cX5_transferOne 73 = .ok (.iand, 1) := by decide +kernel
theorem dX5_transferOne_74 : decode cX5_transferOne 74 = .ok (.istore_n 3, 1) := by decide +kernel
theorem dX5_transferOne_75 : decode cX5_transferOne 75 = .ok (.aload_n 0, 1) := by decide +kernel
theorem dX5_transferOne_76 : decode cX5_transferOne 76 = .ok (.ldc 209, 2) := by decide +kernel
theorem dX5_transferOne_78 : decode cX5_transferOne 78 = .ok (.invokevirtual 114, 3) := by decide +kernel
theorem dX5_transferOne_81 : decode cX5_transferOne 81 = .ok (.ifCond .eq 9, 3) := by decide +kernel
theorem dX5_transferOne_84 : decode cX5_transferOne 84 = .ok (.iload_n 2, 1) := by decide +kernel
theorem dX5_transferOne_85 : decode cX5_transferOne 85 = .ok (.iload_n 3, 1) := by decide +kernel
theorem dX5_transferOne_86 : decode cX5_transferOne 86 = .ok (.iadd, 1) := by decide +kernel
theorem dX5_transferOne_87 : decode cX5_transferOne 87 = .ok (.goto 6, 3) := by decide +kernel
theorem dX5_transferOne_90 : decode cX5_transferOne 90 = .ok (.iload_n 2, 1) := by decide +kernel
theorem dX5_transferOne_91 : decode cX5_transferOne 91 = .ok (.iload_n 3, 1) := by decide +kernel
theorem dX5_transferOne_92 : decode cX5_transferOne 92 = .ok (.isub, 1) := by decide +kernel
theorem dX5_transferOne_93 : decode cX5_transferOne 93 = .ok (.istore 4, 2) := by decide +kernel
theorem dX5_transferOne_95 : decode cX5_transferOne 95 = .ok (.aload_n 0, 1) := by decide +kernel
theorem dX5_transferOne_96 : decode cX5_transferOne 96 = .ok (.ldc 113, 2) := by decide +kernel
theorem dX5_transferOne_98 : decode cX5_transferOne 98 = .ok (.invokevirtual 114, 3) := by decide +kernel
theorem dX5_transferOne_101 : decode cX5_transferOne 101 = .ok (.ifCond .eq 8, 3) := by decide +kernel
theorem dX5_transferOne_104 : decode cX5_transferOne 104 = .ok (.iload 4, 2) := by decide +kernel
theorem dX5_transferOne_106 : decode cX5_transferOne 106 = .ok (.goto 4, 3) := by decide +kernel
theorem dX5_transferOne_109 : decode cX5_transferOne 109 = .ok (.iload_n 2, 1) := by decide +kernel
theorem dX5_transferOne_110 : decode cX5_transferOne 110 = .ok (.istore 5, 2) := by decide +kernel
theorem dX5_transferOne_112 : decode cX5_transferOne 112 = .ok (.iload 5, 2) := by decide +kernel
theorem dX5_transferOne_114 : decode cX5_transferOne 114 = .ok (.bipush 26, 2) := by decide +kernel
theorem dX5_transferOne_116 : decode cX5_transferOne 116 = .ok (.iushr, 1) := by decide +kernel
theorem dX5_transferOne_117 : decode cX5_transferOne 117 = .ok (.ifCond .eq 9, 3) := by decide +kernel
theorem dX5_transferOne_120 : decode cX5_transferOne 120 = .ok (.aload_n 0, 1) := by decide +kernel
theorem dX5_transferOne_121 : decode cX5_transferOne 121 = .ok (.iconst 4, 1) := by decide +kernel
theorem dX5_transferOne_122 : decode cX5_transferOne 122 = .ok (.invokevirtual 101, 3) := by decide +kernel
theorem dX5_transferOne_125 : decode cX5_transferOne 125 = .ok (.ireturn, 1) := by decide +kernel
theorem dX5_transferOne_126 : decode cX5_transferOne 126 = .ok (.aload_n 0, 1) := by decide +kernel
theorem dX5_transferOne_127 : decode cX5_transferOne 127 = .ok (.ldc 113, 2) := by decide +kernel
theorem dX5_transferOne_129 : decode cX5_transferOne 129 = .ok (.invokevirtual 114, 3) := by decide +kernel
theorem dX5_transferOne_132 : decode cX5_transferOne 132 = .ok (.ifCond .ne 16, 3) := by decide +kernel
theorem dX5_transferOne_135 : decode cX5_transferOne 135 = .ok (.aload_n 0, 1) := by decide +kernel
theorem dX5_transferOne_136 : decode cX5_transferOne 136 = .ok (.ldc 147, 2) := by decide +kernel
theorem dX5_transferOne_138 : decode cX5_transferOne 138 = .ok (.invokevirtual 114, 3) := by decide +kernel
theorem dX5_transferOne_141 : decode cX5_transferOne 141 = .ok (.ifCond .eq 7, 3) := by decide +kernel
theorem dX5_transferOne_144 : decode cX5_transferOne 144 = .ok (.iconst 0, 1) := by decide +kernel
theorem dX5_transferOne_145 : decode cX5_transferOne 145 = .ok (.goto 10, 3) := by decide +kernel
theorem dX5_transferOne_148 : decode cX5_transferOne 148 = .ok (.aload_n 0, 1) := by decide +kernel
theorem dX5_transferOne_149 : decode cX5_transferOne 149 = .ok (.getfield 19, 3) := by decide +kernel
theorem dX5_transferOne_152 : decode cX5_transferOne 152 = .ok (.invokevirtual 56, 3) := by decide +kernel
theorem dX5_transferOne_155 : decode cX5_transferOne 155 = .ok (.istore 6, 2) := by decide +kernel
theorem dX5_transferOne_157 : decode cX5_transferOne 157 = .ok (.aload_n 0, 1) := by decide +kernel
theorem dX5_transferOne_158 : decode cX5_transferOne 158 = .ok (.getfield 23, 3) := by decide +kernel
theorem dX5_transferOne_161 : decode cX5_transferOne 161 = .ok (.iload 6, 2) := by decide +kernel
theorem dX5_transferOne_163 : decode cX5_transferOne 163 = .ok (.iload 5, 2) := by decide +kernel
theorem dX5_transferOne_165 : decode cX5_transferOne 165 = .ok (.aload_n 0, 1) := by decide +kernel
theorem dX5_transferOne_166 : decode cX5_transferOne 166 = .ok (.ldc 148, 2) := by decide +kernel
theorem dX5_transferOne_168 : decode cX5_transferOne 168 = .ok (.invokevirtual 114, 3) := by decide +kernel
theorem dX5_transferOne_171 : decode cX5_transferOne 171 = .ok (.ifCond .ne 7, 3) := by decide +kernel
theorem dX5_transferOne_174 : decode cX5_transferOne 174 = .ok (.iconst 1, 1) := by decide +kernel
theorem dX5_transferOne_175 : decode cX5_transferOne 175 = .ok (.goto 4, 3) := by decide +kernel
theorem dX5_transferOne_178 : decode cX5_transferOne 178 = .ok (.iconst 0, 1) := by decide +kernel
theorem dX5_transferOne_179 : decode cX5_transferOne 179 = .ok (.invokevirtual 59, 3) := by decide +kernel
theorem dX5_transferOne_182 : decode cX5_transferOne 182 = .ok (.istore 7, 2) := by decide +kernel
theorem dX5_transferOne_184 : decode cX5_transferOne 184 = .ok (.iload 7, 2) := by decide +kernel
theorem dX5_transferOne_186 : decode cX5_transferOne 186 = .ok (.iconst (-1), 1) := by decide +kernel
theorem dX5_transferOne_187 : decode cX5_transferOne 187 = .ok (.if_icmp .ne 9, 3) := by decide +kernel
theorem dX5_transferOne_190 : decode cX5_transferOne 190 = .ok (.aload_n 0, 1) := by decide +kernel
theorem dX5_transferOne_191 : decode cX5_transferOne 191 = .ok (.iconst 3, 1) := by decide +kernel
theorem dX5_transferOne_192 : decode cX5_transferOne 192 = .ok (.invokevirtual 101, 3) := by decide +kernel
theorem dX5_transferOne_195 : decode cX5_transferOne 195 = .ok (.ireturn, 1) := by decide +kernel
theorem dX5_transferOne_196 : decode cX5_transferOne 196 = .ok (.aload_n 0, 1) := by decide +kernel
theorem dX5_transferOne_197 : decode cX5_transferOne 197 = .ok (.ldc 113, 2) := by decide +kernel
theorem dX5_transferOne_199 : decode cX5_transferOne 199 = .ok (.invokevirtual 114, 3) := by decide +kernel
theorem dX5_transferOne_202 : decode cX5_transferOne 202 = .ok (.ifCond .eq 12, 3) := by decide +kernel
theorem dX5_transferOne_205 : decode cX5_transferOne 205 = .ok (.aload_n 0, 1) := by decide +kernel
theorem dX5_transferOne_206 : decode cX5_transferOne 206 = .ok (.ldc 147, 2) := by decide +kernel
theorem dX5_transferOne_208 : decode cX5_transferOne 208 = .ok (.invokevirtual 114, 3) := by decide +kernel
theorem dX5_transferOne_211 : decode cX5_transferOne 211 = .ok (.ifCond .eq 13, 3) := by decide +kernel
theorem dX5_transferOne_214 : decode cX5_transferOne 214 = .ok (.iload_n 1, 1) := by decide +kernel
theorem dX5_transferOne_215 : decode cX5_transferOne 215 = .ok (.bipush 15, 2) := by decide +kernel
theorem dX5_transferOne_217 : decode cX5_transferOne 217 = .ok (.if_icmp .eq 7, 3) := by decide +kernel
theorem dX5_transferOne_220 : decode cX5_transferOne 220 = .ok (.iconst 1, 1) := by decide +kernel
theorem dX5_transferOne_221 : decode cX5_transferOne 221 = .ok (.goto 4, 3) := by decide +kernel
theorem dX5_transferOne_224 : decode cX5_transferOne 224 = .ok (.iconst 0, 1) := by decide +kernel
theorem dX5_transferOne_225 : decode cX5_transferOne 225 = .ok (.istore 8, 2) := by decide +kernel
theorem dX5_transferOne_227 : decode cX5_transferOne 227 = .ok (.aload_n 0, 1) := by decide +kernel
theorem dX5_transferOne_228 : decode cX5_transferOne 228 = .ok (.bipush 12, 2) := by decide +kernel
theorem dX5_transferOne_230 : decode cX5_transferOne 230 = .ok (.invokevirtual 141, 3) := by decide +kernel
theorem dX5_transferOne_233 : decode cX5_transferOne 233 = .ok (.istore 9, 2) := by decide +kernel
theorem dX5_transferOne_235 : decode cX5_transferOne 235 = .ok (.aload_n 0, 1) := by decide +kernel
theorem dX5_transferOne_236 : decode cX5_transferOne 236 = .ok (.ldc 148, 2) := by decide +kernel
theorem dX5_transferOne_238 : decode cX5_transferOne 238 = .ok (.invokevirtual 114, 3) := by decide +kernel
theorem dX5_transferOne_241 : decode cX5_transferOne 241 = .ok (.ifCond .eq 14, 3) := by decide +kernel
theorem dX5_transferOne_244 : decode cX5_transferOne 244 = .ok (.aload_n 0, 1) := by decide +kernel
theorem dX5_transferOne_245 : decode cX5_transferOne 245 = .ok (.iload 7, 2) := by decide +kernel
theorem dX5_transferOne_247 : decode cX5_transferOne 247 = .ok (.iload 5, 2) := by decide +kernel
theorem dX5_transferOne_249 : decode cX5_transferOne 249 = .ok (.invokevirtual 210, 3) := by decide +kernel
theorem dX5_transferOne_252 : decode cX5_transferOne 252 = .ok (.goto 9, 3) := by decide +kernel
theorem dX5_transferOne_255 : decode cX5_transferOne 255 = .ok (.aload_n 0, 1) := by decide +kernel
theorem dX5_transferOne_256 : decode cX5_transferOne 256 = .ok (.iload 9, 2) := by decide +kernel
theorem dX5_transferOne_258 : decode cX5_transferOne 258 = .ok (.invokevirtual 213, 3) := by decide +kernel
theorem dX5_transferOne_261 : decode cX5_transferOne 261 = .ok (.istore 10, 2) := by decide +kernel
theorem dX5_transferOne_263 : decode cX5_transferOne 263 = .ok (.iload 8, 2) := by decide +kernel
theorem dX5_transferOne_265 : decode cX5_transferOne 265 = .ok (.ifCond .eq 10, 3) := by decide +kernel
theorem dX5_transferOne_268 : decode cX5_transferOne 268 = .ok (.aload_n 0, 1) := by decide +kernel
theorem dX5_transferOne_269 : decode cX5_transferOne 269 = .ok (.iload_n 1, 1) := by decide +kernel
theorem dX5_transferOne_270 : decode cX5_transferOne 270 = .ok (.iload 4, 2) := by decide +kernel
theorem dX5_transferOne_272 : decode cX5_transferOne 272 = .ok (.invokevirtual 138, 3) := by decide +kernel
theorem dX5_transferOne_275 : decode cX5_transferOne 275 = .ok (.aload_n 0, 1) := by decide +kernel
theorem dX5_transferOne_276 : decode cX5_transferOne 276 = .ok (.ldc 148, 2) := by decide +kernel
theorem dX5_transferOne_278 : decode cX5_transferOne 278 = .ok (.invokevirtual 114, 3) := by decide +kernel
theorem dX5_transferOne_281 : decode cX5_transferOne 281 = .ok (.ifCond .eq 25, 3) := by decide +kernel
theorem dX5_transferOne_284 : decode cX5_transferOne 284 = .ok (.aload_n 0, 1) := by decide +kernel
theorem dX5_transferOne_285 : decode cX5_transferOne 285 = .ok (.iload 9, 2) := by decide +kernel
theorem dX5_transferOne_287 : decode cX5_transferOne 287 = .ok (.iload 10, 2) := by decide +kernel
theorem dX5_transferOne_289 : decode cX5_transferOne 289 = .ok (.invokevirtual 175, 3) := by decide +kernel
theorem dX5_transferOne_292 : decode cX5_transferOne 292 = .ok (.iload 9, 2) := by decide +kernel
theorem dX5_transferOne_294 : decode cX5_transferOne 294 = .ok (.bipush 15, 2) := by decide +kernel
theorem dX5_transferOne_296 : decode cX5_transferOne 296 = .ok (.if_icmp .ne 8, 3) := by decide +kernel
theorem dX5_transferOne_299 : decode cX5_transferOne 299 = .ok (.bipush 7, 2) := by decide +kernel
theorem dX5_transferOne_301 : decode cX5_transferOne 301 = .ok (.goto 4, 3) := by decide +kernel
theorem dX5_transferOne_304 : decode cX5_transferOne 304 = .ok (.iconst 4, 1) := by decide +kernel
theorem dX5_transferOne_305 : decode cX5_transferOne 305 = .ok (.ireturn, 1) := by decide +kernel
theorem dX5_transferOne_306 : decode cX5_transferOne 306 = .ok (.aload_n 0, 1) := by decide +kernel
theorem dX5_transferOne_307 : decode cX5_transferOne 307 = .ok (.ldc 216, 2) := by decide +kernel
theorem dX5_transferOne_309 : decode cX5_transferOne 309 = .ok (.invokevirtual 114, 3) := by decide +kernel
theorem dX5_transferOne_312 : decode cX5_transferOne 312 = .ok (.ifCond .eq 19, 3) := by decide +kernel
theorem dX5_transferOne_315 : decode cX5_transferOne 315 = .ok (.aload_n 0, 1) := by decide +kernel
theorem dX5_transferOne_316 : decode cX5_transferOne 316 = .ok (.getfield 23, 3) := by decide +kernel
theorem dX5_transferOne_319 : decode cX5_transferOne 319 = .ok (.iload 7, 2) := by decide +kernel
theorem dX5_transferOne_321 : decode cX5_transferOne 321 = .ok (.iload 5, 2) := by decide +kernel
theorem dX5_transferOne_323 : decode cX5_transferOne 323 = .ok (.iload 10, 2) := by decide +kernel
theorem dX5_transferOne_325 : decode cX5_transferOne 325 = .ok (.invokevirtual 217, 3) := by decide +kernel
theorem dX5_transferOne_328 : decode cX5_transferOne 328 = .ok (.goto 16, 3) := by decide +kernel
theorem dX5_transferOne_331 : decode cX5_transferOne 331 = .ok (.aload_n 0, 1) := by decide +kernel
theorem dX5_transferOne_332 : decode cX5_transferOne 332 = .ok (.getfield 23, 3) := by decide +kernel
theorem dX5_transferOne_335 : decode cX5_transferOne 335 = .ok (.iload 7, 2) := by decide +kernel
theorem dX5_transferOne_337 : decode cX5_transferOne 337 = .ok (.iload 5, 2) := by decide +kernel
theorem dX5_transferOne_339 : decode cX5_transferOne 339 = .ok (.iload 10, 2) := by decide +kernel
theorem dX5_transferOne_341 : decode cX5_transferOne 341 = .ok (.invokevirtual 220, 3) := by decide +kernel
theorem dX5_transferOne_344 : decode cX5_transferOne 344 = .ok (.iconst 4, 1) := by decide +kernel
theorem dX5_transferOne_345 : decode cX5_transferOne 345 = .ok (.ireturn, 1) := by decide +kernel
theorem dX5_loaded_0 : decode cX5_loaded 0 = .ok (.aload_n 0, 1) := by decide +kernel
theorem dX5_loaded_1 : decode cX5_loaded 1 = .ok (.getfield 23, 3) := by decide +kernel
theorem dX5_loaded_4 : decode cX5_loaded 4 = .ok (.iload_n 1, 1) := by decide +kernel
theorem dX5_loaded_5 : decode cX5_loaded 5 = .ok (.iload_n 2, 1) := by decide +kernel
theorem dX5_loaded_6 : decode cX5_loaded 6 = .ok (.invokevirtual 223, 3) := by decide +kernel
theorem dX5_loaded_9 : decode cX5_loaded 9 = .ok (.iload_n 2, 1) := by decide +kernel
theorem dX5_loaded_10 : decode cX5_loaded 10 = .ok (.iconst 3, 1) := by decide +kernel
theorem dX5_loaded_11 : decode cX5_loaded 11 = .ok (.iand, 1) := by decide +kernel
theorem dX5_loaded_12 : decode cX5_loaded 12 = .ok (.iconst 3, 1) := by decide +kernel
theorem dX5_loaded_13 : decode cX5_loaded 13 = .ok (.ishl, 1) := by decide +kernel
theorem dX5_loaded_14 : decode cX5_loaded 14 = .ok (.invokestatic 197, 3) := by decide +kernel
theorem dX5_loaded_17 : decode cX5_loaded 17 = .ok (.istore_n 3, 1) := by decide +kernel
theorem dX5_loaded_18 : decode cX5_loaded 18 = .ok (.aload_n 0, 1) := by decide +kernel
theorem dX5_loaded_19 : decode cX5_loaded 19 = .ok (.ldc 216, 2) := by decide +kernel
theorem dX5_loaded_21 : decode cX5_loaded 21 = .ok (.invokevirtual 114, 3) := by decide +kernel
theorem dX5_loaded_24 : decode cX5_loaded 24 = .ok (.ifCond .eq 11, 3) := by decide +kernel
theorem dX5_loaded_27 : decode cX5_loaded 27 = .ok (.iload_n 3, 1) := by decide +kernel
theorem dX5_loaded_28 : decode cX5_loaded 28 = .ok (.sipush 255, 3) := by decide +kernel
theorem dX5_loaded_31 : decode cX5_loaded 31 = .ok (.iand, 1) := by decide +kernel
theorem dX5_loaded_32 : decode cX5_loaded 32 = .ok (.goto 4, 3) := by decide +kernel
theorem dX5_loaded_35 : decode cX5_loaded 35 = .ok (.iload_n 3, 1) := by decide +kernel
theorem dX5_loaded_36 : decode cX5_loaded 36 = .ok (.ireturn, 1) := by decide +kernel
theorem dX5_given_0 : decode cX5_given 0 = .ok (.iload_n 1, 1) := by decide +kernel
theorem dX5_given_1 : decode cX5_given 1 = .ok (.bipush 15, 2) := by decide +kernel
theorem dX5_given_3 : decode cX5_given 3 = .ok (.if_icmp .ne 12, 3) := by decide +kernel
theorem dX5_given_6 : decode cX5_given 6 = .ok (.aload_n 0, 1) := by decide +kernel
theorem dX5_given_7 : decode cX5_given 7 = .ok (.bipush 12, 2) := by decide +kernel
theorem dX5_given_9 : decode cX5_given 9 = .ok (.invokevirtual 73, 3) := by decide +kernel
theorem dX5_given_12 : decode cX5_given 12 = .ok (.goto 18, 3) := by decide +kernel
theorem dX5_given_15 : decode cX5_given 15 = .ok (.aload_n 0, 1) := by decide +kernel
theorem dX5_given_16 : decode cX5_given 16 = .ok (.getfield 19, 3) := by decide +kernel
theorem dX5_given_19 : decode cX5_given 19 = .ok (.aload_n 0, 1) := by decide +kernel
theorem dX5_given_20 : decode cX5_given 20 = .ok (.getfield 19, 3) := by decide +kernel
theorem dX5_given_23 : decode cX5_given 23 = .ok (.invokevirtual 56, 3) := by decide +kernel
theorem dX5_given_26 : decode cX5_given 26 = .ok (.iload_n 1, 1) := by decide +kernel
theorem dX5_given_27 : decode cX5_given 27 = .ok (.invokevirtual 134, 3) := by decide +kernel
theorem dX5_given_30 : decode cX5_given 30 = .ok (.ireturn, 1) := by decide +kernel
theorem dX5_transferMany_0 : decode cX5_transferMany 0 = .ok (.aload_n 0, 1) := by decide +kernel
theorem dX5_transferMany_1 : decode cX5_transferMany 1 = .ok (.getfield 69, 3) := by decide +kernel
theorem dX5_transferMany_4 : decode cX5_transferMany 4 = .ok (.ldc 226, 2) := by decide +kernel
theorem dX5_transferMany_6 : decode cX5_transferMany 6 = .ok (.iand, 1) := by decide +kernel
theorem dX5_transferMany_7 : decode cX5_transferMany 7 = .ok (.invokestatic 227, 3) := by decide +kernel
theorem dX5_transferMany_10 : decode cX5_transferMany 10 = .ok (.istore_n 1, 1) := by decide +kernel
theorem dX5_transferMany_11 : decode cX5_transferMany 11 = .ok (.iload_n 1, 1) := by decide +kernel
theorem dX5_transferMany_12 : decode cX5_transferMany 12 = .ok (.ifCond .ne 5, 3) := by decide +kernel
theorem dX5_transferMany_15 : decode cX5_transferMany 15 = .ok (.iconst 1, 1) := by decide +kernel
theorem dX5_transferMany_16 : decode cX5_transferMany 16 = .ok (.ireturn, 1) := by decide +kernel
theorem dX5_transferMany_17 : decode cX5_transferMany 17 = .ok (.aload_n 0, 1) := by decide +kernel
theorem dX5_transferMany_18 : decode cX5_transferMany 18 = .ok (.bipush 16, 2) := by decide +kernel
theorem dX5_transferMany_20 : decode cX5_transferMany 20 = .ok (.invokevirtual 141, 3) := by decide +kernel
theorem dX5_transferMany_23 : decode cX5_transferMany 23 = .ok (.istore_n 2, 1) := by decide +kernel
theorem dX5_transferMany_24 : decode cX5_transferMany 24 = .ok (.aload_n 0, 1) := by decide +kernel
theorem dX5_transferMany_25 : decode cX5_transferMany 25 = .ok (.iload_n 2, 1) := by decide +kernel
theorem dX5_transferMany_26 : decode cX5_transferMany 26 = .ok (.bipush 8, 2) := by decide +kernel
theorem dX5_transferMany_28 : decode cX5_transferMany 28 = .ok (.invokevirtual 144, 3) := by decide +kernel
theorem dX5_transferMany_31 : decode cX5_transferMany 31 = .ok (.istore_n 3, 1) := by decide +kernel
theorem dX5_transferMany_32 : decode cX5_transferMany 32 = .ok (.aload_n 0, 1) := by decide +kernel
theorem dX5_transferMany_33 : decode cX5_transferMany 33 = .ok (.ldc 209, 2) := by decide +kernel
theorem dX5_transferMany_35 : decode cX5_transferMany 35 = .ok (.invokevirtual 114, 3) := by decide +kernel
theorem dX5_transferMany_38 : decode cX5_transferMany 38 = .ok (.ifCond .eq 7, 3) := by decide +kernel
theorem dX5_transferMany_41 : decode cX5_transferMany 41 = .ok (.iload_n 3, 1) := by decide +kernel
theorem dX5_transferMany_42 : decode cX5_transferMany 42 = .ok (.goto 8, 3) := by decide +kernel
theorem dX5_transferMany_45 : decode cX5_transferMany 45 = .ok (.iload_n 3, 1) := by decide +kernel
theorem dX5_transferMany_46 : decode cX5_transferMany 46 = .ok (.iconst 4, 1) := by decide +kernel
theorem dX5_transferMany_47 : decode cX5_transferMany 47 = .ok (.iload_n 1, 1) := by decide +kernel
theorem dX5_transferMany_48 : decode cX5_transferMany 48 = .ok (.imul, 1) := by decide +kernel
theorem dX5_transferMany_49 : decode cX5_transferMany 49 = .ok (.isub, 1) := by decide +kernel
theorem dX5_transferMany_50 : decode cX5_transferMany 50 = .ok (.aload_n 0, 1) := by decide +kernel
theorem dX5_transferMany_51 : decode cX5_transferMany 51 = .ok (.ldc 209, 2) := by decide +kernel
theorem dX5_transferMany_53 : decode cX5_transferMany 53 = .ok (.invokevirtual 114, 3) := by decide +kernel
theorem dX5_transferMany_56 : decode cX5_transferMany 56 = .ok (.aload_n 0, 1) := by decide +kernel
theorem dX5_transferMany_57 : decode cX5_transferMany 57 = .ok (.ldc 113, 2) := by decide +kernel
theorem dX5_transferMany_59 : decode cX5_transferMany 59 = .ok (.invokevirtual 114, 3) := by decide +kernel
theorem dX5_transferMany_62 : decode cX5_transferMany 62 = .ok (.if_icmp .ne 7, 3) := by decide +kernel
theorem dX5_transferMany_65 : decode cX5_transferMany 65 = .ok (.iconst 4, 1) := by decide +kernel
theorem dX5_transferMany_66 : decode cX5_transferMany 66 = .ok (.goto 4, 3) := by decide +kernel
theorem dX5_transferMany_69 : decode cX5_transferMany 69 = .ok (.iconst 0, 1) := by decide +kernel
theorem dX5_transferMany_70 : decode cX5_transferMany 70 = .ok (.iadd, 1) := by decide +kernel
theorem dX5_transferMany_71 : decode cX5_transferMany 71 = .ok (.istore 4, 2) := by decide +kernel
theorem dX5_transferMany_73 : decode cX5_transferMany 73 = .ok (.iload 4, 2) := by decide +kernel
theorem dX5_transferMany_75 : decode cX5_transferMany 75 = .ok (.bipush 26, 2) := by decide +kernel
theorem dX5_transferMany_77 : decode cX5_transferMany 77 = .ok (.iushr, 1) := by decide +kernel
theorem dX5_transferMany_78 : decode cX5_transferMany 78 = .ok (.ifCond .eq 9, 3) := by decide +kernel
theorem dX5_transferMany_81 : decode cX5_transferMany 81 = .ok (.aload_n 0, 1) := by decide +kernel
theorem dX5_transferMany_82 : decode cX5_transferMany 82 = .ok (.iconst 4, 1) := by decide +kernel
theorem dX5_transferMany_83 : decode cX5_transferMany 83 = .ok (.invokevirtual 101, 3) := by decide +kernel
theorem dX5_transferMany_86 : decode cX5_transferMany 86 = .ok (.ireturn, 1) := by decide +kernel
theorem dX5_transferMany_87 : decode cX5_transferMany 87 = .ok (.aload_n 0, 1) := by decide +kernel
theorem dX5_transferMany_88 : decode cX5_transferMany 88 = .ok (.iload 4, 2) := by decide +kernel
theorem dX5_transferMany_90 : decode cX5_transferMany 90 = .ok (.iload_n 1, 1) := by decide +kernel
theorem dX5_transferMany_91 : decode cX5_transferMany 91 = .ok (.invokevirtual 232, 3) := by decide +kernel
theorem dX5_transferMany_94 : decode cX5_transferMany 94 = .ok (.ifCond .ne 9, 3) := by decide +kernel
theorem dX5_transferMany_97 : decode cX5_transferMany 97 = .ok (.aload_n 0, 1) := by decide +kernel
theorem dX5_transferMany_98 : decode cX5_transferMany 98 = .ok (.iconst 3, 1) := by decide +kernel
theorem dX5_transferMany_99 : decode cX5_transferMany 99 = .ok (.invokevirtual 101, 3) := by decide +kernel
theorem dX5_transferMany_102 : decode cX5_transferMany 102 = .ok (.ireturn, 1) := by decide +kernel
theorem dX5_transferMany_103 : decode cX5_transferMany 103 = .ok (.aload_n 0, 1) := by decide +kernel
theorem dX5_transferMany_104 : decode cX5_transferMany 104 = .ok (.ldc 147, 2) := by decide +kernel
theorem dX5_transferMany_106 : decode cX5_transferMany 106 = .ok (.invokevirtual 114, 3) := by decide +kernel
theorem dX5_transferMany_109 : decode cX5_transferMany 109 = .ok (.ifCond .eq 36, 3) := by decide +kernel
theorem dX5_transferMany_112 : decode cX5_transferMany 112 = .ok (.iload_n 2, 1) := by decide +kernel
theorem dX5_transferMany_113 : decode cX5_transferMany 113 = .ok (.bipush 15, 2) := by decide +kernel
theorem dX5_transferMany_115 : decode cX5_transferMany 115 = .ok (.if_icmp .eq 30, 3) := by decide +kernel
theorem dX5_transferMany_118 : decode cX5_transferMany 118 = .ok (.aload_n 0, 1) := by decide +kernel
theorem dX5_transferMany_119 : decode cX5_transferMany 119 = .ok (.iload_n 2, 1) := by decide +kernel
theorem dX5_transferMany_120 : decode cX5_transferMany 120 = .ok (.aload_n 0, 1) := by decide +kernel
theorem dX5_transferMany_121 : decode cX5_transferMany 121 = .ok (.ldc 209, 2) := by decide +kernel
theorem dX5_transferMany_123 : decode cX5_transferMany 123 = .ok (.invokevirtual 114, 3) := by decide +kernel
theorem dX5_transferMany_126 : decode cX5_transferMany 126 = .ok (.ifCond .eq 11, 3) := by decide +kernel
theorem dX5_transferMany_129 : decode cX5_transferMany 129 = .ok (.iload_n 3, 1) := by decide +kernel
theorem dX5_transferMany_130 : decode cX5_transferMany 130 = .ok (.iconst 4, 1) := by decide +kernel
theorem dX5_transferMany_131 : decode cX5_transferMany 131 = .ok (.iload_n 1, 1) := by decide +kernel
theorem dX5_transferMany_132 : decode cX5_transferMany 132 = .ok (.imul, 1) := by decide +kernel
theorem dX5_transferMany_133 : decode cX5_transferMany 133 = .ok (.iadd, 1) := by decide +kernel
theorem dX5_transferMany_134 : decode cX5_transferMany 134 = .ok (.goto 8, 3) := by decide +kernel
theorem dX5_transferMany_137 : decode cX5_transferMany 137 = .ok (.iload_n 3, 1) := by decide +kernel
theorem dX5_transferMany_138 : decode cX5_transferMany 138 = .ok (.iconst 4, 1) := by decide +kernel
theorem dX5_transferMany_139 : decode cX5_transferMany 139 = .ok (.iload_n 1, 1) := by decide +kernel
theorem dX5_transferMany_140 : decode cX5_transferMany 140 = .ok (.imul, 1) := by decide +kernel
theorem dX5_transferMany_141 : decode cX5_transferMany 141 = .ok (.isub, 1) := by decide +kernel
theorem dX5_transferMany_142 : decode cX5_transferMany 142 = .ok (.invokevirtual 138, 3) := by decide +kernel
theorem dX5_transferMany_145 : decode cX5_transferMany 145 = .ok (.aload_n 0, 1) := by decide +kernel
theorem dX5_transferMany_146 : decode cX5_transferMany 146 = .ok (.ldc 148, 2) := by decide +kernel
theorem dX5_transferMany_148 : decode cX5_transferMany 148 = .ok (.invokevirtual 114, 3) := by decide +kernel
theorem dX5_transferMany_151 : decode cX5_transferMany 151 = .ok (.ifCond .eq 28, 3) := by decide +kernel
theorem dX5_transferMany_154 : decode cX5_transferMany 154 = .ok (.aload_n 0, 1) := by decide +kernel
theorem dX5_transferMany_155 : decode cX5_transferMany 155 = .ok (.iload 4, 2) := by decide +kernel
theorem dX5_transferMany_157 : decode cX5_transferMany 157 = .ok (.invokevirtual 236, 3) := by decide +kernel
theorem dX5_transferMany_160 : decode cX5_transferMany 160 = .ok (.iconst 2, 1) := by decide +kernel
theorem dX5_transferMany_161 : decode cX5_transferMany 161 = .ok (.iload_n 1, 1) := by decide +kernel
theorem dX5_transferMany_162 : decode cX5_transferMany 162 = .ok (.iadd, 1) := by decide +kernel
theorem dX5_transferMany_163 : decode cX5_transferMany 163 = .ok (.aload_n 0, 1) := by decide +kernel
theorem dX5_transferMany_164 : decode cX5_transferMany 164 = .ok (.ldc 239, 2) := by decide +kernel
theorem dX5_transferMany_166 : decode cX5_transferMany 166 = .ok (.invokevirtual 114, 3) := by decide +kernel
theorem dX5_transferMany_169 : decode cX5_transferMany 169 = .ok (.ifCond .eq 7, 3) := by decide +kernel
theorem dX5_transferMany_172 : decode cX5_transferMany 172 = .ok (.iconst 3, 1) := by decide +kernel
theorem dX5_transferMany_173 : decode cX5_transferMany 173 = .ok (.goto 4, 3) := by decide +kernel
theorem dX5_transferMany_176 : decode cX5_transferMany 176 = .ok (.iconst 0, 1) := by decide +kernel
theorem dX5_transferMany_177 : decode cX5_transferMany 177 = .ok (.iadd, 1) := by decide +kernel
theorem dX5_transferMany_178 : decode cX5_transferMany 178 = .ok (.ireturn, 1) := by decide +kernel
theorem dX5_transferMany_179 : decode cX5_transferMany 179 = .ok (.aload_n 0, 1) := by decide +kernel
theorem dX5_transferMany_180 : decode cX5_transferMany 180 = .ok (.iload 4, 2) := by decide +kernel
theorem dX5_transferMany_182 : decode cX5_transferMany 182 = .ok (.iload_n 3, 1) := by decide +kernel
theorem dX5_transferMany_183 : decode cX5_transferMany 183 = .ok (.invokevirtual 240, 3) := by decide +kernel
theorem dX5_transferMany_186 : decode cX5_transferMany 186 = .ok (.iconst 2, 1) := by decide +kernel
theorem dX5_transferMany_187 : decode cX5_transferMany 187 = .ok (.iload_n 1, 1) := by decide +kernel
theorem dX5_transferMany_188 : decode cX5_transferMany 188 = .ok (.iadd, 1) := by decide +kernel
theorem dX5_transferMany_189 : decode cX5_transferMany 189 = .ok (.ireturn, 1) := by decide +kernel
theorem dX5_findAll_0 : decode cX5_findAll 0 = .ok (.aload_n 0, 1) := by decide +kernel
theorem dX5_findAll_1 : decode cX5_findAll 1 = .ok (.getfield 19, 3) := by decide +kernel
theorem dX5_findAll_4 : decode cX5_findAll 4 = .ok (.invokevirtual 56, 3) := by decide +kernel
theorem dX5_findAll_7 : decode cX5_findAll 7 = .ok (.istore_n 3, 1) := by decide +kernel
theorem dX5_findAll_8 : decode cX5_findAll 8 = .ok (.iconst 0, 1) := by decide +kernel
theorem dX5_findAll_9 : decode cX5_findAll 9 = .ok (.istore 4, 2) := by decide +kernel
theorem dX5_findAll_11 : decode cX5_findAll 11 = .ok (.iload 4, 2) := by decide +kernel
theorem dX5_findAll_13 : decode cX5_findAll 13 = .ok (.iload_n 2, 1) := by decide +kernel
theorem dX5_findAll_14 : decode cX5_findAll 14 = .ok (.if_icmp .ge 62, 3) := by decide +kernel
theorem dX5_findAll_17 : decode cX5_findAll 17 = .ok (.aload_n 0, 1) := by decide +kernel
theorem dX5_findAll_18 : decode cX5_findAll 18 = .ok (.getfield 23, 3) := by decide +kernel
theorem dX5_findAll_21 : decode cX5_findAll 21 = .ok (.iload_n 3, 1) := by decide +kernel
theorem dX5_findAll_22 : decode cX5_findAll 22 = .ok (.iload_n 1, 1) := by decide +kernel
theorem dX5_findAll_23 : decode cX5_findAll 23 = .ok (.iconst 4, 1) := by decide +kernel
theorem dX5_findAll_24 : decode cX5_findAll 24 = .ok (.iload 4, 2) := by decide +kernel
theorem dX5_findAll_26 : decode cX5_findAll 26 = .ok (.imul, 1) := by decide +kernel
theorem dX5_findAll_27 : decode cX5_findAll 27 = .ok (.iadd, 1) := by decide +kernel
theorem dX5_findAll_28 : decode cX5_findAll 28 = .ok (.ldc 127, 2) := by decide +kernel
theorem dX5_findAll_30 : decode cX5_findAll 30 = .ok (.iand, 1) := by decide +kernel
theorem dX5_findAll_31 : decode cX5_findAll 31 = .ok (.aload_n 0, 1) := by decide +kernel
theorem dX5_findAll_32 : decode cX5_findAll 32 = .ok (.ldc 148, 2) := by decide +kernel
theorem dX5_findAll_34 : decode cX5_findAll 34 = .ok (.invokevirtual 114, 3) := by decide +kernel
theorem dX5_findAll_37 : decode cX5_findAll 37 = .ok (.ifCond .ne 7, 3) := by decide +kernel
theorem dX5_findAll_40 : decode cX5_findAll 40 = .ok (.iconst 1, 1) := by decide +kernel
theorem dX5_findAll_41 : decode cX5_findAll 41 = .ok (.goto 4, 3) := by decide +kernel
theorem dX5_findAll_44 : decode cX5_findAll 44 = .ok (.iconst 0, 1) := by decide +kernel
theorem dX5_findAll_45 : decode cX5_findAll 45 = .ok (.invokevirtual 59, 3) := by decide +kernel
theorem dX5_findAll_48 : decode cX5_findAll 48 = .ok (.istore 5, 2) := by decide +kernel
theorem dX5_findAll_50 : decode cX5_findAll 50 = .ok (.iload 5, 2) := by decide +kernel
theorem dX5_findAll_52 : decode cX5_findAll 52 = .ok (.iconst (-1), 1) := by decide +kernel
theorem dX5_findAll_53 : decode cX5_findAll 53 = .ok (.if_icmp .ne 5, 3) := by decide +kernel
theorem dX5_findAll_56 : decode cX5_findAll 56 = .ok (.iconst 0, 1) := by decide +kernel
theorem dX5_findAll_57 : decode cX5_findAll 57 = .ok (.ireturn, 1) := by decide +kernel
theorem dX5_findAll_58 : decode cX5_findAll 58 = .ok (.aload_n 0, 1) := by decide +kernel
theorem dX5_findAll_59 : decode cX5_findAll 59 = .ok (.getfield 15, 3) := by decide +kernel
theorem dX5_findAll_62 : decode cX5_findAll 62 = .ok (.iload 4, 2) := by decide +kernel
theorem dX5_findAll_64 : decode cX5_findAll 64 = .ok (.bipush 15, 2) := by decide +kernel
theorem dX5_findAll_66 : decode cX5_findAll 66 = .ok (.iand, 1) := by decide +kernel
theorem dX5_findAll_67 : decode cX5_findAll 67 = .ok (.iload 5, 2) := by decide +kernel
theorem dX5_findAll_69 : decode cX5_findAll 69 = .ok (.iastore, 1) := by decide +kernel
theorem dX5_findAll_70 : decode cX5_findAll 70 = .ok (.iinc 4 1, 3) := by decide +kernel
theorem dX5_findAll_73 : decode cX5_findAll 73 = .ok (.goto (-62), 3) := by decide +kernel
theorem dX5_findAll_76 : decode cX5_findAll 76 = .ok (.iconst 1, 1) := by decide +kernel
theorem dX5_findAll_77 : decode cX5_findAll 77 = .ok (.ireturn, 1) := by decide +kernel
theorem dX5_loadMany_0 : decode cX5_loadMany 0 = .ok (.aload_n 0, 1) := by decide +kernel
theorem dX5_loadMany_1 : decode cX5_loadMany 1 = .ok (.ldc 216, 2) := by decide +kernel
theorem dX5_loadMany_3 : decode cX5_loadMany 3 = .ok (.invokevirtual 114, 3) := by decide +kernel
theorem dX5_loadMany_6 : decode cX5_loadMany 6 = .ok (.ifCond .eq 16, 3) := by decide +kernel
theorem dX5_loadMany_9 : decode cX5_loadMany 9 = .ok (.aload_n 0, 1) := by decide +kernel
theorem dX5_loadMany_10 : decode cX5_loadMany 10 = .ok (.ldc 239, 2) := by decide +kernel
theorem dX5_loadMany_12 : decode cX5_loadMany 12 = .ok (.invokevirtual 114, 3) := by decide +kernel
theorem dX5_loadMany_15 : decode cX5_loadMany 15 = .ok (.ifCond .ne 7, 3) := by decide +kernel
theorem dX5_loadMany_18 : decode cX5_loadMany 18 = .ok (.iconst 0, 1) := by decide +kernel
theorem dX5_loadMany_19 : decode cX5_loadMany 19 = .ok (.goto 10, 3) := by decide +kernel
theorem dX5_loadMany_22 : decode cX5_loadMany 22 = .ok (.aload_n 0, 1) := by decide +kernel
theorem dX5_loadMany_23 : decode cX5_loadMany 23 = .ok (.getfield 19, 3) := by decide +kernel
theorem dX5_loadMany_26 : decode cX5_loadMany 26 = .ok (.invokevirtual 56, 3) := by decide +kernel
theorem dX5_loadMany_29 : decode cX5_loadMany 29 = .ok (.istore_n 2, 1) := by decide +kernel
theorem dX5_loadMany_30 : decode cX5_loadMany 30 = .ok (.iload_n 1, 1) := by decide +kernel
theorem dX5_loadMany_31 : decode cX5_loadMany 31 = .ok (.ldc 127, 2) := by decide +kernel
theorem dX5_loadMany_33 : decode cX5_loadMany 33 = .ok (.iand, 1) := by decide +kernel
theorem dX5_loadMany_34 : decode cX5_loadMany 34 = .ok (.istore_n 3, 1) := by decide +kernel
theorem dX5_loadMany_35 : decode cX5_loadMany 35 = .ok (.iconst 0, 1) := by decide +kernel
theorem dX5_loadMany_36 : decode cX5_loadMany 36 = .ok (.istore 4, 2) := by decide +kernel
theorem dX5_loadMany_38 : decode cX5_loadMany 38 = .ok (.iconst 0, 1) := by decide +kernel
theorem dX5_loadMany_39 : decode cX5_loadMany 39 = .ok (.istore 5, 2) := by decide +kernel
theorem dX5_loadMany_41 : decode cX5_loadMany 41 = .ok (.iload 5, 2) := by decide +kernel
theorem dX5_loadMany_43 : decode cX5_loadMany 43 = .ok (.bipush 15, 2) := by decide +kernel
theorem dX5_loadMany_45 : decode cX5_loadMany 45 = .ok (.if_icmp .ge 58, 3) := by decide +kernel
theorem dX5_loadMany_48 : decode cX5_loadMany 48 = .ok (.aload_n 0, 1) := by decide +kernel
theorem dX5_loadMany_49 : decode cX5_loadMany 49 = .ok (.iconst 1, 1) := by decide +kernel
theorem dX5_loadMany_50 : decode cX5_loadMany 50 = .ok (.iload 5, 2) := by decide +kernel
theorem dX5_loadMany_52 : decode cX5_loadMany 52 = .ok (.ishl, 1) := by decide +kernel
theorem dX5_loadMany_53 : decode cX5_loadMany 53 = .ok (.invokevirtual 114, 3) := by decide +kernel
theorem dX5_loadMany_56 : decode cX5_loadMany 56 = .ok (.ifCond .eq 41, 3) := by decide +kernel
theorem dX5_loadMany_59 : decode cX5_loadMany 59 = .ok (.aload_n 0, 1) := by decide +kernel
theorem dX5_loadMany_60 : decode cX5_loadMany 60 = .ok (.getfield 19, 3) := by decide +kernel
theorem dX5_loadMany_63 : decode cX5_loadMany 63 = .ok (.iload_n 2, 1) := by decide +kernel
theorem dX5_loadMany_64 : decode cX5_loadMany 64 = .ok (.iload 5, 2) := by decide +kernel
theorem dX5_loadMany_66 : decode cX5_loadMany 66 = .ok (.aload_n 0, 1) := by decide +kernel
theorem dX5_loadMany_67 : decode cX5_loadMany 67 = .ok (.getfield 23, 3) := by decide +kernel
theorem dX5_loadMany_70 : decode cX5_loadMany 70 = .ok (.aload_n 0, 1) := by decide +kernel
theorem dX5_loadMany_71 : decode cX5_loadMany 71 = .ok (.getfield 15, 3) := by decide +kernel
theorem dX5_loadMany_74 : decode cX5_loadMany 74 = .ok (.iload 4, 2) := by decide +kernel
theorem dX5_loadMany_76 : decode cX5_loadMany 76 = .ok (.bipush 15, 2) := by decide +kernel
theorem dX5_loadMany_78 : decode cX5_loadMany 78 = .ok (.iand, 1) := by decide +kernel
theorem dX5_loadMany_79 : decode cX5_loadMany 79 = .ok (.iaload, 1) := by decide +kernel
theorem dX5_loadMany_80 : decode cX5_loadMany 80 = .ok (.iload_n 3, 1) := by decide +kernel
theorem dX5_loadMany_81 : decode cX5_loadMany 81 = .ok (.invokevirtual 223, 3) := by decide +kernel
theorem dX5_loadMany_84 : decode cX5_loadMany 84 = .ok (.invokevirtual 76, 3) := by decide +kernel
theorem dX5_loadMany_87 : decode cX5_loadMany 87 = .ok (.iload_n 3, 1) := by decide +kernel
theorem dX5_loadMany_88 : decode cX5_loadMany 88 = .ok (.iconst 4, 1) := by decide +kernel
theorem dX5_loadMany_89 : decode cX5_loadMany 89 = .ok (.iadd, 1) := by decide +kernel
theorem dX5_loadMany_90 : decode cX5_loadMany 90 = .ok (.ldc 127, 2) := by decide +kernel
theorem dX5_loadMany_92 : decode cX5_loadMany 92 = .ok (.iand, 1) := by decide +kernel
theorem dX5_loadMany_93 : decode cX5_loadMany 93 = .ok (.istore_n 3, 1) := by decide +kernel
theorem dX5_loadMany_94 : decode cX5_loadMany 94 = .ok (.iinc 4 1, 3) := by decide +kernel
theorem dX5_loadMany_97 : decode cX5_loadMany 97 = .ok (.iinc 5 1, 3) := by decide +kernel
theorem dX5_loadMany_100 : decode cX5_loadMany 100 = .ok (.goto (-59), 3) := by decide +kernel
theorem dX5_loadMany_103 : decode cX5_loadMany 103 = .ok (.aload_n 0, 1) := by decide +kernel
theorem dX5_loadMany_104 : decode cX5_loadMany 104 = .ok (.ldc 239, 2) := by decide +kernel
theorem dX5_loadMany_106 : decode cX5_loadMany 106 = .ok (.invokevirtual 114, 3) := by decide +kernel
theorem dX5_loadMany_109 : decode cX5_loadMany 109 = .ok (.ifCond .eq 50, 3) := by decide +kernel
theorem dX5_loadMany_112 : decode cX5_loadMany 112 = .ok (.aload_n 0, 1) := by decide +kernel
theorem dX5_loadMany_113 : decode cX5_loadMany 113 = .ok (.getfield 23, 3) := by decide +kernel
theorem dX5_loadMany_116 : decode cX5_loadMany 116 = .ok (.aload_n 0, 1) := by decide +kernel
theorem dX5_loadMany_117 : decode cX5_loadMany 117 = .ok (.getfield 15, 3) := by decide +kernel
theorem dX5_loadMany_120 : decode cX5_loadMany 120 = .ok (.iload 4, 2) := by decide +kernel
theorem dX5_loadMany_122 : decode cX5_loadMany 122 = .ok (.bipush 15, 2) := by decide +kernel
theorem dX5_loadMany_124 : decode cX5_loadMany 124 = .ok (.iand, 1) := by decide +kernel
theorem dX5_loadMany_125 : decode cX5_loadMany 125 = .ok (.iaload, 1) := by decide +kernel
theorem dX5_loadMany_126 : decode cX5_loadMany 126 = .ok (.iload_n 3, 1) := by decide +kernel
theorem dX5_loadMany_127 : decode cX5_loadMany 127 = .ok (.invokevirtual 223, 3) := by decide +kernel
theorem dX5_loadMany_130 : decode cX5_loadMany 130 = .ok (.istore 5, 2) := by decide +kernel
theorem dX5_loadMany_132 : decode cX5_loadMany 132 = .ok (.aload_n 0, 1) := by decide +kernel
theorem dX5_loadMany_133 : decode cX5_loadMany 133 = .ok (.getfield 19, 3) := by decide +kernel
theorem dX5_loadMany_136 : decode cX5_loadMany 136 = .ok (.iload 5, 2) := by decide +kernel
theorem dX5_loadMany_138 : decode cX5_loadMany 138 = .ok (.invokevirtual 83, 3) := by decide +kernel
theorem dX5_loadMany_141 : decode cX5_loadMany 141 = .ok (.aload_n 0, 1) := by decide +kernel
theorem dX5_loadMany_142 : decode cX5_loadMany 142 = .ok (.ldc 216, 2) := by decide +kernel
theorem dX5_loadMany_144 : decode cX5_loadMany 144 = .ok (.invokevirtual 114, 3) := by decide +kernel
theorem dX5_loadMany_147 : decode cX5_loadMany 147 = .ok (.ifCond .eq 12, 3) := by decide +kernel
theorem dX5_loadMany_150 : decode cX5_loadMany 150 = .ok (.aload_n 0, 1) := by decide +kernel
theorem dX5_loadMany_151 : decode cX5_loadMany 151 = .ok (.getfield 19, 3) := by decide +kernel
theorem dX5_loadMany_154 : decode cX5_loadMany 154 = .ok (.iload 5, 2) := by decide +kernel
theorem dX5_loadMany_156 : decode cX5_loadMany 156 = .ok (.invokevirtual 181, 3) := by decide +kernel
theorem dX5_loadMany_159 : decode cX5_loadMany 159 = .ok (.return_, 1) := by decide +kernel
theorem dX5_storeMany_0 : decode cX5_storeMany 0 = .ok (.aload_n 0, 1) := by decide +kernel
theorem dX5_storeMany_1 : decode cX5_storeMany 1 = .ok (.getfield 19, 3) := by decide +kernel
theorem dX5_storeMany_4 : decode cX5_storeMany 4 = .ok (.invokevirtual 56, 3) := by decide +kernel
theorem dX5_storeMany_7 : decode cX5_storeMany 7 = .ok (.istore_n 3, 1) := by decide +kernel
theorem dX5_storeMany_8 : decode cX5_storeMany 8 = .ok (.aload_n 0, 1) := by decide +kernel
theorem dX5_storeMany_9 : decode cX5_storeMany 9 = .ok (.ldc 216, 2) := by decide +kernel
theorem dX5_storeMany_11 : decode cX5_storeMany 11 = .ok (.invokevirtual 114, 3) := by decide +kernel
theorem dX5_storeMany_14 : decode cX5_storeMany 14 = .ok (.ifCond .eq 7, 3) := by decide +kernel
theorem dX5_storeMany_17 : decode cX5_storeMany 17 = .ok (.iconst 0, 1) := by decide +kernel
theorem dX5_storeMany_18 : decode cX5_storeMany 18 = .ok (.goto 4, 3) := by decide +kernel
theorem dX5_storeMany_21 : decode cX5_storeMany 21 = .ok (.iload_n 3, 1) := by decide +kernel
theorem dX5_storeMany_22 : decode cX5_storeMany 22 = .ok (.istore 4, 2) := by decide +kernel
theorem dX5_storeMany_24 : decode cX5_storeMany 24 = .ok (.aload_n 0, 1) := by decide +kernel
theorem dX5_storeMany_25 : decode cX5_storeMany 25 = .ok (.bipush 16, 2) := by decide +kernel
theorem dX5_storeMany_27 : decode cX5_storeMany 27 = .ok (.invokevirtual 141, 3) := by decide +kernel
theorem dX5_storeMany_30 : decode cX5_storeMany 30 = .ok (.istore 5, 2) := by decide +kernel
theorem dX5_storeMany_32 : decode cX5_storeMany 32 = .ok (.iload_n 1, 1) := by decide +kernel
theorem dX5_storeMany_33 : decode cX5_storeMany 33 = .ok (.ldc 127, 2) := by decide +kernel
theorem dX5_storeMany_35 : decode cX5_storeMany 35 = .ok (.iand, 1) := by decide +kernel
theorem dX5_storeMany_36 : decode cX5_storeMany 36 = .ok (.istore 6, 2) := by decide +kernel
theorem dX5_storeMany_38 : decode cX5_storeMany 38 = .ok (.iconst 0, 1) := by decide +kernel
theorem dX5_storeMany_39 : decode cX5_storeMany 39 = .ok (.istore 7, 2) := by decide +kernel
theorem dX5_storeMany_41 : decode cX5_storeMany 41 = .ok (.iconst 0, 1) := by decide +kernel
theorem dX5_storeMany_42 : decode cX5_storeMany 42 = .ok (.istore 8, 2) := by decide +kernel
theorem dX5_storeMany_44 : decode cX5_storeMany 44 = .ok (.iload 8, 2) := by decide +kernel
theorem dX5_storeMany_46 : decode cX5_storeMany 46 = .ok (.bipush 16, 2) := by decide +kernel
theorem dX5_storeMany_48 : decode cX5_storeMany 48 = .ok (.if_icmp .ge 125, 3) := by decide +kernel
theorem dX5_storeMany_51 : decode cX5_storeMany 51 = .ok (.aload_n 0, 1) := by decide +kernel
theorem dX5_storeMany_52 : decode cX5_storeMany 52 = .ok (.iconst 1, 1) := by decide +kernel
theorem dX5_storeMany_53 : decode cX5_storeMany 53 = .ok (.iload 8, 2) := by decide +kernel
theorem dX5_storeMany_55 : decode cX5_storeMany 55 = .ok (.ishl, 1) := by decide +kernel
theorem dX5_storeMany_56 : decode cX5_storeMany 56 = .ok (.invokevirtual 114, 3) := by decide +kernel
theorem dX5_storeMany_59 : decode cX5_storeMany 59 = .ok (.ifCond .eq 108, 3) := by decide +kernel
theorem dX5_storeMany_62 : decode cX5_storeMany 62 = .ok (.iload 7, 2) := by decide +kernel
theorem dX5_storeMany_64 : decode cX5_storeMany 64 = .ok (.ifCond .ne 29, 3) := by decide +kernel
theorem dX5_storeMany_67 : decode cX5_storeMany 67 = .ok (.iload 8, 2) := by decide +kernel
theorem dX5_storeMany_69 : decode cX5_storeMany 69 = .ok (.iload 5, 2) := by decide +kernel
theorem dX5_storeMany_71 : decode cX5_storeMany 71 = .ok (.if_icmp .ne 22, 3) := by decide +kernel
theorem dX5_storeMany_74 : decode cX5_storeMany 74 = .ok (.aload_n 0, 1) := by decide +kernel
theorem dX5_storeMany_75 : decode cX5_storeMany 75 = .ok (.getfield 19, 3) := by decide +kernel
theorem dX5_storeMany_78 : decode cX5_storeMany 78 = .ok (.iload 4, 2) := by decide +kernel
theorem dX5_storeMany_80 : decode cX5_storeMany 80 = .ok (.iload_n 3, 1) := by decide +kernel
theorem dX5_storeMany_81 : decode cX5_storeMany 81 = .ok (.iload 8, 2) := by decide +kernel
theorem dX5_storeMany_83 : decode cX5_storeMany 83 = .ok (.invokevirtual 243, 3) := by decide +kernel
theorem dX5_storeMany_86 : decode cX5_storeMany 86 = .ok (.ifCond .eq 7, 3) := by decide +kernel
theorem dX5_storeMany_89 : decode cX5_storeMany 89 = .ok (.iconst 1, 1) := by decide +kernel
theorem dX5_storeMany_90 : decode cX5_storeMany 90 = .ok (.goto 4, 3) := by decide +kernel
theorem dX5_storeMany_93 : decode cX5_storeMany 93 = .ok (.iconst 0, 1) := by decide +kernel
theorem dX5_storeMany_94 : decode cX5_storeMany 94 = .ok (.istore 9, 2) := by decide +kernel
theorem dX5_storeMany_96 : decode cX5_storeMany 96 = .ok (.iload 8, 2) := by decide +kernel
theorem dX5_storeMany_98 : decode cX5_storeMany 98 = .ok (.bipush 15, 2) := by decide +kernel
theorem dX5_storeMany_100 : decode cX5_storeMany 100 = .ok (.if_icmp .ne 12, 3) := by decide +kernel
theorem dX5_storeMany_103 : decode cX5_storeMany 103 = .ok (.aload_n 0, 1) := by decide +kernel
theorem dX5_storeMany_104 : decode cX5_storeMany 104 = .ok (.bipush 12, 2) := by decide +kernel
theorem dX5_storeMany_106 : decode cX5_storeMany 106 = .ok (.invokevirtual 73, 3) := by decide +kernel
theorem dX5_storeMany_109 : decode cX5_storeMany 109 = .ok (.goto 23, 3) := by decide +kernel
theorem dX5_storeMany_112 : decode cX5_storeMany 112 = .ok (.iload 9, 2) := by decide +kernel
theorem dX5_storeMany_114 : decode cX5_storeMany 114 = .ok (.ifCond .eq 7, 3) := by decide +kernel
theorem dX5_storeMany_117 : decode cX5_storeMany 117 = .ok (.iload_n 2, 1) := by decide +kernel
theorem dX5_storeMany_118 : decode cX5_storeMany 118 = .ok (.goto 14, 3) := by decide +kernel
theorem dX5_storeMany_121 : decode cX5_storeMany 121 = .ok (.aload_n 0, 1) := by decide +kernel
theorem dX5_storeMany_122 : decode cX5_storeMany 122 = .ok (.getfield 19, 3) := by decide +kernel
theorem dX5_storeMany_125 : decode cX5_storeMany 125 = .ok (.iload 4, 2) := by decide +kernel
theorem dX5_storeMany_127 : decode cX5_storeMany 127 = .ok (.iload 8, 2) := by decide +kernel
theorem dX5_storeMany_129 : decode cX5_storeMany 129 = .ok (.invokevirtual 134, 3) := by decide +kernel
theorem dX5_storeMany_132 : decode cX5_storeMany 132 = .ok (.istore 10, 2) := by decide +kernel
theorem dX5_storeMany_134 : decode cX5_storeMany 134 = .ok (.aload_n 0, 1) := by decide +kernel
theorem dX5_storeMany_135 : decode cX5_storeMany 135 = .ok (.getfield 23, 3) := by decide +kernel
theorem dX5_storeMany_138 : decode cX5_storeMany 138 = .ok (.aload_n 0, 1) := by decide +kernel
theorem dX5_storeMany_139 : decode cX5_storeMany 139 = .ok (.getfield 15, 3) := by decide +kernel
theorem dX5_storeMany_142 : decode cX5_storeMany 142 = .ok (.iload 7, 2) := by decide +kernel
theorem dX5_storeMany_144 : decode cX5_storeMany 144 = .ok (.bipush 15, 2) := by decide +kernel
theorem dX5_storeMany_146 : decode cX5_storeMany 146 = .ok (.iand, 1) := by decide +kernel
theorem dX5_storeMany_147 : decode cX5_storeMany 147 = .ok (.iaload, 1) := by decide +kernel
theorem dX5_storeMany_148 : decode cX5_storeMany 148 = .ok (.iload 6, 2) := by decide +kernel
theorem dX5_storeMany_150 : decode cX5_storeMany 150 = .ok (.iload 10, 2) := by decide +kernel
theorem dX5_storeMany_152 : decode cX5_storeMany 152 = .ok (.invokevirtual 220, 3) := by decide +kernel
theorem dX5_storeMany_155 : decode cX5_storeMany 155 = .ok (.iload 6, 2) := by decide +kernel
theorem dX5_storeMany_157 : decode cX5_storeMany 157 = .ok (.iconst 4, 1) := by decide +kernel
theorem dX5_storeMany_158 : decode cX5_storeMany 158 = .ok (.iadd, 1) := by decide +kernel
theorem dX5_storeMany_159 : decode cX5_storeMany 159 = .ok (.ldc 127, 2) := by decide +kernel
theorem dX5_storeMany_161 : decode cX5_storeMany 161 = .ok (.iand, 1) := by decide +kernel
theorem dX5_storeMany_162 : decode cX5_storeMany 162 = .ok (.istore 6, 2) := by decide +kernel
theorem dX5_storeMany_164 : decode cX5_storeMany 164 = .ok (.iinc 7 1, 3) := by decide +kernel
theorem dX5_storeMany_167 : decode cX5_storeMany 167 = .ok (.iinc 8 1, 3) := by decide +kernel
theorem dX5_storeMany_170 : decode cX5_storeMany 170 = .ok (.goto (-126), 3) := by decide +kernel
theorem dX5_storeMany_173 : decode cX5_storeMany 173 = .ok (.return_, 1) := by decide +kernel
theorem dX5_branch_0 : decode cX5_branch 0 = .ok (.aload_n 0, 1) := by decide +kernel
theorem dX5_branch_1 : decode cX5_branch 1 = .ok (.ldc 113, 2) := by decide +kernel
theorem dX5_branch_3 : decode cX5_branch 3 = .ok (.invokevirtual 114, 3) := by decide +kernel
theorem dX5_branch_6 : decode cX5_branch 6 = .ok (.ifCond .eq 14, 3) := by decide +kernel
theorem dX5_branch_9 : decode cX5_branch 9 = .ok (.aload_n 0, 1) := by decide +kernel
theorem dX5_branch_10 : decode cX5_branch 10 = .ok (.bipush 14, 2) := by decide +kernel
theorem dX5_branch_12 : decode cX5_branch 12 = .ok (.aload_n 0, 1) := by decide +kernel
theorem dX5_branch_13 : decode cX5_branch 13 = .ok (.iconst 4, 1) := by decide +kernel
theorem dX5_branch_14 : decode cX5_branch 14 = .ok (.invokevirtual 73, 3) := by decide +kernel
theorem dX5_branch_17 : decode cX5_branch 17 = .ok (.invokevirtual 138, 3) := by decide +kernel
theorem dX5_branch_20 : decode cX5_branch 20 = .ok (.aload_n 0, 1) := by decide +kernel
theorem dX5_branch_21 : decode cX5_branch 21 = .ok (.getfield 19, 3) := by decide +kernel
theorem dX5_branch_24 : decode cX5_branch 24 = .ok (.aload_n 0, 1) := by decide +kernel
theorem dX5_branch_25 : decode cX5_branch 25 = .ok (.getfield 37, 3) := by decide +kernel
theorem dX5_branch_28 : decode cX5_branch 28 = .ok (.bipush 8, 2) := by decide +kernel
theorem dX5_branch_30 : decode cX5_branch 30 = .ok (.iadd, 1) := by decide +kernel
theorem dX5_branch_31 : decode cX5_branch 31 = .ok (.aload_n 0, 1) := by decide +kernel
theorem dX5_branch_32 : decode cX5_branch 32 = .ok (.getfield 69, 3) := by decide +kernel
theorem dX5_branch_35 : decode cX5_branch 35 = .ok (.bipush 8, 2) := by decide +kernel
theorem dX5_branch_37 : decode cX5_branch 37 = .ok (.ishl, 1) := by decide +kernel
theorem dX5_branch_38 : decode cX5_branch 38 = .ok (.bipush 6, 2) := by decide +kernel
theorem dX5_branch_40 : decode cX5_branch 40 = .ok (.ishr, 1) := by decide +kernel
theorem dX5_branch_41 : decode cX5_branch 41 = .ok (.iadd, 1) := by decide +kernel
theorem dX5_branch_42 : decode cX5_branch 42 = .ok (.invokevirtual 83, 3) := by decide +kernel
theorem dX5_branch_45 : decode cX5_branch 45 = .ok (.iconst 4, 1) := by decide +kernel
theorem dX5_branch_46 : decode cX5_branch 46 = .ok (.ireturn, 1) := by decide +kernel
theorem dX6_init_0 : decode cX6_init 0 = .ok (.aload_n 0, 1) := by decide +kernel
theorem dX6_init_1 : decode cX6_init 1 = .ok (.invokespecial 3, 3) := by decide +kernel
theorem dX6_init_4 : decode cX6_init 4 = .ok (.aload_n 0, 1) := by decide +kernel
theorem dX6_init_5 : decode cX6_init 5 = .ok (.bipush 32, 2) := by decide +kernel
theorem dX6_init_7 : decode cX6_init 7 = .ok (.newarray .int, 2) := by decide +kernel
theorem dX6_init_9 : decode cX6_init 9 = .ok (.putfield 9, 3) := by decide +kernel
theorem dX6_init_12 : decode cX6_init 12 = .ok (.return_, 1) := by decide +kernel
theorem dX6_isRegister_0 : decode cX6_isRegister 0 = .ok (.iload_n 0, 1) := by decide +kernel
theorem dX6_isRegister_1 : decode cX6_isRegister 1 = .ok (.ifCond .lt 22, 3) := by decide +kernel
theorem dX6_isRegister_4 : decode cX6_isRegister 4 = .ok (.iload_n 0, 1) := by decide +kernel
theorem dX6_isRegister_5 : decode cX6_isRegister 5 = .ok (.iconst 3, 1) := by decide +kernel
theorem dX6_isRegister_6 : decode cX6_isRegister 6 = .ok (.if_icmp .gt 17, 3) := by decide +kernel
theorem dX6_isRegister_9 : decode cX6_isRegister 9 = .ok (.iload_n 1, 1) := by decide +kernel
theorem dX6_isRegister_10 : decode cX6_isRegister 10 = .ok (.ifCond .lt 13, 3) := by decide +kernel
theorem dX6_isRegister_13 : decode cX6_isRegister 13 = .ok (.iload_n 1, 1) := by decide +kernel
theorem dX6_isRegister_14 : decode cX6_isRegister 14 = .ok (.bipush 15, 2) := by decide +kernel
theorem dX6_isRegister_16 : decode cX6_isRegister 16 = .ok (.if_icmp .gt 7, 3) := by decide +kernel
theorem dX6_isRegister_19 : decode cX6_isRegister 19 = .ok (.iconst 1, 1) := by decide +kernel
theorem dX6_isRegister_20 : decode cX6_isRegister 20 = .ok (.goto 4, 3) := by decide +kernel
theorem dX6_isRegister_23 : decode cX6_isRegister 23 = .ok (.iconst 0, 1) := by decide +kernel
theorem dX6_isRegister_24 : decode cX6_isRegister 24 = .ok (.ireturn, 1) := by decide +kernel
theorem dX6_slot_0 : decode cX6_slot 0 = .ok (.getstatic 15, 3) := by decide +kernel
theorem dX6_slot_3 : decode cX6_slot 3 = .ok (.iload_n 0, 1) := by decide +kernel
theorem dX6_slot_4 : decode cX6_slot 4 = .ok (.iconst 3, 1) := by decide +kernel
theorem dX6_slot_5 : decode cX6_slot 5 = .ok (.iand, 1) := by decide +kernel
theorem dX6_slot_6 : decode cX6_slot 6 = .ok (.iconst 4, 1) := by decide +kernel
theorem dX6_slot_7 : decode cX6_slot 7 = .ok (.ishl, 1) := by decide +kernel
theorem dX6_slot_8 : decode cX6_slot 8 = .ok (.iload_n 1, 1) := by decide +kernel
theorem dX6_slot_9 : decode cX6_slot 9 = .ok (.bipush 15, 2) := by decide +kernel
theorem dX6_slot_11 : decode cX6_slot 11 = .ok (.iand, 1) := by decide +kernel
theorem dX6_slot_12 : decode cX6_slot 12 = .ok (.ior, 1) := by decide +kernel
theorem dX6_slot_13 : decode cX6_slot 13 = .ok (.iaload, 1) := by decide +kernel
theorem dX6_slot_14 : decode cX6_slot 14 = .ok (.bipush 31, 2) := by decide +kernel
theorem dX6_slot_16 : decode cX6_slot 16 = .ok (.iand, 1) := by decide +kernel
theorem dX6_slot_17 : decode cX6_slot 17 = .ok (.ireturn, 1) := by decide +kernel
theorem dX6_begin_0 : decode cX6_begin 0 = .ok (.aload_n 0, 1) := by decide +kernel
theorem dX6_begin_1 : decode cX6_begin 1 = .ok (.getfield 9, 3) := by decide +kernel
theorem dX6_begin_4 : decode cX6_begin 4 = .ok (.iconst 0, 1) := by decide +kernel
theorem dX6_begin_5 : decode cX6_begin 5 = .ok (.invokestatic 18, 3) := by decide +kernel
theorem dX6_begin_8 : decode cX6_begin 8 = .ok (.aload_n 0, 1) := by decide +kernel
theorem dX6_begin_9 : decode cX6_begin 9 = .ok (.getfield 9, 3) := by decide +kernel
theorem dX6_begin_12 : decode cX6_begin 12 = .ok (.bipush 15, 2) := by decide +kernel
theorem dX6_begin_14 : decode cX6_begin 14 = .ok (.ldc 24, 2) := by decide +kernel
theorem dX6_begin_16 : decode cX6_begin 16 = .ok (.iastore, 1) := by decide +kernel
theorem dX6_begin_17 : decode cX6_begin 17 = .ok (.return_, 1) := by decide +kernel
theorem dX6_of_0 : decode cX6_of 0 = .ok (.aload_n 0, 1) := by decide +kernel
theorem dX6_of_1 : decode cX6_of 1 = .ok (.getfield 9, 3) := by decide +kernel
theorem dX6_of_4 : decode cX6_of 4 = .ok (.iload_n 1, 1) := by decide +kernel
theorem dX6_of_5 : decode cX6_of 5 = .ok (.iload_n 2, 1) := by decide +kernel
theorem dX6_of_6 : decode cX6_of 6 = .ok (.invokestatic 25, 3) := by decide +kernel
theorem dX6_of_9 : decode cX6_of 9 = .ok (.iaload, 1) := by decide +kernel
theorem dX6_of_10 : decode cX6_of 10 = .ok (.ireturn, 1) := by decide +kernel
theorem dX6_become_0 : decode cX6_become 0 = .ok (.aload_n 0, 1) := by decide +kernel
theorem dX6_become_1 : decode cX6_become 1 = .ok (.getfield 9, 3) := by decide +kernel
theorem dX6_become_4 : decode cX6_become 4 = .ok (.iload_n 1, 1) := by decide +kernel
theorem dX6_become_5 : decode cX6_become 5 = .ok (.iload_n 2, 1) := by decide +kernel
theorem dX6_become_6 : decode cX6_become 6 = .ok (.invokestatic 25, 3) := by decide +kernel
theorem dX6_become_9 : decode cX6_become 9 = .ok (.iload_n 3, 1) := by decide +kernel
theorem dX6_become_10 : decode cX6_become 10 = .ok (.iastore, 1) := by decide +kernel
theorem dX6_become_11 : decode cX6_become 11 = .ok (.return_, 1) := by decide +kernel
theorem dX6_isOneFor_0 : decode cX6_isOneFor 0 = .ok (.iload_n 1, 1) := by decide +kernel
theorem dX6_isOneFor_1 : decode cX6_isOneFor 1 = .ok (.iload_n 3, 1) := by decide +kernel
theorem dX6_isOneFor_2 : decode cX6_isOneFor 2 = .ok (.invokestatic 25, 3) := by decide +kernel
theorem dX6_isOneFor_5 : decode cX6_isOneFor 5 = .ok (.iload_n 2, 1) := by decide +kernel
theorem dX6_isOneFor_6 : decode cX6_isOneFor 6 = .ok (.iload_n 3, 1) := by decide +kernel
theorem dX6_isOneFor_7 : decode cX6_isOneFor 7 = .ok (.invokestatic 25, 3) := by decide +kernel
theorem dX6_isOneFor_10 : decode cX6_isOneFor 10 = .ok (.if_icmp .ne 7, 3) := by decide +kernel
theorem dX6_isOneFor_13 : decode cX6_isOneFor 13 = .ok (.iconst 1, 1) := by decide +kernel
theorem dX6_isOneFor_14 : decode cX6_isOneFor 14 = .ok (.goto 4, 3) := by decide +kernel
theorem dX6_isOneFor_17 : decode cX6_isOneFor 17 = .ok (.iconst 0, 1) := by decide +kernel
theorem dX6_isOneFor_18 : decode cX6_isOneFor 18 = .ok (.ireturn, 1) := by decide +kernel
theorem dX6_mode_0 : decode cX6_mode 0 = .ok (.aload_n 0, 1) := by decide +kernel
theorem dX6_mode_1 : decode cX6_mode 1 = .ok (.getfield 9, 3) := by decide +kernel
theorem dX6_mode_4 : decode cX6_mode 4 = .ok (.bipush 15, 2) := by decide +kernel
theorem dX6_mode_6 : decode cX6_mode 6 = .ok (.iaload, 1) := by decide +kernel
theorem dX6_mode_7 : decode cX6_mode 7 = .ok (.iconst 3, 1) := by decide +kernel
theorem dX6_mode_8 : decode cX6_mode 8 = .ok (.iand, 1) := by decide +kernel
theorem dX6_mode_9 : decode cX6_mode 9 = .ok (.ireturn, 1) := by decide +kernel
theorem dX6_pc_0 : decode cX6_pc 0 = .ok (.aload_n 0, 1) := by decide +kernel
theorem dX6_pc_1 : decode cX6_pc 1 = .ok (.getfield 9, 3) := by decide +kernel
theorem dX6_pc_4 : decode cX6_pc 4 = .ok (.bipush 15, 2) := by decide +kernel
theorem dX6_pc_6 : decode cX6_pc 6 = .ok (.iaload, 1) := by decide +kernel
theorem dX6_pc_7 : decode cX6_pc 7 = .ok (.ldc 29, 2) := by decide +kernel
theorem dX6_pc_9 : decode cX6_pc 9 = .ok (.iand, 1) := by decide +kernel
theorem dX6_pc_10 : decode cX6_pc 10 = .ok (.ireturn, 1) := by decide +kernel
theorem dX6_signs_0 : decode cX6_signs 0 = .ok (.aload_n 0, 1) := by decide +kernel
theorem dX6_signs_1 : decode cX6_signs 1 = .ok (.getfield 9, 3) := by decide +kernel
theorem dX6_signs_4 : decode cX6_signs 4 = .ok (.bipush 15, 2) := by decide +kernel
theorem dX6_signs_6 : decode cX6_signs 6 = .ok (.iaload, 1) := by decide +kernel
theorem dX6_signs_7 : decode cX6_signs 7 = .ok (.ldc 30, 2) := by decide +kernel
theorem dX6_signs_9 : decode cX6_signs 9 = .ok (.iand, 1) := by decide +kernel
theorem dX6_signs_10 : decode cX6_signs 10 = .ok (.ireturn, 1) := by decide +kernel
theorem dX6_has_0 : decode cX6_has 0 = .ok (.aload_n 0, 1) := by decide +kernel
theorem dX6_has_1 : decode cX6_has 1 = .ok (.getfield 9, 3) := by decide +kernel
theorem dX6_has_4 : decode cX6_has 4 = .ok (.bipush 15, 2) := by decide +kernel
theorem dX6_has_6 : decode cX6_has 6 = .ok (.iaload, 1) := by decide +kernel
theorem dX6_has_7 : decode cX6_has 7 = .ok (.iload_n 1, 1) := by decide +kernel
theorem dX6_has_8 : decode cX6_has 8 = .ok (.iand, 1) := by decide +kernel
theorem dX6_has_9 : decode cX6_has 9 = .ok (.ifCond .eq 7, 3) := by decide +kernel
theorem dX6_has_12 : decode cX6_has 12 = .ok (.iconst 1, 1) := by decide +kernel
theorem dX6_has_13 : decode cX6_has 13 = .ok (.goto 4, 3) := by decide +kernel
theorem dX6_has_16 : decode cX6_has 16 = .ok (.iconst 0, 1) := by decide +kernel
theorem dX6_has_17 : decode cX6_has 17 = .ok (.ireturn, 1) := by decide +kernel
theorem dX6_carry_0 : decode cX6_carry 0 = .ok (.aload_n 0, 1) := by decide +kernel
theorem dX6_carry_1 : decode cX6_carry 1 = .ok (.getfield 9, 3) := by decide +kernel
theorem dX6_carry_4 : decode cX6_carry 4 = .ok (.bipush 15, 2) := by decide +kernel
theorem dX6_carry_6 : decode cX6_carry 6 = .ok (.iaload, 1) := by decide +kernel
theorem dX6_carry_7 : decode cX6_carry 7 = .ok (.bipush 29, 2) := by decide +kernel
theorem dX6_carry_9 : decode cX6_carry 9 = .ok (.iushr, 1) := by decide +kernel
theorem dX6_carry_10 : decode cX6_carry 10 = .ok (.iconst 1, 1) := by decide +kernel
theorem dX6_carry_11 : decode cX6_carry 11 = .ok (.iand, 1) := by decide +kernel
theorem dX6_carry_12 : decode cX6_carry 12 = .ok (.ireturn, 1) := by decide +kernel
theorem dX6_goTo_0 : decode cX6_goTo 0 = .ok (.aload_n 0, 1) := by decide +kernel
theorem dX6_goTo_1 : decode cX6_goTo 1 = .ok (.getfield 9, 3) := by decide +kernel
theorem dX6_goTo_4 : decode cX6_goTo 4 = .ok (.bipush 15, 2) := by decide +kernel
theorem dX6_goTo_6 : decode cX6_goTo 6 = .ok (.aload_n 0, 1) := by decide +kernel
theorem dX6_goTo_7 : decode cX6_goTo 7 = .ok (.invokevirtual 31, 3) := by decide +kernel
theorem dX6_goTo_10 : decode cX6_goTo 10 = .ok (.iload_n 1, 1) := by decide +kernel
theorem dX6_goTo_11 : decode cX6_goTo 11 = .ok (.ldc 29, 2) := by decide +kernel
theorem dX6_goTo_13 : decode cX6_goTo 13 = .ok (.iand, 1) := by decide +kernel
theorem dX6_goTo_14 : decode cX6_goTo 14 = .ok (.ior, 1) := by decide +kernel
theorem dX6_goTo_15 : decode cX6_goTo 15 = .ok (.iastore, 1) := by decide +kernel
theorem dX6_goTo_16 : decode cX6_goTo 16 = .ok (.return_, 1) := by decide +kernel
theorem dX6_setSigns_0 : decode cX6_setSigns 0 = .ok (.aload_n 0, 1) := by decide +kernel
theorem dX6_setSigns_1 : decode cX6_setSigns 1 = .ok (.invokevirtual 35, 3) := by decide +kernel
theorem dX6_setSigns_4 : decode cX6_setSigns 4 = .ok (.ifCond .ne 8, 3) := by decide +kernel
theorem dX6_setSigns_7 : decode cX6_setSigns 7 = .ok (.ldc 38, 2) := by decide +kernel
theorem dX6_setSigns_9 : decode cX6_setSigns 9 = .ok (.goto 5, 3) := by decide +kernel
theorem dX6_setSigns_12 : decode cX6_setSigns 12 = .ok (.ldc 30, 2) := by decide +kernel
theorem dX6_setSigns_14 : decode cX6_setSigns 14 = .ok (.istore_n 2, 1) := by decide +kernel
theorem dX6_setSigns_15 : decode cX6_setSigns 15 = .ok (.aload_n 0, 1) := by decide +kernel
theorem dX6_setSigns_16 : decode cX6_setSigns 16 = .ok (.iload_n 2, 1) := by decide +kernel
theorem dX6_setSigns_17 : decode cX6_setSigns 17 = .ok (.iload_n 1, 1) := by decide +kernel
theorem dX6_setSigns_18 : decode cX6_setSigns 18 = .ok (.invokevirtual 39, 3) := by decide +kernel
theorem dX6_setSigns_21 : decode cX6_setSigns 21 = .ok (.return_, 1) := by decide +kernel
theorem dX6_setResultSigns_0 : decode cX6_setResultSigns 0 = .ok (.aload_n 0, 1) := by decide +kernel
theorem dX6_setResultSigns_1 : decode cX6_setResultSigns 1 = .ok (.ldc 43, 2) := by decide +kernel
theorem dX6_setResultSigns_3 : decode cX6_setResultSigns 3 = .ok (.iload_n 1, 1) := by decide +kernel
theorem dX6_setResultSigns_4 : decode cX6_setResultSigns 4 = .ok (.ldc 44, 2) := by decide +kernel
theorem dX6_setResultSigns_6 : decode cX6_setResultSigns 6 = .ok (.iand, 1) := by decide +kernel
theorem dX6_setResultSigns_7 : decode cX6_setResultSigns 7 = .ok (.iload_n 1, 1) := by decide +kernel
theorem dX6_setResultSigns_8 : decode cX6_setResultSigns 8 = .ok (.ifCond .ne 8, 3) := by decide +kernel
theorem dX6_setResultSigns_11 : decode cX6_setResultSigns 11 = .ok (.ldc 45, 2) := by decide +kernel
theorem dX6_setResultSigns_13 : decode cX6_setResultSigns 13 = .ok (.goto 4, 3) := by decide +kernel
theorem dX6_setResultSigns_16 : decode cX6_setResultSigns 16 = .ok (.iconst 0, 1) := by decide +kernel
theorem dX6_setResultSigns_17 : decode cX6_setResultSigns 17 = .ok (.ior, 1) := by decide +kernel
theorem dX6_setResultSigns_18 : decode cX6_setResultSigns 18 = .ok (.invokevirtual 39, 3) := by decide +kernel
theorem dX6_setResultSigns_21 : decode cX6_setResultSigns 21 = .ok (.return_, 1) := by decide +kernel
theorem dX6_setCarryAndOverflow_0 : decode cX6_setCarryAndOverflow 0 = .ok (.aload_n 0, 1) := by decide +kernel
theorem dX6_setCarryAndOverflow_1 : decode cX6_setCarryAndOverflow 1 = .ok (.ldc 46, 2) := by decide +kernel
theorem dX6_setCarryAndOverflow_3 : decode cX6_setCarryAndOverflow 3 = .ok (.iload_n 1, 1) := by decide +kernel
theorem dX6_setCarryAndOverflow_4 : decode cX6_setCarryAndOverflow 4 = .ok (.ifCond .eq 8, 3) := by decide +kernel
theorem dX6_setCarryAndOverflow_7 : decode cX6_setCarryAndOverflow 7 = .ok (.ldc 47, 2) := by decide +kernel
theorem dX6_setCarryAndOverflow_9 : decode cX6_setCarryAndOverflow 9 = .ok (.goto 4, 3) := by decide +kernel
theorem dX6_setCarryAndOverflow_12 : decode cX6_setCarryAndOverflow 12 = .ok (.iconst 0, 1) := by decide +kernel
theorem dX6_setCarryAndOverflow_13 : decode cX6_setCarryAndOverflow 13 = .ok (.iload_n 2, 1) := by decide +kernel
theorem dX6_setCarryAndOverflow_14 : decode cX6_setCarryAndOverflow 14 = .ok (.ifCond .eq 8, 3) := by decide +kernel
theorem dX6_setCarryAndOverflow_17 : decode cX6_setCarryAndOverflow 17 = .ok (.ldc 48, 2) := by decide +kernel
theorem dX6_setCarryAndOverflow_19 : decode cX6_setCarryAndOverflow 19 = .ok (.goto 4, 3) := by decide +kernel
theorem dX6_setCarryAndOverflow_22 : decode cX6_setCarryAndOverflow 22 = .ok (.iconst 0, 1) := by decide +kernel
theorem dX6_setCarryAndOverflow_23 : decode cX6_setCarryAndOverflow 23 = .ok (.ior, 1) := by decide +kernel
theorem dX6_setCarryAndOverflow_24 : decode cX6_setCarryAndOverflow 24 = .ok (.invokevirtual 39, 3) := by decide +kernel
theorem dX6_setCarryAndOverflow_27 : decode cX6_setCarryAndOverflow 27 = .ok (.return_, 1) := by decide +kernel
theorem dX6_enter_0 : decode cX6_enter 0 = .ok (.aload_n 0, 1) := by decide +kernel
theorem dX6_enter_1 : decode cX6_enter 1 = .ok (.getfield 9, 3) := by decide +kernel
theorem dX6_enter_4 : decode cX6_enter 4 = .ok (.bipush 15, 2) := by decide +kernel
theorem dX6_enter_6 : decode cX6_enter 6 = .ok (.aload_n 0, 1) := by decide +kernel
theorem dX6_enter_7 : decode cX6_enter 7 = .ok (.invokevirtual 31, 3) := by decide +kernel
theorem dX6_enter_10 : decode cX6_enter 10 = .ok (.bipush (-4), 2) := by decide +kernel
theorem dX6_enter_12 : decode cX6_enter 12 = .ok (.iand, 1) := by decide +kernel
theorem dX6_enter_13 : decode cX6_enter 13 = .ok (.iload_n 1, 1) := by decide +kernel
theorem dX6_enter_14 : decode cX6_enter 14 = .ok (.ior, 1) := by decide +kernel
theorem dX6_enter_15 : decode cX6_enter 15 = .ok (.iload_n 2, 1) := by decide +kernel
theorem dX6_enter_16 : decode cX6_enter 16 = .ok (.ior, 1) := by decide +kernel
theorem dX6_enter_17 : decode cX6_enter 17 = .ok (.iload_n 3, 1) := by decide +kernel
theorem dX6_enter_18 : decode cX6_enter 18 = .ok (.ior, 1) := by decide +kernel
theorem dX6_enter_19 : decode cX6_enter 19 = .ok (.iastore, 1) := by decide +kernel
theorem dX6_enter_20 : decode cX6_enter 20 = .ok (.return_, 1) := by decide +kernel
theorem dX6_change_0 : decode cX6_change 0 = .ok (.aload_n 0, 1) := by decide +kernel
theorem dX6_change_1 : decode cX6_change 1 = .ok (.getfield 9, 3) := by decide +kernel
theorem dX6_change_4 : decode cX6_change 4 = .ok (.bipush 15, 2) := by decide +kernel
theorem dX6_change_6 : decode cX6_change 6 = .ok (.aload_n 0, 1) := by decide +kernel
theorem dX6_change_7 : decode cX6_change 7 = .ok (.getfield 9, 3) := by decide +kernel
theorem dX6_change_10 : decode cX6_change 10 = .ok (.bipush 15, 2) := by decide +kernel
theorem dX6_change_12 : decode cX6_change 12 = .ok (.iaload, 1) := by decide +kernel
theorem dX6_change_13 : decode cX6_change 13 = .ok (.iload_n 1, 1) := by decide +kernel
theorem dX6_change_14 : decode cX6_change 14 = .ok (.iconst (-1), 1) := by decide +kernel
theorem dX6_change_15 : decode cX6_change 15 = .ok (.ixor, 1) := by decide +kernel
theorem dX6_change_16 : decode cX6_change 16 = .ok (.iand, 1) := by decide +kernel
theorem dX6_change_17 : decode cX6_change 17 = .ok (.iload_n 2, 1) := by decide +kernel
theorem dX6_change_18 : decode cX6_change 18 = .ok (.iload_n 1, 1) := by decide +kernel
theorem dX6_change_19 : decode cX6_change 19 = .ok (.iand, 1) := by decide +kernel
theorem dX6_change_20 : decode cX6_change 20 = .ok (.ior, 1) := by decide +kernel
theorem dX6_change_21 : decode cX6_change 21 = .ok (.iastore, 1) := by decide +kernel
theorem dX6_change_22 : decode cX6_change 22 = .ok (.return_, 1) := by decide +kernel
theorem dX7_init_0 : decode cX7_init 0 = .ok (.aload_n 0, 1) := by decide +kernel
theorem dX7_init_1 : decode cX7_init 1 = .ok (.invokespecial 3, 3) := by decide +kernel
theorem dX7_init_4 : decode cX7_init 4 = .ok (.aload_n 0, 1) := by decide +kernel
theorem dX7_init_5 : decode cX7_init 5 = .ok (.bipush 16, 2) := by decide +kernel
theorem dX7_init_7 : decode cX7_init 7 = .ok (.newarray .int, 2) := by decide +kernel
theorem dX7_init_9 : decode cX7_init 9 = .ok (.putfield 11, 3) := by decide +kernel
theorem dX7_init_12 : decode cX7_init 12 = .ok (.aload_n 0, 1) := by decide +kernel
theorem dX7_init_13 : decode cX7_init 13 = .ok (.sipush 2048, 3) := by decide +kernel
theorem dX7_init_16 : decode cX7_init 16 = .ok (.newarray .int, 2) := by decide +kernel
theorem dX7_init_18 : decode cX7_init 18 = .ok (.putfield 15, 3) := by decide +kernel
theorem dX7_init_21 : decode cX7_init 21 = .ok (.aload_n 0, 1) := by decide +kernel
theorem dX7_init_22 : decode cX7_init 22 = .ok (.aload_n 1, 1) := by decide +kernel
theorem dX7_init_23 : decode cX7_init 23 = .ok (.putfield 18, 3) := by decide +kernel
theorem dX7_init_26 : decode cX7_init 26 = .ok (.aload_n 0, 1) := by decide +kernel
theorem dX7_init_27 : decode cX7_init 27 = .ok (.aload_n 2, 1) := by decide +kernel
theorem dX7_init_28 : decode cX7_init 28 = .ok (.putfield 21, 3) := by decide +kernel
theorem dX7_init_31 : decode cX7_init 31 = .ok (.return_, 1) := by decide +kernel
theorem dX7_begin_0 : decode cX7_begin 0 = .ok (.aload_n 0, 1) := by decide +kernel
theorem dX7_begin_1 : decode cX7_begin 1 = .ok (.getfield 11, 3) := by decide +kernel
theorem dX7_begin_4 : decode cX7_begin 4 = .ok (.iconst 0, 1) := by decide +kernel
theorem dX7_begin_5 : decode cX7_begin 5 = .ok (.invokestatic 25, 3) := by decide +kernel
theorem dX7_begin_8 : decode cX7_begin 8 = .ok (.aload_n 0, 1) := by decide +kernel
theorem dX7_begin_9 : decode cX7_begin 9 = .ok (.iconst 0, 1) := by decide +kernel
theorem dX7_begin_10 : decode cX7_begin 10 = .ok (.putfield 31, 3) := by decide +kernel
theorem dX7_begin_13 : decode cX7_begin 13 = .ok (.aload_n 0, 1) := by decide +kernel
theorem dX7_begin_14 : decode cX7_begin 14 = .ok (.iconst 0, 1) := by decide +kernel
theorem dX7_begin_15 : decode cX7_begin 15 = .ok (.putfield 35, 3) := by decide +kernel
theorem dX7_begin_18 : decode cX7_begin 18 = .ok (.aload_n 0, 1) := by decide +kernel
theorem dX7_begin_19 : decode cX7_begin 19 = .ok (.iconst 0, 1) := by decide +kernel
theorem dX7_begin_20 : decode cX7_begin 20 = .ok (.putfield 38, 3) := by decide +kernel
theorem dX7_begin_23 : decode cX7_begin 23 = .ok (.aload_n 0, 1) := by decide +kernel
theorem dX7_begin_24 : decode cX7_begin 24 = .ok (.iconst 0, 1) := by decide +kernel
theorem dX7_begin_25 : decode cX7_begin 25 = .ok (.putfield 41, 3) := by decide +kernel
theorem dX7_begin_28 : decode cX7_begin 28 = .ok (.aload_n 0, 1) := by decide +kernel
theorem dX7_begin_29 : decode cX7_begin 29 = .ok (.iconst 0, 1) := by decide +kernel
theorem dX7_begin_30 : decode cX7_begin 30 = .ok (.putfield 44, 3) := by decide +kernel
theorem dX7_begin_33 : decode cX7_begin 33 = .ok (.aload_n 0, 1) := by decide +kernel
theorem dX7_begin_34 : decode cX7_begin 34 = .ok (.iconst 0, 1) := by decide +kernel
theorem dX7_begin_35 : decode cX7_begin 35 = .ok (.putfield 47, 3) := by decide +kernel
theorem dX7_begin_38 : decode cX7_begin 38 = .ok (.aload_n 0, 1) := by decide +kernel
theorem dX7_begin_39 : decode cX7_begin 39 = .ok (.sipush 20000, 3) := by decide +kernel
theorem dX7_begin_42 : decode cX7_begin 42 = .ok (.putfield 50, 3) := by decide +kernel
theorem dX7_begin_45 : decode cX7_begin 45 = .ok (.return_, 1) := by decide +kernel
theorem dX7_colourOf_0 : decode cX7_colourOf 0 = .ok (.aload_n 0, 1) := by decide +kernel
theorem dX7_colourOf_1 : decode cX7_colourOf 1 = .ok (.getfield 11, 3) := by decide +kernel
theorem dX7_colourOf_4 : decode cX7_colourOf 4 = .ok (.iload_n 1, 1) := by decide +kernel
theorem dX7_colourOf_5 : decode cX7_colourOf 5 = .ok (.bipush 15, 2) := by decide +kernel
theorem dX7_colourOf_7 : decode cX7_colourOf 7 = .ok (.iand, 1) := by decide +kernel
theorem dX7_colourOf_8 : decode cX7_colourOf 8 = .ok (.iaload, 1) := by decide +kernel
theorem dX7_colourOf_9 : decode cX7_colourOf 9 = .ok (.ireturn, 1) := by decide +kernel
theorem dX7_placeOf_0 : decode cX7_placeOf 0 = .ok (.aload_n 0, 1) := by decide +kernel
theorem dX7_placeOf_1 : decode cX7_placeOf 1 = .ok (.getfield 15, 3) := by decide +kernel
theorem dX7_placeOf_4 : decode cX7_placeOf 4 = .ok (.iload_n 1, 1) := by decide +kernel
theorem dX7_placeOf_5 : decode cX7_placeOf 5 = .ok (.sipush 2047, 3) := by decide +kernel
theorem dX7_placeOf_8 : decode cX7_placeOf 8 = .ok (.iand, 1) := by decide +kernel
theorem dX7_placeOf_9 : decode cX7_placeOf 9 = .ok (.iaload, 1) := by decide +kernel
theorem dX7_placeOf_10 : decode cX7_placeOf 10 = .ok (.ireturn, 1) := by decide +kernel
theorem dX7_written_0 : decode cX7_written 0 = .ok (.iload_n 1, 1) := by decide +kernel
theorem dX7_written_1 : decode cX7_written 1 = .ok (.bipush 26, 2) := by decide +kernel
theorem dX7_written_3 : decode cX7_written 3 = .ok (.iushr, 1) := by decide +kernel
theorem dX7_written_4 : decode cX7_written 4 = .ok (.istore_n 2, 1) := by decide +kernel
theorem dX7_written_5 : decode cX7_written 5 = .ok (.iload_n 2, 1) := by decide +kernel
theorem dX7_written_6 : decode cX7_written 6 = .ok (.bipush 16, 2) := by decide +kernel
theorem dX7_written_8 : decode cX7_written 8 = .ok (.if_icmp .ge 17, 3) := by decide +kernel
theorem dX7_written_11 : decode cX7_written 11 = .ok (.aload_n 0, 1) := by decide +kernel
theorem dX7_written_12 : decode cX7_written 12 = .ok (.getfield 11, 3) := by decide +kernel
theorem dX7_written_15 : decode cX7_written 15 = .ok (.iload_n 2, 1) := by decide +kernel
theorem dX7_written_16 : decode cX7_written 16 = .ok (.iload_n 1, 1) := by decide +kernel
theorem dX7_written_17 : decode cX7_written 17 = .ok (.sipush 8191, 3) := by decide +kernel
theorem dX7_written_20 : decode cX7_written 20 = .ok (.iand, 1) := by decide +kernel
theorem dX7_written_21 : decode cX7_written 21 = .ok (.iastore, 1) := by decide +kernel
theorem dX7_written_22 : decode cX7_written 22 = .ok (.goto 36, 3) := by decide +kernel
theorem dX7_written_25 : decode cX7_written 25 = .ok (.iload_n 2, 1) := by decide +kernel
theorem dX7_written_26 : decode cX7_written 26 = .ok (.bipush 16, 2) := by decide +kernel
theorem dX7_written_28 : decode cX7_written 28 = .ok (.if_icmp .ne 15, 3) := by decide +kernel
theorem dX7_written_31 : decode cX7_written 31 = .ok (.aload_n 0, 1) := by decide +kernel
theorem dX7_written_32 : decode cX7_written 32 = .ok (.iload_n 1, 1) := by decide +kernel
theorem dX7_written_33 : decode cX7_written 33 = .ok (.sipush 8191, 3) := by decide +kernel
theorem dX7_written_36 : decode cX7_written 36 = .ok (.iand, 1) := by decide +kernel
theorem dX7_written_37 : decode cX7_written 37 = .ok (.putfield 31, 3) := by decide +kernel
theorem dX7_written_40 : decode cX7_written 40 = .ok (.goto 18, 3) := by decide +kernel
theorem dX7_written_43 : decode cX7_written 43 = .ok (.iload_n 2, 1) := by decide +kernel
theorem dX7_written_44 : decode cX7_written 44 = .ok (.bipush 56, 2) := by decide +kernel
theorem dX7_written_46 : decode cX7_written 46 = .ok (.if_icmp .ne 12, 3) := by decide +kernel
theorem dX7_written_49 : decode cX7_written 49 = .ok (.aload_n 0, 1) := by decide +kernel
theorem dX7_written_50 : decode cX7_written 50 = .ok (.iload_n 1, 1) := by decide +kernel
theorem dX7_written_51 : decode cX7_written 51 = .ok (.iconst 2, 1) := by decide +kernel
theorem dX7_written_52 : decode cX7_written 52 = .ok (.iushr, 1) := by decide +kernel
theorem dX7_written_53 : decode cX7_written 53 = .ok (.iconst 3, 1) := by decide +kernel
theorem dX7_written_54 : decode cX7_written 54 = .ok (.iand, 1) := by decide +kernel
theorem dX7_written_55 : decode cX7_written 55 = .ok (.putfield 35, 3) := by decide +kernel
theorem dX7_written_58 : decode cX7_written 58 = .ok (.return_, 1) := by decide +kernel
theorem dX7_goOn_0 : decode cX7_goOn 0 = .ok (.aload_n 0, 1) := by decide +kernel
theorem dX7_goOn_1 : decode cX7_goOn 1 = .ok (.dup, 1) := by decide +kernel
theorem dX7_goOn_2 : decode cX7_goOn 2 = .ok (.getfield 50, 3) := by decide +kernel
theorem dX7_goOn_5 : decode cX7_goOn 5 = .ok (.iload_n 1, 1) := by decide +kernel
theorem dX7_goOn_6 : decode cX7_goOn 6 = .ok (.isub, 1) := by decide +kernel
theorem dX7_goOn_7 : decode cX7_goOn 7 = .ok (.putfield 50, 3) := by decide +kernel
theorem dX7_goOn_10 : decode cX7_goOn 10 = .ok (.aload_n 0, 1) := by decide +kernel
theorem dX7_goOn_11 : decode cX7_goOn 11 = .ok (.getfield 50, 3) := by decide +kernel
theorem dX7_goOn_14 : decode cX7_goOn 14 = .ok (.ifCond .le 4, 3) := by decide +kernel
theorem dX7_goOn_17 : decode cX7_goOn 17 = .ok (.return_, 1) := by decide +kernel
theorem dX7_goOn_18 : decode cX7_goOn 18 = .ok (.aload_n 0, 1) := by decide +kernel
theorem dX7_goOn_19 : decode cX7_goOn 19 = .ok (.dup, 1) := by decide +kernel
theorem dX7_goOn_20 : decode cX7_goOn 20 = .ok (.getfield 50, 3) := by decide +kernel
theorem dX7_goOn_23 : decode cX7_goOn 23 = .ok (.sipush 20000, 3) := by decide +kernel
theorem dX7_goOn_26 : decode cX7_goOn 26 = .ok (.iadd, 1) := by decide +kernel
theorem dX7_goOn_27 : decode cX7_goOn 27 = .ok (.putfield 50, 3) := by decide +kernel
theorem dX7_goOn_30 : decode cX7_goOn 30 = .ok (.aload_n 0, 1) := by decide +kernel
theorem dX7_goOn_31 : decode cX7_goOn 31 = .ok (.dup, 1) := by decide +kernel
theorem dX7_goOn_32 : decode cX7_goOn 32 = .ok (.getfield 53, 3) := by decide +kernel
theorem dX7_goOn_35 : decode cX7_goOn 35 = .ok (.lconst 1, 1) := by decide +kernel
theorem dX7_goOn_36 : decode cX7_goOn 36 = .ok (.ladd, 1) := by decide +kernel
theorem dX7_goOn_37 : decode cX7_goOn 37 = .ok (.putfield 53, 3) := by decide +kernel
theorem dX7_goOn_40 : decode cX7_goOn 40 = .ok (.aload_n 0, 1) := by decide +kernel
theorem dX7_goOn_41 : decode cX7_goOn 41 = .ok (.getfield 47, 3) := by decide +kernel
theorem dX7_goOn_44 : decode cX7_goOn 44 = .ok (.ifCond .ne 17, 3) := by decide +kernel
theorem dX7_goOn_47 : decode cX7_goOn 47 = .ok (.aload_n 0, 1) := by decide +kernel
theorem dX7_goOn_48 : decode cX7_goOn 48 = .ok (.getfield 15, 3) := by decide +kernel
theorem dX7_goOn_51 : decode cX7_goOn 51 = .ok (.aload_n 0, 1) := by decide +kernel
theorem dX7_goOn_52 : decode cX7_goOn 52 = .ok (.getfield 31, 3) := by decide +kernel
theorem dX7_goOn_55 : decode cX7_goOn 55 = .ok (.invokestatic 25, 3) := by decide +kernel
theorem dX7_goOn_58 : decode cX7_goOn 58 = .ok (.goto 7, 3) := by decide +kernel
theorem dX7_goOn_61 : decode cX7_goOn 61 = .ok (.aload_n 0, 1) := by decide +kernel
theorem dX7_goOn_62 : decode cX7_goOn 62 = .ok (.invokevirtual 57, 3) := by decide +kernel
theorem dX7_goOn_65 : decode cX7_goOn 65 = .ok (.aload_n 0, 1) := by decide +kernel
theorem dX7_goOn_66 : decode cX7_goOn 66 = .ok (.getfield 21, 3) := by decide +kernel
theorem dX7_goOn_69 : decode cX7_goOn 69 = .ok (.dup, 1) := by decide +kernel
theorem dX7_goOn_70 : decode cX7_goOn 70 = .ok (.getfield 60, 3) := by decide +kernel
theorem dX7_goOn_73 : decode cX7_goOn 73 = .ok (.bipush 8, 2) := by decide +kernel
theorem dX7_goOn_75 : decode cX7_goOn 75 = .ok (.ior, 1) := by decide +kernel
theorem dX7_goOn_76 : decode cX7_goOn 76 = .ok (.putfield 60, 3) := by decide +kernel
theorem dX7_goOn_79 : decode cX7_goOn 79 = .ok (.return_, 1) := by decide +kernel
theorem dX7_makeFromMemory_0 : decode cX7_makeFromMemory 0 = .ok (.iconst 1, 1) := by decide +kernel
theorem dX7_makeFromMemory_1 : decode cX7_makeFromMemory 1 = .ok (.aload_n 0, 1) := by decide +kernel
theorem dX7_makeFromMemory_2 : decode cX7_makeFromMemory 2 = .ok (.getfield 35, 3) := by decide +kernel
theorem dX7_makeFromMemory_5 : decode cX7_makeFromMemory 5 = .ok (.ishl, 1) := by decide +kernel
theorem dX7_makeFromMemory_6 : decode cX7_makeFromMemory 6 = .ok (.istore_n 1, 1) := by decide +kernel
theorem dX7_makeFromMemory_7 : decode cX7_makeFromMemory 7 = .ok (.aload_n 0, 1) := by decide +kernel
theorem dX7_makeFromMemory_8 : decode cX7_makeFromMemory 8 = .ok (.getfield 38, 3) := by decide +kernel
theorem dX7_makeFromMemory_11 : decode cX7_makeFromMemory 11 = .ok (.iconst 4, 1) := by decide +kernel
theorem dX7_makeFromMemory_12 : decode cX7_makeFromMemory 12 = .ok (.ishl, 1) := by decide +kernel
theorem dX7_makeFromMemory_13 : decode cX7_makeFromMemory 13 = .ok (.ldc 65, 2) := by decide +kernel
theorem dX7_makeFromMemory_15 : decode cX7_makeFromMemory 15 = .ok (.iand, 1) := by decide +kernel
theorem dX7_makeFromMemory_16 : decode cX7_makeFromMemory 16 = .ok (.istore_n 2, 1) := by decide +kernel
theorem dX7_makeFromMemory_17 : decode cX7_makeFromMemory 17 = .ok (.iconst 0, 1) := by decide +kernel
theorem dX7_makeFromMemory_18 : decode cX7_makeFromMemory 18 = .ok (.istore_n 3, 1) := by decide +kernel
theorem dX7_makeFromMemory_19 : decode cX7_makeFromMemory 19 = .ok (.iconst 0, 1) := by decide +kernel
theorem dX7_makeFromMemory_20 : decode cX7_makeFromMemory 20 = .ok (.istore 4, 2) := by decide +kernel
theorem dX7_makeFromMemory_22 : decode cX7_makeFromMemory 22 = .ok (.iload 4, 2) := by decide +kernel
theorem dX7_makeFromMemory_24 : decode cX7_makeFromMemory 24 = .ok (.sipush 2048, 3) := by decide +kernel
theorem dX7_makeFromMemory_27 : decode cX7_makeFromMemory 27 = .ok (.if_icmp .ge 67, 3) := by decide +kernel
theorem dX7_makeFromMemory_30 : decode cX7_makeFromMemory 30 = .ok (.aload_n 0, 1) := by decide +kernel
theorem dX7_makeFromMemory_31 : decode cX7_makeFromMemory 31 = .ok (.iload_n 2, 1) := by decide +kernel
theorem dX7_makeFromMemory_32 : decode cX7_makeFromMemory 32 = .ok (.invokevirtual 66, 3) := by decide +kernel
theorem dX7_makeFromMemory_35 : decode cX7_makeFromMemory 35 = .ok (.iload_n 3, 1) := by decide +kernel
theorem dX7_makeFromMemory_36 : decode cX7_makeFromMemory 36 = .ok (.iushr, 1) := by decide +kernel
theorem dX7_makeFromMemory_37 : decode cX7_makeFromMemory 37 = .ok (.iconst 1, 1) := by decide +kernel
theorem dX7_makeFromMemory_38 : decode cX7_makeFromMemory 38 = .ok (.iload_n 1, 1) := by decide +kernel
theorem dX7_makeFromMemory_39 : decode cX7_makeFromMemory 39 = .ok (.ishl, 1) := by decide +kernel
theorem dX7_makeFromMemory_40 : decode cX7_makeFromMemory 40 = .ok (.iconst 1, 1) := by decide +kernel
theorem dX7_makeFromMemory_41 : decode cX7_makeFromMemory 41 = .ok (.isub, 1) := by decide +kernel
theorem dX7_makeFromMemory_42 : decode cX7_makeFromMemory 42 = .ok (.iand, 1) := by decide +kernel
theorem dX7_makeFromMemory_43 : decode cX7_makeFromMemory 43 = .ok (.istore 5, 2) := by decide +kernel
theorem dX7_makeFromMemory_45 : decode cX7_makeFromMemory 45 = .ok (.aload_n 0, 1) := by decide +kernel
theorem dX7_makeFromMemory_46 : decode cX7_makeFromMemory 46 = .ok (.getfield 15, 3) := by decide +kernel
theorem dX7_makeFromMemory_49 : decode cX7_makeFromMemory 49 = .ok (.iload 4, 2) := by decide +kernel
theorem dX7_makeFromMemory_51 : decode cX7_makeFromMemory 51 = .ok (.aload_n 0, 1) := by decide +kernel
theorem dX7_makeFromMemory_52 : decode cX7_makeFromMemory 52 = .ok (.getfield 11, 3) := by decide +kernel
theorem dX7_makeFromMemory_55 : decode cX7_makeFromMemory 55 = .ok (.iload 5, 2) := by decide +kernel
