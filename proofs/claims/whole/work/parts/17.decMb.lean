theorem dX11_trap_21 : decode cX11_trap 21 = .ok (.dup2, 1) := by decide +kernel
theorem dX11_trap_22 : decode cX11_trap 22 = .ok (.laload, 1) := by decide +kernel
theorem dX11_trap_23 : decode cX11_trap 23 = .ok (.lconst 1, 1) := by decide +kernel
theorem dX11_trap_24 : decode cX11_trap 24 = .ok (.ladd, 1) := by decide +kernel
theorem dX11_trap_25 : decode cX11_trap 25 = .ok (.lastore, 1) := by decide +kernel
theorem dX11_trap_26 : decode cX11_trap 26 = .ok (.aload_n 0, 1) := by decide +kernel
theorem dX11_trap_27 : decode cX11_trap 27 = .ok (.aload_n 0, 1) := by decide +kernel
theorem dX11_trap_28 : decode cX11_trap 28 = .ok (.getfield 77, 3) := by decide +kernel
theorem dX11_trap_31 : decode cX11_trap 31 = .ok (.ldc 157, 2) := by decide +kernel
theorem dX11_trap_33 : decode cX11_trap 33 = .ok (.iand, 1) := by decide +kernel
theorem dX11_trap_34 : decode cX11_trap 34 = .ok (.bipush (-4), 2) := by decide +kernel
theorem dX11_trap_36 : decode cX11_trap 36 = .ok (.iand, 1) := by decide +kernel
theorem dX11_trap_37 : decode cX11_trap 37 = .ok (.iload_n 3, 1) := by decide +kernel
theorem dX11_trap_38 : decode cX11_trap 38 = .ok (.ior, 1) := by decide +kernel
theorem dX11_trap_39 : decode cX11_trap 39 = .ok (.iload_n 2, 1) := by decide +kernel
theorem dX11_trap_40 : decode cX11_trap 40 = .ok (.ior, 1) := by decide +kernel
theorem dX11_trap_41 : decode cX11_trap 41 = .ok (.putfield 77, 3) := by decide +kernel
theorem dX11_trap_44 : decode cX11_trap 44 = .ok (.aload_n 0, 1) := by decide +kernel
theorem dX11_trap_45 : decode cX11_trap 45 = .ok (.bipush 27, 2) := by decide +kernel
theorem dX11_trap_47 : decode cX11_trap 47 = .ok (.iconst 1, 1) := by decide +kernel
theorem dX11_trap_48 : decode cX11_trap 48 = .ok (.invokevirtual 231, 3) := by decide +kernel
theorem dX11_trap_51 : decode cX11_trap 51 = .ok (.iload_n 1, 1) := by decide +kernel
theorem dX11_trap_52 : decode cX11_trap 52 = .ok (.bipush 6, 2) := by decide +kernel
theorem dX11_trap_54 : decode cX11_trap 54 = .ok (.if_icmp .ne 10, 3) := by decide +kernel
theorem dX11_trap_57 : decode cX11_trap 57 = .ok (.aload_n 0, 1) := by decide +kernel
theorem dX11_trap_58 : decode cX11_trap 58 = .ok (.bipush 26, 2) := by decide +kernel
theorem dX11_trap_60 : decode cX11_trap 60 = .ok (.iconst 1, 1) := by decide +kernel
theorem dX11_trap_61 : decode cX11_trap 61 = .ok (.invokevirtual 231, 3) := by decide +kernel
theorem dX11_trap_64 : decode cX11_trap 64 = .ok (.aload_n 0, 1) := by decide +kernel
theorem dX11_trap_65 : decode cX11_trap 65 = .ok (.iload_n 2, 1) := by decide +kernel
theorem dX11_trap_66 : decode cX11_trap 66 = .ok (.bipush 14, 2) := by decide +kernel
theorem dX11_trap_68 : decode cX11_trap 68 = .ok (.iload 5, 2) := by decide +kernel
theorem dX11_trap_70 : decode cX11_trap 70 = .ok (.invokevirtual 235, 3) := by decide +kernel
theorem dX11_trap_73 : decode cX11_trap 73 = .ok (.iconst 4, 1) := by decide +kernel
theorem dX11_trap_74 : decode cX11_trap 74 = .ok (.ireturn, 1) := by decide +kernel
theorem dX11_undefined_0 : decode cX11_undefined 0 = .ok (.aload_n 0, 1) := by decide +kernel
theorem dX11_undefined_1 : decode cX11_undefined 1 = .ok (.iconst 0, 1) := by decide +kernel
theorem dX11_undefined_2 : decode cX11_undefined 2 = .ok (.iconst 3, 1) := by decide +kernel
theorem dX11_undefined_3 : decode cX11_undefined 3 = .ok (.iconst 4, 1) := by decide +kernel
theorem dX11_undefined_4 : decode cX11_undefined 4 = .ok (.iconst 4, 1) := by decide +kernel
theorem dX11_undefined_5 : decode cX11_undefined 5 = .ok (.invokevirtual 238, 3) := by decide +kernel
theorem dX11_undefined_8 : decode cX11_undefined 8 = .ok (.ireturn, 1) := by decide +kernel
theorem dX11_isSo_0 : decode cX11_isSo 0 = .ok (.aload_n 0, 1) := by decide +kernel
theorem dX11_isSo_1 : decode cX11_isSo 1 = .ok (.bipush 31, 2) := by decide +kernel
theorem dX11_isSo_3 : decode cX11_isSo 3 = .ok (.invokevirtual 242, 3) := by decide +kernel
theorem dX11_isSo_6 : decode cX11_isSo 6 = .ok (.istore_n 2, 1) := by decide +kernel
theorem dX11_isSo_7 : decode cX11_isSo 7 = .ok (.aload_n 0, 1) := by decide +kernel
theorem dX11_isSo_8 : decode cX11_isSo 8 = .ok (.bipush 30, 2) := by decide +kernel
theorem dX11_isSo_10 : decode cX11_isSo 10 = .ok (.invokevirtual 242, 3) := by decide +kernel
theorem dX11_isSo_13 : decode cX11_isSo 13 = .ok (.istore_n 3, 1) := by decide +kernel
theorem dX11_isSo_14 : decode cX11_isSo 14 = .ok (.aload_n 0, 1) := by decide +kernel
theorem dX11_isSo_15 : decode cX11_isSo 15 = .ok (.bipush 29, 2) := by decide +kernel
theorem dX11_isSo_17 : decode cX11_isSo 17 = .ok (.invokevirtual 242, 3) := by decide +kernel
theorem dX11_isSo_20 : decode cX11_isSo 20 = .ok (.istore 4, 2) := by decide +kernel
theorem dX11_isSo_22 : decode cX11_isSo 22 = .ok (.aload_n 0, 1) := by decide +kernel
theorem dX11_isSo_23 : decode cX11_isSo 23 = .ok (.bipush 28, 2) := by decide +kernel
theorem dX11_isSo_25 : decode cX11_isSo 25 = .ok (.invokevirtual 242, 3) := by decide +kernel
theorem dX11_isSo_28 : decode cX11_isSo 28 = .ok (.istore 5, 2) := by decide +kernel
theorem dX11_isSo_30 : decode cX11_isSo 30 = .ok (.iload_n 1, 1) := by decide +kernel
theorem dX11_isSo_31 : decode cX11_isSo 31 = .ok (.iconst 1, 1) := by decide +kernel
theorem dX11_isSo_32 : decode cX11_isSo 32 = .ok (.ishr, 1) := by decide +kernel
theorem dX11_isSo_33 : decode cX11_isSo 33 = .ok (.tableswitch 124 0 6 #[43, 49, 56, 62, 69, 88, 104], 43) := by decide +kernel
theorem dX11_isSo_76 : decode cX11_isSo 76 = .ok (.iload_n 3, 1) := by decide +kernel
theorem dX11_isSo_77 : decode cX11_isSo 77 = .ok (.istore 6, 2) := by decide +kernel
theorem dX11_isSo_79 : decode cX11_isSo 79 = .ok (.goto 81, 3) := by decide +kernel
theorem dX11_isSo_82 : decode cX11_isSo 82 = .ok (.iload 4, 2) := by decide +kernel
theorem dX11_isSo_84 : decode cX11_isSo 84 = .ok (.istore 6, 2) := by decide +kernel
theorem dX11_isSo_86 : decode cX11_isSo 86 = .ok (.goto 74, 3) := by decide +kernel
theorem dX11_isSo_89 : decode cX11_isSo 89 = .ok (.iload_n 2, 1) := by decide +kernel
theorem dX11_isSo_90 : decode cX11_isSo 90 = .ok (.istore 6, 2) := by decide +kernel
theorem dX11_isSo_92 : decode cX11_isSo 92 = .ok (.goto 68, 3) := by decide +kernel
theorem dX11_isSo_95 : decode cX11_isSo 95 = .ok (.iload 5, 2) := by decide +kernel
theorem dX11_isSo_97 : decode cX11_isSo 97 = .ok (.istore 6, 2) := by decide +kernel
theorem dX11_isSo_99 : decode cX11_isSo 99 = .ok (.goto 61, 3) := by decide +kernel
theorem dX11_isSo_102 : decode cX11_isSo 102 = .ok (.iload 4, 2) := by decide +kernel
theorem dX11_isSo_104 : decode cX11_isSo 104 = .ok (.ifCond .eq 11, 3) := by decide +kernel
theorem dX11_isSo_107 : decode cX11_isSo 107 = .ok (.iload_n 3, 1) := by decide +kernel
theorem dX11_isSo_108 : decode cX11_isSo 108 = .ok (.ifCond .ne 7, 3) := by decide +kernel
theorem dX11_isSo_111 : decode cX11_isSo 111 = .ok (.iconst 1, 1) := by decide +kernel
theorem dX11_isSo_112 : decode cX11_isSo 112 = .ok (.goto 4, 3) := by decide +kernel
theorem dX11_isSo_115 : decode cX11_isSo 115 = .ok (.iconst 0, 1) := by decide +kernel
theorem dX11_isSo_116 : decode cX11_isSo 116 = .ok (.istore 6, 2) := by decide +kernel
theorem dX11_isSo_118 : decode cX11_isSo 118 = .ok (.goto 42, 3) := by decide +kernel
theorem dX11_isSo_121 : decode cX11_isSo 121 = .ok (.iload_n 2, 1) := by decide +kernel
theorem dX11_isSo_122 : decode cX11_isSo 122 = .ok (.iload 5, 2) := by decide +kernel
theorem dX11_isSo_124 : decode cX11_isSo 124 = .ok (.if_icmp .ne 7, 3) := by decide +kernel
theorem dX11_isSo_127 : decode cX11_isSo 127 = .ok (.iconst 1, 1) := by decide +kernel
theorem dX11_isSo_128 : decode cX11_isSo 128 = .ok (.goto 4, 3) := by decide +kernel
theorem dX11_isSo_131 : decode cX11_isSo 131 = .ok (.iconst 0, 1) := by decide +kernel
theorem dX11_isSo_132 : decode cX11_isSo 132 = .ok (.istore 6, 2) := by decide +kernel
theorem dX11_isSo_134 : decode cX11_isSo 134 = .ok (.goto 26, 3) := by decide +kernel
theorem dX11_isSo_137 : decode cX11_isSo 137 = .ok (.iload_n 2, 1) := by decide +kernel
theorem dX11_isSo_138 : decode cX11_isSo 138 = .ok (.iload 5, 2) := by decide +kernel
theorem dX11_isSo_140 : decode cX11_isSo 140 = .ok (.if_icmp .ne 11, 3) := by decide +kernel
theorem dX11_isSo_143 : decode cX11_isSo 143 = .ok (.iload_n 3, 1) := by decide +kernel
theorem dX11_isSo_144 : decode cX11_isSo 144 = .ok (.ifCond .ne 7, 3) := by decide +kernel
theorem dX11_isSo_147 : decode cX11_isSo 147 = .ok (.iconst 1, 1) := by decide +kernel
theorem dX11_isSo_148 : decode cX11_isSo 148 = .ok (.goto 4, 3) := by decide +kernel
theorem dX11_isSo_151 : decode cX11_isSo 151 = .ok (.iconst 0, 1) := by decide +kernel
theorem dX11_isSo_152 : decode cX11_isSo 152 = .ok (.istore 6, 2) := by decide +kernel
theorem dX11_isSo_154 : decode cX11_isSo 154 = .ok (.goto 6, 3) := by decide +kernel
theorem dX11_isSo_157 : decode cX11_isSo 157 = .ok (.iconst 1, 1) := by decide +kernel
theorem dX11_isSo_158 : decode cX11_isSo 158 = .ok (.istore 6, 2) := by decide +kernel
theorem dX11_isSo_160 : decode cX11_isSo 160 = .ok (.iload 6, 2) := by decide +kernel
theorem dX11_isSo_162 : decode cX11_isSo 162 = .ok (.iload_n 1, 1) := by decide +kernel
theorem dX11_isSo_163 : decode cX11_isSo 163 = .ok (.iconst 1, 1) := by decide +kernel
theorem dX11_isSo_164 : decode cX11_isSo 164 = .ok (.iand, 1) := by decide +kernel
theorem dX11_isSo_165 : decode cX11_isSo 165 = .ok (.ifCond .ne 7, 3) := by decide +kernel
theorem dX11_isSo_168 : decode cX11_isSo 168 = .ok (.iconst 1, 1) := by decide +kernel
theorem dX11_isSo_169 : decode cX11_isSo 169 = .ok (.goto 4, 3) := by decide +kernel
theorem dX11_isSo_172 : decode cX11_isSo 172 = .ok (.iconst 0, 1) := by decide +kernel
theorem dX11_isSo_173 : decode cX11_isSo 173 = .ok (.if_icmp .ne 7, 3) := by decide +kernel
theorem dX11_isSo_176 : decode cX11_isSo 176 = .ok (.iconst 1, 1) := by decide +kernel
theorem dX11_isSo_177 : decode cX11_isSo 177 = .ok (.goto 4, 3) := by decide +kernel
theorem dX11_isSo_180 : decode cX11_isSo 180 = .ok (.iconst 0, 1) := by decide +kernel
theorem dX11_isSo_181 : decode cX11_isSo 181 = .ok (.ireturn, 1) := by decide +kernel
theorem dX11_one_0 : decode cX11_one 0 = .ok (.aload_n 0, 1) := by decide +kernel
theorem dX11_one_1 : decode cX11_one 1 = .ok (.aload_n 0, 1) := by decide +kernel
theorem dX11_one_2 : decode cX11_one 2 = .ok (.getfield 77, 3) := by decide +kernel
theorem dX11_one_5 : decode cX11_one 5 = .ok (.ldc 143, 2) := by decide +kernel
theorem dX11_one_7 : decode cX11_one 7 = .ok (.iand, 1) := by decide +kernel
theorem dX11_one_8 : decode cX11_one 8 = .ok (.putfield 140, 3) := by decide +kernel
theorem dX11_one_11 : decode cX11_one 11 = .ok (.aload_n 0, 1) := by decide +kernel
theorem dX11_one_12 : decode cX11_one 12 = .ok (.invokevirtual 246, 3) := by decide +kernel
theorem dX11_one_15 : decode cX11_one 15 = .ok (.ifCond .eq 23, 3) := by decide +kernel
theorem dX11_one_18 : decode cX11_one 18 = .ok (.aload_n 0, 1) := by decide +kernel
theorem dX11_one_19 : decode cX11_one 19 = .ok (.bipush 26, 2) := by decide +kernel
theorem dX11_one_21 : decode cX11_one 21 = .ok (.invokevirtual 242, 3) := by decide +kernel
theorem dX11_one_24 : decode cX11_one 24 = .ok (.ifCond .ne 14, 3) := by decide +kernel
theorem dX11_one_27 : decode cX11_one 27 = .ok (.aload_n 0, 1) := by decide +kernel
theorem dX11_one_28 : decode cX11_one 28 = .ok (.bipush 6, 2) := by decide +kernel
theorem dX11_one_30 : decode cX11_one 30 = .ok (.iconst 1, 1) := by decide +kernel
theorem dX11_one_31 : decode cX11_one 31 = .ok (.bipush 28, 2) := by decide +kernel
theorem dX11_one_33 : decode cX11_one 33 = .ok (.iconst 4, 1) := by decide +kernel
theorem dX11_one_34 : decode cX11_one 34 = .ok (.invokevirtual 238, 3) := by decide +kernel
theorem dX11_one_37 : decode cX11_one 37 = .ok (.ireturn, 1) := by decide +kernel
theorem dX11_one_38 : decode cX11_one 38 = .ok (.aload_n 0, 1) := by decide +kernel
theorem dX11_one_39 : decode cX11_one 39 = .ok (.invokevirtual 250, 3) := by decide +kernel
theorem dX11_one_42 : decode cX11_one 42 = .ok (.ifCond .eq 22, 3) := by decide +kernel
theorem dX11_one_45 : decode cX11_one 45 = .ok (.aload_n 0, 1) := by decide +kernel
theorem dX11_one_46 : decode cX11_one 46 = .ok (.bipush 27, 2) := by decide +kernel
theorem dX11_one_48 : decode cX11_one 48 = .ok (.invokevirtual 242, 3) := by decide +kernel
theorem dX11_one_51 : decode cX11_one 51 = .ok (.ifCond .ne 13, 3) := by decide +kernel
theorem dX11_one_54 : decode cX11_one 54 = .ok (.aload_n 0, 1) := by decide +kernel
theorem dX11_one_55 : decode cX11_one 55 = .ok (.iconst 5, 1) := by decide +kernel
theorem dX11_one_56 : decode cX11_one 56 = .ok (.iconst 2, 1) := by decide +kernel
theorem dX11_one_57 : decode cX11_one 57 = .ok (.bipush 24, 2) := by decide +kernel
theorem dX11_one_59 : decode cX11_one 59 = .ok (.iconst 4, 1) := by decide +kernel
theorem dX11_one_60 : decode cX11_one 60 = .ok (.invokevirtual 238, 3) := by decide +kernel
theorem dX11_one_63 : decode cX11_one 63 = .ok (.ireturn, 1) := by decide +kernel
theorem dX11_one_64 : decode cX11_one 64 = .ok (.aload_n 0, 1) := by decide +kernel
theorem dX11_one_65 : decode cX11_one 65 = .ok (.aload_n 0, 1) := by decide +kernel
theorem dX11_one_66 : decode cX11_one 66 = .ok (.invokevirtual 148, 3) := by decide +kernel
theorem dX11_one_69 : decode cX11_one 69 = .ok (.aload_n 0, 1) := by decide +kernel
theorem dX11_one_70 : decode cX11_one 70 = .ok (.getfield 140, 3) := by decide +kernel
theorem dX11_one_73 : decode cX11_one 73 = .ok (.iconst 0, 1) := by decide +kernel
theorem dX11_one_74 : decode cX11_one 74 = .ok (.invokevirtual 253, 3) := by decide +kernel
theorem dX11_one_77 : decode cX11_one 77 = .ok (.ifCond .ne 13, 3) := by decide +kernel
theorem dX11_one_80 : decode cX11_one 80 = .ok (.aload_n 0, 1) := by decide +kernel
theorem dX11_one_81 : decode cX11_one 81 = .ok (.iconst 2, 1) := by decide +kernel
theorem dX11_one_82 : decode cX11_one 82 = .ok (.iconst 3, 1) := by decide +kernel
theorem dX11_one_83 : decode cX11_one 83 = .ok (.bipush 12, 2) := by decide +kernel
theorem dX11_one_85 : decode cX11_one 85 = .ok (.iconst 4, 1) := by decide +kernel
theorem dX11_one_86 : decode cX11_one 86 = .ok (.invokevirtual 238, 3) := by decide +kernel
theorem dX11_one_89 : decode cX11_one 89 = .ok (.ireturn, 1) := by decide +kernel
theorem dX11_one_90 : decode cX11_one 90 = .ok (.aload_n 0, 1) := by decide +kernel
theorem dX11_one_91 : decode cX11_one 91 = .ok (.aload_n 0, 1) := by decide +kernel
theorem dX11_one_92 : decode cX11_one 92 = .ok (.getfield 140, 3) := by decide +kernel
theorem dX11_one_95 : decode cX11_one 95 = .ok (.invokevirtual 257, 3) := by decide +kernel
theorem dX11_one_98 : decode cX11_one 98 = .ok (.istore_n 1, 1) := by decide +kernel
theorem dX11_one_99 : decode cX11_one 99 = .ok (.iload_n 1, 1) := by decide +kernel
theorem dX11_one_100 : decode cX11_one 100 = .ok (.iconst (-1), 1) := by decide +kernel
theorem dX11_one_101 : decode cX11_one 101 = .ok (.if_icmp .ne 7, 3) := by decide +kernel
theorem dX11_one_104 : decode cX11_one 104 = .ok (.iconst 0, 1) := by decide +kernel
theorem dX11_one_105 : decode cX11_one 105 = .ok (.goto 9, 3) := by decide +kernel
theorem dX11_one_108 : decode cX11_one 108 = .ok (.aload_n 0, 1) := by decide +kernel
theorem dX11_one_109 : decode cX11_one 109 = .ok (.getfield 25, 3) := by decide +kernel
theorem dX11_one_112 : decode cX11_one 112 = .ok (.iload_n 1, 1) := by decide +kernel
theorem dX11_one_113 : decode cX11_one 113 = .ok (.iaload, 1) := by decide +kernel
theorem dX11_one_114 : decode cX11_one 114 = .ok (.istore_n 2, 1) := by decide +kernel
theorem dX11_one_115 : decode cX11_one 115 = .ok (.aload_n 0, 1) := by decide +kernel
theorem dX11_one_116 : decode cX11_one 116 = .ok (.aload_n 0, 1) := by decide +kernel
theorem dX11_one_117 : decode cX11_one 117 = .ok (.iconst 4, 1) := by decide +kernel
theorem dX11_one_118 : decode cX11_one 118 = .ok (.invokevirtual 144, 3) := by decide +kernel
theorem dX11_one_121 : decode cX11_one 121 = .ok (.putfield 260, 3) := by decide +kernel
theorem dX11_one_124 : decode cX11_one 124 = .ok (.aload_n 0, 1) := by decide +kernel
theorem dX11_one_125 : decode cX11_one 125 = .ok (.iload_n 2, 1) := by decide +kernel
theorem dX11_one_126 : decode cX11_one 126 = .ok (.bipush 28, 2) := by decide +kernel
theorem dX11_one_128 : decode cX11_one 128 = .ok (.iushr, 1) := by decide +kernel
theorem dX11_one_129 : decode cX11_one 129 = .ok (.invokevirtual 263, 3) := by decide +kernel
theorem dX11_one_132 : decode cX11_one 132 = .ok (.ifCond .ne 31, 3) := by decide +kernel
theorem dX11_one_135 : decode cX11_one 135 = .ok (.aload_n 0, 1) := by decide +kernel
theorem dX11_one_136 : decode cX11_one 136 = .ok (.dup, 1) := by decide +kernel
theorem dX11_one_137 : decode cX11_one 137 = .ok (.getfield 266, 3) := by decide +kernel
theorem dX11_one_140 : decode cX11_one 140 = .ok (.lconst 1, 1) := by decide +kernel
theorem dX11_one_141 : decode cX11_one 141 = .ok (.ladd, 1) := by decide +kernel
theorem dX11_one_142 : decode cX11_one 142 = .ok (.putfield 266, 3) := by decide +kernel
theorem dX11_one_145 : decode cX11_one 145 = .ok (.aload_n 0, 1) := by decide +kernel
theorem dX11_one_146 : decode cX11_one 146 = .ok (.aload_n 0, 1) := by decide +kernel
theorem dX11_one_147 : decode cX11_one 147 = .ok (.getfield 77, 3) := by decide +kernel
theorem dX11_one_150 : decode cX11_one 150 = .ok (.ldc 157, 2) := by decide +kernel
theorem dX11_one_152 : decode cX11_one 152 = .ok (.iand, 1) := by decide +kernel
theorem dX11_one_153 : decode cX11_one 153 = .ok (.aload_n 0, 1) := by decide +kernel
theorem dX11_one_154 : decode cX11_one 154 = .ok (.getfield 260, 3) := by decide +kernel
theorem dX11_one_157 : decode cX11_one 157 = .ok (.ior, 1) := by decide +kernel
theorem dX11_one_158 : decode cX11_one 158 = .ok (.putfield 77, 3) := by decide +kernel
theorem dX11_one_161 : decode cX11_one 161 = .ok (.iconst 1, 1) := by decide +kernel
theorem dX11_one_162 : decode cX11_one 162 = .ok (.ireturn, 1) := by decide +kernel
theorem dX11_one_163 : decode cX11_one 163 = .ok (.lconst 0, 1) := by decide +kernel
theorem dX11_one_164 : decode cX11_one 164 = .ok (.lstore_n 3, 1) := by decide +kernel
theorem dX11_one_165 : decode cX11_one 165 = .ok (.iconst 0, 1) := by decide +kernel
theorem dX11_one_166 : decode cX11_one 166 = .ok (.istore 5, 2) := by decide +kernel
theorem dX11_one_168 : decode cX11_one 168 = .ok (.iload 5, 2) := by decide +kernel
theorem dX11_one_170 : decode cX11_one 170 = .ok (.bipush 7, 2) := by decide +kernel
theorem dX11_one_172 : decode cX11_one 172 = .ok (.if_icmp .ge 19, 3) := by decide +kernel
theorem dX11_one_175 : decode cX11_one 175 = .ok (.lload_n 3, 1) := by decide +kernel
theorem dX11_one_176 : decode cX11_one 176 = .ok (.aload_n 0, 1) := by decide +kernel
theorem dX11_one_177 : decode cX11_one 177 = .ok (.getfield 66, 3) := by decide +kernel
theorem dX11_one_180 : decode cX11_one 180 = .ok (.iload 5, 2) := by decide +kernel
theorem dX11_one_182 : decode cX11_one 182 = .ok (.laload, 1) := by decide +kernel
theorem dX11_one_183 : decode cX11_one 183 = .ok (.ladd, 1) := by decide +kernel
theorem dX11_one_184 : decode cX11_one 184 = .ok (.lstore_n 3, 1) := by decide +kernel
theorem dX11_one_185 : decode cX11_one 185 = .ok (.iinc 5 1, 3) := by decide +kernel
theorem dX11_one_188 : decode cX11_one 188 = .ok (.goto (-20), 3) := by decide +kernel
theorem dX11_one_191 : decode cX11_one 191 = .ok (.aload_n 0, 1) := by decide +kernel
theorem dX11_one_192 : decode cX11_one 192 = .ok (.iload_n 2, 1) := by decide +kernel
theorem dX11_one_193 : decode cX11_one 193 = .ok (.invokevirtual 269, 3) := by decide +kernel
theorem dX11_one_196 : decode cX11_one 196 = .ok (.istore 5, 2) := by decide +kernel
theorem dX11_one_198 : decode cX11_one 198 = .ok (.lconst 0, 1) := by decide +kernel
theorem dX11_one_199 : decode cX11_one 199 = .ok (.lstore 6, 2) := by decide +kernel
theorem dX11_one_201 : decode cX11_one 201 = .ok (.iconst 0, 1) := by decide +kernel
theorem dX11_one_202 : decode cX11_one 202 = .ok (.istore 8, 2) := by decide +kernel
theorem dX11_one_204 : decode cX11_one 204 = .ok (.iload 8, 2) := by decide +kernel
theorem dX11_one_206 : decode cX11_one 206 = .ok (.bipush 7, 2) := by decide +kernel
theorem dX11_one_208 : decode cX11_one 208 = .ok (.if_icmp .ge 21, 3) := by decide +kernel
theorem dX11_one_211 : decode cX11_one 211 = .ok (.lload 6, 2) := by decide +kernel
theorem dX11_one_213 : decode cX11_one 213 = .ok (.aload_n 0, 1) := by decide +kernel
theorem dX11_one_214 : decode cX11_one 214 = .ok (.getfield 66, 3) := by decide +kernel
theorem dX11_one_217 : decode cX11_one 217 = .ok (.iload 8, 2) := by decide +kernel
theorem dX11_one_219 : decode cX11_one 219 = .ok (.laload, 1) := by decide +kernel
theorem dX11_one_220 : decode cX11_one 220 = .ok (.ladd, 1) := by decide +kernel
theorem dX11_one_221 : decode cX11_one 221 = .ok (.lstore 6, 2) := by decide +kernel
theorem dX11_one_223 : decode cX11_one 223 = .ok (.iinc 8 1, 3) := by decide +kernel
theorem dX11_one_226 : decode cX11_one 226 = .ok (.goto (-22), 3) := by decide +kernel
theorem dX11_one_229 : decode cX11_one 229 = .ok (.lload 6, 2) := by decide +kernel
theorem dX11_one_231 : decode cX11_one 231 = .ok (.lload_n 3, 1) := by decide +kernel
theorem dX11_one_232 : decode cX11_one 232 = .ok (.lcmp, 1) := by decide +kernel
theorem dX11_one_233 : decode cX11_one 233 = .ok (.ifCond .ne 19, 3) := by decide +kernel
theorem dX11_one_236 : decode cX11_one 236 = .ok (.aload_n 0, 1) := by decide +kernel
theorem dX11_one_237 : decode cX11_one 237 = .ok (.aload_n 0, 1) := by decide +kernel
theorem dX11_one_238 : decode cX11_one 238 = .ok (.getfield 77, 3) := by decide +kernel
theorem dX11_one_241 : decode cX11_one 241 = .ok (.ldc 157, 2) := by decide +kernel
theorem dX11_one_243 : decode cX11_one 243 = .ok (.iand, 1) := by decide +kernel
theorem dX11_one_244 : decode cX11_one 244 = .ok (.aload_n 0, 1) := by decide +kernel
theorem dX11_one_245 : decode cX11_one 245 = .ok (.getfield 260, 3) := by decide +kernel
theorem dX11_one_248 : decode cX11_one 248 = .ok (.ior, 1) := by decide +kernel
theorem dX11_one_249 : decode cX11_one 249 = .ok (.putfield 77, 3) := by decide +kernel
theorem dX11_one_252 : decode cX11_one 252 = .ok (.iload 5, 2) := by decide +kernel
theorem dX11_one_254 : decode cX11_one 254 = .ok (.ireturn, 1) := by decide +kernel
theorem dX11_perform_0 : decode cX11_perform 0 = .ok (.iload_n 1, 1) := by decide +kernel
theorem dX11_perform_1 : decode cX11_perform 1 = .ok (.bipush 25, 2) := by decide +kernel
theorem dX11_perform_3 : decode cX11_perform 3 = .ok (.iushr, 1) := by decide +kernel
theorem dX11_perform_4 : decode cX11_perform 4 = .ok (.bipush 7, 2) := by decide +kernel
theorem dX11_perform_6 : decode cX11_perform 6 = .ok (.iand, 1) := by decide +kernel
theorem dX11_perform_7 : decode cX11_perform 7 = .ok (.tableswitch 121 0 6 #[41, 92, 98, 98, 104, 110, 116], 41) := by decide +kernel
theorem dX11_perform_48 : decode cX11_perform 48 = .ok (.iload_n 1, 1) := by decide +kernel
theorem dX11_perform_49 : decode cX11_perform 49 = .ok (.bipush 22, 2) := by decide +kernel
theorem dX11_perform_51 : decode cX11_perform 51 = .ok (.ishr, 1) := by decide +kernel
theorem dX11_perform_52 : decode cX11_perform 52 = .ok (.bipush 7, 2) := by decide +kernel
theorem dX11_perform_54 : decode cX11_perform 54 = .ok (.iand, 1) := by decide +kernel
theorem dX11_perform_55 : decode cX11_perform 55 = .ok (.ifCond .ne 20, 3) := by decide +kernel
theorem dX11_perform_58 : decode cX11_perform 58 = .ok (.iload_n 1, 1) := by decide +kernel
theorem dX11_perform_59 : decode cX11_perform 59 = .ok (.iconst 4, 1) := by decide +kernel
theorem dX11_perform_60 : decode cX11_perform 60 = .ok (.ishr, 1) := by decide +kernel
theorem dX11_perform_61 : decode cX11_perform 61 = .ok (.bipush 15, 2) := by decide +kernel
theorem dX11_perform_63 : decode cX11_perform 63 = .ok (.iand, 1) := by decide +kernel
theorem dX11_perform_64 : decode cX11_perform 64 = .ok (.bipush 9, 2) := by decide +kernel
theorem dX11_perform_66 : decode cX11_perform 66 = .ok (.if_icmp .ne 9, 3) := by decide +kernel
theorem dX11_perform_69 : decode cX11_perform 69 = .ok (.aload_n 0, 1) := by decide +kernel
theorem dX11_perform_70 : decode cX11_perform 70 = .ok (.iload_n 1, 1) := by decide +kernel
theorem dX11_perform_71 : decode cX11_perform 71 = .ok (.invokevirtual 272, 3) := by decide +kernel
theorem dX11_perform_74 : decode cX11_perform 74 = .ok (.ireturn, 1) := by decide +kernel
theorem dX11_perform_75 : decode cX11_perform 75 = .ok (.iload_n 1, 1) := by decide +kernel
theorem dX11_perform_76 : decode cX11_perform 76 = .ok (.iconst 4, 1) := by decide +kernel
theorem dX11_perform_77 : decode cX11_perform 77 = .ok (.ishr, 1) := by decide +kernel
theorem dX11_perform_78 : decode cX11_perform 78 = .ok (.bipush 9, 2) := by decide +kernel
theorem dX11_perform_80 : decode cX11_perform 80 = .ok (.iand, 1) := by decide +kernel
theorem dX11_perform_81 : decode cX11_perform 81 = .ok (.bipush 9, 2) := by decide +kernel
theorem dX11_perform_83 : decode cX11_perform 83 = .ok (.if_icmp .ne 10, 3) := by decide +kernel
theorem dX11_perform_86 : decode cX11_perform 86 = .ok (.aload_n 0, 1) := by decide +kernel
theorem dX11_perform_87 : decode cX11_perform 87 = .ok (.invokevirtual 275, 3) := by decide +kernel
theorem dX11_perform_90 : decode cX11_perform 90 = .ok (.goto 8, 3) := by decide +kernel
theorem dX11_perform_93 : decode cX11_perform 93 = .ok (.aload_n 0, 1) := by decide +kernel
theorem dX11_perform_94 : decode cX11_perform 94 = .ok (.iload_n 1, 1) := by decide +kernel
theorem dX11_perform_95 : decode cX11_perform 95 = .ok (.invokevirtual 278, 3) := by decide +kernel
theorem dX11_perform_98 : decode cX11_perform 98 = .ok (.ireturn, 1) := by decide +kernel
theorem dX11_perform_99 : decode cX11_perform 99 = .ok (.aload_n 0, 1) := by decide +kernel
theorem dX11_perform_100 : decode cX11_perform 100 = .ok (.iload_n 1, 1) := by decide +kernel
theorem dX11_perform_101 : decode cX11_perform 101 = .ok (.invokevirtual 278, 3) := by decide +kernel
theorem dX11_perform_104 : decode cX11_perform 104 = .ok (.ireturn, 1) := by decide +kernel
theorem dX11_perform_105 : decode cX11_perform 105 = .ok (.aload_n 0, 1) := by decide +kernel
theorem dX11_perform_106 : decode cX11_perform 106 = .ok (.iload_n 1, 1) := by decide +kernel
theorem dX11_perform_107 : decode cX11_perform 107 = .ok (.invokevirtual 281, 3) := by decide +kernel
theorem dX11_perform_110 : decode cX11_perform 110 = .ok (.ireturn, 1) := by decide +kernel
theorem dX11_perform_111 : decode cX11_perform 111 = .ok (.aload_n 0, 1) := by decide +kernel
theorem dX11_perform_112 : decode cX11_perform 112 = .ok (.iload_n 1, 1) := by decide +kernel
theorem dX11_perform_113 : decode cX11_perform 113 = .ok (.invokevirtual 284, 3) := by decide +kernel
theorem dX11_perform_116 : decode cX11_perform 116 = .ok (.ireturn, 1) := by decide +kernel
theorem dX11_perform_117 : decode cX11_perform 117 = .ok (.aload_n 0, 1) := by decide +kernel
theorem dX11_perform_118 : decode cX11_perform 118 = .ok (.iload_n 1, 1) := by decide +kernel
theorem dX11_perform_119 : decode cX11_perform 119 = .ok (.invokevirtual 287, 3) := by decide +kernel
theorem dX11_perform_122 : decode cX11_perform 122 = .ok (.ireturn, 1) := by decide +kernel
theorem dX11_perform_123 : decode cX11_perform 123 = .ok (.aload_n 0, 1) := by decide +kernel
theorem dX11_perform_124 : decode cX11_perform 124 = .ok (.invokevirtual 275, 3) := by decide +kernel
theorem dX11_perform_127 : decode cX11_perform 127 = .ok (.ireturn, 1) := by decide +kernel
theorem dX11_perform_128 : decode cX11_perform 128 = .ok (.iload_n 1, 1) := by decide +kernel
theorem dX11_perform_129 : decode cX11_perform 129 = .ok (.bipush 24, 2) := by decide +kernel
theorem dX11_perform_131 : decode cX11_perform 131 = .ok (.ishr, 1) := by decide +kernel
theorem dX11_perform_132 : decode cX11_perform 132 = .ok (.iconst 1, 1) := by decide +kernel
theorem dX11_perform_133 : decode cX11_perform 133 = .ok (.iand, 1) := by decide +kernel
theorem dX11_perform_134 : decode cX11_perform 134 = .ok (.iconst 1, 1) := by decide +kernel
theorem dX11_perform_135 : decode cX11_perform 135 = .ok (.if_icmp .ne 15, 3) := by decide +kernel
theorem dX11_perform_138 : decode cX11_perform 138 = .ok (.aload_n 0, 1) := by decide +kernel
theorem dX11_perform_139 : decode cX11_perform 139 = .ok (.iconst 1, 1) := by decide +kernel
theorem dX11_perform_140 : decode cX11_perform 140 = .ok (.iconst 3, 1) := by decide +kernel
theorem dX11_perform_141 : decode cX11_perform 141 = .ok (.bipush 8, 2) := by decide +kernel
theorem dX11_perform_143 : decode cX11_perform 143 = .ok (.iconst 4, 1) := by decide +kernel
theorem dX11_perform_144 : decode cX11_perform 144 = .ok (.invokevirtual 238, 3) := by decide +kernel
theorem dX11_perform_147 : decode cX11_perform 147 = .ok (.goto 7, 3) := by decide +kernel
theorem dX11_perform_150 : decode cX11_perform 150 = .ok (.aload_n 0, 1) := by decide +kernel
theorem dX11_perform_151 : decode cX11_perform 151 = .ok (.invokevirtual 275, 3) := by decide +kernel
theorem dX11_perform_154 : decode cX11_perform 154 = .ok (.ireturn, 1) := by decide +kernel
theorem dX11_multiply_0 : decode cX11_multiply 0 = .ok (.aload_n 0, 1) := by decide +kernel
theorem dX11_multiply_1 : decode cX11_multiply 1 = .ok (.iload_n 1, 1) := by decide +kernel
theorem dX11_multiply_2 : decode cX11_multiply 2 = .ok (.bipush 8, 2) := by decide +kernel
theorem dX11_multiply_4 : decode cX11_multiply 4 = .ok (.ishr, 1) := by decide +kernel
theorem dX11_multiply_5 : decode cX11_multiply 5 = .ok (.bipush 15, 2) := by decide +kernel
theorem dX11_multiply_7 : decode cX11_multiply 7 = .ok (.iand, 1) := by decide +kernel
theorem dX11_multiply_8 : decode cX11_multiply 8 = .ok (.invokevirtual 290, 3) := by decide +kernel
theorem dX11_multiply_11 : decode cX11_multiply 11 = .ok (.istore_n 2, 1) := by decide +kernel
theorem dX11_multiply_12 : decode cX11_multiply 12 = .ok (.aload_n 0, 1) := by decide +kernel
theorem dX11_multiply_13 : decode cX11_multiply 13 = .ok (.iload_n 1, 1) := by decide +kernel
theorem dX11_multiply_14 : decode cX11_multiply 14 = .ok (.bipush 15, 2) := by decide +kernel
theorem dX11_multiply_16 : decode cX11_multiply 16 = .ok (.iand, 1) := by decide +kernel
theorem dX11_multiply_17 : decode cX11_multiply 17 = .ok (.invokevirtual 290, 3) := by decide +kernel
theorem dX11_multiply_20 : decode cX11_multiply 20 = .ok (.iload_n 2, 1) := by decide +kernel
theorem dX11_multiply_21 : decode cX11_multiply 21 = .ok (.imul, 1) := by decide +kernel
theorem dX11_multiply_22 : decode cX11_multiply 22 = .ok (.iload_n 1, 1) := by decide +kernel
theorem dX11_multiply_23 : decode cX11_multiply 23 = .ok (.bipush 21, 2) := by decide +kernel
theorem dX11_multiply_25 : decode cX11_multiply 25 = .ok (.ishr, 1) := by decide +kernel
theorem dX11_multiply_26 : decode cX11_multiply 26 = .ok (.iconst 1, 1) := by decide +kernel
theorem dX11_multiply_27 : decode cX11_multiply 27 = .ok (.iand, 1) := by decide +kernel
theorem dX11_multiply_28 : decode cX11_multiply 28 = .ok (.iconst 1, 1) := by decide +kernel
theorem dX11_multiply_29 : decode cX11_multiply 29 = .ok (.if_icmp .ne 17, 3) := by decide +kernel
theorem dX11_multiply_32 : decode cX11_multiply 32 = .ok (.aload_n 0, 1) := by decide +kernel
theorem dX11_multiply_33 : decode cX11_multiply 33 = .ok (.iload_n 1, 1) := by decide +kernel
theorem dX11_multiply_34 : decode cX11_multiply 34 = .ok (.bipush 12, 2) := by decide +kernel
theorem dX11_multiply_36 : decode cX11_multiply 36 = .ok (.ishr, 1) := by decide +kernel
theorem dX11_multiply_37 : decode cX11_multiply 37 = .ok (.bipush 15, 2) := by decide +kernel
theorem dX11_multiply_39 : decode cX11_multiply 39 = .ok (.iand, 1) := by decide +kernel
theorem dX11_multiply_40 : decode cX11_multiply 40 = .ok (.invokevirtual 290, 3) := by decide +kernel
theorem dX11_multiply_43 : decode cX11_multiply 43 = .ok (.goto 4, 3) := by decide +kernel
theorem dX11_multiply_46 : decode cX11_multiply 46 = .ok (.iconst 0, 1) := by decide +kernel
theorem dX11_multiply_47 : decode cX11_multiply 47 = .ok (.iadd, 1) := by decide +kernel
theorem dX11_multiply_48 : decode cX11_multiply 48 = .ok (.istore_n 3, 1) := by decide +kernel
theorem dX11_multiply_49 : decode cX11_multiply 49 = .ok (.iload_n 1, 1) := by decide +kernel
theorem dX11_multiply_50 : decode cX11_multiply 50 = .ok (.bipush 16, 2) := by decide +kernel
theorem dX11_multiply_52 : decode cX11_multiply 52 = .ok (.ishr, 1) := by decide +kernel
theorem dX11_multiply_53 : decode cX11_multiply 53 = .ok (.bipush 15, 2) := by decide +kernel
theorem dX11_multiply_55 : decode cX11_multiply 55 = .ok (.iand, 1) := by decide +kernel
theorem dX11_multiply_56 : decode cX11_multiply 56 = .ok (.istore 4, 2) := by decide +kernel
theorem dX11_multiply_58 : decode cX11_multiply 58 = .ok (.iload 4, 2) := by decide +kernel
theorem dX11_multiply_60 : decode cX11_multiply 60 = .ok (.bipush 15, 2) := by decide +kernel
theorem dX11_multiply_62 : decode cX11_multiply 62 = .ok (.if_icmp .ge 14, 3) := by decide +kernel
theorem dX11_multiply_65 : decode cX11_multiply 65 = .ok (.aload_n 0, 1) := by decide +kernel
theorem dX11_multiply_66 : decode cX11_multiply 66 = .ok (.aload_n 0, 1) := by decide +kernel
theorem dX11_multiply_67 : decode cX11_multiply 67 = .ok (.invokevirtual 148, 3) := by decide +kernel
theorem dX11_multiply_70 : decode cX11_multiply 70 = .ok (.iload 4, 2) := by decide +kernel
theorem dX11_multiply_72 : decode cX11_multiply 72 = .ok (.iload_n 3, 1) := by decide +kernel
theorem dX11_multiply_73 : decode cX11_multiply 73 = .ok (.invokevirtual 235, 3) := by decide +kernel
theorem dX11_multiply_76 : decode cX11_multiply 76 = .ok (.iload_n 1, 1) := by decide +kernel
theorem dX11_multiply_77 : decode cX11_multiply 77 = .ok (.bipush 20, 2) := by decide +kernel
theorem dX11_multiply_79 : decode cX11_multiply 79 = .ok (.ishr, 1) := by decide +kernel
theorem dX11_multiply_80 : decode cX11_multiply 80 = .ok (.iconst 1, 1) := by decide +kernel
theorem dX11_multiply_81 : decode cX11_multiply 81 = .ok (.iand, 1) := by decide +kernel
theorem dX11_multiply_82 : decode cX11_multiply 82 = .ok (.iconst 1, 1) := by decide +kernel
theorem dX11_multiply_83 : decode cX11_multiply 83 = .ok (.if_icmp .ne 33, 3) := by decide +kernel
theorem dX11_multiply_86 : decode cX11_multiply 86 = .ok (.aload_n 0, 1) := by decide +kernel
theorem dX11_multiply_87 : decode cX11_multiply 87 = .ok (.bipush 31, 2) := by decide +kernel
theorem dX11_multiply_89 : decode cX11_multiply 89 = .ok (.iload_n 3, 1) := by decide +kernel
theorem dX11_multiply_90 : decode cX11_multiply 90 = .ok (.ifCond .ge 7, 3) := by decide +kernel
theorem dX11_multiply_93 : decode cX11_multiply 93 = .ok (.iconst 1, 1) := by decide +kernel
theorem dX11_multiply_94 : decode cX11_multiply 94 = .ok (.goto 4, 3) := by decide +kernel
theorem dX11_multiply_97 : decode cX11_multiply 97 = .ok (.iconst 0, 1) := by decide +kernel
theorem dX11_multiply_98 : decode cX11_multiply 98 = .ok (.invokevirtual 231, 3) := by decide +kernel
theorem dX11_multiply_101 : decode cX11_multiply 101 = .ok (.aload_n 0, 1) := by decide +kernel
theorem dX11_multiply_102 : decode cX11_multiply 102 = .ok (.bipush 30, 2) := by decide +kernel
theorem dX11_multiply_104 : decode cX11_multiply 104 = .ok (.iload_n 3, 1) := by decide +kernel
theorem dX11_multiply_105 : decode cX11_multiply 105 = .ok (.ifCond .ne 7, 3) := by decide +kernel
theorem dX11_multiply_108 : decode cX11_multiply 108 = .ok (.iconst 1, 1) := by decide +kernel
theorem dX11_multiply_109 : decode cX11_multiply 109 = .ok (.goto 4, 3) := by decide +kernel
theorem dX11_multiply_112 : decode cX11_multiply 112 = .ok (.iconst 0, 1) := by decide +kernel
theorem dX11_multiply_113 : decode cX11_multiply 113 = .ok (.invokevirtual 231, 3) := by decide +kernel
theorem dX11_multiply_116 : decode cX11_multiply 116 = .ok (.iconst 1, 1) := by decide +kernel
theorem dX11_multiply_117 : decode cX11_multiply 117 = .ok (.istore 5, 2) := by decide +kernel
theorem dX11_multiply_119 : decode cX11_multiply 119 = .ok (.iconst 2, 1) := by decide +kernel
theorem dX11_multiply_120 : decode cX11_multiply 120 = .ok (.istore 6, 2) := by decide +kernel
theorem dX11_multiply_122 : decode cX11_multiply 122 = .ok (.iload 6, 2) := by decide +kernel
theorem dX11_multiply_124 : decode cX11_multiply 124 = .ok (.bipush 32, 2) := by decide +kernel
theorem dX11_multiply_126 : decode cX11_multiply 126 = .ok (.if_icmp .ge 24, 3) := by decide +kernel
theorem dX11_multiply_129 : decode cX11_multiply 129 = .ok (.iload_n 2, 1) := by decide +kernel
theorem dX11_multiply_130 : decode cX11_multiply 130 = .ok (.iload 6, 2) := by decide +kernel
theorem dX11_multiply_132 : decode cX11_multiply 132 = .ok (.iushr, 1) := by decide +kernel
theorem dX11_multiply_133 : decode cX11_multiply 133 = .ok (.ifCond .eq 11, 3) := by decide +kernel
theorem dX11_multiply_136 : decode cX11_multiply 136 = .ok (.iload 6, 2) := by decide +kernel
theorem dX11_multiply_138 : decode cX11_multiply 138 = .ok (.iconst 2, 1) := by decide +kernel
theorem dX11_multiply_139 : decode cX11_multiply 139 = .ok (.idiv, 1) := by decide +kernel
theorem dX11_multiply_140 : decode cX11_multiply 140 = .ok (.iconst 1, 1) := by decide +kernel
theorem dX11_multiply_141 : decode cX11_multiply 141 = .ok (.iadd, 1) := by decide +kernel
theorem dX11_multiply_142 : decode cX11_multiply 142 = .ok (.istore 5, 2) := by decide +kernel
theorem dX11_multiply_144 : decode cX11_multiply 144 = .ok (.iinc 6 2, 3) := by decide +kernel
theorem dX11_multiply_147 : decode cX11_multiply 147 = .ok (.goto (-25), 3) := by decide +kernel
theorem dX11_multiply_150 : decode cX11_multiply 150 = .ok (.iconst 1, 1) := by decide +kernel
theorem dX11_multiply_151 : decode cX11_multiply 151 = .ok (.iload 5, 2) := by decide +kernel
theorem dX11_multiply_153 : decode cX11_multiply 153 = .ok (.iadd, 1) := by decide +kernel
theorem dX11_multiply_154 : decode cX11_multiply 154 = .ok (.ireturn, 1) := by decide +kernel
theorem dX11_bit_0 : decode cX11_bit 0 = .ok (.iload_n 0, 1) := by decide +kernel
theorem dX11_bit_1 : decode cX11_bit 1 = .ok (.iload_n 1, 1) := by decide +kernel
theorem dX11_bit_2 : decode cX11_bit 2 = .ok (.iushr, 1) := by decide +kernel
theorem dX11_bit_3 : decode cX11_bit 3 = .ok (.iconst 1, 1) := by decide +kernel
theorem dX11_bit_4 : decode cX11_bit 4 = .ok (.iand, 1) := by decide +kernel
theorem dX11_bit_5 : decode cX11_bit 5 = .ok (.iconst 1, 1) := by decide +kernel
theorem dX11_bit_6 : decode cX11_bit 6 = .ok (.if_icmp .ne 7, 3) := by decide +kernel
theorem dX11_bit_9 : decode cX11_bit 9 = .ok (.iconst 1, 1) := by decide +kernel
theorem dX11_bit_10 : decode cX11_bit 10 = .ok (.goto 4, 3) := by decide +kernel
theorem dX11_bit_13 : decode cX11_bit 13 = .ok (.iconst 0, 1) := by decide +kernel
theorem dX11_bit_14 : decode cX11_bit 14 = .ok (.ireturn, 1) := by decide +kernel
theorem dX11_turned_0 : decode cX11_turned 0 = .ok (.iload_n 1, 1) := by decide +kernel
theorem dX11_turned_1 : decode cX11_turned 1 = .ok (.bipush 32, 2) := by decide +kernel
theorem dX11_turned_3 : decode cX11_turned 3 = .ok (.irem, 1) := by decide +kernel
theorem dX11_turned_4 : decode cX11_turned 4 = .ok (.ifCond .ne 7, 3) := by decide +kernel
theorem dX11_turned_7 : decode cX11_turned 7 = .ok (.iload_n 0, 1) := by decide +kernel
theorem dX11_turned_8 : decode cX11_turned 8 = .ok (.goto 19, 3) := by decide +kernel
theorem dX11_turned_11 : decode cX11_turned 11 = .ok (.iload_n 0, 1) := by decide +kernel
theorem dX11_turned_12 : decode cX11_turned 12 = .ok (.iload_n 1, 1) := by decide +kernel
theorem dX11_turned_13 : decode cX11_turned 13 = .ok (.bipush 32, 2) := by decide +kernel
theorem dX11_turned_15 : decode cX11_turned 15 = .ok (.irem, 1) := by decide +kernel
theorem dX11_turned_16 : decode cX11_turned 16 = .ok (.iushr, 1) := by decide +kernel
theorem dX11_turned_17 : decode cX11_turned 17 = .ok (.iload_n 0, 1) := by decide +kernel
theorem dX11_turned_18 : decode cX11_turned 18 = .ok (.bipush 32, 2) := by decide +kernel
theorem dX11_turned_20 : decode cX11_turned 20 = .ok (.iload_n 1, 1) := by decide +kernel
theorem dX11_turned_21 : decode cX11_turned 21 = .ok (.bipush 32, 2) := by decide +kernel
theorem dX11_turned_23 : decode cX11_turned 23 = .ok (.irem, 1) := by decide +kernel
theorem dX11_turned_24 : decode cX11_turned 24 = .ok (.isub, 1) := by decide +kernel
theorem dX11_turned_25 : decode cX11_turned 25 = .ok (.ishl, 1) := by decide +kernel
theorem dX11_turned_26 : decode cX11_turned 26 = .ok (.ior, 1) := by decide +kernel
theorem dX11_turned_27 : decode cX11_turned 27 = .ok (.ireturn, 1) := by decide +kernel
theorem dX11_moved_0 : decode cX11_moved 0 = .ok (.iload_n 1, 1) := by decide +kernel
theorem dX11_moved_1 : decode cX11_moved 1 = .ok (.tableswitch 151 0 2 #[27, 70, 112], 27) := by decide +kernel
theorem dX11_moved_28 : decode cX11_moved 28 = .ok (.aload_n 0, 1) := by decide +kernel
theorem dX11_moved_29 : decode cX11_moved 29 = .ok (.iload_n 3, 1) := by decide +kernel
theorem dX11_moved_30 : decode cX11_moved 30 = .ok (.bipush 32, 2) := by decide +kernel
theorem dX11_moved_32 : decode cX11_moved 32 = .ok (.if_icmp .gt 21, 3) := by decide +kernel
theorem dX11_moved_35 : decode cX11_moved 35 = .ok (.iload_n 2, 1) := by decide +kernel
theorem dX11_moved_36 : decode cX11_moved 36 = .ok (.bipush 32, 2) := by decide +kernel
theorem dX11_moved_38 : decode cX11_moved 38 = .ok (.iload_n 3, 1) := by decide +kernel
theorem dX11_moved_39 : decode cX11_moved 39 = .ok (.isub, 1) := by decide +kernel
theorem dX11_moved_40 : decode cX11_moved 40 = .ok (.bipush 31, 2) := by decide +kernel
theorem dX11_moved_42 : decode cX11_moved 42 = .ok (.iand, 1) := by decide +kernel
theorem dX11_moved_43 : decode cX11_moved 43 = .ok (.invokestatic 293, 3) := by decide +kernel
theorem dX11_moved_46 : decode cX11_moved 46 = .ok (.ifCond .eq 7, 3) := by decide +kernel
theorem dX11_moved_49 : decode cX11_moved 49 = .ok (.iconst 1, 1) := by decide +kernel
theorem dX11_moved_50 : decode cX11_moved 50 = .ok (.goto 4, 3) := by decide +kernel
theorem dX11_moved_53 : decode cX11_moved 53 = .ok (.iconst 0, 1) := by decide +kernel
theorem dX11_moved_54 : decode cX11_moved 54 = .ok (.putfield 296, 3) := by decide +kernel
theorem dX11_moved_57 : decode cX11_moved 57 = .ok (.iload_n 3, 1) := by decide +kernel
theorem dX11_moved_58 : decode cX11_moved 58 = .ok (.bipush 32, 2) := by decide +kernel
theorem dX11_moved_60 : decode cX11_moved 60 = .ok (.if_icmp .ge 9, 3) := by decide +kernel
theorem dX11_moved_63 : decode cX11_moved 63 = .ok (.iload_n 2, 1) := by decide +kernel
theorem dX11_moved_64 : decode cX11_moved 64 = .ok (.iload_n 3, 1) := by decide +kernel
theorem dX11_moved_65 : decode cX11_moved 65 = .ok (.ishl, 1) := by decide +kernel
theorem dX11_moved_66 : decode cX11_moved 66 = .ok (.goto 4, 3) := by decide +kernel
theorem dX11_moved_69 : decode cX11_moved 69 = .ok (.iconst 0, 1) := by decide +kernel
theorem dX11_moved_70 : decode cX11_moved 70 = .ok (.ireturn, 1) := by decide +kernel
theorem dX11_moved_71 : decode cX11_moved 71 = .ok (.aload_n 0, 1) := by decide +kernel
theorem dX11_moved_72 : decode cX11_moved 72 = .ok (.iload_n 3, 1) := by decide +kernel
theorem dX11_moved_73 : decode cX11_moved 73 = .ok (.bipush 32, 2) := by decide +kernel
theorem dX11_moved_75 : decode cX11_moved 75 = .ok (.if_icmp .gt 20, 3) := by decide +kernel
theorem dX11_moved_78 : decode cX11_moved 78 = .ok (.iload_n 2, 1) := by decide +kernel
theorem dX11_moved_79 : decode cX11_moved 79 = .ok (.iload_n 3, 1) := by decide +kernel
theorem dX11_moved_80 : decode cX11_moved 80 = .ok (.iconst 1, 1) := by decide +kernel
theorem dX11_moved_81 : decode cX11_moved 81 = .ok (.isub, 1) := by decide +kernel
theorem dX11_moved_82 : decode cX11_moved 82 = .ok (.bipush 31, 2) := by decide +kernel
theorem dX11_moved_84 : decode cX11_moved 84 = .ok (.iand, 1) := by decide +kernel
theorem dX11_moved_85 : decode cX11_moved 85 = .ok (.invokestatic 293, 3) := by decide +kernel
theorem dX11_moved_88 : decode cX11_moved 88 = .ok (.ifCond .eq 7, 3) := by decide +kernel
theorem dX11_moved_91 : decode cX11_moved 91 = .ok (.iconst 1, 1) := by decide +kernel
theorem dX11_moved_92 : decode cX11_moved 92 = .ok (.goto 4, 3) := by decide +kernel
theorem dX11_moved_95 : decode cX11_moved 95 = .ok (.iconst 0, 1) := by decide +kernel
theorem dX11_moved_96 : decode cX11_moved 96 = .ok (.putfield 296, 3) := by decide +kernel
theorem dX11_moved_99 : decode cX11_moved 99 = .ok (.iload_n 3, 1) := by decide +kernel
theorem dX11_moved_100 : decode cX11_moved 100 = .ok (.bipush 32, 2) := by decide +kernel
theorem dX11_moved_102 : decode cX11_moved 102 = .ok (.if_icmp .ge 9, 3) := by decide +kernel
theorem dX11_moved_105 : decode cX11_moved 105 = .ok (.iload_n 2, 1) := by decide +kernel
theorem dX11_moved_106 : decode cX11_moved 106 = .ok (.iload_n 3, 1) := by decide +kernel
theorem dX11_moved_107 : decode cX11_moved 107 = .ok (.iushr, 1) := by decide +kernel
theorem dX11_moved_108 : decode cX11_moved 108 = .ok (.goto 4, 3) := by decide +kernel
theorem dX11_moved_111 : decode cX11_moved 111 = .ok (.iconst 0, 1) := by decide +kernel
theorem dX11_moved_112 : decode cX11_moved 112 = .ok (.ireturn, 1) := by decide +kernel
theorem dX11_moved_113 : decode cX11_moved 113 = .ok (.aload_n 0, 1) := by decide +kernel
theorem dX11_moved_114 : decode cX11_moved 114 = .ok (.iload_n 2, 1) := by decide +kernel
theorem dX11_moved_115 : decode cX11_moved 115 = .ok (.iload_n 3, 1) := by decide +kernel
theorem dX11_moved_116 : decode cX11_moved 116 = .ok (.bipush 32, 2) := by decide +kernel
theorem dX11_moved_118 : decode cX11_moved 118 = .ok (.if_icmp .ge 9, 3) := by decide +kernel
theorem dX11_moved_121 : decode cX11_moved 121 = .ok (.iload_n 3, 1) := by decide +kernel
theorem dX11_moved_122 : decode cX11_moved 122 = .ok (.iconst 1, 1) := by decide +kernel
theorem dX11_moved_123 : decode cX11_moved 123 = .ok (.isub, 1) := by decide +kernel
theorem dX11_moved_124 : decode cX11_moved 124 = .ok (.goto 5, 3) := by decide +kernel
theorem dX11_moved_127 : decode cX11_moved 127 = .ok (.bipush 31, 2) := by decide +kernel
theorem dX11_moved_129 : decode cX11_moved 129 = .ok (.invokestatic 293, 3) := by decide +kernel
theorem dX11_moved_132 : decode cX11_moved 132 = .ok (.putfield 296, 3) := by decide +kernel
theorem dX11_moved_135 : decode cX11_moved 135 = .ok (.iload_n 3, 1) := by decide +kernel
theorem dX11_moved_136 : decode cX11_moved 136 = .ok (.bipush 32, 2) := by decide +kernel
theorem dX11_moved_138 : decode cX11_moved 138 = .ok (.if_icmp .ge 9, 3) := by decide +kernel
theorem dX11_moved_141 : decode cX11_moved 141 = .ok (.iload_n 2, 1) := by decide +kernel
theorem dX11_moved_142 : decode cX11_moved 142 = .ok (.iload_n 3, 1) := by decide +kernel
theorem dX11_moved_143 : decode cX11_moved 143 = .ok (.ishr, 1) := by decide +kernel
theorem dX11_moved_144 : decode cX11_moved 144 = .ok (.goto 7, 3) := by decide +kernel
theorem dX11_moved_147 : decode cX11_moved 147 = .ok (.iload_n 2, 1) := by decide +kernel
theorem dX11_moved_148 : decode cX11_moved 148 = .ok (.bipush 31, 2) := by decide +kernel
theorem dX11_moved_150 : decode cX11_moved 150 = .ok (.ishr, 1) := by decide +kernel
theorem dX11_moved_151 : decode cX11_moved 151 = .ok (.ireturn, 1) := by decide +kernel
theorem dX11_moved_152 : decode cX11_moved 152 = .ok (.iload_n 2, 1) := by decide +kernel
theorem dX11_moved_153 : decode cX11_moved 153 = .ok (.iload_n 3, 1) := by decide +kernel
theorem dX11_moved_154 : decode cX11_moved 154 = .ok (.invokestatic 299, 3) := by decide +kernel
theorem dX11_moved_157 : decode cX11_moved 157 = .ok (.istore 4, 2) := by decide +kernel
theorem dX11_moved_159 : decode cX11_moved 159 = .ok (.aload_n 0, 1) := by decide +kernel
theorem dX11_moved_160 : decode cX11_moved 160 = .ok (.iload 4, 2) := by decide +kernel
theorem dX11_moved_162 : decode cX11_moved 162 = .ok (.ifCond .ge 7, 3) := by decide +kernel
theorem dX11_moved_165 : decode cX11_moved 165 = .ok (.iconst 1, 1) := by decide +kernel
theorem dX11_moved_166 : decode cX11_moved 166 = .ok (.goto 4, 3) := by decide +kernel
theorem dX11_moved_169 : decode cX11_moved 169 = .ok (.iconst 0, 1) := by decide +kernel
theorem dX11_moved_170 : decode cX11_moved 170 = .ok (.putfield 296, 3) := by decide +kernel
theorem dX11_moved_173 : decode cX11_moved 173 = .ok (.iload 4, 2) := by decide +kernel
theorem dX11_moved_175 : decode cX11_moved 175 = .ok (.ireturn, 1) := by decide +kernel
theorem dX11_byNumber_0 : decode cX11_byNumber 0 = .ok (.iload_n 1, 1) := by decide +kernel
theorem dX11_byNumber_1 : decode cX11_byNumber 1 = .ok (.bipush 7, 2) := by decide +kernel
theorem dX11_byNumber_3 : decode cX11_byNumber 3 = .ok (.ishr, 1) := by decide +kernel
theorem dX11_byNumber_4 : decode cX11_byNumber 4 = .ok (.bipush 31, 2) := by decide +kernel
theorem dX11_byNumber_6 : decode cX11_byNumber 6 = .ok (.iand, 1) := by decide +kernel
theorem dX11_byNumber_7 : decode cX11_byNumber 7 = .ok (.istore_n 3, 1) := by decide +kernel
theorem dX11_byNumber_8 : decode cX11_byNumber 8 = .ok (.iload_n 1, 1) := by decide +kernel
theorem dX11_byNumber_9 : decode cX11_byNumber 9 = .ok (.iconst 5, 1) := by decide +kernel
theorem dX11_byNumber_10 : decode cX11_byNumber 10 = .ok (.ishr, 1) := by decide +kernel
theorem dX11_byNumber_11 : decode cX11_byNumber 11 = .ok (.iconst 3, 1) := by decide +kernel
theorem dX11_byNumber_12 : decode cX11_byNumber 12 = .ok (.iand, 1) := by decide +kernel
theorem dX11_byNumber_13 : decode cX11_byNumber 13 = .ok (.istore 4, 2) := by decide +kernel
theorem dX11_byNumber_15 : decode cX11_byNumber 15 = .ok (.aload_n 0, 1) := by decide +kernel
theorem dX11_byNumber_16 : decode cX11_byNumber 16 = .ok (.aload_n 0, 1) := by decide +kernel
theorem dX11_byNumber_17 : decode cX11_byNumber 17 = .ok (.bipush 29, 2) := by decide +kernel
theorem dX11_byNumber_19 : decode cX11_byNumber 19 = .ok (.invokevirtual 242, 3) := by decide +kernel
theorem dX11_byNumber_22 : decode cX11_byNumber 22 = .ok (.putfield 296, 3) := by decide +kernel
theorem dX11_byNumber_25 : decode cX11_byNumber 25 = .ok (.iload_n 3, 1) := by decide +kernel
theorem dX11_byNumber_26 : decode cX11_byNumber 26 = .ok (.ifCond .le 12, 3) := by decide +kernel
theorem dX11_byNumber_29 : decode cX11_byNumber 29 = .ok (.aload_n 0, 1) := by decide +kernel
theorem dX11_byNumber_30 : decode cX11_byNumber 30 = .ok (.iload 4, 2) := by decide +kernel
theorem dX11_byNumber_32 : decode cX11_byNumber 32 = .ok (.iload_n 2, 1) := by decide +kernel
theorem dX11_byNumber_33 : decode cX11_byNumber 33 = .ok (.iload_n 3, 1) := by decide +kernel
theorem dX11_byNumber_34 : decode cX11_byNumber 34 = .ok (.invokevirtual 302, 3) := by decide +kernel
theorem dX11_byNumber_37 : decode cX11_byNumber 37 = .ok (.ireturn, 1) := by decide +kernel
theorem dX11_byNumber_38 : decode cX11_byNumber 38 = .ok (.iload 4, 2) := by decide +kernel
theorem dX11_byNumber_40 : decode cX11_byNumber 40 = .ok (.ifCond .ne 5, 3) := by decide +kernel
theorem dX11_byNumber_43 : decode cX11_byNumber 43 = .ok (.iload_n 2, 1) := by decide +kernel
theorem dX11_byNumber_44 : decode cX11_byNumber 44 = .ok (.ireturn, 1) := by decide +kernel
theorem dX11_byNumber_45 : decode cX11_byNumber 45 = .ok (.iload 4, 2) := by decide +kernel
theorem dX11_byNumber_47 : decode cX11_byNumber 47 = .ok (.iconst 3, 1) := by decide +kernel
theorem dX11_byNumber_48 : decode cX11_byNumber 48 = .ok (.if_icmp .ge 13, 3) := by decide +kernel
theorem dX11_byNumber_51 : decode cX11_byNumber 51 = .ok (.aload_n 0, 1) := by decide +kernel
theorem dX11_byNumber_52 : decode cX11_byNumber 52 = .ok (.iload 4, 2) := by decide +kernel
theorem dX11_byNumber_54 : decode cX11_byNumber 54 = .ok (.iload_n 2, 1) := by decide +kernel
theorem dX11_byNumber_55 : decode cX11_byNumber 55 = .ok (.bipush 32, 2) := by decide +kernel
theorem dX11_byNumber_57 : decode cX11_byNumber 57 = .ok (.invokevirtual 302, 3) := by decide +kernel
theorem dX11_byNumber_60 : decode cX11_byNumber 60 = .ok (.ireturn, 1) := by decide +kernel
theorem dX11_byNumber_61 : decode cX11_byNumber 61 = .ok (.iload_n 2, 1) := by decide +kernel
theorem dX11_byNumber_62 : decode cX11_byNumber 62 = .ok (.iconst 1, 1) := by decide +kernel
theorem dX11_byNumber_63 : decode cX11_byNumber 63 = .ok (.iushr, 1) := by decide +kernel
theorem dX11_byNumber_64 : decode cX11_byNumber 64 = .ok (.aload_n 0, 1) := by decide +kernel
theorem dX11_byNumber_65 : decode cX11_byNumber 65 = .ok (.getfield 296, 3) := by decide +kernel
theorem dX11_byNumber_68 : decode cX11_byNumber 68 = .ok (.ifCond .eq 9, 3) := by decide +kernel
theorem dX11_byNumber_71 : decode cX11_byNumber 71 = .ok (.ldc_w 306, 3) := by decide +kernel
theorem dX11_byNumber_74 : decode cX11_byNumber 74 = .ok (.goto 4, 3) := by decide +kernel
theorem dX11_byNumber_77 : decode cX11_byNumber 77 = .ok (.iconst 0, 1) := by decide +kernel
theorem dX11_byNumber_78 : decode cX11_byNumber 78 = .ok (.ior, 1) := by decide +kernel
theorem dX11_byNumber_79 : decode cX11_byNumber 79 = .ok (.istore 5, 2) := by decide +kernel
theorem dX11_byNumber_81 : decode cX11_byNumber 81 = .ok (.aload_n 0, 1) := by decide +kernel
theorem dX11_byNumber_82 : decode cX11_byNumber 82 = .ok (.iload_n 2, 1) := by decide +kernel
theorem dX11_byNumber_83 : decode cX11_byNumber 83 = .ok (.iconst 0, 1) := by decide +kernel
theorem dX11_byNumber_84 : decode cX11_byNumber 84 = .ok (.invokestatic 293, 3) := by decide +kernel
theorem dX11_byNumber_87 : decode cX11_byNumber 87 = .ok (.putfield 296, 3) := by decide +kernel
theorem dX11_byNumber_90 : decode cX11_byNumber 90 = .ok (.iload 5, 2) := by decide +kernel
theorem dX11_byNumber_92 : decode cX11_byNumber 92 = .ok (.ireturn, 1) := by decide +kernel
theorem dX11_work_0 : decode cX11_work 0 = .ok (.iload_n 1, 1) := by decide +kernel
theorem dX11_work_1 : decode cX11_work 1 = .ok (.bipush 21, 2) := by decide +kernel
theorem dX11_work_3 : decode cX11_work 3 = .ok (.ishr, 1) := by decide +kernel
theorem dX11_work_4 : decode cX11_work 4 = .ok (.bipush 15, 2) := by decide +kernel
theorem dX11_work_6 : decode cX11_work 6 = .ok (.iand, 1) := by decide +kernel
theorem dX11_work_7 : decode cX11_work 7 = .ok (.istore_n 2, 1) := by decide +kernel
theorem dX11_work_8 : decode cX11_work 8 = .ok (.iload_n 1, 1) := by decide +kernel
theorem dX11_work_9 : decode cX11_work 9 = .ok (.bipush 20, 2) := by decide +kernel
theorem dX11_work_11 : decode cX11_work 11 = .ok (.ishr, 1) := by decide +kernel
theorem dX11_work_12 : decode cX11_work 12 = .ok (.iconst 1, 1) := by decide +kernel
theorem dX11_work_13 : decode cX11_work 13 = .ok (.iand, 1) := by decide +kernel
theorem dX11_work_14 : decode cX11_work 14 = .ok (.iconst 1, 1) := by decide +kernel
theorem dX11_work_15 : decode cX11_work 15 = .ok (.if_icmp .ne 7, 3) := by decide +kernel
theorem dX11_work_18 : decode cX11_work 18 = .ok (.iconst 1, 1) := by decide +kernel
theorem dX11_work_19 : decode cX11_work 19 = .ok (.goto 4, 3) := by decide +kernel
theorem dX11_work_22 : decode cX11_work 22 = .ok (.iconst 0, 1) := by decide +kernel
theorem dX11_work_23 : decode cX11_work 23 = .ok (.istore_n 3, 1) := by decide +kernel
theorem dX11_work_24 : decode cX11_work 24 = .ok (.iload_n 2, 1) := by decide +kernel
theorem dX11_work_25 : decode cX11_work 25 = .ok (.bipush 7, 2) := by decide +kernel
theorem dX11_work_27 : decode cX11_work 27 = .ok (.if_icmp .le 13, 3) := by decide +kernel
theorem dX11_work_30 : decode cX11_work 30 = .ok (.iload_n 2, 1) := by decide +kernel
theorem dX11_work_31 : decode cX11_work 31 = .ok (.bipush 12, 2) := by decide +kernel
theorem dX11_work_33 : decode cX11_work 33 = .ok (.if_icmp .ge 7, 3) := by decide +kernel
theorem dX11_work_36 : decode cX11_work 36 = .ok (.iconst 1, 1) := by decide +kernel
theorem dX11_work_37 : decode cX11_work 37 = .ok (.goto 4, 3) := by decide +kernel
theorem dX11_work_40 : decode cX11_work 40 = .ok (.iconst 0, 1) := by decide +kernel
theorem dX11_work_41 : decode cX11_work 41 = .ok (.istore 4, 2) := by decide +kernel
theorem dX11_work_43 : decode cX11_work 43 = .ok (.iload 4, 2) := by decide +kernel
theorem dX11_work_45 : decode cX11_work 45 = .ok (.ifCond .eq 12, 3) := by decide +kernel
theorem dX11_work_48 : decode cX11_work 48 = .ok (.iload_n 3, 1) := by decide +kernel
theorem dX11_work_49 : decode cX11_work 49 = .ok (.ifCond .ne 8, 3) := by decide +kernel
theorem dX11_work_52 : decode cX11_work 52 = .ok (.aload_n 0, 1) := by decide +kernel
theorem dX11_work_53 : decode cX11_work 53 = .ok (.invokevirtual 275, 3) := by decide +kernel
theorem dX11_work_56 : decode cX11_work 56 = .ok (.ireturn, 1) := by decide +kernel
theorem dX11_work_57 : decode cX11_work 57 = .ok (.iload_n 1, 1) := by decide +kernel
theorem dX11_work_58 : decode cX11_work 58 = .ok (.bipush 25, 2) := by decide +kernel
theorem dX11_work_60 : decode cX11_work 60 = .ok (.ishr, 1) := by decide +kernel
theorem dX11_work_61 : decode cX11_work 61 = .ok (.iconst 1, 1) := by decide +kernel
theorem dX11_work_62 : decode cX11_work 62 = .ok (.iand, 1) := by decide +kernel
theorem dX11_work_63 : decode cX11_work 63 = .ok (.iconst 1, 1) := by decide +kernel
theorem dX11_work_64 : decode cX11_work 64 = .ok (.if_icmp .ne 7, 3) := by decide +kernel
theorem dX11_work_67 : decode cX11_work 67 = .ok (.iconst 1, 1) := by decide +kernel
theorem dX11_work_68 : decode cX11_work 68 = .ok (.goto 4, 3) := by decide +kernel
theorem dX11_work_71 : decode cX11_work 71 = .ok (.iconst 0, 1) := by decide +kernel
theorem dX11_work_72 : decode cX11_work 72 = .ok (.istore 5, 2) := by decide +kernel
theorem dX11_work_74 : decode cX11_work 74 = .ok (.iload 5, 2) := by decide +kernel
theorem dX11_work_76 : decode cX11_work 76 = .ok (.ifCond .ne 16, 3) := by decide +kernel
theorem dX11_work_79 : decode cX11_work 79 = .ok (.iload_n 1, 1) := by decide +kernel
theorem dX11_work_80 : decode cX11_work 80 = .ok (.iconst 4, 1) := by decide +kernel
theorem dX11_work_81 : decode cX11_work 81 = .ok (.ishr, 1) := by decide +kernel
theorem dX11_work_82 : decode cX11_work 82 = .ok (.iconst 1, 1) := by decide +kernel
theorem dX11_work_83 : decode cX11_work 83 = .ok (.iand, 1) := by decide +kernel
theorem dX11_work_84 : decode cX11_work 84 = .ok (.iconst 1, 1) := by decide +kernel
theorem dX11_work_85 : decode cX11_work 85 = .ok (.if_icmp .ne 7, 3) := by decide +kernel
theorem dX11_work_88 : decode cX11_work 88 = .ok (.iconst 1, 1) := by decide +kernel
theorem dX11_work_89 : decode cX11_work 89 = .ok (.goto 4, 3) := by decide +kernel
theorem dX11_work_92 : decode cX11_work 92 = .ok (.iconst 0, 1) := by decide +kernel
theorem dX11_work_93 : decode cX11_work 93 = .ok (.istore 6, 2) := by decide +kernel
theorem dX11_work_95 : decode cX11_work 95 = .ok (.iload 6, 2) := by decide +kernel
theorem dX11_work_97 : decode cX11_work 97 = .ok (.ifCond .eq 8, 3) := by decide +kernel
theorem dX11_work_100 : decode cX11_work 100 = .ok (.bipush 12, 2) := by decide +kernel
theorem dX11_work_102 : decode cX11_work 102 = .ok (.goto 5, 3) := by decide +kernel
theorem dX11_work_105 : decode cX11_work 105 = .ok (.bipush 8, 2) := by decide +kernel
theorem dX11_work_107 : decode cX11_work 107 = .ok (.istore 7, 2) := by decide +kernel
theorem dX11_work_109 : decode cX11_work 109 = .ok (.iload_n 1, 1) := by decide +kernel
theorem dX11_work_110 : decode cX11_work 110 = .ok (.bipush 15, 2) := by decide +kernel
theorem dX11_work_112 : decode cX11_work 112 = .ok (.iand, 1) := by decide +kernel
theorem dX11_work_113 : decode cX11_work 113 = .ok (.istore 8, 2) := by decide +kernel
theorem dX11_work_115 : decode cX11_work 115 = .ok (.iload_n 1, 1) := by decide +kernel
theorem dX11_work_116 : decode cX11_work 116 = .ok (.bipush 16, 2) := by decide +kernel
theorem dX11_work_118 : decode cX11_work 118 = .ok (.ishr, 1) := by decide +kernel
theorem dX11_work_119 : decode cX11_work 119 = .ok (.bipush 15, 2) := by decide +kernel
theorem dX11_work_121 : decode cX11_work 121 = .ok (.iand, 1) := by decide +kernel
theorem dX11_work_122 : decode cX11_work 122 = .ok (.bipush 15, 2) := by decide +kernel
theorem dX11_work_124 : decode cX11_work 124 = .ok (.if_icmp .ne 12, 3) := by decide +kernel
theorem dX11_work_127 : decode cX11_work 127 = .ok (.aload_n 0, 1) := by decide +kernel
theorem dX11_work_128 : decode cX11_work 128 = .ok (.iload 7, 2) := by decide +kernel
theorem dX11_work_130 : decode cX11_work 130 = .ok (.invokevirtual 144, 3) := by decide +kernel
theorem dX11_work_133 : decode cX11_work 133 = .ok (.goto 18, 3) := by decide +kernel
theorem dX11_work_136 : decode cX11_work 136 = .ok (.aload_n 0, 1) := by decide +kernel
theorem dX11_work_137 : decode cX11_work 137 = .ok (.aload_n 0, 1) := by decide +kernel
theorem dX11_work_138 : decode cX11_work 138 = .ok (.invokevirtual 148, 3) := by decide +kernel
theorem dX11_work_141 : decode cX11_work 141 = .ok (.iload_n 1, 1) := by decide +kernel
theorem dX11_work_142 : decode cX11_work 142 = .ok (.bipush 16, 2) := by decide +kernel
theorem dX11_work_144 : decode cX11_work 144 = .ok (.ishr, 1) := by decide +kernel
theorem dX11_work_145 : decode cX11_work 145 = .ok (.bipush 15, 2) := by decide +kernel
theorem dX11_work_147 : decode cX11_work 147 = .ok (.iand, 1) := by decide +kernel
theorem dX11_work_148 : decode cX11_work 148 = .ok (.invokevirtual 152, 3) := by decide +kernel
theorem dX11_work_151 : decode cX11_work 151 = .ok (.istore 9, 2) := by decide +kernel
theorem dX11_work_153 : decode cX11_work 153 = .ok (.iload 8, 2) := by decide +kernel
theorem dX11_work_155 : decode cX11_work 155 = .ok (.bipush 15, 2) := by decide +kernel
theorem dX11_work_157 : decode cX11_work 157 = .ok (.if_icmp .ne 20, 3) := by decide +kernel
theorem dX11_work_160 : decode cX11_work 160 = .ok (.aload_n 0, 1) := by decide +kernel
theorem dX11_work_161 : decode cX11_work 161 = .ok (.getfield 77, 3) := by decide +kernel
theorem dX11_work_164 : decode cX11_work 164 = .ok (.ldc 157, 2) := by decide +kernel
theorem dX11_work_166 : decode cX11_work 166 = .ok (.iand, 1) := by decide +kernel
theorem dX11_work_167 : decode cX11_work 167 = .ok (.aload_n 0, 1) := by decide +kernel
theorem dX11_work_168 : decode cX11_work 168 = .ok (.iload 7, 2) := by decide +kernel
theorem dX11_work_170 : decode cX11_work 170 = .ok (.invokevirtual 144, 3) := by decide +kernel
theorem dX11_work_173 : decode cX11_work 173 = .ok (.ior, 1) := by decide +kernel
theorem dX11_work_174 : decode cX11_work 174 = .ok (.goto 13, 3) := by decide +kernel
theorem dX11_work_177 : decode cX11_work 177 = .ok (.aload_n 0, 1) := by decide +kernel
theorem dX11_work_178 : decode cX11_work 178 = .ok (.aload_n 0, 1) := by decide +kernel
theorem dX11_work_179 : decode cX11_work 179 = .ok (.invokevirtual 148, 3) := by decide +kernel
theorem dX11_work_182 : decode cX11_work 182 = .ok (.iload 8, 2) := by decide +kernel
theorem dX11_work_184 : decode cX11_work 184 = .ok (.invokevirtual 152, 3) := by decide +kernel
theorem dX11_work_187 : decode cX11_work 187 = .ok (.istore 10, 2) := by decide +kernel
theorem dX11_work_189 : decode cX11_work 189 = .ok (.aload_n 0, 1) := by decide +kernel
theorem dX11_work_190 : decode cX11_work 190 = .ok (.aload_n 0, 1) := by decide +kernel
theorem dX11_work_191 : decode cX11_work 191 = .ok (.bipush 29, 2) := by decide +kernel
theorem dX11_work_193 : decode cX11_work 193 = .ok (.invokevirtual 242, 3) := by decide +kernel
theorem dX11_work_196 : decode cX11_work 196 = .ok (.putfield 296, 3) := by decide +kernel
theorem dX11_work_199 : decode cX11_work 199 = .ok (.iload 5, 2) := by decide +kernel
theorem dX11_work_201 : decode cX11_work 201 = .ok (.ifCond .eq 55, 3) := by decide +kernel
theorem dX11_work_204 : decode cX11_work 204 = .ok (.iconst 2, 1) := by decide +kernel
theorem dX11_work_205 : decode cX11_work 205 = .ok (.iload_n 1, 1) := by decide +kernel
theorem dX11_work_206 : decode cX11_work 206 = .ok (.bipush 8, 2) := by decide +kernel
theorem dX11_work_208 : decode cX11_work 208 = .ok (.ishr, 1) := by decide +kernel
theorem dX11_work_209 : decode cX11_work 209 = .ok (.bipush 15, 2) := by decide +kernel
theorem dX11_work_211 : decode cX11_work 211 = .ok (.iand, 1) := by decide +kernel
theorem dX11_work_212 : decode cX11_work 212 = .ok (.imul, 1) := by decide +kernel
theorem dX11_work_213 : decode cX11_work 213 = .ok (.istore 11, 2) := by decide +kernel
theorem dX11_work_215 : decode cX11_work 215 = .ok (.iload_n 1, 1) := by decide +kernel
theorem dX11_work_216 : decode cX11_work 216 = .ok (.sipush 255, 3) := by decide +kernel
theorem dX11_work_219 : decode cX11_work 219 = .ok (.iand, 1) := by decide +kernel
theorem dX11_work_220 : decode cX11_work 220 = .ok (.iload 11, 2) := by decide +kernel
theorem dX11_work_222 : decode cX11_work 222 = .ok (.invokestatic 299, 3) := by decide +kernel
theorem dX11_work_225 : decode cX11_work 225 = .ok (.istore 10, 2) := by decide +kernel
theorem dX11_work_227 : decode cX11_work 227 = .ok (.aload_n 0, 1) := by decide +kernel
theorem dX11_work_228 : decode cX11_work 228 = .ok (.iload 11, 2) := by decide +kernel
theorem dX11_work_230 : decode cX11_work 230 = .ok (.ifCond .ne 10, 3) := by decide +kernel
theorem dX11_work_233 : decode cX11_work 233 = .ok (.aload_n 0, 1) := by decide +kernel
theorem dX11_work_234 : decode cX11_work 234 = .ok (.getfield 296, 3) := by decide +kernel
theorem dX11_work_237 : decode cX11_work 237 = .ok (.goto 13, 3) := by decide +kernel
theorem dX11_work_240 : decode cX11_work 240 = .ok (.iload 10, 2) := by decide +kernel
theorem dX11_work_242 : decode cX11_work 242 = .ok (.ifCond .ge 7, 3) := by decide +kernel
theorem dX11_work_245 : decode cX11_work 245 = .ok (.iconst 1, 1) := by decide +kernel
theorem dX11_work_246 : decode cX11_work 246 = .ok (.goto 4, 3) := by decide +kernel
theorem dX11_work_249 : decode cX11_work 249 = .ok (.iconst 0, 1) := by decide +kernel
theorem dX11_work_250 : decode cX11_work 250 = .ok (.putfield 296, 3) := by decide +kernel
theorem dX11_work_253 : decode cX11_work 253 = .ok (.goto 62, 3) := by decide +kernel
theorem dX11_work_256 : decode cX11_work 256 = .ok (.iload 6, 2) := by decide +kernel
theorem dX11_work_258 : decode cX11_work 258 = .ok (.ifCond .eq 48, 3) := by decide +kernel
theorem dX11_work_261 : decode cX11_work 261 = .ok (.aload_n 0, 1) := by decide +kernel
theorem dX11_work_262 : decode cX11_work 262 = .ok (.iload_n 1, 1) := by decide +kernel
theorem dX11_work_263 : decode cX11_work 263 = .ok (.bipush 8, 2) := by decide +kernel
theorem dX11_work_265 : decode cX11_work 265 = .ok (.ishr, 1) := by decide +kernel
theorem dX11_work_266 : decode cX11_work 266 = .ok (.bipush 15, 2) := by decide +kernel
theorem dX11_work_268 : decode cX11_work 268 = .ok (.iand, 1) := by decide +kernel
theorem dX11_work_269 : decode cX11_work 269 = .ok (.invokevirtual 290, 3) := by decide +kernel
theorem dX11_work_272 : decode cX11_work 272 = .ok (.sipush 255, 3) := by decide +kernel
theorem dX11_work_275 : decode cX11_work 275 = .ok (.iand, 1) := by decide +kernel
theorem dX11_work_276 : decode cX11_work 276 = .ok (.istore 11, 2) := by decide +kernel
theorem dX11_work_278 : decode cX11_work 278 = .ok (.iload 11, 2) := by decide +kernel
theorem dX11_work_280 : decode cX11_work 280 = .ok (.ifCond .ne 8, 3) := by decide +kernel
theorem dX11_work_283 : decode cX11_work 283 = .ok (.iload 10, 2) := by decide +kernel
theorem dX11_work_285 : decode cX11_work 285 = .ok (.goto 16, 3) := by decide +kernel
theorem dX11_work_288 : decode cX11_work 288 = .ok (.aload_n 0, 1) := by decide +kernel
theorem dX11_work_289 : decode cX11_work 289 = .ok (.iload_n 1, 1) := by decide +kernel
theorem dX11_work_290 : decode cX11_work 290 = .ok (.iconst 5, 1) := by decide +kernel
theorem dX11_work_291 : decode cX11_work 291 = .ok (.ishr, 1) := by decide +kernel
theorem dX11_work_292 : decode cX11_work 292 = .ok (.iconst 3, 1) := by decide +kernel
theorem dX11_work_293 : decode cX11_work 293 = .ok (.iand, 1) := by decide +kernel
theorem dX11_work_294 : decode cX11_work 294 = .ok (.iload 10, 2) := by decide +kernel
theorem dX11_work_296 : decode cX11_work 296 = .ok (.iload 11, 2) := by decide +kernel
theorem dX11_work_298 : decode cX11_work 298 = .ok (.invokevirtual 302, 3) := by decide +kernel
theorem dX11_work_301 : decode cX11_work 301 = .ok (.istore 10, 2) := by decide +kernel
theorem dX11_work_303 : decode cX11_work 303 = .ok (.goto 12, 3) := by decide +kernel
theorem dX11_work_306 : decode cX11_work 306 = .ok (.aload_n 0, 1) := by decide +kernel
theorem dX11_work_307 : decode cX11_work 307 = .ok (.iload_n 1, 1) := by decide +kernel
theorem dX11_work_308 : decode cX11_work 308 = .ok (.iload 10, 2) := by decide +kernel
theorem dX11_work_310 : decode cX11_work 310 = .ok (.invokevirtual 307, 3) := by decide +kernel
theorem dX11_work_313 : decode cX11_work 313 = .ok (.istore 10, 2) := by decide +kernel
theorem dX11_work_315 : decode cX11_work 315 = .ok (.iload_n 1, 1) := by decide +kernel
theorem dX11_work_316 : decode cX11_work 316 = .ok (.bipush 12, 2) := by decide +kernel
theorem dX11_work_318 : decode cX11_work 318 = .ok (.ishr, 1) := by decide +kernel
theorem dX11_work_319 : decode cX11_work 319 = .ok (.bipush 15, 2) := by decide +kernel
theorem dX11_work_321 : decode cX11_work 321 = .ok (.iand, 1) := by decide +kernel
theorem dX11_work_322 : decode cX11_work 322 = .ok (.istore 11, 2) := by decide +kernel
theorem dX11_work_324 : decode cX11_work 324 = .ok (.aload_n 0, 1) := by decide +kernel
theorem dX11_work_325 : decode cX11_work 325 = .ok (.invokevirtual 148, 3) := by decide +kernel
theorem dX11_work_328 : decode cX11_work 328 = .ok (.istore 12, 2) := by decide +kernel
theorem dX11_work_330 : decode cX11_work 330 = .ok (.aload_n 0, 1) := by decide +kernel
theorem dX11_work_331 : decode cX11_work 331 = .ok (.iload_n 2, 1) := by decide +kernel
theorem dX11_work_332 : decode cX11_work 332 = .ok (.iload 9, 2) := by decide +kernel
theorem dX11_work_334 : decode cX11_work 334 = .ok (.iload 10, 2) := by decide +kernel
theorem dX11_work_336 : decode cX11_work 336 = .ok (.iload_n 3, 1) := by decide +kernel
theorem dX11_work_337 : decode cX11_work 337 = .ok (.ifCond .eq 14, 3) := by decide +kernel
theorem dX11_work_340 : decode cX11_work 340 = .ok (.iload 11, 2) := by decide +kernel
theorem dX11_work_342 : decode cX11_work 342 = .ok (.bipush 15, 2) := by decide +kernel
theorem dX11_work_344 : decode cX11_work 344 = .ok (.if_icmp .ge 7, 3) := by decide +kernel
theorem dX11_work_347 : decode cX11_work 347 = .ok (.iconst 1, 1) := by decide +kernel
theorem dX11_work_348 : decode cX11_work 348 = .ok (.goto 4, 3) := by decide +kernel
theorem dX11_work_351 : decode cX11_work 351 = .ok (.iconst 0, 1) := by decide +kernel
theorem dX11_work_352 : decode cX11_work 352 = .ok (.invokevirtual 310, 3) := by decide +kernel
theorem dX11_work_355 : decode cX11_work 355 = .ok (.istore 13, 2) := by decide +kernel
theorem dX11_work_357 : decode cX11_work 357 = .ok (.iload_n 3, 1) := by decide +kernel
theorem dX11_work_358 : decode cX11_work 358 = .ok (.ifCond .eq 16, 3) := by decide +kernel
theorem dX11_work_361 : decode cX11_work 361 = .ok (.iload 11, 2) := by decide +kernel
theorem dX11_work_363 : decode cX11_work 363 = .ok (.bipush 15, 2) := by decide +kernel
theorem dX11_work_365 : decode cX11_work 365 = .ok (.if_icmp .ne 9, 3) := by decide +kernel
theorem dX11_work_368 : decode cX11_work 368 = .ok (.aload_n 0, 1) := by decide +kernel
theorem dX11_work_369 : decode cX11_work 369 = .ok (.iload 13, 2) := by decide +kernel
theorem dX11_work_371 : decode cX11_work 371 = .ok (.invokevirtual 314, 3) := by decide +kernel
theorem dX11_work_374 : decode cX11_work 374 = .ok (.iload 4, 2) := by decide +kernel
theorem dX11_work_376 : decode cX11_work 376 = .ok (.ifCond .ne 19, 3) := by decide +kernel
theorem dX11_work_379 : decode cX11_work 379 = .ok (.iload 11, 2) := by decide +kernel
theorem dX11_work_381 : decode cX11_work 381 = .ok (.bipush 15, 2) := by decide +kernel
theorem dX11_work_383 : decode cX11_work 383 = .ok (.if_icmp .ne 12, 3) := by decide +kernel
theorem dX11_work_386 : decode cX11_work 386 = .ok (.aload_n 0, 1) := by decide +kernel
theorem dX11_work_387 : decode cX11_work 387 = .ok (.iload 13, 2) := by decide +kernel
theorem dX11_work_389 : decode cX11_work 389 = .ok (.ldc 143, 2) := by decide +kernel
theorem dX11_work_391 : decode cX11_work 391 = .ok (.iand, 1) := by decide +kernel
theorem dX11_work_392 : decode cX11_work 392 = .ok (.putfield 260, 3) := by decide +kernel
theorem dX11_work_395 : decode cX11_work 395 = .ok (.iload 4, 2) := by decide +kernel
theorem dX11_work_397 : decode cX11_work 397 = .ok (.ifCond .ne 20, 3) := by decide +kernel
theorem dX11_work_400 : decode cX11_work 400 = .ok (.iload 11, 2) := by decide +kernel
theorem dX11_work_402 : decode cX11_work 402 = .ok (.bipush 15, 2) := by decide +kernel
theorem dX11_work_404 : decode cX11_work 404 = .ok (.if_icmp .ge 13, 3) := by decide +kernel
theorem dX11_work_407 : decode cX11_work 407 = .ok (.aload_n 0, 1) := by decide +kernel
theorem dX11_work_408 : decode cX11_work 408 = .ok (.iload 12, 2) := by decide +kernel
theorem dX11_work_410 : decode cX11_work 410 = .ok (.iload 11, 2) := by decide +kernel
theorem dX11_work_412 : decode cX11_work 412 = .ok (.iload 13, 2) := by decide +kernel
theorem dX11_work_414 : decode cX11_work 414 = .ok (.invokevirtual 235, 3) := by decide +kernel
theorem dX11_work_417 : decode cX11_work 417 = .ok (.iload 6, 2) := by decide +kernel
theorem dX11_work_419 : decode cX11_work 419 = .ok (.ifCond .eq 7, 3) := by decide +kernel
theorem dX11_work_422 : decode cX11_work 422 = .ok (.iconst 2, 1) := by decide +kernel
theorem dX11_work_423 : decode cX11_work 423 = .ok (.goto 4, 3) := by decide +kernel
theorem dX11_work_426 : decode cX11_work 426 = .ok (.iconst 1, 1) := by decide +kernel
theorem dX11_work_427 : decode cX11_work 427 = .ok (.iload 4, 2) := by decide +kernel
theorem dX11_work_429 : decode cX11_work 429 = .ok (.ifCond .ne 10, 3) := by decide +kernel
theorem dX11_work_432 : decode cX11_work 432 = .ok (.iload 11, 2) := by decide +kernel
theorem dX11_work_434 : decode cX11_work 434 = .ok (.bipush 15, 2) := by decide +kernel
theorem dX11_work_436 : decode cX11_work 436 = .ok (.if_icmp .eq 12, 3) := by decide +kernel
theorem dX11_work_439 : decode cX11_work 439 = .ok (.iload 12, 2) := by decide +kernel
theorem dX11_work_441 : decode cX11_work 441 = .ok (.aload_n 0, 1) := by decide +kernel
theorem dX11_work_442 : decode cX11_work 442 = .ok (.invokevirtual 148, 3) := by decide +kernel
theorem dX11_work_445 : decode cX11_work 445 = .ok (.if_icmp .eq 7, 3) := by decide +kernel
theorem dX11_work_448 : decode cX11_work 448 = .ok (.iconst 3, 1) := by decide +kernel
theorem dX11_work_449 : decode cX11_work 449 = .ok (.goto 4, 3) := by decide +kernel
theorem dX11_work_452 : decode cX11_work 452 = .ok (.iconst 0, 1) := by decide +kernel
theorem dX11_work_453 : decode cX11_work 453 = .ok (.iadd, 1) := by decide +kernel
theorem dX11_work_454 : decode cX11_work 454 = .ok (.ireturn, 1) := by decide +kernel
theorem dX11_result_0 : decode cX11_result 0 = .ok (.aload_n 0, 1) := by decide +kernel
theorem dX11_result_1 : decode cX11_result 1 = .ok (.bipush 29, 2) := by decide +kernel
theorem dX11_result_3 : decode cX11_result 3 = .ok (.invokevirtual 242, 3) := by decide +kernel
theorem dX11_result_6 : decode cX11_result 6 = .ok (.istore 5, 2) := by decide +kernel
theorem dX11_result_8 : decode cX11_result 8 = .ok (.iload_n 1, 1) := by decide +kernel
theorem dX11_result_9 : decode cX11_result 9 = .ok (.tableswitch 234 0 14 #[194, 202, 75, 91, 107, 121, 144, 169, 194, 202, 75, 107, 210, 218, 224], 75) := by decide +kernel
theorem dX11_result_84 : decode cX11_result 84 = .ok (.aload_n 0, 1) := by decide +kernel
theorem dX11_result_85 : decode cX11_result 85 = .ok (.iload_n 2, 1) := by decide +kernel
theorem dX11_result_86 : decode cX11_result 86 = .ok (.iload_n 3, 1) := by decide +kernel
theorem dX11_result_87 : decode cX11_result 87 = .ok (.iconst (-1), 1) := by decide +kernel
theorem dX11_result_88 : decode cX11_result 88 = .ok (.ixor, 1) := by decide +kernel
theorem dX11_result_89 : decode cX11_result 89 = .ok (.iconst 1, 1) := by decide +kernel
theorem dX11_result_90 : decode cX11_result 90 = .ok (.iload 4, 2) := by decide +kernel
theorem dX11_result_92 : decode cX11_result 92 = .ok (.invokevirtual 317, 3) := by decide +kernel
theorem dX11_result_95 : decode cX11_result 95 = .ok (.istore 6, 2) := by decide +kernel
theorem dX11_result_97 : decode cX11_result 97 = .ok (.goto 151, 3) := by decide +kernel
theorem dX11_result_100 : decode cX11_result 100 = .ok (.aload_n 0, 1) := by decide +kernel
theorem dX11_result_101 : decode cX11_result 101 = .ok (.iload_n 3, 1) := by decide +kernel
theorem dX11_result_102 : decode cX11_result 102 = .ok (.iload_n 2, 1) := by decide +kernel
theorem dX11_result_103 : decode cX11_result 103 = .ok (.iconst (-1), 1) := by decide +kernel
theorem dX11_result_104 : decode cX11_result 104 = .ok (.ixor, 1) := by decide +kernel
theorem dX11_result_105 : decode cX11_result 105 = .ok (.iconst 1, 1) := by decide +kernel
theorem dX11_result_106 : decode cX11_result 106 = .ok (.iload 4, 2) := by decide +kernel
theorem dX11_result_108 : decode cX11_result 108 = .ok (.invokevirtual 317, 3) := by decide +kernel
theorem dX11_result_111 : decode cX11_result 111 = .ok (.istore 6, 2) := by decide +kernel
theorem dX11_result_113 : decode cX11_result 113 = .ok (.goto 135, 3) := by decide +kernel
theorem dX11_result_116 : decode cX11_result 116 = .ok (.aload_n 0, 1) := by decide +kernel
theorem dX11_result_117 : decode cX11_result 117 = .ok (.iload_n 2, 1) := by decide +kernel
theorem dX11_result_118 : decode cX11_result 118 = .ok (.iload_n 3, 1) := by decide +kernel
theorem dX11_result_119 : decode cX11_result 119 = .ok (.iconst 0, 1) := by decide +kernel
theorem dX11_result_120 : decode cX11_result 120 = .ok (.iload 4, 2) := by decide +kernel
theorem dX11_result_122 : decode cX11_result 122 = .ok (.invokevirtual 317, 3) := by decide +kernel
theorem dX11_result_125 : decode cX11_result 125 = .ok (.istore 6, 2) := by decide +kernel
theorem dX11_result_127 : decode cX11_result 127 = .ok (.goto 121, 3) := by decide +kernel
theorem dX11_result_130 : decode cX11_result 130 = .ok (.aload_n 0, 1) := by decide +kernel
theorem dX11_result_131 : decode cX11_result 131 = .ok (.iload_n 2, 1) := by decide +kernel
theorem dX11_result_132 : decode cX11_result 132 = .ok (.iload_n 3, 1) := by decide +kernel
theorem dX11_result_133 : decode cX11_result 133 = .ok (.iload 5, 2) := by decide +kernel
theorem dX11_result_135 : decode cX11_result 135 = .ok (.ifCond .eq 7, 3) := by decide +kernel
theorem dX11_result_138 : decode cX11_result 138 = .ok (.iconst 1, 1) := by decide +kernel
theorem dX11_result_139 : decode cX11_result 139 = .ok (.goto 4, 3) := by decide +kernel
theorem dX11_result_142 : decode cX11_result 142 = .ok (.iconst 0, 1) := by decide +kernel
theorem dX11_result_143 : decode cX11_result 143 = .ok (.iload 4, 2) := by decide +kernel
theorem dX11_result_145 : decode cX11_result 145 = .ok (.invokevirtual 317, 3) := by decide +kernel
theorem dX11_result_148 : decode cX11_result 148 = .ok (.istore 6, 2) := by decide +kernel
theorem dX11_result_150 : decode cX11_result 150 = .ok (.goto 98, 3) := by decide +kernel
theorem dX11_result_153 : decode cX11_result 153 = .ok (.aload_n 0, 1) := by decide +kernel
theorem dX11_result_154 : decode cX11_result 154 = .ok (.iload_n 2, 1) := by decide +kernel
theorem dX11_result_155 : decode cX11_result 155 = .ok (.iload_n 3, 1) := by decide +kernel
theorem dX11_result_156 : decode cX11_result 156 = .ok (.iconst (-1), 1) := by decide +kernel
theorem dX11_result_157 : decode cX11_result 157 = .ok (.ixor, 1) := by decide +kernel
theorem dX11_result_158 : decode cX11_result 158 = .ok (.iload 5, 2) := by decide +kernel
theorem dX11_result_160 : decode cX11_result 160 = .ok (.ifCond .eq 7, 3) := by decide +kernel
theorem dX11_result_163 : decode cX11_result 163 = .ok (.iconst 1, 1) := by decide +kernel
theorem dX11_result_164 : decode cX11_result 164 = .ok (.goto 4, 3) := by decide +kernel
theorem dX11_result_167 : decode cX11_result 167 = .ok (.iconst 0, 1) := by decide +kernel
theorem dX11_result_168 : decode cX11_result 168 = .ok (.iload 4, 2) := by decide +kernel
theorem dX11_result_170 : decode cX11_result 170 = .ok (.invokevirtual 317, 3) := by decide +kernel
theorem dX11_result_173 : decode cX11_result 173 = .ok (.istore 6, 2) := by decide +kernel
theorem dX11_result_175 : decode cX11_result 175 = .ok (.goto 73, 3) := by decide +kernel
theorem dX11_result_178 : decode cX11_result 178 = .ok (.aload_n 0, 1) := by decide +kernel
theorem dX11_result_179 : decode cX11_result 179 = .ok (.iload_n 3, 1) := by decide +kernel
theorem dX11_result_180 : decode cX11_result 180 = .ok (.iload_n 2, 1) := by decide +kernel
theorem dX11_result_181 : decode cX11_result 181 = .ok (.iconst (-1), 1) := by decide +kernel
theorem dX11_result_182 : decode cX11_result 182 = .ok (.ixor, 1) := by decide +kernel
theorem dX11_result_183 : decode cX11_result 183 = .ok (.iload 5, 2) := by decide +kernel
theorem dX11_result_185 : decode cX11_result 185 = .ok (.ifCond .eq 7, 3) := by decide +kernel
theorem dX11_result_188 : decode cX11_result 188 = .ok (.iconst 1, 1) := by decide +kernel
theorem dX11_result_189 : decode cX11_result 189 = .ok (.goto 4, 3) := by decide +kernel
theorem dX11_result_192 : decode cX11_result 192 = .ok (.iconst 0, 1) := by decide +kernel
theorem dX11_result_193 : decode cX11_result 193 = .ok (.iload 4, 2) := by decide +kernel
theorem dX11_result_195 : decode cX11_result 195 = .ok (.invokevirtual 317, 3) := by decide +kernel
theorem dX11_result_198 : decode cX11_result 198 = .ok (.istore 6, 2) := by decide +kernel
theorem dX11_result_200 : decode cX11_result 200 = .ok (.goto 48, 3) := by decide +kernel
theorem dX11_result_203 : decode cX11_result 203 = .ok (.iload_n 2, 1) := by decide +kernel
theorem dX11_result_204 : decode cX11_result 204 = .ok (.iload_n 3, 1) := by decide +kernel
theorem dX11_result_205 : decode cX11_result 205 = .ok (.iand, 1) := by decide +kernel
theorem dX11_result_206 : decode cX11_result 206 = .ok (.istore 6, 2) := by decide +kernel
theorem dX11_result_208 : decode cX11_result 208 = .ok (.goto 40, 3) := by decide +kernel
theorem dX11_result_211 : decode cX11_result 211 = .ok (.iload_n 2, 1) := by decide +kernel
theorem dX11_result_212 : decode cX11_result 212 = .ok (.iload_n 3, 1) := by decide +kernel
theorem dX11_result_213 : decode cX11_result 213 = .ok (.ixor, 1) := by decide +kernel
theorem dX11_result_214 : decode cX11_result 214 = .ok (.istore 6, 2) := by decide +kernel
theorem dX11_result_216 : decode cX11_result 216 = .ok (.goto 32, 3) := by decide +kernel
theorem dX11_result_219 : decode cX11_result 219 = .ok (.iload_n 2, 1) := by decide +kernel
theorem dX11_result_220 : decode cX11_result 220 = .ok (.iload_n 3, 1) := by decide +kernel
theorem dX11_result_221 : decode cX11_result 221 = .ok (.ior, 1) := by decide +kernel
theorem dX11_result_222 : decode cX11_result 222 = .ok (.istore 6, 2) := by decide +kernel
theorem dX11_result_224 : decode cX11_result 224 = .ok (.goto 24, 3) := by decide +kernel
theorem dX11_result_227 : decode cX11_result 227 = .ok (.iload_n 3, 1) := by decide +kernel
theorem dX11_result_228 : decode cX11_result 228 = .ok (.istore 6, 2) := by decide +kernel
theorem dX11_result_230 : decode cX11_result 230 = .ok (.goto 18, 3) := by decide +kernel
theorem dX11_result_233 : decode cX11_result 233 = .ok (.iload_n 2, 1) := by decide +kernel
theorem dX11_result_234 : decode cX11_result 234 = .ok (.iload_n 3, 1) := by decide +kernel
theorem dX11_result_235 : decode cX11_result 235 = .ok (.iconst (-1), 1) := by decide +kernel
theorem dX11_result_236 : decode cX11_result 236 = .ok (.ixor, 1) := by decide +kernel
theorem dX11_result_237 : decode cX11_result 237 = .ok (.iand, 1) := by decide +kernel
theorem dX11_result_238 : decode cX11_result 238 = .ok (.istore 6, 2) := by decide +kernel
theorem dX11_result_240 : decode cX11_result 240 = .ok (.goto 8, 3) := by decide +kernel
theorem dX11_result_243 : decode cX11_result 243 = .ok (.iload_n 3, 1) := by decide +kernel
theorem dX11_result_244 : decode cX11_result 244 = .ok (.iconst (-1), 1) := by decide +kernel
theorem dX11_result_245 : decode cX11_result 245 = .ok (.ixor, 1) := by decide +kernel
theorem dX11_result_246 : decode cX11_result 246 = .ok (.istore 6, 2) := by decide +kernel
theorem dX11_result_248 : decode cX11_result 248 = .ok (.iload_n 1, 1) := by decide +kernel
theorem dX11_result_249 : decode cX11_result 249 = .ok (.iconst 1, 1) := by decide +kernel
theorem dX11_result_250 : decode cX11_result 250 = .ok (.if_icmp .le 9, 3) := by decide +kernel
theorem dX11_result_253 : decode cX11_result 253 = .ok (.iload_n 1, 1) := by decide +kernel
theorem dX11_result_254 : decode cX11_result 254 = .ok (.bipush 8, 2) := by decide +kernel
theorem dX11_result_256 : decode cX11_result 256 = .ok (.if_icmp .lt 15, 3) := by decide +kernel
theorem dX11_result_259 : decode cX11_result 259 = .ok (.iload_n 1, 1) := by decide +kernel
theorem dX11_result_260 : decode cX11_result 260 = .ok (.bipush 10, 2) := by decide +kernel
theorem dX11_result_262 : decode cX11_result 262 = .ok (.if_icmp .eq 9, 3) := by decide +kernel
theorem dX11_result_265 : decode cX11_result 265 = .ok (.iload_n 1, 1) := by decide +kernel
theorem dX11_result_266 : decode cX11_result 266 = .ok (.bipush 11, 2) := by decide +kernel
theorem dX11_result_268 : decode cX11_result 268 = .ok (.if_icmp .ne 7, 3) := by decide +kernel
theorem dX11_result_271 : decode cX11_result 271 = .ok (.iconst 1, 1) := by decide +kernel
theorem dX11_result_272 : decode cX11_result 272 = .ok (.goto 4, 3) := by decide +kernel
theorem dX11_result_275 : decode cX11_result 275 = .ok (.iconst 0, 1) := by decide +kernel
theorem dX11_result_276 : decode cX11_result 276 = .ok (.istore 7, 2) := by decide +kernel
theorem dX11_result_278 : decode cX11_result 278 = .ok (.iload 4, 2) := by decide +kernel
theorem dX11_result_280 : decode cX11_result 280 = .ok (.ifCond .eq 50, 3) := by decide +kernel
theorem dX11_result_283 : decode cX11_result 283 = .ok (.aload_n 0, 1) := by decide +kernel
theorem dX11_result_284 : decode cX11_result 284 = .ok (.bipush 31, 2) := by decide +kernel
theorem dX11_result_286 : decode cX11_result 286 = .ok (.iload 6, 2) := by decide +kernel
theorem dX11_result_288 : decode cX11_result 288 = .ok (.ifCond .ge 7, 3) := by decide +kernel
theorem dX11_result_291 : decode cX11_result 291 = .ok (.iconst 1, 1) := by decide +kernel
theorem dX11_result_292 : decode cX11_result 292 = .ok (.goto 4, 3) := by decide +kernel
theorem dX11_result_295 : decode cX11_result 295 = .ok (.iconst 0, 1) := by decide +kernel
theorem dX11_result_296 : decode cX11_result 296 = .ok (.invokevirtual 231, 3) := by decide +kernel
theorem dX11_result_299 : decode cX11_result 299 = .ok (.aload_n 0, 1) := by decide +kernel
theorem dX11_result_300 : decode cX11_result 300 = .ok (.bipush 30, 2) := by decide +kernel
theorem dX11_result_302 : decode cX11_result 302 = .ok (.iload 6, 2) := by decide +kernel
theorem dX11_result_304 : decode cX11_result 304 = .ok (.ifCond .ne 7, 3) := by decide +kernel
theorem dX11_result_307 : decode cX11_result 307 = .ok (.iconst 1, 1) := by decide +kernel
theorem dX11_result_308 : decode cX11_result 308 = .ok (.goto 4, 3) := by decide +kernel
theorem dX11_result_311 : decode cX11_result 311 = .ok (.iconst 0, 1) := by decide +kernel
theorem dX11_result_312 : decode cX11_result 312 = .ok (.invokevirtual 231, 3) := by decide +kernel
theorem dX11_result_315 : decode cX11_result 315 = .ok (.iload 7, 2) := by decide +kernel
theorem dX11_result_317 : decode cX11_result 317 = .ok (.ifCond .ne 13, 3) := by decide +kernel
theorem dX11_result_320 : decode cX11_result 320 = .ok (.aload_n 0, 1) := by decide +kernel
theorem dX11_result_321 : decode cX11_result 321 = .ok (.bipush 29, 2) := by decide +kernel
theorem dX11_result_323 : decode cX11_result 323 = .ok (.aload_n 0, 1) := by decide +kernel
theorem dX11_result_324 : decode cX11_result 324 = .ok (.getfield 296, 3) := by decide +kernel
theorem dX11_result_327 : decode cX11_result 327 = .ok (.invokevirtual 231, 3) := by decide +kernel
theorem dX11_result_330 : decode cX11_result 330 = .ok (.iload 6, 2) := by decide +kernel
theorem dX11_result_332 : decode cX11_result 332 = .ok (.ireturn, 1) := by decide +kernel
theorem dX11_summed_0 : decode cX11_summed 0 = .ok (.iload_n 1, 1) := by decide +kernel
theorem dX11_summed_1 : decode cX11_summed 1 = .ok (.i2l, 1) := by decide +kernel
theorem dX11_summed_2 : decode cX11_summed 2 = .ok (.ldc2_w 320, 3) := by decide +kernel
theorem dX11_summed_5 : decode cX11_summed 5 = .ok (.land, 1) := by decide +kernel
theorem dX11_summed_6 : decode cX11_summed 6 = .ok (.iload_n 2, 1) := by decide +kernel
theorem dX11_summed_7 : decode cX11_summed 7 = .ok (.i2l, 1) := by decide +kernel
theorem dX11_summed_8 : decode cX11_summed 8 = .ok (.ldc2_w 320, 3) := by decide +kernel
theorem dX11_summed_11 : decode cX11_summed 11 = .ok (.land, 1) := by decide +kernel
theorem dX11_summed_12 : decode cX11_summed 12 = .ok (.ladd, 1) := by decide +kernel
theorem dX11_summed_13 : decode cX11_summed 13 = .ok (.iload_n 3, 1) := by decide +kernel
theorem dX11_summed_14 : decode cX11_summed 14 = .ok (.i2l, 1) := by decide +kernel
theorem dX11_summed_15 : decode cX11_summed 15 = .ok (.ladd, 1) := by decide +kernel
theorem dX11_summed_16 : decode cX11_summed 16 = .ok (.lstore 5, 2) := by decide +kernel
theorem dX11_summed_18 : decode cX11_summed 18 = .ok (.iload_n 1, 1) := by decide +kernel
theorem dX11_summed_19 : decode cX11_summed 19 = .ok (.i2l, 1) := by decide +kernel
theorem dX11_summed_20 : decode cX11_summed 20 = .ok (.iload_n 2, 1) := by decide +kernel
theorem dX11_summed_21 : decode cX11_summed 21 = .ok (.i2l, 1) := by decide +kernel
theorem dX11_summed_22 : decode cX11_summed 22 = .ok (.ladd, 1) := by decide +kernel
theorem dX11_summed_23 : decode cX11_summed 23 = .ok (.iload_n 3, 1) := by decide +kernel
theorem dX11_summed_24 : decode cX11_summed 24 = .ok (.i2l, 1) := by decide +kernel
theorem dX11_summed_25 : decode cX11_summed 25 = .ok (.ladd, 1) := by decide +kernel
theorem dX11_summed_26 : decode cX11_summed 26 = .ok (.lstore 7, 2) := by decide +kernel
theorem dX11_summed_28 : decode cX11_summed 28 = .ok (.lload 5, 2) := by decide +kernel
theorem dX11_summed_30 : decode cX11_summed 30 = .ok (.l2i, 1) := by decide +kernel
theorem dX11_summed_31 : decode cX11_summed 31 = .ok (.istore 9, 2) := by decide +kernel
theorem dX11_summed_33 : decode cX11_summed 33 = .ok (.iload 4, 2) := by decide +kernel
theorem dX11_summed_35 : decode cX11_summed 35 = .ok (.ifCond .eq 44, 3) := by decide +kernel
theorem dX11_summed_38 : decode cX11_summed 38 = .ok (.aload_n 0, 1) := by decide +kernel
theorem dX11_summed_39 : decode cX11_summed 39 = .ok (.bipush 29, 2) := by decide +kernel
theorem dX11_summed_41 : decode cX11_summed 41 = .ok (.lload 5, 2) := by decide +kernel
theorem dX11_summed_43 : decode cX11_summed 43 = .ok (.bipush 32, 2) := by decide +kernel
theorem dX11_summed_45 : decode cX11_summed 45 = .ok (.lshr, 1) := by decide +kernel
theorem dX11_summed_46 : decode cX11_summed 46 = .ok (.lconst 1, 1) := by decide +kernel
theorem dX11_summed_47 : decode cX11_summed 47 = .ok (.lcmp, 1) := by decide +kernel
theorem dX11_summed_48 : decode cX11_summed 48 = .ok (.ifCond .ne 7, 3) := by decide +kernel
theorem dX11_summed_51 : decode cX11_summed 51 = .ok (.iconst 1, 1) := by decide +kernel
theorem dX11_summed_52 : decode cX11_summed 52 = .ok (.goto 4, 3) := by decide +kernel
theorem dX11_summed_55 : decode cX11_summed 55 = .ok (.iconst 0, 1) := by decide +kernel
theorem dX11_summed_56 : decode cX11_summed 56 = .ok (.invokevirtual 231, 3) := by decide +kernel
theorem dX11_summed_59 : decode cX11_summed 59 = .ok (.aload_n 0, 1) := by decide +kernel
theorem dX11_summed_60 : decode cX11_summed 60 = .ok (.bipush 28, 2) := by decide +kernel
theorem dX11_summed_62 : decode cX11_summed 62 = .ok (.lload 7, 2) := by decide +kernel
theorem dX11_summed_64 : decode cX11_summed 64 = .ok (.iload 9, 2) := by decide +kernel
theorem dX11_summed_66 : decode cX11_summed 66 = .ok (.i2l, 1) := by decide +kernel
theorem dX11_summed_67 : decode cX11_summed 67 = .ok (.lcmp, 1) := by decide +kernel
theorem dX11_summed_68 : decode cX11_summed 68 = .ok (.ifCond .eq 7, 3) := by decide +kernel
theorem dX11_summed_71 : decode cX11_summed 71 = .ok (.iconst 1, 1) := by decide +kernel
theorem dX11_summed_72 : decode cX11_summed 72 = .ok (.goto 4, 3) := by decide +kernel
theorem dX11_summed_75 : decode cX11_summed 75 = .ok (.iconst 0, 1) := by decide +kernel
theorem dX11_summed_76 : decode cX11_summed 76 = .ok (.invokevirtual 231, 3) := by decide +kernel
theorem dX11_summed_79 : decode cX11_summed 79 = .ok (.iload 9, 2) := by decide +kernel
theorem dX11_summed_81 : decode cX11_summed 81 = .ok (.ireturn, 1) := by decide +kernel
theorem dX11_transfer_0 : decode cX11_transfer 0 = .ok (.iload_n 1, 1) := by decide +kernel
theorem dX11_transfer_1 : decode cX11_transfer 1 = .ok (.bipush 25, 2) := by decide +kernel
theorem dX11_transfer_3 : decode cX11_transfer 3 = .ok (.ishr, 1) := by decide +kernel
theorem dX11_transfer_4 : decode cX11_transfer 4 = .ok (.iconst 1, 1) := by decide +kernel
theorem dX11_transfer_5 : decode cX11_transfer 5 = .ok (.iand, 1) := by decide +kernel
theorem dX11_transfer_6 : decode cX11_transfer 6 = .ok (.iconst 1, 1) := by decide +kernel
theorem dX11_transfer_7 : decode cX11_transfer 7 = .ok (.if_icmp .ne 7, 3) := by decide +kernel
theorem dX11_transfer_10 : decode cX11_transfer 10 = .ok (.iconst 1, 1) := by decide +kernel
theorem dX11_transfer_11 : decode cX11_transfer 11 = .ok (.goto 4, 3) := by decide +kernel
theorem dX11_transfer_14 : decode cX11_transfer 14 = .ok (.iconst 0, 1) := by decide +kernel
theorem dX11_transfer_15 : decode cX11_transfer 15 = .ok (.istore_n 2, 1) := by decide +kernel
theorem dX11_transfer_16 : decode cX11_transfer 16 = .ok (.iload_n 2, 1) := by decide +kernel
theorem dX11_transfer_17 : decode cX11_transfer 17 = .ok (.ifCond .eq 17, 3) := by decide +kernel
theorem dX11_transfer_20 : decode cX11_transfer 20 = .ok (.iload_n 1, 1) := by decide +kernel
theorem dX11_transfer_21 : decode cX11_transfer 21 = .ok (.iconst 4, 1) := by decide +kernel
theorem dX11_transfer_22 : decode cX11_transfer 22 = .ok (.ishr, 1) := by decide +kernel
theorem dX11_transfer_23 : decode cX11_transfer 23 = .ok (.iconst 1, 1) := by decide +kernel
theorem dX11_transfer_24 : decode cX11_transfer 24 = .ok (.iand, 1) := by decide +kernel
theorem dX11_transfer_25 : decode cX11_transfer 25 = .ok (.iconst 1, 1) := by decide +kernel
theorem dX11_transfer_26 : decode cX11_transfer 26 = .ok (.if_icmp .ne 8, 3) := by decide +kernel
theorem dX11_transfer_29 : decode cX11_transfer 29 = .ok (.aload_n 0, 1) := by decide +kernel
theorem dX11_transfer_30 : decode cX11_transfer 30 = .ok (.invokevirtual 275, 3) := by decide +kernel
theorem dX11_transfer_33 : decode cX11_transfer 33 = .ok (.ireturn, 1) := by decide +kernel
theorem dX11_transfer_34 : decode cX11_transfer 34 = .ok (.iload_n 1, 1) := by decide +kernel
theorem dX11_transfer_35 : decode cX11_transfer 35 = .ok (.bipush 24, 2) := by decide +kernel
theorem dX11_transfer_37 : decode cX11_transfer 37 = .ok (.ishr, 1) := by decide +kernel
theorem dX11_transfer_38 : decode cX11_transfer 38 = .ok (.iconst 1, 1) := by decide +kernel
theorem dX11_transfer_39 : decode cX11_transfer 39 = .ok (.iand, 1) := by decide +kernel
theorem dX11_transfer_40 : decode cX11_transfer 40 = .ok (.iconst 1, 1) := by decide +kernel
theorem dX11_transfer_41 : decode cX11_transfer 41 = .ok (.if_icmp .ne 7, 3) := by decide +kernel
theorem dX11_transfer_44 : decode cX11_transfer 44 = .ok (.iconst 1, 1) := by decide +kernel
theorem dX11_transfer_45 : decode cX11_transfer 45 = .ok (.goto 4, 3) := by decide +kernel
theorem dX11_transfer_48 : decode cX11_transfer 48 = .ok (.iconst 0, 1) := by decide +kernel
theorem dX11_transfer_49 : decode cX11_transfer 49 = .ok (.istore_n 3, 1) := by decide +kernel
theorem dX11_transfer_50 : decode cX11_transfer 50 = .ok (.iload_n 1, 1) := by decide +kernel
theorem dX11_transfer_51 : decode cX11_transfer 51 = .ok (.bipush 21, 2) := by decide +kernel
theorem dX11_transfer_53 : decode cX11_transfer 53 = .ok (.ishr, 1) := by decide +kernel
theorem dX11_transfer_54 : decode cX11_transfer 54 = .ok (.iconst 1, 1) := by decide +kernel
theorem dX11_transfer_55 : decode cX11_transfer 55 = .ok (.iand, 1) := by decide +kernel
theorem dX11_transfer_56 : decode cX11_transfer 56 = .ok (.iconst 1, 1) := by decide +kernel
theorem dX11_transfer_57 : decode cX11_transfer 57 = .ok (.if_icmp .ne 7, 3) := by decide +kernel
theorem dX11_transfer_60 : decode cX11_transfer 60 = .ok (.iconst 1, 1) := by decide +kernel
theorem dX11_transfer_61 : decode cX11_transfer 61 = .ok (.goto 4, 3) := by decide +kernel
theorem dX11_transfer_64 : decode cX11_transfer 64 = .ok (.iconst 0, 1) := by decide +kernel
theorem dX11_transfer_65 : decode cX11_transfer 65 = .ok (.istore 4, 2) := by decide +kernel
theorem dX11_transfer_67 : decode cX11_transfer 67 = .ok (.iload_n 1, 1) := by decide +kernel
theorem dX11_transfer_68 : decode cX11_transfer 68 = .ok (.bipush 22, 2) := by decide +kernel
theorem dX11_transfer_70 : decode cX11_transfer 70 = .ok (.ishr, 1) := by decide +kernel
theorem dX11_transfer_71 : decode cX11_transfer 71 = .ok (.iconst 1, 1) := by decide +kernel
theorem dX11_transfer_72 : decode cX11_transfer 72 = .ok (.iand, 1) := by decide +kernel
theorem dX11_transfer_73 : decode cX11_transfer 73 = .ok (.iconst 1, 1) := by decide +kernel
theorem dX11_transfer_74 : decode cX11_transfer 74 = .ok (.if_icmp .ne 7, 3) := by decide +kernel
theorem dX11_transfer_77 : decode cX11_transfer 77 = .ok (.iconst 1, 1) := by decide +kernel
theorem dX11_transfer_78 : decode cX11_transfer 78 = .ok (.goto 4, 3) := by decide +kernel
theorem dX11_transfer_81 : decode cX11_transfer 81 = .ok (.iconst 0, 1) := by decide +kernel
theorem dX11_transfer_82 : decode cX11_transfer 82 = .ok (.istore 5, 2) := by decide +kernel
theorem dX11_transfer_84 : decode cX11_transfer 84 = .ok (.iload_n 1, 1) := by decide +kernel
theorem dX11_transfer_85 : decode cX11_transfer 85 = .ok (.bipush 20, 2) := by decide +kernel
theorem dX11_transfer_87 : decode cX11_transfer 87 = .ok (.ishr, 1) := by decide +kernel
theorem dX11_transfer_88 : decode cX11_transfer 88 = .ok (.iconst 1, 1) := by decide +kernel
theorem dX11_transfer_89 : decode cX11_transfer 89 = .ok (.iand, 1) := by decide +kernel
theorem dX11_transfer_90 : decode cX11_transfer 90 = .ok (.iconst 1, 1) := by decide +kernel
theorem dX11_transfer_91 : decode cX11_transfer 91 = .ok (.if_icmp .ne 7, 3) := by decide +kernel
theorem dX11_transfer_94 : decode cX11_transfer 94 = .ok (.iconst 1, 1) := by decide +kernel
theorem dX11_transfer_95 : decode cX11_transfer 95 = .ok (.goto 4, 3) := by decide +kernel
theorem dX11_transfer_98 : decode cX11_transfer 98 = .ok (.iconst 0, 1) := by decide +kernel
theorem dX11_transfer_99 : decode cX11_transfer 99 = .ok (.istore 6, 2) := by decide +kernel
theorem dX11_transfer_101 : decode cX11_transfer 101 = .ok (.iload_n 1, 1) := by decide +kernel
theorem dX11_transfer_102 : decode cX11_transfer 102 = .ok (.bipush 16, 2) := by decide +kernel
theorem dX11_transfer_104 : decode cX11_transfer 104 = .ok (.ishr, 1) := by decide +kernel
theorem dX11_transfer_105 : decode cX11_transfer 105 = .ok (.bipush 15, 2) := by decide +kernel
theorem dX11_transfer_107 : decode cX11_transfer 107 = .ok (.iand, 1) := by decide +kernel
theorem dX11_transfer_108 : decode cX11_transfer 108 = .ok (.istore 7, 2) := by decide +kernel
theorem dX11_transfer_110 : decode cX11_transfer 110 = .ok (.iload_n 1, 1) := by decide +kernel
theorem dX11_transfer_111 : decode cX11_transfer 111 = .ok (.bipush 12, 2) := by decide +kernel
theorem dX11_transfer_113 : decode cX11_transfer 113 = .ok (.ishr, 1) := by decide +kernel
theorem dX11_transfer_114 : decode cX11_transfer 114 = .ok (.bipush 15, 2) := by decide +kernel
theorem dX11_transfer_116 : decode cX11_transfer 116 = .ok (.iand, 1) := by decide +kernel
theorem dX11_transfer_117 : decode cX11_transfer 117 = .ok (.istore 8, 2) := by decide +kernel
theorem dX11_transfer_119 : decode cX11_transfer 119 = .ok (.aload_n 0, 1) := by decide +kernel
theorem dX11_transfer_120 : decode cX11_transfer 120 = .ok (.iload 7, 2) := by decide +kernel
theorem dX11_transfer_122 : decode cX11_transfer 122 = .ok (.invokevirtual 290, 3) := by decide +kernel
theorem dX11_transfer_125 : decode cX11_transfer 125 = .ok (.istore 9, 2) := by decide +kernel
theorem dX11_transfer_127 : decode cX11_transfer 127 = .ok (.iload_n 2, 1) := by decide +kernel
theorem dX11_transfer_128 : decode cX11_transfer 128 = .ok (.ifCond .eq 19, 3) := by decide +kernel
theorem dX11_transfer_131 : decode cX11_transfer 131 = .ok (.aload_n 0, 1) := by decide +kernel
theorem dX11_transfer_132 : decode cX11_transfer 132 = .ok (.iload_n 1, 1) := by decide +kernel
theorem dX11_transfer_133 : decode cX11_transfer 133 = .ok (.aload_n 0, 1) := by decide +kernel
theorem dX11_transfer_134 : decode cX11_transfer 134 = .ok (.iload_n 1, 1) := by decide +kernel
theorem dX11_transfer_135 : decode cX11_transfer 135 = .ok (.bipush 15, 2) := by decide +kernel
theorem dX11_transfer_137 : decode cX11_transfer 137 = .ok (.iand, 1) := by decide +kernel
theorem dX11_transfer_138 : decode cX11_transfer 138 = .ok (.invokevirtual 290, 3) := by decide +kernel
theorem dX11_transfer_141 : decode cX11_transfer 141 = .ok (.invokevirtual 307, 3) := by decide +kernel
theorem dX11_transfer_144 : decode cX11_transfer 144 = .ok (.goto 8, 3) := by decide +kernel
theorem dX11_transfer_147 : decode cX11_transfer 147 = .ok (.iload_n 1, 1) := by decide +kernel
theorem dX11_transfer_148 : decode cX11_transfer 148 = .ok (.sipush 4095, 3) := by decide +kernel
theorem dX11_transfer_151 : decode cX11_transfer 151 = .ok (.iand, 1) := by decide +kernel
theorem dX11_transfer_152 : decode cX11_transfer 152 = .ok (.istore 10, 2) := by decide +kernel
theorem dX11_transfer_154 : decode cX11_transfer 154 = .ok (.iload_n 1, 1) := by decide +kernel
theorem dX11_transfer_155 : decode cX11_transfer 155 = .ok (.bipush 23, 2) := by decide +kernel
theorem dX11_transfer_157 : decode cX11_transfer 157 = .ok (.ishr, 1) := by decide +kernel
theorem dX11_transfer_158 : decode cX11_transfer 158 = .ok (.iconst 1, 1) := by decide +kernel
theorem dX11_transfer_159 : decode cX11_transfer 159 = .ok (.iand, 1) := by decide +kernel
theorem dX11_transfer_160 : decode cX11_transfer 160 = .ok (.iconst 1, 1) := by decide +kernel
theorem dX11_transfer_161 : decode cX11_transfer 161 = .ok (.if_icmp .ne 11, 3) := by decide +kernel
theorem dX11_transfer_164 : decode cX11_transfer 164 = .ok (.iload 9, 2) := by decide +kernel
theorem dX11_transfer_166 : decode cX11_transfer 166 = .ok (.iload 10, 2) := by decide +kernel
theorem dX11_transfer_168 : decode cX11_transfer 168 = .ok (.iadd, 1) := by decide +kernel
theorem dX11_transfer_169 : decode cX11_transfer 169 = .ok (.goto 8, 3) := by decide +kernel
theorem dX11_transfer_172 : decode cX11_transfer 172 = .ok (.iload 9, 2) := by decide +kernel
theorem dX11_transfer_174 : decode cX11_transfer 174 = .ok (.iload 10, 2) := by decide +kernel
theorem dX11_transfer_176 : decode cX11_transfer 176 = .ok (.isub, 1) := by decide +kernel
theorem dX11_transfer_177 : decode cX11_transfer 177 = .ok (.istore 11, 2) := by decide +kernel
theorem dX11_transfer_179 : decode cX11_transfer 179 = .ok (.iload_n 3, 1) := by decide +kernel
theorem dX11_transfer_180 : decode cX11_transfer 180 = .ok (.ifCond .eq 8, 3) := by decide +kernel
theorem dX11_transfer_183 : decode cX11_transfer 183 = .ok (.iload 11, 2) := by decide +kernel
theorem dX11_transfer_185 : decode cX11_transfer 185 = .ok (.goto 5, 3) := by decide +kernel
theorem dX11_transfer_188 : decode cX11_transfer 188 = .ok (.iload 9, 2) := by decide +kernel
theorem dX11_transfer_190 : decode cX11_transfer 190 = .ok (.istore 12, 2) := by decide +kernel
theorem dX11_transfer_192 : decode cX11_transfer 192 = .ok (.iload 12, 2) := by decide +kernel
theorem dX11_transfer_194 : decode cX11_transfer 194 = .ok (.bipush 26, 2) := by decide +kernel
theorem dX11_transfer_196 : decode cX11_transfer 196 = .ok (.iushr, 1) := by decide +kernel
theorem dX11_transfer_197 : decode cX11_transfer 197 = .ok (.ifCond .eq 14, 3) := by decide +kernel
theorem dX11_transfer_200 : decode cX11_transfer 200 = .ok (.aload_n 0, 1) := by decide +kernel
theorem dX11_transfer_201 : decode cX11_transfer 201 = .ok (.iconst 4, 1) := by decide +kernel
theorem dX11_transfer_202 : decode cX11_transfer 202 = .ok (.iconst 3, 1) := by decide +kernel
theorem dX11_transfer_203 : decode cX11_transfer 203 = .ok (.bipush 20, 2) := by decide +kernel
theorem dX11_transfer_205 : decode cX11_transfer 205 = .ok (.bipush 8, 2) := by decide +kernel
theorem dX11_transfer_207 : decode cX11_transfer 207 = .ok (.invokevirtual 238, 3) := by decide +kernel
theorem dX11_transfer_210 : decode cX11_transfer 210 = .ok (.ireturn, 1) := by decide +kernel
theorem dX11_transfer_211 : decode cX11_transfer 211 = .ok (.aload_n 0, 1) := by decide +kernel
theorem dX11_transfer_212 : decode cX11_transfer 212 = .ok (.iload_n 3, 1) := by decide +kernel
theorem dX11_transfer_213 : decode cX11_transfer 213 = .ok (.ifCond .ne 12, 3) := by decide +kernel
theorem dX11_transfer_216 : decode cX11_transfer 216 = .ok (.iload 4, 2) := by decide +kernel
theorem dX11_transfer_218 : decode cX11_transfer 218 = .ok (.ifCond .eq 7, 3) := by decide +kernel
theorem dX11_transfer_221 : decode cX11_transfer 221 = .ok (.iconst 0, 1) := by decide +kernel
theorem dX11_transfer_222 : decode cX11_transfer 222 = .ok (.goto 7, 3) := by decide +kernel
theorem dX11_transfer_225 : decode cX11_transfer 225 = .ok (.aload_n 0, 1) := by decide +kernel
theorem dX11_transfer_226 : decode cX11_transfer 226 = .ok (.invokevirtual 148, 3) := by decide +kernel
theorem dX11_transfer_229 : decode cX11_transfer 229 = .ok (.iload 12, 2) := by decide +kernel
theorem dX11_transfer_231 : decode cX11_transfer 231 = .ok (.iload 6, 2) := by decide +kernel
theorem dX11_transfer_233 : decode cX11_transfer 233 = .ok (.ifCond .ne 7, 3) := by decide +kernel
theorem dX11_transfer_236 : decode cX11_transfer 236 = .ok (.iconst 1, 1) := by decide +kernel
theorem dX11_transfer_237 : decode cX11_transfer 237 = .ok (.goto 4, 3) := by decide +kernel
theorem dX11_transfer_240 : decode cX11_transfer 240 = .ok (.iconst 0, 1) := by decide +kernel
theorem dX11_transfer_241 : decode cX11_transfer 241 = .ok (.invokevirtual 253, 3) := by decide +kernel
theorem dX11_transfer_244 : decode cX11_transfer 244 = .ok (.ifCond .ne 14, 3) := by decide +kernel
theorem dX11_transfer_247 : decode cX11_transfer 247 = .ok (.aload_n 0, 1) := by decide +kernel
theorem dX11_transfer_248 : decode cX11_transfer 248 = .ok (.iconst 3, 1) := by decide +kernel
theorem dX11_transfer_249 : decode cX11_transfer 249 = .ok (.iconst 3, 1) := by decide +kernel
theorem dX11_transfer_250 : decode cX11_transfer 250 = .ok (.bipush 16, 2) := by decide +kernel
theorem dX11_transfer_252 : decode cX11_transfer 252 = .ok (.bipush 8, 2) := by decide +kernel
theorem dX11_transfer_254 : decode cX11_transfer 254 = .ok (.invokevirtual 238, 3) := by decide +kernel
theorem dX11_transfer_257 : decode cX11_transfer 257 = .ok (.ireturn, 1) := by decide +kernel
theorem dX11_transfer_258 : decode cX11_transfer 258 = .ok (.aload_n 0, 1) := by decide +kernel
theorem dX11_transfer_259 : decode cX11_transfer 259 = .ok (.iload 12, 2) := by decide +kernel
theorem dX11_transfer_261 : decode cX11_transfer 261 = .ok (.invokevirtual 257, 3) := by decide +kernel
theorem dX11_transfer_264 : decode cX11_transfer 264 = .ok (.istore 13, 2) := by decide +kernel
theorem dX11_transfer_266 : decode cX11_transfer 266 = .ok (.bipush 8, 2) := by decide +kernel
theorem dX11_transfer_268 : decode cX11_transfer 268 = .ok (.iload 12, 2) := by decide +kernel
theorem dX11_transfer_270 : decode cX11_transfer 270 = .ok (.iconst 3, 1) := by decide +kernel
theorem dX11_transfer_271 : decode cX11_transfer 271 = .ok (.iand, 1) := by decide +kernel
theorem dX11_transfer_272 : decode cX11_transfer 272 = .ok (.imul, 1) := by decide +kernel
theorem dX11_transfer_273 : decode cX11_transfer 273 = .ok (.istore 14, 2) := by decide +kernel
theorem dX11_transfer_275 : decode cX11_transfer 275 = .ok (.iload 7, 2) := by decide +kernel
theorem dX11_transfer_277 : decode cX11_transfer 277 = .ok (.bipush 15, 2) := by decide +kernel
theorem dX11_transfer_279 : decode cX11_transfer 279 = .ok (.if_icmp .ge 16, 3) := by decide +kernel
theorem dX11_transfer_282 : decode cX11_transfer 282 = .ok (.iload_n 3, 1) := by decide +kernel
theorem dX11_transfer_283 : decode cX11_transfer 283 = .ok (.ifCond .eq 8, 3) := by decide +kernel
theorem dX11_transfer_286 : decode cX11_transfer 286 = .ok (.iload 4, 2) := by decide +kernel
theorem dX11_transfer_288 : decode cX11_transfer 288 = .ok (.ifCond .eq 7, 3) := by decide +kernel
theorem dX11_transfer_291 : decode cX11_transfer 291 = .ok (.iconst 1, 1) := by decide +kernel
theorem dX11_transfer_292 : decode cX11_transfer 292 = .ok (.goto 4, 3) := by decide +kernel
theorem dX11_transfer_295 : decode cX11_transfer 295 = .ok (.iconst 0, 1) := by decide +kernel
theorem dX11_transfer_296 : decode cX11_transfer 296 = .ok (.istore 15, 2) := by decide +kernel
theorem dX11_transfer_298 : decode cX11_transfer 298 = .ok (.iload 6, 2) := by decide +kernel
theorem dX11_transfer_300 : decode cX11_transfer 300 = .ok (.ifCond .eq 115, 3) := by decide +kernel
theorem dX11_transfer_303 : decode cX11_transfer 303 = .ok (.iload 13, 2) := by decide +kernel
theorem dX11_transfer_305 : decode cX11_transfer 305 = .ok (.iconst (-1), 1) := by decide +kernel
theorem dX11_transfer_306 : decode cX11_transfer 306 = .ok (.if_icmp .ne 12, 3) := by decide +kernel
theorem dX11_transfer_309 : decode cX11_transfer 309 = .ok (.aload_n 0, 1) := by decide +kernel
theorem dX11_transfer_310 : decode cX11_transfer 310 = .ok (.iload 12, 2) := by decide +kernel
theorem dX11_transfer_312 : decode cX11_transfer 312 = .ok (.invokevirtual 322, 3) := by decide +kernel
theorem dX11_transfer_315 : decode cX11_transfer 315 = .ok (.goto 10, 3) := by decide +kernel
theorem dX11_transfer_318 : decode cX11_transfer 318 = .ok (.aload_n 0, 1) := by decide +kernel
theorem dX11_transfer_319 : decode cX11_transfer 319 = .ok (.getfield 25, 3) := by decide +kernel
theorem dX11_transfer_322 : decode cX11_transfer 322 = .ok (.iload 13, 2) := by decide +kernel
theorem dX11_transfer_324 : decode cX11_transfer 324 = .ok (.iaload, 1) := by decide +kernel
theorem dX11_transfer_325 : decode cX11_transfer 325 = .ok (.istore 16, 2) := by decide +kernel
theorem dX11_transfer_327 : decode cX11_transfer 327 = .ok (.iload 5, 2) := by decide +kernel
theorem dX11_transfer_329 : decode cX11_transfer 329 = .ok (.ifCond .eq 15, 3) := by decide +kernel
theorem dX11_transfer_332 : decode cX11_transfer 332 = .ok (.iload 16, 2) := by decide +kernel
theorem dX11_transfer_334 : decode cX11_transfer 334 = .ok (.iload 14, 2) := by decide +kernel
theorem dX11_transfer_336 : decode cX11_transfer 336 = .ok (.iushr, 1) := by decide +kernel
theorem dX11_transfer_337 : decode cX11_transfer 337 = .ok (.sipush 255, 3) := by decide +kernel
theorem dX11_transfer_340 : decode cX11_transfer 340 = .ok (.iand, 1) := by decide +kernel
theorem dX11_transfer_341 : decode cX11_transfer 341 = .ok (.goto 10, 3) := by decide +kernel
theorem dX11_transfer_344 : decode cX11_transfer 344 = .ok (.iload 16, 2) := by decide +kernel
theorem dX11_transfer_346 : decode cX11_transfer 346 = .ok (.iload 14, 2) := by decide +kernel
theorem dX11_transfer_348 : decode cX11_transfer 348 = .ok (.invokestatic 299, 3) := by decide +kernel
theorem dX11_transfer_351 : decode cX11_transfer 351 = .ok (.istore 16, 2) := by decide +kernel
theorem dX11_transfer_353 : decode cX11_transfer 353 = .ok (.iload 15, 2) := by decide +kernel
theorem dX11_transfer_355 : decode cX11_transfer 355 = .ok (.ifCond .eq 15, 3) := by decide +kernel
theorem dX11_transfer_358 : decode cX11_transfer 358 = .ok (.aload_n 0, 1) := by decide +kernel
theorem dX11_transfer_359 : decode cX11_transfer 359 = .ok (.aload_n 0, 1) := by decide +kernel
theorem dX11_transfer_360 : decode cX11_transfer 360 = .ok (.invokevirtual 148, 3) := by decide +kernel
theorem dX11_transfer_363 : decode cX11_transfer 363 = .ok (.iload 7, 2) := by decide +kernel
theorem dX11_transfer_365 : decode cX11_transfer 365 = .ok (.iload 11, 2) := by decide +kernel
theorem dX11_transfer_367 : decode cX11_transfer 367 = .ok (.invokevirtual 235, 3) := by decide +kernel
theorem dX11_transfer_370 : decode cX11_transfer 370 = .ok (.iload 8, 2) := by decide +kernel
theorem dX11_transfer_372 : decode cX11_transfer 372 = .ok (.bipush 15, 2) := by decide +kernel
theorem dX11_transfer_374 : decode cX11_transfer 374 = .ok (.if_icmp .ge 18, 3) := by decide +kernel
theorem dX11_transfer_377 : decode cX11_transfer 377 = .ok (.aload_n 0, 1) := by decide +kernel
theorem dX11_transfer_378 : decode cX11_transfer 378 = .ok (.aload_n 0, 1) := by decide +kernel
theorem dX11_transfer_379 : decode cX11_transfer 379 = .ok (.invokevirtual 148, 3) := by decide +kernel
theorem dX11_transfer_382 : decode cX11_transfer 382 = .ok (.iload 8, 2) := by decide +kernel
theorem dX11_transfer_384 : decode cX11_transfer 384 = .ok (.iload 16, 2) := by decide +kernel
theorem dX11_transfer_386 : decode cX11_transfer 386 = .ok (.invokevirtual 235, 3) := by decide +kernel
theorem dX11_transfer_389 : decode cX11_transfer 389 = .ok (.goto 12, 3) := by decide +kernel
theorem dX11_transfer_392 : decode cX11_transfer 392 = .ok (.aload_n 0, 1) := by decide +kernel
theorem dX11_transfer_393 : decode cX11_transfer 393 = .ok (.iload 16, 2) := by decide +kernel
theorem dX11_transfer_395 : decode cX11_transfer 395 = .ok (.ldc 143, 2) := by decide +kernel
theorem dX11_transfer_397 : decode cX11_transfer 397 = .ok (.iand, 1) := by decide +kernel
theorem dX11_transfer_398 : decode cX11_transfer 398 = .ok (.putfield 260, 3) := by decide +kernel
theorem dX11_transfer_401 : decode cX11_transfer 401 = .ok (.iload 8, 2) := by decide +kernel
theorem dX11_transfer_403 : decode cX11_transfer 403 = .ok (.bipush 15, 2) := by decide +kernel
theorem dX11_transfer_405 : decode cX11_transfer 405 = .ok (.if_icmp .ge 7, 3) := by decide +kernel
theorem dX11_transfer_408 : decode cX11_transfer 408 = .ok (.iconst 4, 1) := by decide +kernel
theorem dX11_transfer_409 : decode cX11_transfer 409 = .ok (.goto 5, 3) := by decide +kernel
theorem dX11_transfer_412 : decode cX11_transfer 412 = .ok (.bipush 7, 2) := by decide +kernel
theorem dX11_transfer_414 : decode cX11_transfer 414 = .ok (.ireturn, 1) := by decide +kernel
theorem dX11_transfer_415 : decode cX11_transfer 415 = .ok (.iload 8, 2) := by decide +kernel
theorem dX11_transfer_417 : decode cX11_transfer 417 = .ok (.bipush 15, 2) := by decide +kernel
theorem dX11_transfer_419 : decode cX11_transfer 419 = .ok (.if_icmp .ne 20, 3) := by decide +kernel
theorem dX11_transfer_422 : decode cX11_transfer 422 = .ok (.aload_n 0, 1) := by decide +kernel
theorem dX11_transfer_423 : decode cX11_transfer 423 = .ok (.getfield 77, 3) := by decide +kernel
theorem dX11_transfer_426 : decode cX11_transfer 426 = .ok (.ldc 157, 2) := by decide +kernel
theorem dX11_transfer_428 : decode cX11_transfer 428 = .ok (.iand, 1) := by decide +kernel
theorem dX11_transfer_429 : decode cX11_transfer 429 = .ok (.aload_n 0, 1) := by decide +kernel
theorem dX11_transfer_430 : decode cX11_transfer 430 = .ok (.bipush 12, 2) := by decide +kernel
theorem dX11_transfer_432 : decode cX11_transfer 432 = .ok (.invokevirtual 144, 3) := by decide +kernel
theorem dX11_transfer_435 : decode cX11_transfer 435 = .ok (.ior, 1) := by decide +kernel
theorem dX11_transfer_436 : decode cX11_transfer 436 = .ok (.goto 13, 3) := by decide +kernel
theorem dX11_transfer_439 : decode cX11_transfer 439 = .ok (.aload_n 0, 1) := by decide +kernel
theorem dX11_transfer_440 : decode cX11_transfer 440 = .ok (.aload_n 0, 1) := by decide +kernel
theorem dX11_transfer_441 : decode cX11_transfer 441 = .ok (.invokevirtual 148, 3) := by decide +kernel
theorem dX11_transfer_444 : decode cX11_transfer 444 = .ok (.iload 8, 2) := by decide +kernel
theorem dX11_transfer_446 : decode cX11_transfer 446 = .ok (.invokevirtual 152, 3) := by decide +kernel
theorem dX11_transfer_449 : decode cX11_transfer 449 = .ok (.istore 16, 2) := by decide +kernel
theorem dX11_transfer_451 : decode cX11_transfer 451 = .ok (.iload 13, 2) := by decide +kernel
theorem dX11_transfer_453 : decode cX11_transfer 453 = .ok (.iconst (-1), 1) := by decide +kernel
theorem dX11_transfer_454 : decode cX11_transfer 454 = .ok (.if_icmp .ne 32, 3) := by decide +kernel
theorem dX11_transfer_457 : decode cX11_transfer 457 = .ok (.aload_n 0, 1) := by decide +kernel
theorem dX11_transfer_458 : decode cX11_transfer 458 = .ok (.iload 12, 2) := by decide +kernel
theorem dX11_transfer_460 : decode cX11_transfer 460 = .ok (.iload 5, 2) := by decide +kernel
theorem dX11_transfer_462 : decode cX11_transfer 462 = .ok (.ifCond .eq 16, 3) := by decide +kernel
theorem dX11_transfer_465 : decode cX11_transfer 465 = .ok (.iload 16, 2) := by decide +kernel
theorem dX11_transfer_467 : decode cX11_transfer 467 = .ok (.sipush 255, 3) := by decide +kernel
theorem dX11_transfer_470 : decode cX11_transfer 470 = .ok (.iand, 1) := by decide +kernel
theorem dX11_transfer_471 : decode cX11_transfer 471 = .ok (.ldc_w 325, 3) := by decide +kernel
theorem dX11_transfer_474 : decode cX11_transfer 474 = .ok (.imul, 1) := by decide +kernel
theorem dX11_transfer_475 : decode cX11_transfer 475 = .ok (.goto 5, 3) := by decide +kernel
theorem dX11_transfer_478 : decode cX11_transfer 478 = .ok (.iload 16, 2) := by decide +kernel
theorem dX11_transfer_480 : decode cX11_transfer 480 = .ok (.invokevirtual 326, 3) := by decide +kernel
theorem dX11_transfer_483 : decode cX11_transfer 483 = .ok (.goto 46, 3) := by decide +kernel
theorem dX11_transfer_486 : decode cX11_transfer 486 = .ok (.aload_n 0, 1) := by decide +kernel
theorem dX11_transfer_487 : decode cX11_transfer 487 = .ok (.getfield 25, 3) := by decide +kernel
theorem dX11_transfer_490 : decode cX11_transfer 490 = .ok (.iload 13, 2) := by decide +kernel
theorem dX11_transfer_492 : decode cX11_transfer 492 = .ok (.iload 5, 2) := by decide +kernel
theorem dX11_transfer_494 : decode cX11_transfer 494 = .ok (.ifCond .eq 32, 3) := by decide +kernel
theorem dX11_transfer_497 : decode cX11_transfer 497 = .ok (.aload_n 0, 1) := by decide +kernel
theorem dX11_transfer_498 : decode cX11_transfer 498 = .ok (.getfield 25, 3) := by decide +kernel
theorem dX11_transfer_501 : decode cX11_transfer 501 = .ok (.iload 13, 2) := by decide +kernel
theorem dX11_transfer_503 : decode cX11_transfer 503 = .ok (.iaload, 1) := by decide +kernel
theorem dX11_transfer_504 : decode cX11_transfer 504 = .ok (.sipush 255, 3) := by decide +kernel
theorem dX11_transfer_507 : decode cX11_transfer 507 = .ok (.iload 14, 2) := by decide +kernel
theorem dX11_transfer_509 : decode cX11_transfer 509 = .ok (.ishl, 1) := by decide +kernel
theorem dX11_transfer_510 : decode cX11_transfer 510 = .ok (.iconst (-1), 1) := by decide +kernel
theorem dX11_transfer_511 : decode cX11_transfer 511 = .ok (.ixor, 1) := by decide +kernel
theorem dX11_transfer_512 : decode cX11_transfer 512 = .ok (.iand, 1) := by decide +kernel
theorem dX11_transfer_513 : decode cX11_transfer 513 = .ok (.iload 16, 2) := by decide +kernel
theorem dX11_transfer_515 : decode cX11_transfer 515 = .ok (.sipush 255, 3) := by decide +kernel
theorem dX11_transfer_518 : decode cX11_transfer 518 = .ok (.iand, 1) := by decide +kernel
theorem dX11_transfer_519 : decode cX11_transfer 519 = .ok (.iload 14, 2) := by decide +kernel
theorem dX11_transfer_521 : decode cX11_transfer 521 = .ok (.ishl, 1) := by decide +kernel
theorem dX11_transfer_522 : decode cX11_transfer 522 = .ok (.ior, 1) := by decide +kernel
theorem dX11_transfer_523 : decode cX11_transfer 523 = .ok (.goto 5, 3) := by decide +kernel
theorem dX11_transfer_526 : decode cX11_transfer 526 = .ok (.iload 16, 2) := by decide +kernel
theorem dX11_transfer_528 : decode cX11_transfer 528 = .ok (.iastore, 1) := by decide +kernel
theorem dX11_transfer_529 : decode cX11_transfer 529 = .ok (.iload 15, 2) := by decide +kernel
theorem dX11_transfer_531 : decode cX11_transfer 531 = .ok (.ifCond .eq 15, 3) := by decide +kernel
theorem dX11_transfer_534 : decode cX11_transfer 534 = .ok (.aload_n 0, 1) := by decide +kernel
theorem dX11_transfer_535 : decode cX11_transfer 535 = .ok (.aload_n 0, 1) := by decide +kernel
theorem dX11_transfer_536 : decode cX11_transfer 536 = .ok (.invokevirtual 148, 3) := by decide +kernel
theorem dX11_transfer_539 : decode cX11_transfer 539 = .ok (.iload 7, 2) := by decide +kernel
theorem dX11_transfer_541 : decode cX11_transfer 541 = .ok (.iload 11, 2) := by decide +kernel
theorem dX11_transfer_543 : decode cX11_transfer 543 = .ok (.invokevirtual 235, 3) := by decide +kernel
theorem dX11_transfer_546 : decode cX11_transfer 546 = .ok (.iconst 4, 1) := by decide +kernel
theorem dX11_transfer_547 : decode cX11_transfer 547 = .ok (.ireturn, 1) := by decide +kernel
theorem dX11_many_0 : decode cX11_many 0 = .ok (.iconst 0, 1) := by decide +kernel
theorem dX11_many_1 : decode cX11_many 1 = .ok (.istore_n 2, 1) := by decide +kernel
theorem dX11_many_2 : decode cX11_many 2 = .ok (.iconst (-1), 1) := by decide +kernel
theorem dX11_many_3 : decode cX11_many 3 = .ok (.istore_n 3, 1) := by decide +kernel
theorem dX11_many_4 : decode cX11_many 4 = .ok (.bipush 15, 2) := by decide +kernel
theorem dX11_many_6 : decode cX11_many 6 = .ok (.istore 4, 2) := by decide +kernel
theorem dX11_many_8 : decode cX11_many 8 = .ok (.iload 4, 2) := by decide +kernel
theorem dX11_many_10 : decode cX11_many 10 = .ok (.ifCond .lt 27, 3) := by decide +kernel
theorem dX11_many_13 : decode cX11_many 13 = .ok (.iload_n 1, 1) := by decide +kernel
theorem dX11_many_14 : decode cX11_many 14 = .ok (.iload 4, 2) := by decide +kernel
theorem dX11_many_16 : decode cX11_many 16 = .ok (.ishr, 1) := by decide +kernel
theorem dX11_many_17 : decode cX11_many 17 = .ok (.iconst 1, 1) := by decide +kernel
theorem dX11_many_18 : decode cX11_many 18 = .ok (.iand, 1) := by decide +kernel
theorem dX11_many_19 : decode cX11_many 19 = .ok (.ifCond .ne 6, 3) := by decide +kernel
theorem dX11_many_22 : decode cX11_many 22 = .ok (.goto 9, 3) := by decide +kernel
theorem dX11_many_25 : decode cX11_many 25 = .ok (.iinc 2 1, 3) := by decide +kernel
theorem dX11_many_28 : decode cX11_many 28 = .ok (.iload 4, 2) := by decide +kernel
theorem dX11_many_30 : decode cX11_many 30 = .ok (.istore_n 3, 1) := by decide +kernel
theorem dX11_many_31 : decode cX11_many 31 = .ok (.iinc 4 (-1), 3) := by decide +kernel
theorem dX11_many_34 : decode cX11_many 34 = .ok (.goto (-26), 3) := by decide +kernel
theorem dX11_many_37 : decode cX11_many 37 = .ok (.iload_n 2, 1) := by decide +kernel
theorem dX11_many_38 : decode cX11_many 38 = .ok (.ifCond .ne 5, 3) := by decide +kernel
theorem dX11_many_41 : decode cX11_many 41 = .ok (.iconst 1, 1) := by decide +kernel
theorem dX11_many_42 : decode cX11_many 42 = .ok (.ireturn, 1) := by decide +kernel
theorem dX11_many_43 : decode cX11_many 43 = .ok (.iload_n 1, 1) := by decide +kernel
theorem dX11_many_44 : decode cX11_many 44 = .ok (.bipush 24, 2) := by decide +kernel
theorem dX11_many_46 : decode cX11_many 46 = .ok (.ishr, 1) := by decide +kernel
theorem dX11_many_47 : decode cX11_many 47 = .ok (.iconst 1, 1) := by decide +kernel
theorem dX11_many_48 : decode cX11_many 48 = .ok (.iand, 1) := by decide +kernel
theorem dX11_many_49 : decode cX11_many 49 = .ok (.iconst 1, 1) := by decide +kernel
theorem dX11_many_50 : decode cX11_many 50 = .ok (.if_icmp .ne 7, 3) := by decide +kernel
theorem dX11_many_53 : decode cX11_many 53 = .ok (.iconst 1, 1) := by decide +kernel
theorem dX11_many_54 : decode cX11_many 54 = .ok (.goto 4, 3) := by decide +kernel
theorem dX11_many_57 : decode cX11_many 57 = .ok (.iconst 0, 1) := by decide +kernel
theorem dX11_many_58 : decode cX11_many 58 = .ok (.istore 4, 2) := by decide +kernel
theorem dX11_many_60 : decode cX11_many 60 = .ok (.iload_n 1, 1) := by decide +kernel
theorem dX11_many_61 : decode cX11_many 61 = .ok (.bipush 23, 2) := by decide +kernel
theorem dX11_many_63 : decode cX11_many 63 = .ok (.ishr, 1) := by decide +kernel
theorem dX11_many_64 : decode cX11_many 64 = .ok (.iconst 1, 1) := by decide +kernel
theorem dX11_many_65 : decode cX11_many 65 = .ok (.iand, 1) := by decide +kernel
theorem dX11_many_66 : decode cX11_many 66 = .ok (.iconst 1, 1) := by decide +kernel
theorem dX11_many_67 : decode cX11_many 67 = .ok (.if_icmp .ne 7, 3) := by decide +kernel
theorem dX11_many_70 : decode cX11_many 70 = .ok (.iconst 1, 1) := by decide +kernel
theorem dX11_many_71 : decode cX11_many 71 = .ok (.goto 4, 3) := by decide +kernel
theorem dX11_many_74 : decode cX11_many 74 = .ok (.iconst 0, 1) := by decide +kernel
theorem dX11_many_75 : decode cX11_many 75 = .ok (.istore 5, 2) := by decide +kernel
theorem dX11_many_77 : decode cX11_many 77 = .ok (.iload_n 1, 1) := by decide +kernel
theorem dX11_many_78 : decode cX11_many 78 = .ok (.bipush 22, 2) := by decide +kernel
theorem dX11_many_80 : decode cX11_many 80 = .ok (.ishr, 1) := by decide +kernel
theorem dX11_many_81 : decode cX11_many 81 = .ok (.iconst 1, 1) := by decide +kernel
theorem dX11_many_82 : decode cX11_many 82 = .ok (.iand, 1) := by decide +kernel
theorem dX11_many_83 : decode cX11_many 83 = .ok (.iconst 1, 1) := by decide +kernel
theorem dX11_many_84 : decode cX11_many 84 = .ok (.if_icmp .ne 7, 3) := by decide +kernel
theorem dX11_many_87 : decode cX11_many 87 = .ok (.iconst 1, 1) := by decide +kernel
theorem dX11_many_88 : decode cX11_many 88 = .ok (.goto 4, 3) := by decide +kernel
theorem dX11_many_91 : decode cX11_many 91 = .ok (.iconst 0, 1) := by decide +kernel
theorem dX11_many_92 : decode cX11_many 92 = .ok (.istore 6, 2) := by decide +kernel
theorem dX11_many_94 : decode cX11_many 94 = .ok (.iload_n 1, 1) := by decide +kernel
theorem dX11_many_95 : decode cX11_many 95 = .ok (.bipush 21, 2) := by decide +kernel
